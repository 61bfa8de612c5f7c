/-! contracts by program (wip/whole/gen.py) -/
theorem dX1_draw_0 : decode cX1_draw 0 = .ok (.aload_n 0, 1) := by decide +kernel
theorem dX1_draw_1 : decode cX1_draw 1 = .ok (.getfield 18, 3) := by decide +kernel
theorem dX1_draw_4 : decode cX1_draw 4 = .ok (.invokevirtual 32, 3) := by decide +kernel
theorem dX1_draw_7 : decode cX1_draw 7 = .ok (.aload_n 0, 1) := by decide +kernel
theorem dX1_draw_8 : decode cX1_draw 8 = .ok (.getfield 18, 3) := by decide +kernel
theorem dX1_draw_11 : decode cX1_draw 11 = .ok (.getfield 35, 3) := by decide +kernel
theorem dX1_draw_14 : decode cX1_draw 14 = .ok (.iload_n 1, 1) := by decide +kernel
theorem dX1_draw_15 : decode cX1_draw 15 = .ok (.iconst 2, 1) := by decide +kernel
theorem dX1_draw_16 : decode cX1_draw 16 = .ok (.imul, 1) := by decide +kernel
theorem dX1_draw_17 : decode cX1_draw 17 = .ok (.sipush 229, 3) := by decide +kernel
theorem dX1_draw_20 : decode cX1_draw 20 = .ok (.iadd, 1) := by decide +kernel
theorem dX1_draw_21 : decode cX1_draw 21 = .ok (.putfield 59, 3) := by decide +kernel
theorem dX1_draw_24 : decode cX1_draw 24 = .ok (.iconst 0, 1) := by decide +kernel
theorem dX1_draw_25 : decode cX1_draw 25 = .ok (.istore_n 3, 1) := by decide +kernel
theorem dX1_draw_26 : decode cX1_draw 26 = .ok (.iload_n 3, 1) := by decide +kernel
theorem dX1_draw_27 : decode cX1_draw 27 = .ok (.iload_n 2, 1) := by decide +kernel
theorem dX1_draw_28 : decode cX1_draw 28 = .ok (.if_icmp .ge 44, 3) := by decide +kernel
theorem dX1_draw_31 : decode cX1_draw 31 = .ok (.aload_n 0, 1) := by decide +kernel
theorem dX1_draw_32 : decode cX1_draw 32 = .ok (.getfield 18, 3) := by decide +kernel
theorem dX1_draw_35 : decode cX1_draw 35 = .ok (.getfield 35, 3) := by decide +kernel
theorem dX1_draw_38 : decode cX1_draw 38 = .ok (.getfield 59, 3) := by decide +kernel
theorem dX1_draw_41 : decode cX1_draw 41 = .ok (.istore 4, 2) := by decide +kernel
theorem dX1_draw_43 : decode cX1_draw 43 = .ok (.aload_n 0, 1) := by decide +kernel
theorem dX1_draw_44 : decode cX1_draw 44 = .ok (.getfield 18, 3) := by decide +kernel
theorem dX1_draw_47 : decode cX1_draw 47 = .ok (.getfield 35, 3) := by decide +kernel
theorem dX1_draw_50 : decode cX1_draw 50 = .ok (.invokevirtual 65, 3) := by decide +kernel
theorem dX1_draw_53 : decode cX1_draw 53 = .ok (.aload_n 0, 1) := by decide +kernel
theorem dX1_draw_54 : decode cX1_draw 54 = .ok (.aload_n 0, 1) := by decide +kernel
theorem dX1_draw_55 : decode cX1_draw 55 = .ok (.getfield 18, 3) := by decide +kernel
theorem dX1_draw_58 : decode cX1_draw 58 = .ok (.getfield 35, 3) := by decide +kernel
theorem dX1_draw_61 : decode cX1_draw 61 = .ok (.iload 4, 2) := by decide +kernel
theorem dX1_draw_63 : decode cX1_draw 63 = .ok (.invokevirtual 120, 3) := by decide +kernel
theorem dX1_draw_66 : decode cX1_draw 66 = .ok (.iinc 3 1, 3) := by decide +kernel
theorem dX1_draw_69 : decode cX1_draw 69 = .ok (.goto (-43), 3) := by decide +kernel
theorem dX1_draw_72 : decode cX1_draw 72 = .ok (.return_, 1) := by decide +kernel
def B_X1_draw_26 (o0 : Nat) (i2 : Int32) (i3 : Int32) (μ : Me) (K26 : Int32 → Me → Prop) (Q : Me → Prop) : Prop := ((i2 ≤ i3 → Q μ) ∧ (¬ i2 ≤ i3 → mok μ o0 1 ∧ ∃ t13, mgr μ o0 0 = some t13 ∧ mok μ t13 9 ∧ ∃ t15, mgr μ t13 14 = some t15 ∧ mok μ t15 3 ∧ ∃ t17, mgr μ o0 0 = some t17 ∧ mok μ t17 9 ∧ ∃ t19, mgr μ t17 14 = some t19 ∧ mok μ t19 3 ∧ S_X3_stir t19 μ (fun μ21 => ∃ t24, mgr μ21 o0 0 = some t24 ∧ mok μ21 t24 9 ∧ ∃ t26, mgr μ21 t24 14 = some t26 ∧ S_X1_drawOne o0 t26 (mgi μ t15 4) μ21 (fun μ27 => K26 (i3 + 1) μ27))))
set_option maxHeartbeats 4000000 in
set_option maxRecDepth 100000 in
theorem tB_X1_draw_26 {x : GX} (f : Fx x cX1_draw RX1 5 (rmc 6 0 0)) {o0 : Nat} {i2 : Int32} {i3 : Int32} {μ : Me} {Q : Me → Prop} (hq : Rt x none (qV Q)) {K26 : Int32 → Me → Prop} (hK26 : ∀ (a3 : Int32) (ν : Me), K26 a3 ν → G x 5 26 [(0, .ref (gB x + o0)), (2, .int i2), (3, .int a3)] [] ν 0 0) (h : B_X1_draw_26 o0 i2 i3 μ K26 Q) : G x 5 26 [(0, .ref (gB x + o0)), (2, .int i2), (3, .int i3)] [] μ 0 0 := by
  unfold B_X1_draw_26 at h
  refine g_iload_n f 2 dX1_draw_26 rfl rfl ?_
  refine g_iload_n f 1 dX1_draw_27 rfl rfl ?_
  refine g_ic_ge f 72 dX1_draw_28 rfl h (fun h => ?_) (fun h => ?_)
  · exact g_vret f hq (Nat.le_of_ble_eq_true rfl) (Nat.le_of_ble_eq_true rfl) dX1_draw_72 h
  · refine g_aload_n f 0 dX1_draw_31 rfl rfl ?_
    obtain ⟨v12, h⟩ := h
    refine g_getR f fk_X1_18 v12 dX1_draw_32 rfl h (fun t13 h => ?_)
    obtain ⟨v14, h⟩ := h
    refine g_getR f fk_X1_35 v14 dX1_draw_35 rfl h (fun t15 h => ?_)
    obtain ⟨v16, h⟩ := h
    refine g_getI f fk_X1_59 v16 dX1_draw_38 rfl ?_
    refine h_istore f dX1_draw_41 (by decide) ?_
    refine g_aload_n f 1 dX1_draw_43 rfl rfl ?_
    refine g_getR f fk_X1_18 v12 dX1_draw_44 rfl h (fun t17 h => ?_)
    obtain ⟨v18, h⟩ := h
    refine g_getR f fk_X1_35 v18 dX1_draw_47 rfl h (fun t19 h => ?_)
    obtain ⟨v20, h⟩ := h
    refine g_callV f mk_X1_65 v20 (c_X3_stir h) dX1_draw_50 rfl rfl (Nat.le_of_ble_eq_true rfl) (rm_ok (by decide) (by decide)) ⟨Nat.le_of_ble_eq_true rfl, Nat.le_of_ble_eq_true rfl⟩ (kV fun μ21 x22 h => ?_)
    refine g_aload_n f 1 dX1_draw_53 rfl rfl ?_
    refine g_aload_n f 1 dX1_draw_54 rfl rfl ?_
    have v12 := mex_ok x22 v12
    refine g_getR f fk_X1_18 v12 dX1_draw_55 rfl h (fun t24 h => ?_)
    obtain ⟨v25, h⟩ := h
    refine g_getR f fk_X1_35 v25 dX1_draw_58 rfl h (fun t26 h => ?_)
    refine g_iload f 0 dX1_draw_61 rfl ?_
    refine g_callV f mk_X1_120 v12 (c_X1_drawOne h) dX1_draw_63 rfl rfl (Nat.le_of_ble_eq_true rfl) (rm_ok (by decide) (by decide)) ⟨Nat.le_of_ble_eq_true rfl, Nat.le_of_ble_eq_true rfl⟩ (kV fun μ27 x28 h => ?_)
    refine h_iinc f 3 1 dX1_draw_66 rfl kc_1 (by decide) ?_
    refine g_goto f 26 dX1_draw_69 rfl ?_
    exact h_sub [2, 3, 0] rfl (hK26 _ _ h)
def L_X1_draw_26 (o0 : Nat) (i2 : Int32) (i3 : Int32) (μ : Me) (Q : Me → Prop) : Prop := ∃ I : Int32 → Me → Nat → Prop, (∃ n, I i3 μ n) ∧ ∀ (i3 : Int32) (μ : Me) (n : Nat), I i3 μ n → B_X1_draw_26 o0 i2 i3 μ (fun a3 ν => ∃ n', n' < n ∧ I a3 ν n') Q
set_option maxHeartbeats 4000000 in
set_option maxRecDepth 100000 in
theorem tL_X1_draw_26 {x : GX} (f : Fx x cX1_draw RX1 5 (rmc 6 0 0)) {o0 : Nat} {i2 : Int32} {i3 : Int32} {μ : Me} {Q : Me → Prop} (hq : Rt x none (qV Q)) (h : L_X1_draw_26 o0 i2 i3 μ Q) : G x 5 26 [(0, .ref (gB x + o0)), (2, .int i2), (3, .int i3)] [] μ 0 0 := by
  obtain ⟨I, ⟨n, hI⟩, hs⟩ := h
  induction n using Nat.strongRecOn generalizing i3 μ with
  | ind n ih => exact tB_X1_draw_26 f hq (fun a3 ν hk => by obtain ⟨n2, hn, hI2⟩ := hk; exact ih n2 hn hI2) (hs _ _ _ hI)
def S_X1_draw (o0 : Nat) (i1 : Int32) (i2 : Int32) (μ : Me) (Q : Me → Prop) : Prop := mok μ o0 1 ∧ ∃ t2, mgr μ o0 0 = some t2 ∧ mok μ t2 9 ∧ S_X9_markStep t2 μ (fun μ4 => ∃ t7, mgr μ4 o0 0 = some t7 ∧ mok μ4 t7 9 ∧ ∃ t9, mgr μ4 t7 14 = some t9 ∧ mok μ4 t9 3 ∧ ∀ μ11, μ11 = msi μ4 t9 4 ((i1 * 2) + 229) → L_X1_draw_26 o0 i2 0 μ11 Q)
set_option maxHeartbeats 4000000 in
set_option maxRecDepth 100000 in
theorem t_X1_draw {x : GX} (f : Fx x cX1_draw RX1 5 (rmc 6 0 0)) {o0 : Nat} {i1 : Int32} {i2 : Int32} {μ : Me} {Q : Me → Prop} (hq : Rt x none (qV Q)) (h : S_X1_draw o0 i1 i2 μ Q) : G x 5 0 [(0, .ref (gB x + o0)), (1, .int i1), (2, .int i2)] [] μ 0 0 := by
  unfold S_X1_draw at h
  refine g_aload_n f 0 dX1_draw_0 rfl rfl ?_
  obtain ⟨v1, h⟩ := h
  refine g_getR f fk_X1_18 v1 dX1_draw_1 rfl h (fun t2 h => ?_)
  obtain ⟨v3, h⟩ := h
  refine g_callV f mk_X1_32 v3 (c_X9_markStep h) dX1_draw_4 rfl rfl (Nat.le_of_ble_eq_true rfl) (rm_ok (by decide) (by decide)) ⟨Nat.le_of_ble_eq_true rfl, Nat.le_of_ble_eq_true rfl⟩ (kV fun μ4 x5 h => ?_)
  refine g_aload_n f 0 dX1_draw_7 rfl rfl ?_
  have v1 := mex_ok x5 v1
  refine g_getR f fk_X1_18 v1 dX1_draw_8 rfl h (fun t7 h => ?_)
  obtain ⟨v8, h⟩ := h
  refine g_getR f fk_X1_35 v8 dX1_draw_11 rfl h (fun t9 h => ?_)
  refine g_iload_n f 1 dX1_draw_14 rfl rfl ?_
  refine g_iconst f 2 dX1_draw_15 kc_2 ?_
  refine g_imul f dX1_draw_16 ?_
  refine g_sipush f 229 dX1_draw_17 ks_229 ?_
  refine g_iadd f dX1_draw_20 ?_
  obtain ⟨v10, h⟩ := h
  refine g_putI f fk_X1_59 v10 dX1_draw_21 rfl h (fun h => ?_)
  refine g_iconst f 0 dX1_draw_24 kc_0 ?_
  refine h_istore_n f dX1_draw_25 rfl (by decide) ?_
  exact h_sub [1, 3, 0] rfl (tL_X1_draw_26 f hq h)
theorem c_X1_draw {Ω : OM} {o0 : Nat} {i1 : Int32} {i2 : Int32} {μ : Me} {Q : Me → Prop} (h : S_X1_draw o0 i1 i2 μ Q) : CT Ω yX1_draw cX1_draw 5 none (rmc 6 0 0) [.ref (oB Ω + o0), .int i1, .int i2] μ (qV Q) := CT_of (by decide) rfl (by simp [lg_sl, Value.category]) (fun x hΩ f hq hi => by subst hΩ; exact t_X1_draw f hq h)
theorem dX1_foretell_0 : decode cX1_foretell 0 = .ok (.aload_n 0, 1) := by decide +kernel
theorem dX1_foretell_1 : decode cX1_foretell 1 = .ok (.getfield 12, 3) := by decide +kernel
theorem dX1_foretell_4 : decode cX1_foretell 4 = .ok (.aload_n 0, 1) := by decide +kernel
theorem dX1_foretell_5 : decode cX1_foretell 5 = .ok (.getfield 18, 3) := by decide +kernel
theorem dX1_foretell_8 : decode cX1_foretell 8 = .ok (.getfield 35, 3) := by decide +kernel
theorem dX1_foretell_11 : decode cX1_foretell 11 = .ok (.invokevirtual 87, 3) := by decide +kernel
theorem dX1_foretell_14 : decode cX1_foretell 14 = .ok (.iconst 0, 1) := by decide +kernel
theorem dX1_foretell_15 : decode cX1_foretell 15 = .ok (.istore_n 3, 1) := by decide +kernel
theorem dX1_foretell_16 : decode cX1_foretell 16 = .ok (.iconst 0, 1) := by decide +kernel
theorem dX1_foretell_17 : decode cX1_foretell 17 = .ok (.istore 4, 2) := by decide +kernel
theorem dX1_foretell_19 : decode cX1_foretell 19 = .ok (.iload 4, 2) := by decide +kernel
theorem dX1_foretell_21 : decode cX1_foretell 21 = .ok (.iload_n 1, 1) := by decide +kernel
theorem dX1_foretell_22 : decode cX1_foretell 22 = .ok (.if_icmp .ge 33, 3) := by decide +kernel
theorem dX1_foretell_25 : decode cX1_foretell 25 = .ok (.aload_n 0, 1) := by decide +kernel
theorem dX1_foretell_26 : decode cX1_foretell 26 = .ok (.getfield 12, 3) := by decide +kernel
theorem dX1_foretell_29 : decode cX1_foretell 29 = .ok (.getfield 52, 3) := by decide +kernel
theorem dX1_foretell_32 : decode cX1_foretell 32 = .ok (.sipush 9999, 3) := by decide +kernel
theorem dX1_foretell_35 : decode cX1_foretell 35 = .ok (.if_icmp .ge 20, 3) := by decide +kernel
theorem dX1_foretell_38 : decode cX1_foretell 38 = .ok (.iload_n 3, 1) := by decide +kernel
theorem dX1_foretell_39 : decode cX1_foretell 39 = .ok (.aload_n 0, 1) := by decide +kernel
theorem dX1_foretell_40 : decode cX1_foretell 40 = .ok (.aload_n 0, 1) := by decide +kernel
theorem dX1_foretell_41 : decode cX1_foretell 41 = .ok (.getfield 12, 3) := by decide +kernel
theorem dX1_foretell_44 : decode cX1_foretell 44 = .ok (.invokevirtual 55, 3) := by decide +kernel
theorem dX1_foretell_47 : decode cX1_foretell 47 = .ok (.iadd, 1) := by decide +kernel
theorem dX1_foretell_48 : decode cX1_foretell 48 = .ok (.istore_n 3, 1) := by decide +kernel
theorem dX1_foretell_49 : decode cX1_foretell 49 = .ok (.iinc 4 1, 3) := by decide +kernel
theorem dX1_foretell_52 : decode cX1_foretell 52 = .ok (.goto (-33), 3) := by decide +kernel
theorem dX1_foretell_55 : decode cX1_foretell 55 = .ok (.iload_n 2, 1) := by decide +kernel
theorem dX1_foretell_56 : decode cX1_foretell 56 = .ok (.ifCond .ne 11, 3) := by decide +kernel
theorem dX1_foretell_59 : decode cX1_foretell 59 = .ok (.aload_n 0, 1) := by decide +kernel
theorem dX1_foretell_60 : decode cX1_foretell 60 = .ok (.getfield 12, 3) := by decide +kernel
theorem dX1_foretell_63 : decode cX1_foretell 63 = .ok (.getfield 38, 3) := by decide +kernel
theorem dX1_foretell_66 : decode cX1_foretell 66 = .ok (.ireturn, 1) := by decide +kernel
theorem dX1_foretell_67 : decode cX1_foretell 67 = .ok (.iload_n 2, 1) := by decide +kernel
theorem dX1_foretell_68 : decode cX1_foretell 68 = .ok (.iconst 1, 1) := by decide +kernel
theorem dX1_foretell_69 : decode cX1_foretell 69 = .ok (.if_icmp .ne 7, 3) := by decide +kernel
theorem dX1_foretell_72 : decode cX1_foretell 72 = .ok (.iload_n 3, 1) := by decide +kernel
theorem dX1_foretell_73 : decode cX1_foretell 73 = .ok (.goto 10, 3) := by decide +kernel
theorem dX1_foretell_76 : decode cX1_foretell 76 = .ok (.aload_n 0, 1) := by decide +kernel
theorem dX1_foretell_77 : decode cX1_foretell 77 = .ok (.getfield 12, 3) := by decide +kernel
theorem dX1_foretell_80 : decode cX1_foretell 80 = .ok (.getfield 62, 3) := by decide +kernel
theorem dX1_foretell_83 : decode cX1_foretell 83 = .ok (.ireturn, 1) := by decide +kernel
def B_X1_foretell_55 (o0 : Nat) (i2 : Int32) (i3 : Int32) (μ : Me) (Q : Int32 → Me → Prop) : Prop := ((¬ i2 = 0 → ((¬ i2 = 1 → mok μ o0 1 ∧ ∃ t11, mgr μ o0 2 = some t11 ∧ mok μ t11 3 ∧ Q (mgi μ t11 2) μ) ∧ (i2 = 1 → Q i3 μ))) ∧ (i2 = 0 → mok μ o0 1 ∧ ∃ t14, mgr μ o0 2 = some t14 ∧ mok μ t14 3 ∧ Q (mgi μ t14 0) μ))
set_option maxHeartbeats 4000000 in
set_option maxRecDepth 100000 in
theorem tB_X1_foretell_55 {x : GX} (f : Fx x cX1_foretell RX1 5 (rmc 5 0 0)) {o0 : Nat} {i2 : Int32} {i3 : Int32} {μ : Me} {Q : Int32 → Me → Prop} (hq : Rt x (some .int) (qI Q)) (h : B_X1_foretell_55 o0 i2 i3 μ Q) : G x 5 55 [(0, .ref (gB x + o0)), (2, .int i2), (3, .int i3)] [] μ 0 0 := by
  unfold B_X1_foretell_55 at h
  refine g_iload_n f 1 dX1_foretell_55 rfl rfl ?_
  refine g_if_ne f 67 dX1_foretell_56 rfl h (fun h => ?_) (fun h => ?_)
  · refine g_iload_n f 1 dX1_foretell_67 rfl rfl ?_
    refine g_iconst f 1 dX1_foretell_68 kc_1 ?_
    refine g_ic_ne f 76 dX1_foretell_69 rfl h (fun h => ?_) (fun h => ?_)
    · refine g_aload_n f 0 dX1_foretell_76 rfl rfl ?_
      obtain ⟨v10, h⟩ := h
      refine g_getR f fk_X1_12 v10 dX1_foretell_77 rfl h (fun t11 h => ?_)
      obtain ⟨v12, h⟩ := h
      refine g_getI f fk_X1_62 v12 dX1_foretell_80 rfl ?_
      exact g_iret f hq (Nat.le_of_ble_eq_true rfl) (Nat.le_of_ble_eq_true rfl) dX1_foretell_83 h
    · refine g_iload_n f 2 dX1_foretell_72 rfl rfl ?_
      refine g_goto f 83 dX1_foretell_73 rfl ?_
      exact g_iret f hq (Nat.le_of_ble_eq_true rfl) (Nat.le_of_ble_eq_true rfl) dX1_foretell_83 h
  · refine g_aload_n f 0 dX1_foretell_59 rfl rfl ?_
    obtain ⟨v13, h⟩ := h
    refine g_getR f fk_X1_12 v13 dX1_foretell_60 rfl h (fun t14 h => ?_)
    obtain ⟨v15, h⟩ := h
    refine g_getI f fk_X1_38 v15 dX1_foretell_63 rfl ?_
    exact g_iret f hq (Nat.le_of_ble_eq_true rfl) (Nat.le_of_ble_eq_true rfl) dX1_foretell_66 h
def B_X1_foretell_19 (o0 : Nat) (i1 : Int32) (i2 : Int32) (i3 : Int32) (i4 : Int32) (μ : Me) (K19 : Int32 → Int32 → Me → Prop) (Q : Int32 → Me → Prop) : Prop := ((i1 ≤ i4 → B_X1_foretell_55 o0 i2 i3 μ Q) ∧ (¬ i1 ≤ i4 → mok μ o0 1 ∧ ∃ t17, mgr μ o0 2 = some t17 ∧ mok μ t17 3 ∧ ((9999 ≤ (mgi μ t17 3) → B_X1_foretell_55 o0 i2 i3 μ Q) ∧ (¬ 9999 ≤ (mgi μ t17 3) → ∃ t19, mgr μ o0 2 = some t19 ∧ S_X1_passOne o0 t19 μ (fun r22 μ20 => K19 (i3 + r22) (i4 + 1) μ20)))))
set_option maxHeartbeats 4000000 in
set_option maxRecDepth 100000 in
theorem tB_X1_foretell_19 {x : GX} (f : Fx x cX1_foretell RX1 5 (rmc 5 0 0)) {o0 : Nat} {i1 : Int32} {i2 : Int32} {i3 : Int32} {i4 : Int32} {μ : Me} {Q : Int32 → Me → Prop} (hq : Rt x (some .int) (qI Q)) {K19 : Int32 → Int32 → Me → Prop} (hK19 : ∀ (a3 : Int32) (a4 : Int32) (ν : Me), K19 a3 a4 ν → G x 5 19 [(0, .ref (gB x + o0)), (1, .int i1), (2, .int i2), (3, .int a3), (4, .int a4)] [] ν 0 0) (h : B_X1_foretell_19 o0 i1 i2 i3 i4 μ K19 Q) : G x 5 19 [(0, .ref (gB x + o0)), (1, .int i1), (2, .int i2), (3, .int i3), (4, .int i4)] [] μ 0 0 := by
  unfold B_X1_foretell_19 at h
  refine g_iload f 4 dX1_foretell_19 rfl ?_
  refine g_iload_n f 1 dX1_foretell_21 rfl rfl ?_
  refine g_ic_ge f 55 dX1_foretell_22 rfl h (fun h => ?_) (fun h => ?_)
  · exact h_sub [0, 2, 3] rfl (tB_X1_foretell_55 f hq h)
  · refine g_aload_n f 0 dX1_foretell_25 rfl rfl ?_
    obtain ⟨v16, h⟩ := h
    refine g_getR f fk_X1_12 v16 dX1_foretell_26 rfl h (fun t17 h => ?_)
    obtain ⟨v18, h⟩ := h
    refine g_getI f fk_X1_52 v18 dX1_foretell_29 rfl ?_
    refine g_sipush f 9999 dX1_foretell_32 ks_9999 ?_
    refine g_ic_ge f 55 dX1_foretell_35 rfl h (fun h => ?_) (fun h => ?_)
    · exact h_sub [0, 2, 3] rfl (tB_X1_foretell_55 f hq h)
    · refine g_iload_n f 3 dX1_foretell_38 rfl rfl ?_
      refine g_aload_n f 0 dX1_foretell_39 rfl rfl ?_
      refine g_aload_n f 0 dX1_foretell_40 rfl rfl ?_
      refine g_getR f fk_X1_12 v16 dX1_foretell_41 rfl h (fun t19 h => ?_)
      refine g_callV f mk_X1_55 v16 (c_X1_passOne h) dX1_foretell_44 rfl rfl (Nat.le_of_ble_eq_true rfl) (rm_ok (by decide) (by decide)) ⟨Nat.le_of_ble_eq_true rfl, Nat.le_of_ble_eq_true rfl⟩ (kI fun r22 μ20 x21 h => ?_)
      refine g_iadd f dX1_foretell_47 ?_
      refine h_istore_n f dX1_foretell_48 rfl (by decide) ?_
      refine h_iinc f 4 1 dX1_foretell_49 rfl kc_1 (by decide) ?_
      refine g_goto f 19 dX1_foretell_52 rfl ?_
      exact h_sub [2, 3, 4, 1, 0] rfl (hK19 _ _ _ h)
def L_X1_foretell_19 (o0 : Nat) (i1 : Int32) (i2 : Int32) (i3 : Int32) (i4 : Int32) (μ : Me) (Q : Int32 → Me → Prop) : Prop := ∃ I : Int32 → Int32 → Me → Nat → Prop, (∃ n, I i3 i4 μ n) ∧ ∀ (i3 : Int32) (i4 : Int32) (μ : Me) (n : Nat), I i3 i4 μ n → B_X1_foretell_19 o0 i1 i2 i3 i4 μ (fun a3 a4 ν => ∃ n', n' < n ∧ I a3 a4 ν n') Q
set_option maxHeartbeats 4000000 in
set_option maxRecDepth 100000 in
theorem tL_X1_foretell_19 {x : GX} (f : Fx x cX1_foretell RX1 5 (rmc 5 0 0)) {o0 : Nat} {i1 : Int32} {i2 : Int32} {i3 : Int32} {i4 : Int32} {μ : Me} {Q : Int32 → Me → Prop} (hq : Rt x (some .int) (qI Q)) (h : L_X1_foretell_19 o0 i1 i2 i3 i4 μ Q) : G x 5 19 [(0, .ref (gB x + o0)), (1, .int i1), (2, .int i2), (3, .int i3), (4, .int i4)] [] μ 0 0 := by
  obtain ⟨I, ⟨n, hI⟩, hs⟩ := h
  induction n using Nat.strongRecOn generalizing i3 i4 μ with
  | ind n ih => exact tB_X1_foretell_19 f hq (fun a3 a4 ν hk => by obtain ⟨n2, hn, hI2⟩ := hk; exact ih n2 hn hI2) (hs _ _ _ _ hI)
def S_X1_foretell (o0 : Nat) (i1 : Int32) (i2 : Int32) (μ : Me) (Q : Int32 → Me → Prop) : Prop := mok μ o0 1 ∧ ∃ t2, mgr μ o0 2 = some t2 ∧ ∃ t3, mgr μ o0 0 = some t3 ∧ mok μ t3 9 ∧ ∃ t5, mgr μ t3 14 = some t5 ∧ mok μ t2 3 ∧ S_X3_become t2 t5 μ (fun μ7 => L_X1_foretell_19 o0 i1 i2 0 0 μ7 Q)
set_option maxHeartbeats 4000000 in
set_option maxRecDepth 100000 in
theorem t_X1_foretell {x : GX} (f : Fx x cX1_foretell RX1 5 (rmc 5 0 0)) {o0 : Nat} {i1 : Int32} {i2 : Int32} {μ : Me} {Q : Int32 → Me → Prop} (hq : Rt x (some .int) (qI Q)) (h : S_X1_foretell o0 i1 i2 μ Q) : G x 5 0 [(0, .ref (gB x + o0)), (1, .int i1), (2, .int i2)] [] μ 0 0 := by
  unfold S_X1_foretell at h
  refine g_aload_n f 0 dX1_foretell_0 rfl rfl ?_
  obtain ⟨v1, h⟩ := h
  refine g_getR f fk_X1_12 v1 dX1_foretell_1 rfl h (fun t2 h => ?_)
  refine g_aload_n f 0 dX1_foretell_4 rfl rfl ?_
  refine g_getR f fk_X1_18 v1 dX1_foretell_5 rfl h (fun t3 h => ?_)
  obtain ⟨v4, h⟩ := h
  refine g_getR f fk_X1_35 v4 dX1_foretell_8 rfl h (fun t5 h => ?_)
  obtain ⟨v6, h⟩ := h
  refine g_callV f mk_X1_87 v6 (c_X3_become h) dX1_foretell_11 rfl rfl (Nat.le_of_ble_eq_true rfl) (rm_ok (by decide) (by decide)) ⟨Nat.le_of_ble_eq_true rfl, Nat.le_of_ble_eq_true rfl⟩ (kV fun μ7 x8 h => ?_)
  refine g_iconst f 0 dX1_foretell_14 kc_0 ?_
  refine h_istore_n f dX1_foretell_15 rfl (by decide) ?_
  refine g_iconst f 0 dX1_foretell_16 kc_0 ?_
  refine h_istore f dX1_foretell_17 (by decide) ?_
  exact h_sub [2, 3, 4, 1, 0] rfl (tL_X1_foretell_19 f hq h)
theorem c_X1_foretell {Ω : OM} {o0 : Nat} {i1 : Int32} {i2 : Int32} {μ : Me} {Q : Int32 → Me → Prop} (h : S_X1_foretell o0 i1 i2 μ Q) : CT Ω yX1_foretell cX1_foretell 5 (some .int) (rmc 5 0 0) [.ref (oB Ω + o0), .int i1, .int i2] μ (qI Q) := CT_of (by decide) rfl (by simp [lg_sl, Value.category]) (fun x hΩ f hq hi => by subst hΩ; exact t_X1_foretell f hq h)
theorem dX2_init_0 : decode cX2_init 0 = .ok (.aload_n 0, 1) := by decide +kernel
theorem dX2_init_1 : decode cX2_init 1 = .ok (.invokespecial 3, 3) := by decide +kernel
theorem dX2_init_4 : decode cX2_init 4 = .ok (.aload_n 0, 1) := by decide +kernel
theorem dX2_init_5 : decode cX2_init 5 = .ok (.sipush 256, 3) := by decide +kernel
theorem dX2_init_8 : decode cX2_init 8 = .ok (.newarray .int, 2) := by decide +kernel
theorem dX2_init_10 : decode cX2_init 10 = .ok (.putfield 9, 3) := by decide +kernel
theorem dX2_init_13 : decode cX2_init 13 = .ok (.aload_n 0, 1) := by decide +kernel
theorem dX2_init_14 : decode cX2_init 14 = .ok (.sipush 256, 3) := by decide +kernel
theorem dX2_init_17 : decode cX2_init 17 = .ok (.newarray .int, 2) := by decide +kernel
theorem dX2_init_19 : decode cX2_init 19 = .ok (.putfield 15, 3) := by decide +kernel
theorem dX2_init_22 : decode cX2_init 22 = .ok (.aload_n 0, 1) := by decide +kernel
theorem dX2_init_23 : decode cX2_init 23 = .ok (.sipush 256, 3) := by decide +kernel
theorem dX2_init_26 : decode cX2_init 26 = .ok (.newarray .int, 2) := by decide +kernel
theorem dX2_init_28 : decode cX2_init 28 = .ok (.putfield 18, 3) := by decide +kernel
theorem dX2_init_31 : decode cX2_init 31 = .ok (.aload_n 0, 1) := by decide +kernel
theorem dX2_init_32 : decode cX2_init 32 = .ok (.iconst 1, 1) := by decide +kernel
theorem dX2_init_33 : decode cX2_init 33 = .ok (.putfield 21, 3) := by decide +kernel
theorem dX2_init_36 : decode cX2_init 36 = .ok (.aload_n 0, 1) := by decide +kernel
theorem dX2_init_37 : decode cX2_init 37 = .ok (.aload_n 1, 1) := by decide +kernel
theorem dX2_init_38 : decode cX2_init 38 = .ok (.putfield 25, 3) := by decide +kernel
theorem dX2_init_41 : decode cX2_init 41 = .ok (.aload_n 0, 1) := by decide +kernel
theorem dX2_init_42 : decode cX2_init 42 = .ok (.aload_n 2, 1) := by decide +kernel
theorem dX2_init_43 : decode cX2_init 43 = .ok (.putfield 29, 3) := by decide +kernel
theorem dX2_init_46 : decode cX2_init 46 = .ok (.return_, 1) := by decide +kernel
def S_X2_init (o0 : Nat) (o1 : Nat) (o2 : Nat) (μ : Me) (Q : Me → Prop) : Prop := ∀ μ1, μ1 = mnw μ 12 256 → mok μ1 o0 2 ∧ ∀ μ5, μ5 = msr μ1 o0 2 (some (mnn μ)) → ∀ μ6, μ6 = mnw μ5 12 256 → ∀ μ9, μ9 = msr μ6 o0 3 (some (mnn μ5)) → ∀ μ10, μ10 = mnw μ9 12 256 → ∀ μ13, μ13 = msr μ10 o0 4 (some (mnn μ9)) → ∀ μ14, μ14 = msi μ13 o0 5 1 → ∀ μ15, μ15 = msr μ14 o0 0 (some o1) → ∀ μ16, μ16 = msr μ15 o0 1 (some o2) → Q μ16
set_option maxHeartbeats 4000000 in
set_option maxRecDepth 100000 in
theorem t_X2_init {x : GX} (f : Fx x cX2_init RX2 3 (rmc 0 3 768)) {o0 : Nat} {o1 : Nat} {o2 : Nat} {μ : Me} {Q : Me → Prop} (hq : Rt x none (qV Q)) (hi : x.1.2.2.2.2.2.2.2.1.name = "<init>") (h : S_X2_init o0 o1 o2 μ Q) : G x 3 0 [(0, .ref (gB x + o0)), (1, .ref (gB x + o1)), (2, .ref (gB x + o2))] [] μ 0 0 := by
  unfold S_X2_init at h
  refine g_aload_n f 0 dX2_init_0 rfl rfl ?_
  refine g_objInit f w_460 w_126 w_127 dX2_init_1 rm_fr (Nat.le_of_ble_eq_true rfl) ?_
  refine g_aload_n f 0 dX2_init_4 rfl rfl ?_
  refine g_sipush f 256 dX2_init_5 ks_256 ?_
  refine g_newa (c := 12) (N := 256) (cap := 256) f .int (Or.inl ⟨rfl, rfl⟩) dX2_init_8 w_187 (by decide) (by decide) (Nat.le_refl _) (Nat.le_of_ble_eq_true rfl) (Nat.le_of_ble_eq_true rfl) (Nat.le_of_ble_eq_true rfl) h (fun h v2 x3 => ?_)
  obtain ⟨v4, h⟩ := h
  refine g_putFQ (r := some _) f fk_X2_9 rfl hi v4 dX2_init_10 rfl (Or.inr ⟨_, rfl⟩) h (fun h => ?_)
  refine g_aload_n f 0 dX2_init_13 rfl rfl ?_
  refine g_sipush f 256 dX2_init_14 ks_256 ?_
  refine g_newa (c := 12) (N := 256) (cap := 256) f .int (Or.inl ⟨rfl, rfl⟩) dX2_init_17 w_187 (by decide) (by decide) (Nat.le_refl _) (Nat.le_of_ble_eq_true rfl) (Nat.le_of_ble_eq_true rfl) (Nat.le_of_ble_eq_true rfl) h (fun h v7 x8 => ?_)
  have v4 := mex_ok x8 v4
  refine g_putFQ (r := some _) f fk_X2_15 rfl hi v4 dX2_init_19 rfl (Or.inr ⟨_, rfl⟩) h (fun h => ?_)
  refine g_aload_n f 0 dX2_init_22 rfl rfl ?_
  refine g_sipush f 256 dX2_init_23 ks_256 ?_
  refine g_newa (c := 12) (N := 256) (cap := 256) f .int (Or.inl ⟨rfl, rfl⟩) dX2_init_26 w_187 (by decide) (by decide) (Nat.le_refl _) (Nat.le_of_ble_eq_true rfl) (Nat.le_of_ble_eq_true rfl) (Nat.le_of_ble_eq_true rfl) h (fun h v11 x12 => ?_)
  have v4 := mex_ok x12 v4
  refine g_putFQ (r := some _) f fk_X2_18 rfl hi v4 dX2_init_28 rfl (Or.inr ⟨_, rfl⟩) h (fun h => ?_)
  refine g_aload_n f 0 dX2_init_31 rfl rfl ?_
  refine g_iconst f 1 dX2_init_32 kc_1 ?_
  refine g_putI f fk_X2_21 v4 dX2_init_33 rfl h (fun h => ?_)
  refine g_aload_n f 0 dX2_init_36 rfl rfl ?_
  refine g_aload_n f 1 dX2_init_37 rfl rfl ?_
  refine g_putFQ (r := some _) f fk_X2_25 rfl hi v4 dX2_init_38 rfl (Or.inl ⟨_, rfl⟩) h (fun h => ?_)
  refine g_aload_n f 0 dX2_init_41 rfl rfl ?_
  refine g_aload_n f 2 dX2_init_42 rfl rfl ?_
  refine g_putFQ (r := some _) f fk_X2_29 rfl hi v4 dX2_init_43 rfl (Or.inl ⟨_, rfl⟩) h (fun h => ?_)
  exact g_vret f hq (Nat.le_of_ble_eq_true rfl) (Nat.le_of_ble_eq_true rfl) dX2_init_46 h
theorem c_X2_init {Ω : OM} {o0 : Nat} {o1 : Nat} {o2 : Nat} {μ : Me} {Q : Me → Prop} (h : S_X2_init o0 o1 o2 μ Q) : CT Ω yX2_init cX2_init 3 none (rmc 0 3 768) [.ref (oB Ω + o0), .ref (oB Ω + o1), .ref (oB Ω + o2)] μ (qV Q) := CT_of (by decide) rfl (by simp [lg_sl, Value.category]) (fun x hΩ f hq hi => by subst hΩ; exact t_X2_init f hq (hi rfl) h)
theorem dX2_forget_0 : decode cX2_forget 0 = .ok (.aload_n 0, 1) := by decide +kernel
theorem dX2_forget_1 : decode cX2_forget 1 = .ok (.dup, 1) := by decide +kernel
theorem dX2_forget_2 : decode cX2_forget 2 = .ok (.getfield 21, 3) := by decide +kernel
theorem dX2_forget_5 : decode cX2_forget 5 = .ok (.iconst 1, 1) := by decide +kernel
theorem dX2_forget_6 : decode cX2_forget 6 = .ok (.iadd, 1) := by decide +kernel
theorem dX2_forget_7 : decode cX2_forget 7 = .ok (.putfield 21, 3) := by decide +kernel
theorem dX2_forget_10 : decode cX2_forget 10 = .ok (.return_, 1) := by decide +kernel
def S_X2_forget (o0 : Nat) (μ : Me) (Q : Me → Prop) : Prop := mok μ o0 2 ∧ ∀ μ2, μ2 = msi μ o0 5 ((mgi μ o0 5) + 1) → Q μ2
set_option maxHeartbeats 4000000 in
set_option maxRecDepth 100000 in
theorem t_X2_forget {x : GX} (f : Fx x cX2_forget RX2 1 (rmc 0 0 0)) {o0 : Nat} {μ : Me} {Q : Me → Prop} (hq : Rt x none (qV Q)) (h : S_X2_forget o0 μ Q) : G x 1 0 [(0, .ref (gB x + o0))] [] μ 0 0 := by
  unfold S_X2_forget at h
  refine g_aload_n f 0 dX2_forget_0 rfl rfl ?_
  refine g_dup f dX2_forget_1 rfl ?_
  obtain ⟨v1, h⟩ := h
  refine g_getI f fk_X2_21 v1 dX2_forget_2 rfl ?_
  refine g_iconst f 1 dX2_forget_5 kc_1 ?_
  refine g_iadd f dX2_forget_6 ?_
  refine g_putI f fk_X2_21 v1 dX2_forget_7 rfl h (fun h => ?_)
  exact g_vret f hq (Nat.le_of_ble_eq_true rfl) (Nat.le_of_ble_eq_true rfl) dX2_forget_10 h
theorem c_X2_forget {Ω : OM} {o0 : Nat} {μ : Me} {Q : Me → Prop} (h : S_X2_forget o0 μ Q) : CT Ω yX2_forget cX2_forget 1 none (rmc 0 0 0) [.ref (oB Ω + o0)] μ (qV Q) := CT_of (by decide) rfl (by simp [lg_sl, Value.category]) (fun x hΩ f hq hi => by subst hΩ; exact t_X2_forget f hq h)
theorem dX2_isSettled_0 : decode cX2_isSettled 0 = .ok (.aload_n 0, 1) := by decide +kernel
theorem dX2_isSettled_1 : decode cX2_isSettled 1 = .ok (.iload_n 1, 1) := by decide +kernel
theorem dX2_isSettled_2 : decode cX2_isSettled 2 = .ok (.invokevirtual 42, 3) := by decide +kernel
theorem dX2_isSettled_5 : decode cX2_isSettled 5 = .ok (.iload_n 1, 1) := by decide +kernel
theorem dX2_isSettled_6 : decode cX2_isSettled 6 = .ok (.if_icmp .ne 7, 3) := by decide +kernel
theorem dX2_isSettled_9 : decode cX2_isSettled 9 = .ok (.iconst 1, 1) := by decide +kernel
theorem dX2_isSettled_10 : decode cX2_isSettled 10 = .ok (.goto 4, 3) := by decide +kernel
theorem dX2_isSettled_13 : decode cX2_isSettled 13 = .ok (.iconst 0, 1) := by decide +kernel
theorem dX2_isSettled_14 : decode cX2_isSettled 14 = .ok (.ireturn, 1) := by decide +kernel
def S_X2_isSettled (o0 : Nat) (i1 : Int32) (μ : Me) (Q : Int32 → Me → Prop) : Prop := mok μ o0 2 ∧ S_X2_next o0 i1 μ (fun r4 μ2 => ((¬ r4 = i1 → Q 0 μ2) ∧ (r4 = i1 → Q 1 μ2)))
set_option maxHeartbeats 4000000 in
set_option maxRecDepth 100000 in
theorem t_X2_isSettled {x : GX} (f : Fx x cX2_isSettled RX2 2 (rmc 5 0 0)) {o0 : Nat} {i1 : Int32} {μ : Me} {Q : Int32 → Me → Prop} (hq : Rt x (some .boolean) (qI Q)) (h : S_X2_isSettled o0 i1 μ Q) : G x 2 0 [(0, .ref (gB x + o0)), (1, .int i1)] [] μ 0 0 := by
  unfold S_X2_isSettled at h
  refine g_aload_n f 0 dX2_isSettled_0 rfl rfl ?_
  refine g_iload_n f 1 dX2_isSettled_1 rfl rfl ?_
  obtain ⟨v1, h⟩ := h
  refine g_callV f mk_X2_42 v1 (c_X2_next h) dX2_isSettled_2 rfl rfl (Nat.le_of_ble_eq_true rfl) (rm_ok (by decide) (by decide)) ⟨Nat.le_of_ble_eq_true rfl, Nat.le_of_ble_eq_true rfl⟩ (kI fun r4 μ2 x3 h => ?_)
  refine g_iload_n f 1 dX2_isSettled_5 rfl rfl ?_
  refine g_ic_ne f 13 dX2_isSettled_6 rfl h (fun h => ?_) (fun h => ?_)
  · refine g_iconst f 0 dX2_isSettled_13 kc_0 ?_
    exact g_zret f hq (Nat.le_of_ble_eq_true rfl) (Nat.le_of_ble_eq_true rfl) dX2_isSettled_14 zb_0.1 h
  · refine g_iconst f 1 dX2_isSettled_9 kc_1 ?_
    refine g_goto f 14 dX2_isSettled_10 rfl ?_
    exact g_zret f hq (Nat.le_of_ble_eq_true rfl) (Nat.le_of_ble_eq_true rfl) dX2_isSettled_14 zb_1.1 h
theorem c_X2_isSettled {Ω : OM} {o0 : Nat} {i1 : Int32} {μ : Me} {Q : Int32 → Me → Prop} (h : S_X2_isSettled o0 i1 μ Q) : CT Ω yX2_isSettled cX2_isSettled 2 (some .boolean) (rmc 5 0 0) [.ref (oB Ω + o0), .int i1] μ (qI Q) := CT_of (by decide) rfl (by simp [lg_sl, Value.category]) (fun x hΩ f hq hi => by subst hΩ; exact t_X2_isSettled f hq h)
theorem dX2_settledCount_0 : decode cX2_settledCount 0 = .ok (.iconst 0, 1) := by decide +kernel
theorem dX2_settledCount_1 : decode cX2_settledCount 1 = .ok (.istore_n 1, 1) := by decide +kernel
theorem dX2_settledCount_2 : decode cX2_settledCount 2 = .ok (.iconst 0, 1) := by decide +kernel
theorem dX2_settledCount_3 : decode cX2_settledCount 3 = .ok (.istore_n 2, 1) := by decide +kernel
theorem dX2_settledCount_4 : decode cX2_settledCount 4 = .ok (.iload_n 2, 1) := by decide +kernel
theorem dX2_settledCount_5 : decode cX2_settledCount 5 = .ok (.aload_n 0, 1) := by decide +kernel
theorem dX2_settledCount_6 : decode cX2_settledCount 6 = .ok (.getfield 25, 3) := by decide +kernel
theorem dX2_settledCount_9 : decode cX2_settledCount 9 = .ok (.invokevirtual 45, 3) := by decide +kernel
theorem dX2_settledCount_12 : decode cX2_settledCount 12 = .ok (.if_icmp .ge 25, 3) := by decide +kernel
theorem dX2_settledCount_15 : decode cX2_settledCount 15 = .ok (.iload_n 1, 1) := by decide +kernel
theorem dX2_settledCount_16 : decode cX2_settledCount 16 = .ok (.aload_n 0, 1) := by decide +kernel
theorem dX2_settledCount_17 : decode cX2_settledCount 17 = .ok (.iload_n 2, 1) := by decide +kernel
theorem dX2_settledCount_18 : decode cX2_settledCount 18 = .ok (.invokevirtual 51, 3) := by decide +kernel
theorem dX2_settledCount_21 : decode cX2_settledCount 21 = .ok (.ifCond .eq 7, 3) := by decide +kernel
theorem dX2_settledCount_24 : decode cX2_settledCount 24 = .ok (.iconst 1, 1) := by decide +kernel
theorem dX2_settledCount_25 : decode cX2_settledCount 25 = .ok (.goto 4, 3) := by decide +kernel
theorem dX2_settledCount_28 : decode cX2_settledCount 28 = .ok (.iconst 0, 1) := by decide +kernel
theorem dX2_settledCount_29 : decode cX2_settledCount 29 = .ok (.iadd, 1) := by decide +kernel
theorem dX2_settledCount_30 : decode cX2_settledCount 30 = .ok (.istore_n 1, 1) := by decide +kernel
theorem dX2_settledCount_31 : decode cX2_settledCount 31 = .ok (.iinc 2 1, 3) := by decide +kernel
theorem dX2_settledCount_34 : decode cX2_settledCount 34 = .ok (.goto (-30), 3) := by decide +kernel
theorem dX2_settledCount_37 : decode cX2_settledCount 37 = .ok (.iload_n 1, 1) := by decide +kernel
theorem dX2_settledCount_38 : decode cX2_settledCount 38 = .ok (.ireturn, 1) := by decide +kernel
def B_X2_settledCount_29 (o0 : Nat) (i2 : Int32) (s0 : Int32) (s1 : Int32) (μ : Me) (K4 : Int32 → Int32 → Me → Prop) (Q : Int32 → Me → Prop) : Prop := K4 (s1 + s0) (i2 + 1) μ
set_option maxHeartbeats 4000000 in
set_option maxRecDepth 100000 in
theorem tB_X2_settledCount_29 {x : GX} (f : Fx x cX2_settledCount RX2 3 (rmc 6 0 0)) {o0 : Nat} {i2 : Int32} {s0 : Int32} {s1 : Int32} {μ : Me} {Q : Int32 → Me → Prop} (hq : Rt x (some .int) (qI Q)) {K4 : Int32 → Int32 → Me → Prop} (hK4 : ∀ (a1 : Int32) (a2 : Int32) (ν : Me), K4 a1 a2 ν → G x 3 4 [(0, .ref (gB x + o0)), (1, .int a1), (2, .int a2)] [] ν 0 0) (h : B_X2_settledCount_29 o0 i2 s0 s1 μ K4 Q) : G x 3 29 [(0, .ref (gB x + o0)), (2, .int i2)] [.int s0, .int s1] μ 0 0 := by
  unfold B_X2_settledCount_29 at h
  refine g_iadd f dX2_settledCount_29 ?_
  refine h_istore_n f dX2_settledCount_30 rfl (by decide) ?_
  refine h_iinc f 2 1 dX2_settledCount_31 rfl kc_1 (by decide) ?_
  refine g_goto f 4 dX2_settledCount_34 rfl ?_
  exact h_sub [2, 1, 0] rfl (hK4 _ _ _ h)
def B_X2_settledCount_4 (o0 : Nat) (i1 : Int32) (i2 : Int32) (μ : Me) (K4 : Int32 → Int32 → Me → Prop) (Q : Int32 → Me → Prop) : Prop := mok μ o0 2 ∧ ∃ t2, mgr μ o0 0 = some t2 ∧ mok μ t2 9 ∧ S_X9_allRings t2 μ (fun r6 μ4 => ((r6 ≤ i2 → Q i1 μ4) ∧ (¬ r6 ≤ i2 → S_X2_isSettled o0 i2 μ4 (fun r9 μ7 => ((r9 = 0 → B_X2_settledCount_29 o0 i2 0 i1 μ7 K4 Q) ∧ (¬ r9 = 0 → B_X2_settledCount_29 o0 i2 1 i1 μ7 K4 Q))))))
set_option maxHeartbeats 4000000 in
set_option maxRecDepth 100000 in
theorem tB_X2_settledCount_4 {x : GX} (f : Fx x cX2_settledCount RX2 3 (rmc 6 0 0)) {o0 : Nat} {i1 : Int32} {i2 : Int32} {μ : Me} {Q : Int32 → Me → Prop} (hq : Rt x (some .int) (qI Q)) {K4 : Int32 → Int32 → Me → Prop} (hK4 : ∀ (a1 : Int32) (a2 : Int32) (ν : Me), K4 a1 a2 ν → G x 3 4 [(0, .ref (gB x + o0)), (1, .int a1), (2, .int a2)] [] ν 0 0) (h : B_X2_settledCount_4 o0 i1 i2 μ K4 Q) : G x 3 4 [(0, .ref (gB x + o0)), (1, .int i1), (2, .int i2)] [] μ 0 0 := by
  unfold B_X2_settledCount_4 at h
  refine g_iload_n f 2 dX2_settledCount_4 rfl rfl ?_
  refine g_aload_n f 0 dX2_settledCount_5 rfl rfl ?_
  obtain ⟨v1, h⟩ := h
  refine g_getR f fk_X2_25 v1 dX2_settledCount_6 rfl h (fun t2 h => ?_)
  obtain ⟨v3, h⟩ := h
  refine g_callV f mk_X2_45 v3 (c_X9_allRings h) dX2_settledCount_9 rfl rfl (Nat.le_of_ble_eq_true rfl) (rm_ok (by decide) (by decide)) ⟨Nat.le_of_ble_eq_true rfl, Nat.le_of_ble_eq_true rfl⟩ (kI fun r6 μ4 x5 h => ?_)
  refine g_ic_ge f 37 dX2_settledCount_12 rfl h (fun h => ?_) (fun h => ?_)
  · refine g_iload_n f 1 dX2_settledCount_37 rfl rfl ?_
    exact g_iret f hq (Nat.le_of_ble_eq_true rfl) (Nat.le_of_ble_eq_true rfl) dX2_settledCount_38 h
  · refine g_iload_n f 1 dX2_settledCount_15 rfl rfl ?_
    refine g_aload_n f 0 dX2_settledCount_16 rfl rfl ?_
    refine g_iload_n f 2 dX2_settledCount_17 rfl rfl ?_
    have v1 := mex_ok x5 v1
    refine g_callV f mk_X2_51 v1 (c_X2_isSettled h) dX2_settledCount_18 rfl rfl (Nat.le_of_ble_eq_true rfl) (rm_ok (by decide) (by decide)) ⟨Nat.le_of_ble_eq_true rfl, Nat.le_of_ble_eq_true rfl⟩ (kI fun r9 μ7 x8 h => ?_)
    refine g_if_eq f 28 dX2_settledCount_21 rfl h (fun h => ?_) (fun h => ?_)
    · refine g_iconst f 0 dX2_settledCount_28 kc_0 ?_
      exact h_sub [0, 2] rfl (tB_X2_settledCount_29 f hq hK4 h)
    · refine g_iconst f 1 dX2_settledCount_24 kc_1 ?_
      refine g_goto f 29 dX2_settledCount_25 rfl ?_
      exact h_sub [0, 2] rfl (tB_X2_settledCount_29 f hq hK4 h)
def L_X2_settledCount_4 (o0 : Nat) (i1 : Int32) (i2 : Int32) (μ : Me) (Q : Int32 → Me → Prop) : Prop := ∃ I : Int32 → Int32 → Me → Nat → Prop, (∃ n, I i1 i2 μ n) ∧ ∀ (i1 : Int32) (i2 : Int32) (μ : Me) (n : Nat), I i1 i2 μ n → B_X2_settledCount_4 o0 i1 i2 μ (fun a1 a2 ν => ∃ n', n' < n ∧ I a1 a2 ν n') Q
set_option maxHeartbeats 4000000 in
set_option maxRecDepth 100000 in
theorem tL_X2_settledCount_4 {x : GX} (f : Fx x cX2_settledCount RX2 3 (rmc 6 0 0)) {o0 : Nat} {i1 : Int32} {i2 : Int32} {μ : Me} {Q : Int32 → Me → Prop} (hq : Rt x (some .int) (qI Q)) (h : L_X2_settledCount_4 o0 i1 i2 μ Q) : G x 3 4 [(0, .ref (gB x + o0)), (1, .int i1), (2, .int i2)] [] μ 0 0 := by
  obtain ⟨I, ⟨n, hI⟩, hs⟩ := h
  induction n using Nat.strongRecOn generalizing i1 i2 μ with
  | ind n ih => exact tB_X2_settledCount_4 f hq (fun a1 a2 ν hk => by obtain ⟨n2, hn, hI2⟩ := hk; exact ih n2 hn hI2) (hs _ _ _ _ hI)
def S_X2_settledCount (o0 : Nat) (μ : Me) (Q : Int32 → Me → Prop) : Prop := L_X2_settledCount_4 o0 0 0 μ Q
set_option maxHeartbeats 4000000 in
set_option maxRecDepth 100000 in
theorem t_X2_settledCount {x : GX} (f : Fx x cX2_settledCount RX2 3 (rmc 6 0 0)) {o0 : Nat} {μ : Me} {Q : Int32 → Me → Prop} (hq : Rt x (some .int) (qI Q)) (h : S_X2_settledCount o0 μ Q) : G x 3 0 [(0, .ref (gB x + o0))] [] μ 0 0 := by
  unfold S_X2_settledCount at h
  refine g_iconst f 0 dX2_settledCount_0 kc_0 ?_
  refine h_istore_n f dX2_settledCount_1 rfl (by decide) ?_
  refine g_iconst f 0 dX2_settledCount_2 kc_0 ?_
  refine h_istore_n f dX2_settledCount_3 rfl (by decide) ?_
  exact h_sub [2, 1, 0] rfl (tL_X2_settledCount_4 f hq h)
theorem c_X2_settledCount {Ω : OM} {o0 : Nat} {μ : Me} {Q : Int32 → Me → Prop} (h : S_X2_settledCount o0 μ Q) : CT Ω yX2_settledCount cX2_settledCount 3 (some .int) (rmc 6 0 0) [.ref (oB Ω + o0)] μ (qI Q) := CT_of (by decide) rfl (by simp [lg_sl, Value.category]) (fun x hΩ f hq hi => by subst hΩ; exact t_X2_settledCount f hq h)
theorem dX2_settledAt_0 : decode cX2_settledAt 0 = .ok (.iconst 0, 1) := by decide +kernel
theorem dX2_settledAt_1 : decode cX2_settledAt 1 = .ok (.istore_n 2, 1) := by decide +kernel
theorem dX2_settledAt_2 : decode cX2_settledAt 2 = .ok (.iconst 0, 1) := by decide +kernel
theorem dX2_settledAt_3 : decode cX2_settledAt 3 = .ok (.istore_n 3, 1) := by decide +kernel
theorem dX2_settledAt_4 : decode cX2_settledAt 4 = .ok (.iload_n 3, 1) := by decide +kernel
theorem dX2_settledAt_5 : decode cX2_settledAt 5 = .ok (.aload_n 0, 1) := by decide +kernel
theorem dX2_settledAt_6 : decode cX2_settledAt 6 = .ok (.getfield 25, 3) := by decide +kernel
theorem dX2_settledAt_9 : decode cX2_settledAt 9 = .ok (.invokevirtual 45, 3) := by decide +kernel
theorem dX2_settledAt_12 : decode cX2_settledAt 12 = .ok (.if_icmp .ge 27, 3) := by decide +kernel
theorem dX2_settledAt_15 : decode cX2_settledAt 15 = .ok (.aload_n 0, 1) := by decide +kernel
theorem dX2_settledAt_16 : decode cX2_settledAt 16 = .ok (.iload_n 3, 1) := by decide +kernel
theorem dX2_settledAt_17 : decode cX2_settledAt 17 = .ok (.invokevirtual 51, 3) := by decide +kernel
theorem dX2_settledAt_20 : decode cX2_settledAt 20 = .ok (.ifCond .eq 13, 3) := by decide +kernel
theorem dX2_settledAt_23 : decode cX2_settledAt 23 = .ok (.iload_n 2, 1) := by decide +kernel
theorem dX2_settledAt_24 : decode cX2_settledAt 24 = .ok (.iload_n 1, 1) := by decide +kernel
theorem dX2_settledAt_25 : decode cX2_settledAt 25 = .ok (.if_icmp .ne 5, 3) := by decide +kernel
theorem dX2_settledAt_28 : decode cX2_settledAt 28 = .ok (.iload_n 3, 1) := by decide +kernel
theorem dX2_settledAt_29 : decode cX2_settledAt 29 = .ok (.ireturn, 1) := by decide +kernel
theorem dX2_settledAt_30 : decode cX2_settledAt 30 = .ok (.iinc 2 1, 3) := by decide +kernel
theorem dX2_settledAt_33 : decode cX2_settledAt 33 = .ok (.iinc 3 1, 3) := by decide +kernel
theorem dX2_settledAt_36 : decode cX2_settledAt 36 = .ok (.goto (-32), 3) := by decide +kernel
theorem dX2_settledAt_39 : decode cX2_settledAt 39 = .ok (.bipush (-2), 2) := by decide +kernel
theorem dX2_settledAt_41 : decode cX2_settledAt 41 = .ok (.ireturn, 1) := by decide +kernel
def B_X2_settledAt_33 (o0 : Nat) (i1 : Int32) (i2 : Int32) (i3 : Int32) (μ : Me) (K4 : Int32 → Int32 → Me → Prop) (Q : Int32 → Me → Prop) : Prop := K4 i2 (i3 + 1) μ
set_option maxHeartbeats 4000000 in
set_option maxRecDepth 100000 in
theorem tB_X2_settledAt_33 {x : GX} (f : Fx x cX2_settledAt RX2 4 (rmc 6 0 0)) {o0 : Nat} {i1 : Int32} {i2 : Int32} {i3 : Int32} {μ : Me} {Q : Int32 → Me → Prop} (hq : Rt x (some .int) (qI Q)) {K4 : Int32 → Int32 → Me → Prop} (hK4 : ∀ (a2 : Int32) (a3 : Int32) (ν : Me), K4 a2 a3 ν → G x 4 4 [(0, .ref (gB x + o0)), (1, .int i1), (2, .int a2), (3, .int a3)] [] ν 0 0) (h : B_X2_settledAt_33 o0 i1 i2 i3 μ K4 Q) : G x 4 33 [(0, .ref (gB x + o0)), (1, .int i1), (2, .int i2), (3, .int i3)] [] μ 0 0 := by
  unfold B_X2_settledAt_33 at h
  refine h_iinc f 3 1 dX2_settledAt_33 rfl kc_1 (by decide) ?_
  refine g_goto f 4 dX2_settledAt_36 rfl ?_
  exact h_sub [1, 2, 3, 0] rfl (hK4 _ _ _ h)
def B_X2_settledAt_4 (o0 : Nat) (i1 : Int32) (i2 : Int32) (i3 : Int32) (μ : Me) (K4 : Int32 → Int32 → Me → Prop) (Q : Int32 → Me → Prop) : Prop := mok μ o0 2 ∧ ∃ t2, mgr μ o0 0 = some t2 ∧ mok μ t2 9 ∧ S_X9_allRings t2 μ (fun r6 μ4 => ((r6 ≤ i3 → Q (-2) μ4) ∧ (¬ r6 ≤ i3 → S_X2_isSettled o0 i3 μ4 (fun r9 μ7 => ((r9 = 0 → B_X2_settledAt_33 o0 i1 i2 i3 μ7 K4 Q) ∧ (¬ r9 = 0 → ((¬ i2 = i1 → B_X2_settledAt_33 o0 i1 (i2 + 1) i3 μ7 K4 Q) ∧ (i2 = i1 → Q i3 μ7))))))))
set_option maxHeartbeats 4000000 in
set_option maxRecDepth 100000 in
theorem tB_X2_settledAt_4 {x : GX} (f : Fx x cX2_settledAt RX2 4 (rmc 6 0 0)) {o0 : Nat} {i1 : Int32} {i2 : Int32} {i3 : Int32} {μ : Me} {Q : Int32 → Me → Prop} (hq : Rt x (some .int) (qI Q)) {K4 : Int32 → Int32 → Me → Prop} (hK4 : ∀ (a2 : Int32) (a3 : Int32) (ν : Me), K4 a2 a3 ν → G x 4 4 [(0, .ref (gB x + o0)), (1, .int i1), (2, .int a2), (3, .int a3)] [] ν 0 0) (h : B_X2_settledAt_4 o0 i1 i2 i3 μ K4 Q) : G x 4 4 [(0, .ref (gB x + o0)), (1, .int i1), (2, .int i2), (3, .int i3)] [] μ 0 0 := by
  unfold B_X2_settledAt_4 at h
  refine g_iload_n f 3 dX2_settledAt_4 rfl rfl ?_
  refine g_aload_n f 0 dX2_settledAt_5 rfl rfl ?_
  obtain ⟨v1, h⟩ := h
  refine g_getR f fk_X2_25 v1 dX2_settledAt_6 rfl h (fun t2 h => ?_)
  obtain ⟨v3, h⟩ := h
  refine g_callV f mk_X2_45 v3 (c_X9_allRings h) dX2_settledAt_9 rfl rfl (Nat.le_of_ble_eq_true rfl) (rm_ok (by decide) (by decide)) ⟨Nat.le_of_ble_eq_true rfl, Nat.le_of_ble_eq_true rfl⟩ (kI fun r6 μ4 x5 h => ?_)
  refine g_ic_ge f 39 dX2_settledAt_12 rfl h (fun h => ?_) (fun h => ?_)
  · refine g_bipush f (-2) dX2_settledAt_39 kb_m2 ?_
    exact g_iret f hq (Nat.le_of_ble_eq_true rfl) (Nat.le_of_ble_eq_true rfl) dX2_settledAt_41 h
  · refine g_aload_n f 0 dX2_settledAt_15 rfl rfl ?_
    refine g_iload_n f 3 dX2_settledAt_16 rfl rfl ?_
    have v1 := mex_ok x5 v1
    refine g_callV f mk_X2_51 v1 (c_X2_isSettled h) dX2_settledAt_17 rfl rfl (Nat.le_of_ble_eq_true rfl) (rm_ok (by decide) (by decide)) ⟨Nat.le_of_ble_eq_true rfl, Nat.le_of_ble_eq_true rfl⟩ (kI fun r9 μ7 x8 h => ?_)
    refine g_if_eq f 33 dX2_settledAt_20 rfl h (fun h => ?_) (fun h => ?_)
    · exact h_sub [0, 1, 2, 3] rfl (tB_X2_settledAt_33 f hq hK4 h)
    · refine g_iload_n f 2 dX2_settledAt_23 rfl rfl ?_
      refine g_iload_n f 1 dX2_settledAt_24 rfl rfl ?_
      refine g_ic_ne f 30 dX2_settledAt_25 rfl h (fun h => ?_) (fun h => ?_)
      · refine h_iinc f 2 1 dX2_settledAt_30 rfl kc_1 (by decide) ?_
        exact h_sub [1, 2, 0, 3] rfl (tB_X2_settledAt_33 f hq hK4 h)
      · refine g_iload_n f 3 dX2_settledAt_28 rfl rfl ?_
        exact g_iret f hq (Nat.le_of_ble_eq_true rfl) (Nat.le_of_ble_eq_true rfl) dX2_settledAt_29 h
def L_X2_settledAt_4 (o0 : Nat) (i1 : Int32) (i2 : Int32) (i3 : Int32) (μ : Me) (Q : Int32 → Me → Prop) : Prop := ∃ I : Int32 → Int32 → Me → Nat → Prop, (∃ n, I i2 i3 μ n) ∧ ∀ (i2 : Int32) (i3 : Int32) (μ : Me) (n : Nat), I i2 i3 μ n → B_X2_settledAt_4 o0 i1 i2 i3 μ (fun a2 a3 ν => ∃ n', n' < n ∧ I a2 a3 ν n') Q
set_option maxHeartbeats 4000000 in
set_option maxRecDepth 100000 in
theorem tL_X2_settledAt_4 {x : GX} (f : Fx x cX2_settledAt RX2 4 (rmc 6 0 0)) {o0 : Nat} {i1 : Int32} {i2 : Int32} {i3 : Int32} {μ : Me} {Q : Int32 → Me → Prop} (hq : Rt x (some .int) (qI Q)) (h : L_X2_settledAt_4 o0 i1 i2 i3 μ Q) : G x 4 4 [(0, .ref (gB x + o0)), (1, .int i1), (2, .int i2), (3, .int i3)] [] μ 0 0 := by
  obtain ⟨I, ⟨n, hI⟩, hs⟩ := h
  induction n using Nat.strongRecOn generalizing i2 i3 μ with
  | ind n ih => exact tB_X2_settledAt_4 f hq (fun a2 a3 ν hk => by obtain ⟨n2, hn, hI2⟩ := hk; exact ih n2 hn hI2) (hs _ _ _ _ hI)
def S_X2_settledAt (o0 : Nat) (i1 : Int32) (μ : Me) (Q : Int32 → Me → Prop) : Prop := L_X2_settledAt_4 o0 i1 0 0 μ Q
set_option maxHeartbeats 4000000 in
set_option maxRecDepth 100000 in
theorem t_X2_settledAt {x : GX} (f : Fx x cX2_settledAt RX2 4 (rmc 6 0 0)) {o0 : Nat} {i1 : Int32} {μ : Me} {Q : Int32 → Me → Prop} (hq : Rt x (some .int) (qI Q)) (h : S_X2_settledAt o0 i1 μ Q) : G x 4 0 [(0, .ref (gB x + o0)), (1, .int i1)] [] μ 0 0 := by
  unfold S_X2_settledAt at h
  refine g_iconst f 0 dX2_settledAt_0 kc_0 ?_
  refine h_istore_n f dX2_settledAt_1 rfl (by decide) ?_
  refine g_iconst f 0 dX2_settledAt_2 kc_0 ?_
  refine h_istore_n f dX2_settledAt_3 rfl (by decide) ?_
  exact h_sub [2, 3, 1, 0] rfl (tL_X2_settledAt_4 f hq h)
theorem c_X2_settledAt {Ω : OM} {o0 : Nat} {i1 : Int32} {μ : Me} {Q : Int32 → Me → Prop} (h : S_X2_settledAt o0 i1 μ Q) : CT Ω yX2_settledAt cX2_settledAt 4 (some .int) (rmc 6 0 0) [.ref (oB Ω + o0), .int i1] μ (qI Q) := CT_of (by decide) rfl (by simp [lg_sl, Value.category]) (fun x hΩ f hq hi => by subst hΩ; exact t_X2_settledAt f hq h)
theorem dX2_isBetter_0 : decode cX2_isBetter 0 = .ok (.iload_n 0, 1) := by decide +kernel
theorem dX2_isBetter_1 : decode cX2_isBetter 1 = .ok (.invokestatic 59, 3) := by decide +kernel
theorem dX2_isBetter_4 : decode cX2_isBetter 4 = .ok (.istore_n 3, 1) := by decide +kernel
theorem dX2_isBetter_5 : decode cX2_isBetter 5 = .ok (.iload_n 1, 1) := by decide +kernel
theorem dX2_isBetter_6 : decode cX2_isBetter 6 = .ok (.invokestatic 59, 3) := by decide +kernel
theorem dX2_isBetter_9 : decode cX2_isBetter 9 = .ok (.istore 4, 2) := by decide +kernel
theorem dX2_isBetter_11 : decode cX2_isBetter 11 = .ok (.iload_n 2, 1) := by decide +kernel
theorem dX2_isBetter_12 : decode cX2_isBetter 12 = .ok (.ifCond .eq 17, 3) := by decide +kernel
theorem dX2_isBetter_15 : decode cX2_isBetter 15 = .ok (.iload_n 3, 1) := by decide +kernel
theorem dX2_isBetter_16 : decode cX2_isBetter 16 = .ok (.iload 4, 2) := by decide +kernel
theorem dX2_isBetter_18 : decode cX2_isBetter 18 = .ok (.if_icmp .le 7, 3) := by decide +kernel
theorem dX2_isBetter_21 : decode cX2_isBetter 21 = .ok (.iconst 1, 1) := by decide +kernel
theorem dX2_isBetter_22 : decode cX2_isBetter 22 = .ok (.goto 18, 3) := by decide +kernel
theorem dX2_isBetter_25 : decode cX2_isBetter 25 = .ok (.iconst 0, 1) := by decide +kernel
theorem dX2_isBetter_26 : decode cX2_isBetter 26 = .ok (.goto 14, 3) := by decide +kernel
theorem dX2_isBetter_29 : decode cX2_isBetter 29 = .ok (.iload_n 3, 1) := by decide +kernel
theorem dX2_isBetter_30 : decode cX2_isBetter 30 = .ok (.iload 4, 2) := by decide +kernel
theorem dX2_isBetter_32 : decode cX2_isBetter 32 = .ok (.if_icmp .ge 7, 3) := by decide +kernel
theorem dX2_isBetter_35 : decode cX2_isBetter 35 = .ok (.iconst 1, 1) := by decide +kernel
theorem dX2_isBetter_36 : decode cX2_isBetter 36 = .ok (.goto 4, 3) := by decide +kernel
theorem dX2_isBetter_39 : decode cX2_isBetter 39 = .ok (.iconst 0, 1) := by decide +kernel
theorem dX2_isBetter_40 : decode cX2_isBetter 40 = .ok (.ireturn, 1) := by decide +kernel
def S_X2_isBetter (i0 : Int32) (i1 : Int32) (i2 : Int32) (μ : Me) (Q : Int32 → Me → Prop) : Prop := S_J6_bitCount_0f7a4 i0 μ (fun r3 μ1 => S_J6_bitCount_0f7a4 i1 μ1 (fun r6 μ4 => ((i2 = 0 → ((r6 ≤ r3 → Q 0 μ4) ∧ (¬ r6 ≤ r3 → Q 1 μ4))) ∧ (¬ i2 = 0 → ((r3 ≤ r6 → Q 0 μ4) ∧ (¬ r3 ≤ r6 → Q 1 μ4))))))
set_option maxHeartbeats 4000000 in
set_option maxRecDepth 100000 in
theorem t_X2_isBetter {x : GX} (f : Fx x cX2_isBetter RX2 5 (rmc 1 0 0)) {i0 : Int32} {i1 : Int32} {i2 : Int32} {μ : Me} {Q : Int32 → Me → Prop} (hq : Rt x (some .boolean) (qI Q)) (h : S_X2_isBetter i0 i1 i2 μ Q) : G x 5 0 [(0, .int i0), (1, .int i1), (2, .int i2)] [] μ 0 0 := by
  unfold S_X2_isBetter at h
  refine g_iload_n f 0 dX2_isBetter_0 rfl rfl ?_
  refine g_callS f mk_X2_59 (c_J6_bitCount_0f7a4 h) dX2_isBetter_1 rfl rfl (Nat.le_of_ble_eq_true rfl) (rm_ok (by decide) (by decide)) ⟨Nat.le_of_ble_eq_true rfl, Nat.le_of_ble_eq_true rfl⟩ (kI fun r3 μ1 x2 h => ?_)
  refine h_istore_n f dX2_isBetter_4 rfl (by decide) ?_
  refine g_iload_n f 2 dX2_isBetter_5 rfl rfl ?_
  refine g_callS f mk_X2_59 (c_J6_bitCount_0f7a4 h) dX2_isBetter_6 rfl rfl (Nat.le_of_ble_eq_true rfl) (rm_ok (by decide) (by decide)) ⟨Nat.le_of_ble_eq_true rfl, Nat.le_of_ble_eq_true rfl⟩ (kI fun r6 μ4 x5 h => ?_)
  refine h_istore f dX2_isBetter_9 (by decide) ?_
  refine g_iload_n f 4 dX2_isBetter_11 rfl rfl ?_
  refine g_if_eq f 29 dX2_isBetter_12 rfl h (fun h => ?_) (fun h => ?_)
  · refine g_iload_n f 1 dX2_isBetter_29 rfl rfl ?_
    refine g_iload f 0 dX2_isBetter_30 rfl ?_
    refine g_ic_ge f 39 dX2_isBetter_32 rfl h (fun h => ?_) (fun h => ?_)
    · refine g_iconst f 0 dX2_isBetter_39 kc_0 ?_
      exact g_zret f hq (Nat.le_of_ble_eq_true rfl) (Nat.le_of_ble_eq_true rfl) dX2_isBetter_40 zb_0.1 h
    · refine g_iconst f 1 dX2_isBetter_35 kc_1 ?_
      refine g_goto f 40 dX2_isBetter_36 rfl ?_
      exact g_zret f hq (Nat.le_of_ble_eq_true rfl) (Nat.le_of_ble_eq_true rfl) dX2_isBetter_40 zb_1.1 h
  · refine g_iload_n f 1 dX2_isBetter_15 rfl rfl ?_
    refine g_iload f 0 dX2_isBetter_16 rfl ?_
    refine g_ic_le f 25 dX2_isBetter_18 rfl h (fun h => ?_) (fun h => ?_)
    · refine g_iconst f 0 dX2_isBetter_25 kc_0 ?_
      refine g_goto f 40 dX2_isBetter_26 rfl ?_
      exact g_zret f hq (Nat.le_of_ble_eq_true rfl) (Nat.le_of_ble_eq_true rfl) dX2_isBetter_40 zb_0.1 h
    · refine g_iconst f 1 dX2_isBetter_21 kc_1 ?_
      refine g_goto f 40 dX2_isBetter_22 rfl ?_
      exact g_zret f hq (Nat.le_of_ble_eq_true rfl) (Nat.le_of_ble_eq_true rfl) dX2_isBetter_40 zb_1.1 h
theorem c_X2_isBetter {Ω : OM} {i0 : Int32} {i1 : Int32} {i2 : Int32} {μ : Me} {Q : Int32 → Me → Prop} (h : S_X2_isBetter i0 i1 i2 μ Q) : CT Ω yX2_isBetter cX2_isBetter 5 (some .boolean) (rmc 1 0 0) [.int i0, .int i1, .int i2] μ (qI Q) := CT_of (by decide) rfl (by simp [lg_sl, Value.category]) (fun x hΩ f hq hi => by subst hΩ; exact t_X2_isBetter f hq h)
theorem dX2_settledForFewest_0 : decode cX2_settledForFewest 0 = .ok (.iconst (-1), 1) := by decide +kernel
theorem dX2_settledForFewest_1 : decode cX2_settledForFewest 1 = .ok (.istore_n 2, 1) := by decide +kernel
theorem dX2_settledForFewest_2 : decode cX2_settledForFewest 2 = .ok (.iconst 0, 1) := by decide +kernel
theorem dX2_settledForFewest_3 : decode cX2_settledForFewest 3 = .ok (.istore_n 3, 1) := by decide +kernel
theorem dX2_settledForFewest_4 : decode cX2_settledForFewest 4 = .ok (.iload_n 3, 1) := by decide +kernel
theorem dX2_settledForFewest_5 : decode cX2_settledForFewest 5 = .ok (.aload_n 0, 1) := by decide +kernel
theorem dX2_settledForFewest_6 : decode cX2_settledForFewest 6 = .ok (.getfield 25, 3) := by decide +kernel
theorem dX2_settledForFewest_9 : decode cX2_settledForFewest 9 = .ok (.invokevirtual 45, 3) := by decide +kernel
theorem dX2_settledForFewest_12 : decode cX2_settledForFewest 12 = .ok (.if_icmp .ge 33, 3) := by decide +kernel
theorem dX2_settledForFewest_15 : decode cX2_settledForFewest 15 = .ok (.aload_n 0, 1) := by decide +kernel
theorem dX2_settledForFewest_16 : decode cX2_settledForFewest 16 = .ok (.iload_n 3, 1) := by decide +kernel
theorem dX2_settledForFewest_17 : decode cX2_settledForFewest 17 = .ok (.invokevirtual 51, 3) := by decide +kernel
theorem dX2_settledForFewest_20 : decode cX2_settledForFewest 20 = .ok (.ifCond .eq 19, 3) := by decide +kernel
theorem dX2_settledForFewest_23 : decode cX2_settledForFewest 23 = .ok (.iload_n 2, 1) := by decide +kernel
theorem dX2_settledForFewest_24 : decode cX2_settledForFewest 24 = .ok (.iconst (-1), 1) := by decide +kernel
theorem dX2_settledForFewest_25 : decode cX2_settledForFewest 25 = .ok (.if_icmp .eq 12, 3) := by decide +kernel
theorem dX2_settledForFewest_28 : decode cX2_settledForFewest 28 = .ok (.iload_n 3, 1) := by decide +kernel
theorem dX2_settledForFewest_29 : decode cX2_settledForFewest 29 = .ok (.iload_n 2, 1) := by decide +kernel
theorem dX2_settledForFewest_30 : decode cX2_settledForFewest 30 = .ok (.iload_n 1, 1) := by decide +kernel
theorem dX2_settledForFewest_31 : decode cX2_settledForFewest 31 = .ok (.invokestatic 55, 3) := by decide +kernel
theorem dX2_settledForFewest_34 : decode cX2_settledForFewest 34 = .ok (.ifCond .eq 5, 3) := by decide +kernel
theorem dX2_settledForFewest_37 : decode cX2_settledForFewest 37 = .ok (.iload_n 3, 1) := by decide +kernel
theorem dX2_settledForFewest_38 : decode cX2_settledForFewest 38 = .ok (.istore_n 2, 1) := by decide +kernel
theorem dX2_settledForFewest_39 : decode cX2_settledForFewest 39 = .ok (.iinc 3 1, 3) := by decide +kernel
theorem dX2_settledForFewest_42 : decode cX2_settledForFewest 42 = .ok (.goto (-38), 3) := by decide +kernel
theorem dX2_settledForFewest_45 : decode cX2_settledForFewest 45 = .ok (.iload_n 2, 1) := by decide +kernel
theorem dX2_settledForFewest_46 : decode cX2_settledForFewest 46 = .ok (.ireturn, 1) := by decide +kernel
def B_X2_settledForFewest_39 (o0 : Nat) (i1 : Int32) (i2 : Int32) (i3 : Int32) (μ : Me) (K4 : Int32 → Int32 → Me → Prop) (Q : Int32 → Me → Prop) : Prop := K4 i2 (i3 + 1) μ
set_option maxHeartbeats 4000000 in
set_option maxRecDepth 100000 in
theorem tB_X2_settledForFewest_39 {x : GX} (f : Fx x cX2_settledForFewest RX2 4 (rmc 6 0 0)) {o0 : Nat} {i1 : Int32} {i2 : Int32} {i3 : Int32} {μ : Me} {Q : Int32 → Me → Prop} (hq : Rt x (some .int) (qI Q)) {K4 : Int32 → Int32 → Me → Prop} (hK4 : ∀ (a2 : Int32) (a3 : Int32) (ν : Me), K4 a2 a3 ν → G x 4 4 [(0, .ref (gB x + o0)), (1, .int i1), (2, .int a2), (3, .int a3)] [] ν 0 0) (h : B_X2_settledForFewest_39 o0 i1 i2 i3 μ K4 Q) : G x 4 39 [(0, .ref (gB x + o0)), (1, .int i1), (2, .int i2), (3, .int i3)] [] μ 0 0 := by
  unfold B_X2_settledForFewest_39 at h
  refine h_iinc f 3 1 dX2_settledForFewest_39 rfl kc_1 (by decide) ?_
  refine g_goto f 4 dX2_settledForFewest_42 rfl ?_
  exact h_sub [1, 2, 3, 0] rfl (hK4 _ _ _ h)
def B_X2_settledForFewest_37 (o0 : Nat) (i1 : Int32) (i3 : Int32) (μ : Me) (K4 : Int32 → Int32 → Me → Prop) (Q : Int32 → Me → Prop) : Prop := B_X2_settledForFewest_39 o0 i1 i3 i3 μ K4 Q
set_option maxHeartbeats 4000000 in
set_option maxRecDepth 100000 in
theorem tB_X2_settledForFewest_37 {x : GX} (f : Fx x cX2_settledForFewest RX2 4 (rmc 6 0 0)) {o0 : Nat} {i1 : Int32} {i3 : Int32} {μ : Me} {Q : Int32 → Me → Prop} (hq : Rt x (some .int) (qI Q)) {K4 : Int32 → Int32 → Me → Prop} (hK4 : ∀ (a2 : Int32) (a3 : Int32) (ν : Me), K4 a2 a3 ν → G x 4 4 [(0, .ref (gB x + o0)), (1, .int i1), (2, .int a2), (3, .int a3)] [] ν 0 0) (h : B_X2_settledForFewest_37 o0 i1 i3 μ K4 Q) : G x 4 37 [(0, .ref (gB x + o0)), (1, .int i1), (3, .int i3)] [] μ 0 0 := by
  unfold B_X2_settledForFewest_37 at h
  refine g_iload_n f 2 dX2_settledForFewest_37 rfl rfl ?_
  refine h_istore_n f dX2_settledForFewest_38 rfl (by decide) ?_
  exact h_sub [1, 2, 0, 3] rfl (tB_X2_settledForFewest_39 f hq hK4 h)
def B_X2_settledForFewest_4 (o0 : Nat) (i1 : Int32) (i2 : Int32) (i3 : Int32) (μ : Me) (K4 : Int32 → Int32 → Me → Prop) (Q : Int32 → Me → Prop) : Prop := mok μ o0 2 ∧ ∃ t2, mgr μ o0 0 = some t2 ∧ mok μ t2 9 ∧ S_X9_allRings t2 μ (fun r6 μ4 => ((r6 ≤ i3 → Q i2 μ4) ∧ (¬ r6 ≤ i3 → S_X2_isSettled o0 i3 μ4 (fun r9 μ7 => ((r9 = 0 → B_X2_settledForFewest_39 o0 i1 i2 i3 μ7 K4 Q) ∧ (¬ r9 = 0 → ((i2 = (-1) → B_X2_settledForFewest_37 o0 i1 i3 μ7 K4 Q) ∧ (¬ i2 = (-1) → S_X2_isBetter i3 i2 i1 μ7 (fun r12 μ10 => ((r12 = 0 → B_X2_settledForFewest_39 o0 i1 i2 i3 μ10 K4 Q) ∧ (¬ r12 = 0 → B_X2_settledForFewest_37 o0 i1 i3 μ10 K4 Q)))))))))))
set_option maxHeartbeats 4000000 in
set_option maxRecDepth 100000 in
theorem tB_X2_settledForFewest_4 {x : GX} (f : Fx x cX2_settledForFewest RX2 4 (rmc 6 0 0)) {o0 : Nat} {i1 : Int32} {i2 : Int32} {i3 : Int32} {μ : Me} {Q : Int32 → Me → Prop} (hq : Rt x (some .int) (qI Q)) {K4 : Int32 → Int32 → Me → Prop} (hK4 : ∀ (a2 : Int32) (a3 : Int32) (ν : Me), K4 a2 a3 ν → G x 4 4 [(0, .ref (gB x + o0)), (1, .int i1), (2, .int a2), (3, .int a3)] [] ν 0 0) (h : B_X2_settledForFewest_4 o0 i1 i2 i3 μ K4 Q) : G x 4 4 [(0, .ref (gB x + o0)), (1, .int i1), (2, .int i2), (3, .int i3)] [] μ 0 0 := by
  unfold B_X2_settledForFewest_4 at h
  refine g_iload_n f 3 dX2_settledForFewest_4 rfl rfl ?_
  refine g_aload_n f 0 dX2_settledForFewest_5 rfl rfl ?_
  obtain ⟨v1, h⟩ := h
  refine g_getR f fk_X2_25 v1 dX2_settledForFewest_6 rfl h (fun t2 h => ?_)
  obtain ⟨v3, h⟩ := h
  refine g_callV f mk_X2_45 v3 (c_X9_allRings h) dX2_settledForFewest_9 rfl rfl (Nat.le_of_ble_eq_true rfl) (rm_ok (by decide) (by decide)) ⟨Nat.le_of_ble_eq_true rfl, Nat.le_of_ble_eq_true rfl⟩ (kI fun r6 μ4 x5 h => ?_)
  refine g_ic_ge f 45 dX2_settledForFewest_12 rfl h (fun h => ?_) (fun h => ?_)
  · refine g_iload_n f 2 dX2_settledForFewest_45 rfl rfl ?_
    exact g_iret f hq (Nat.le_of_ble_eq_true rfl) (Nat.le_of_ble_eq_true rfl) dX2_settledForFewest_46 h
  · refine g_aload_n f 0 dX2_settledForFewest_15 rfl rfl ?_
    refine g_iload_n f 3 dX2_settledForFewest_16 rfl rfl ?_
    have v1 := mex_ok x5 v1
    refine g_callV f mk_X2_51 v1 (c_X2_isSettled h) dX2_settledForFewest_17 rfl rfl (Nat.le_of_ble_eq_true rfl) (rm_ok (by decide) (by decide)) ⟨Nat.le_of_ble_eq_true rfl, Nat.le_of_ble_eq_true rfl⟩ (kI fun r9 μ7 x8 h => ?_)
    refine g_if_eq f 39 dX2_settledForFewest_20 rfl h (fun h => ?_) (fun h => ?_)
    · exact h_sub [0, 1, 2, 3] rfl (tB_X2_settledForFewest_39 f hq hK4 h)
    · refine g_iload_n f 2 dX2_settledForFewest_23 rfl rfl ?_
      refine g_iconst f (-1) dX2_settledForFewest_24 kc_m1 ?_
      refine g_ic_eq f 37 dX2_settledForFewest_25 rfl h (fun h => ?_) (fun h => ?_)
      · exact h_sub [0, 1, 3] rfl (tB_X2_settledForFewest_37 f hq hK4 h)
      · refine g_iload_n f 3 dX2_settledForFewest_28 rfl rfl ?_
        refine g_iload_n f 2 dX2_settledForFewest_29 rfl rfl ?_
        refine g_iload_n f 1 dX2_settledForFewest_30 rfl rfl ?_
        refine g_callS f mk_X2_55 (c_X2_isBetter h) dX2_settledForFewest_31 rfl rfl (Nat.le_of_ble_eq_true rfl) (rm_ok (by decide) (by decide)) ⟨Nat.le_of_ble_eq_true rfl, Nat.le_of_ble_eq_true rfl⟩ (kI fun r12 μ10 x11 h => ?_)
        refine g_if_eq f 39 dX2_settledForFewest_34 rfl h (fun h => ?_) (fun h => ?_)
        · exact h_sub [0, 1, 2, 3] rfl (tB_X2_settledForFewest_39 f hq hK4 h)
        · exact h_sub [0, 1, 3] rfl (tB_X2_settledForFewest_37 f hq hK4 h)
def L_X2_settledForFewest_4 (o0 : Nat) (i1 : Int32) (i2 : Int32) (i3 : Int32) (μ : Me) (Q : Int32 → Me → Prop) : Prop := ∃ I : Int32 → Int32 → Me → Nat → Prop, (∃ n, I i2 i3 μ n) ∧ ∀ (i2 : Int32) (i3 : Int32) (μ : Me) (n : Nat), I i2 i3 μ n → B_X2_settledForFewest_4 o0 i1 i2 i3 μ (fun a2 a3 ν => ∃ n', n' < n ∧ I a2 a3 ν n') Q
set_option maxHeartbeats 4000000 in
set_option maxRecDepth 100000 in
theorem tL_X2_settledForFewest_4 {x : GX} (f : Fx x cX2_settledForFewest RX2 4 (rmc 6 0 0)) {o0 : Nat} {i1 : Int32} {i2 : Int32} {i3 : Int32} {μ : Me} {Q : Int32 → Me → Prop} (hq : Rt x (some .int) (qI Q)) (h : L_X2_settledForFewest_4 o0 i1 i2 i3 μ Q) : G x 4 4 [(0, .ref (gB x + o0)), (1, .int i1), (2, .int i2), (3, .int i3)] [] μ 0 0 := by
  obtain ⟨I, ⟨n, hI⟩, hs⟩ := h
  induction n using Nat.strongRecOn generalizing i2 i3 μ with
  | ind n ih => exact tB_X2_settledForFewest_4 f hq (fun a2 a3 ν hk => by obtain ⟨n2, hn, hI2⟩ := hk; exact ih n2 hn hI2) (hs _ _ _ _ hI)
def S_X2_settledForFewest (o0 : Nat) (i1 : Int32) (μ : Me) (Q : Int32 → Me → Prop) : Prop := L_X2_settledForFewest_4 o0 i1 (-1) 0 μ Q
set_option maxHeartbeats 4000000 in
set_option maxRecDepth 100000 in
theorem t_X2_settledForFewest {x : GX} (f : Fx x cX2_settledForFewest RX2 4 (rmc 6 0 0)) {o0 : Nat} {i1 : Int32} {μ : Me} {Q : Int32 → Me → Prop} (hq : Rt x (some .int) (qI Q)) (h : S_X2_settledForFewest o0 i1 μ Q) : G x 4 0 [(0, .ref (gB x + o0)), (1, .int i1)] [] μ 0 0 := by
  unfold S_X2_settledForFewest at h
  refine g_iconst f (-1) dX2_settledForFewest_0 kc_m1 ?_
  refine h_istore_n f dX2_settledForFewest_1 rfl (by decide) ?_
  refine g_iconst f 0 dX2_settledForFewest_2 kc_0 ?_
  refine h_istore_n f dX2_settledForFewest_3 rfl (by decide) ?_
  exact h_sub [2, 3, 1, 0] rfl (tL_X2_settledForFewest_4 f hq h)
theorem c_X2_settledForFewest {Ω : OM} {o0 : Nat} {i1 : Int32} {μ : Me} {Q : Int32 → Me → Prop} (h : S_X2_settledForFewest o0 i1 μ Q) : CT Ω yX2_settledForFewest cX2_settledForFewest 4 (some .int) (rmc 6 0 0) [.ref (oB Ω + o0), .int i1] μ (qI Q) := CT_of (by decide) rfl (by simp [lg_sl, Value.category]) (fun x hΩ f hq hi => by subst hΩ; exact t_X2_settledForFewest f hq h)
theorem dX2_clearMarks_0 : decode cX2_clearMarks 0 = .ok (.iconst 0, 1) := by decide +kernel
theorem dX2_clearMarks_1 : decode cX2_clearMarks 1 = .ok (.istore_n 1, 1) := by decide +kernel
theorem dX2_clearMarks_2 : decode cX2_clearMarks 2 = .ok (.iload_n 1, 1) := by decide +kernel
theorem dX2_clearMarks_3 : decode cX2_clearMarks 3 = .ok (.aload_n 0, 1) := by decide +kernel
theorem dX2_clearMarks_4 : decode cX2_clearMarks 4 = .ok (.getfield 25, 3) := by decide +kernel
theorem dX2_clearMarks_7 : decode cX2_clearMarks 7 = .ok (.invokevirtual 45, 3) := by decide +kernel
theorem dX2_clearMarks_10 : decode cX2_clearMarks 10 = .ok (.if_icmp .ge 16, 3) := by decide +kernel
theorem dX2_clearMarks_13 : decode cX2_clearMarks 13 = .ok (.aload_n 0, 1) := by decide +kernel
theorem dX2_clearMarks_14 : decode cX2_clearMarks 14 = .ok (.getfield 18, 3) := by decide +kernel
theorem dX2_clearMarks_17 : decode cX2_clearMarks 17 = .ok (.iload_n 1, 1) := by decide +kernel
theorem dX2_clearMarks_18 : decode cX2_clearMarks 18 = .ok (.iconst 0, 1) := by decide +kernel
theorem dX2_clearMarks_19 : decode cX2_clearMarks 19 = .ok (.iastore, 1) := by decide +kernel
theorem dX2_clearMarks_20 : decode cX2_clearMarks 20 = .ok (.iinc 1 1, 3) := by decide +kernel
theorem dX2_clearMarks_23 : decode cX2_clearMarks 23 = .ok (.goto (-21), 3) := by decide +kernel
theorem dX2_clearMarks_26 : decode cX2_clearMarks 26 = .ok (.return_, 1) := by decide +kernel
def B_X2_clearMarks_2 (o0 : Nat) (i1 : Int32) (μ : Me) (K2 : Int32 → Me → Prop) (Q : Me → Prop) : Prop := mok μ o0 2 ∧ ∃ t2, mgr μ o0 0 = some t2 ∧ mok μ t2 9 ∧ S_X9_allRings t2 μ (fun r6 μ4 => ((r6 ≤ i1 → Q μ4) ∧ (¬ r6 ≤ i1 → ∃ t7, mgr μ4 o0 4 = some t7 ∧ mok μ4 t7 12 ∧ vp_in i1 (mln μ4 t7) ∧ ∀ μ9, μ9 = msi μ4 t7 i1.toNatClampNeg 0 → K2 (i1 + 1) μ9)))
set_option maxHeartbeats 4000000 in
set_option maxRecDepth 100000 in
theorem tB_X2_clearMarks_2 {x : GX} (f : Fx x cX2_clearMarks RX2 2 (rmc 1 0 0)) {o0 : Nat} {i1 : Int32} {μ : Me} {Q : Me → Prop} (hq : Rt x none (qV Q)) {K2 : Int32 → Me → Prop} (hK2 : ∀ (a1 : Int32) (ν : Me), K2 a1 ν → G x 2 2 [(0, .ref (gB x + o0)), (1, .int a1)] [] ν 0 0) (h : B_X2_clearMarks_2 o0 i1 μ K2 Q) : G x 2 2 [(0, .ref (gB x + o0)), (1, .int i1)] [] μ 0 0 := by
  unfold B_X2_clearMarks_2 at h
  refine g_iload_n f 1 dX2_clearMarks_2 rfl rfl ?_
  refine g_aload_n f 0 dX2_clearMarks_3 rfl rfl ?_
  obtain ⟨v1, h⟩ := h
  refine g_getR f fk_X2_25 v1 dX2_clearMarks_4 rfl h (fun t2 h => ?_)
  obtain ⟨v3, h⟩ := h
  refine g_callV f mk_X2_45 v3 (c_X9_allRings h) dX2_clearMarks_7 rfl rfl (Nat.le_of_ble_eq_true rfl) (rm_ok (by decide) (by decide)) ⟨Nat.le_of_ble_eq_true rfl, Nat.le_of_ble_eq_true rfl⟩ (kI fun r6 μ4 x5 h => ?_)
  refine g_ic_ge f 26 dX2_clearMarks_10 rfl h (fun h => ?_) (fun h => ?_)
  · exact g_vret f hq (Nat.le_of_ble_eq_true rfl) (Nat.le_of_ble_eq_true rfl) dX2_clearMarks_26 h
  · refine g_aload_n f 0 dX2_clearMarks_13 rfl rfl ?_
    have v1 := mex_ok x5 v1
    refine g_getR f fk_X2_18 v1 dX2_clearMarks_14 rfl h (fun t7 h => ?_)
    refine g_iload_n f 1 dX2_clearMarks_17 rfl rfl ?_
    refine g_iconst f 0 dX2_clearMarks_18 kc_0 ?_
    obtain ⟨v8, h⟩ := h
    refine g_iast f v8 dX2_clearMarks_19 h (fun h => ?_)
    refine h_iinc f 1 1 dX2_clearMarks_20 rfl kc_1 (by decide) ?_
    refine g_goto f 2 dX2_clearMarks_23 rfl ?_
    exact h_sub [1, 0] rfl (hK2 _ _ h)
def L_X2_clearMarks_2 (o0 : Nat) (i1 : Int32) (μ : Me) (Q : Me → Prop) : Prop := ∃ I : Int32 → Me → Nat → Prop, (∃ n, I i1 μ n) ∧ ∀ (i1 : Int32) (μ : Me) (n : Nat), I i1 μ n → B_X2_clearMarks_2 o0 i1 μ (fun a1 ν => ∃ n', n' < n ∧ I a1 ν n') Q
set_option maxHeartbeats 4000000 in
set_option maxRecDepth 100000 in
theorem tL_X2_clearMarks_2 {x : GX} (f : Fx x cX2_clearMarks RX2 2 (rmc 1 0 0)) {o0 : Nat} {i1 : Int32} {μ : Me} {Q : Me → Prop} (hq : Rt x none (qV Q)) (h : L_X2_clearMarks_2 o0 i1 μ Q) : G x 2 2 [(0, .ref (gB x + o0)), (1, .int i1)] [] μ 0 0 := by
  obtain ⟨I, ⟨n, hI⟩, hs⟩ := h
  induction n using Nat.strongRecOn generalizing i1 μ with
  | ind n ih => exact tB_X2_clearMarks_2 f hq (fun a1 ν hk => by obtain ⟨n2, hn, hI2⟩ := hk; exact ih n2 hn hI2) (hs _ _ _ hI)
def S_X2_clearMarks (o0 : Nat) (μ : Me) (Q : Me → Prop) : Prop := L_X2_clearMarks_2 o0 0 μ Q
set_option maxHeartbeats 4000000 in
set_option maxRecDepth 100000 in
theorem t_X2_clearMarks {x : GX} (f : Fx x cX2_clearMarks RX2 2 (rmc 1 0 0)) {o0 : Nat} {μ : Me} {Q : Me → Prop} (hq : Rt x none (qV Q)) (h : S_X2_clearMarks o0 μ Q) : G x 2 0 [(0, .ref (gB x + o0))] [] μ 0 0 := by
  unfold S_X2_clearMarks at h
  refine g_iconst f 0 dX2_clearMarks_0 kc_0 ?_
  refine h_istore_n f dX2_clearMarks_1 rfl (by decide) ?_
  exact h_sub [1, 0] rfl (tL_X2_clearMarks_2 f hq h)
theorem c_X2_clearMarks {Ω : OM} {o0 : Nat} {μ : Me} {Q : Me → Prop} (h : S_X2_clearMarks o0 μ Q) : CT Ω yX2_clearMarks cX2_clearMarks 2 none (rmc 1 0 0) [.ref (oB Ω + o0)] μ (qV Q) := CT_of (by decide) rfl (by simp [lg_sl, Value.category]) (fun x hΩ f hq hi => by subst hΩ; exact t_X2_clearMarks f hq h)
theorem dX2_walkFrom_0 : decode cX2_walkFrom 0 = .ok (.aload_n 0, 1) := by decide +kernel
theorem dX2_walkFrom_1 : decode cX2_walkFrom 1 = .ok (.invokevirtual 64, 3) := by decide +kernel
theorem dX2_walkFrom_4 : decode cX2_walkFrom 4 = .ok (.iload_n 1, 1) := by decide +kernel
theorem dX2_walkFrom_5 : decode cX2_walkFrom 5 = .ok (.istore_n 2, 1) := by decide +kernel
theorem dX2_walkFrom_6 : decode cX2_walkFrom 6 = .ok (.iconst 1, 1) := by decide +kernel
theorem dX2_walkFrom_7 : decode cX2_walkFrom 7 = .ok (.istore_n 3, 1) := by decide +kernel
theorem dX2_walkFrom_8 : decode cX2_walkFrom 8 = .ok (.iload_n 3, 1) := by decide +kernel
theorem dX2_walkFrom_9 : decode cX2_walkFrom 9 = .ok (.aload_n 0, 1) := by decide +kernel
theorem dX2_walkFrom_10 : decode cX2_walkFrom 10 = .ok (.getfield 25, 3) := by decide +kernel
theorem dX2_walkFrom_13 : decode cX2_walkFrom 13 = .ok (.invokevirtual 45, 3) := by decide +kernel
theorem dX2_walkFrom_16 : decode cX2_walkFrom 16 = .ok (.if_icmp .gt 31, 3) := by decide +kernel
theorem dX2_walkFrom_19 : decode cX2_walkFrom 19 = .ok (.aload_n 0, 1) := by decide +kernel
theorem dX2_walkFrom_20 : decode cX2_walkFrom 20 = .ok (.getfield 18, 3) := by decide +kernel
theorem dX2_walkFrom_23 : decode cX2_walkFrom 23 = .ok (.iload_n 2, 1) := by decide +kernel
theorem dX2_walkFrom_24 : decode cX2_walkFrom 24 = .ok (.iaload, 1) := by decide +kernel
theorem dX2_walkFrom_25 : decode cX2_walkFrom 25 = .ok (.ifCond .ne 22, 3) := by decide +kernel
theorem dX2_walkFrom_28 : decode cX2_walkFrom 28 = .ok (.aload_n 0, 1) := by decide +kernel
theorem dX2_walkFrom_29 : decode cX2_walkFrom 29 = .ok (.getfield 18, 3) := by decide +kernel
theorem dX2_walkFrom_32 : decode cX2_walkFrom 32 = .ok (.iload_n 2, 1) := by decide +kernel
theorem dX2_walkFrom_33 : decode cX2_walkFrom 33 = .ok (.iload_n 3, 1) := by decide +kernel
theorem dX2_walkFrom_34 : decode cX2_walkFrom 34 = .ok (.iastore, 1) := by decide +kernel
theorem dX2_walkFrom_35 : decode cX2_walkFrom 35 = .ok (.aload_n 0, 1) := by decide +kernel
theorem dX2_walkFrom_36 : decode cX2_walkFrom 36 = .ok (.iload_n 2, 1) := by decide +kernel
theorem dX2_walkFrom_37 : decode cX2_walkFrom 37 = .ok (.invokevirtual 42, 3) := by decide +kernel
theorem dX2_walkFrom_40 : decode cX2_walkFrom 40 = .ok (.istore_n 2, 1) := by decide +kernel
theorem dX2_walkFrom_41 : decode cX2_walkFrom 41 = .ok (.iinc 3 1, 3) := by decide +kernel
theorem dX2_walkFrom_44 : decode cX2_walkFrom 44 = .ok (.goto (-36), 3) := by decide +kernel
theorem dX2_walkFrom_47 : decode cX2_walkFrom 47 = .ok (.iload_n 2, 1) := by decide +kernel
theorem dX2_walkFrom_48 : decode cX2_walkFrom 48 = .ok (.ireturn, 1) := by decide +kernel
def B_X2_walkFrom_8 (o0 : Nat) (i2 : Int32) (i3 : Int32) (μ : Me) (K8 : Int32 → Int32 → Me → Prop) (Q : Int32 → Me → Prop) : Prop := mok μ o0 2 ∧ ∃ t6, mgr μ o0 0 = some t6 ∧ mok μ t6 9 ∧ S_X9_allRings t6 μ (fun r10 μ8 => ((r10 < i3 → Q i2 μ8) ∧ (¬ r10 < i3 → ∃ t11, mgr μ8 o0 4 = some t11 ∧ mok μ8 t11 12 ∧ vp_in i2 (mln μ8 t11) ∧ ((¬ (mgi μ8 t11 i2.toNatClampNeg) = 0 → Q i2 μ8) ∧ ((mgi μ8 t11 i2.toNatClampNeg) = 0 → ∃ t13, mgr μ8 o0 4 = some t13 ∧ mok μ8 t13 12 ∧ vp_in i2 (mln μ8 t13) ∧ ∀ μ15, μ15 = msi μ8 t13 i2.toNatClampNeg i3 → S_X2_next o0 i2 μ15 (fun r18 μ16 => K8 r18 (i3 + 1) μ16))))))
set_option maxHeartbeats 4000000 in
set_option maxRecDepth 100000 in
theorem tB_X2_walkFrom_8 {x : GX} (f : Fx x cX2_walkFrom RX2 4 (rmc 5 0 0)) {o0 : Nat} {i2 : Int32} {i3 : Int32} {μ : Me} {Q : Int32 → Me → Prop} (hq : Rt x (some .int) (qI Q)) {K8 : Int32 → Int32 → Me → Prop} (hK8 : ∀ (a2 : Int32) (a3 : Int32) (ν : Me), K8 a2 a3 ν → G x 4 8 [(0, .ref (gB x + o0)), (2, .int a2), (3, .int a3)] [] ν 0 0) (h : B_X2_walkFrom_8 o0 i2 i3 μ K8 Q) : G x 4 8 [(0, .ref (gB x + o0)), (2, .int i2), (3, .int i3)] [] μ 0 0 := by
  unfold B_X2_walkFrom_8 at h
  refine g_iload_n f 2 dX2_walkFrom_8 rfl rfl ?_
  refine g_aload_n f 0 dX2_walkFrom_9 rfl rfl ?_
  obtain ⟨v5, h⟩ := h
  refine g_getR f fk_X2_25 v5 dX2_walkFrom_10 rfl h (fun t6 h => ?_)
  obtain ⟨v7, h⟩ := h
  refine g_callV f mk_X2_45 v7 (c_X9_allRings h) dX2_walkFrom_13 rfl rfl (Nat.le_of_ble_eq_true rfl) (rm_ok (by decide) (by decide)) ⟨Nat.le_of_ble_eq_true rfl, Nat.le_of_ble_eq_true rfl⟩ (kI fun r10 μ8 x9 h => ?_)
  refine g_ic_gt f 47 dX2_walkFrom_16 rfl h (fun h => ?_) (fun h => ?_)
  · refine g_iload_n f 1 dX2_walkFrom_47 rfl rfl ?_
    exact g_iret f hq (Nat.le_of_ble_eq_true rfl) (Nat.le_of_ble_eq_true rfl) dX2_walkFrom_48 h
  · refine g_aload_n f 0 dX2_walkFrom_19 rfl rfl ?_
    have v5 := mex_ok x9 v5
    refine g_getR f fk_X2_18 v5 dX2_walkFrom_20 rfl h (fun t11 h => ?_)
    refine g_iload_n f 1 dX2_walkFrom_23 rfl rfl ?_
    obtain ⟨v12, h⟩ := h
    refine g_iald f v12 dX2_walkFrom_24 h (fun h => ?_)
    refine g_if_ne f 47 dX2_walkFrom_25 rfl h (fun h => ?_) (fun h => ?_)
    · refine g_iload_n f 1 dX2_walkFrom_47 rfl rfl ?_
      exact g_iret f hq (Nat.le_of_ble_eq_true rfl) (Nat.le_of_ble_eq_true rfl) dX2_walkFrom_48 h
    · refine g_aload_n f 0 dX2_walkFrom_28 rfl rfl ?_
      refine g_getR f fk_X2_18 v5 dX2_walkFrom_29 rfl h (fun t13 h => ?_)
      refine g_iload_n f 1 dX2_walkFrom_32 rfl rfl ?_
      refine g_iload_n f 2 dX2_walkFrom_33 rfl rfl ?_
      obtain ⟨v14, h⟩ := h
      refine g_iast f v14 dX2_walkFrom_34 h (fun h => ?_)
      refine g_aload_n f 0 dX2_walkFrom_35 rfl rfl ?_
      refine g_iload_n f 1 dX2_walkFrom_36 rfl rfl ?_
      refine g_callV f mk_X2_42 v5 (c_X2_next h) dX2_walkFrom_37 rfl rfl (Nat.le_of_ble_eq_true rfl) (rm_ok (by decide) (by decide)) ⟨Nat.le_of_ble_eq_true rfl, Nat.le_of_ble_eq_true rfl⟩ (kI fun r18 μ16 x17 h => ?_)
      refine h_istore_n f dX2_walkFrom_40 rfl (by decide) ?_
      refine h_iinc f 2 1 dX2_walkFrom_41 rfl kc_1 (by decide) ?_
      refine g_goto f 8 dX2_walkFrom_44 rfl ?_
      exact h_sub [2, 1, 0] rfl (hK8 _ _ _ h)
def L_X2_walkFrom_8 (o0 : Nat) (i2 : Int32) (i3 : Int32) (μ : Me) (Q : Int32 → Me → Prop) : Prop := ∃ I : Int32 → Int32 → Me → Nat → Prop, (∃ n, I i2 i3 μ n) ∧ ∀ (i2 : Int32) (i3 : Int32) (μ : Me) (n : Nat), I i2 i3 μ n → B_X2_walkFrom_8 o0 i2 i3 μ (fun a2 a3 ν => ∃ n', n' < n ∧ I a2 a3 ν n') Q
set_option maxHeartbeats 4000000 in
set_option maxRecDepth 100000 in
theorem tL_X2_walkFrom_8 {x : GX} (f : Fx x cX2_walkFrom RX2 4 (rmc 5 0 0)) {o0 : Nat} {i2 : Int32} {i3 : Int32} {μ : Me} {Q : Int32 → Me → Prop} (hq : Rt x (some .int) (qI Q)) (h : L_X2_walkFrom_8 o0 i2 i3 μ Q) : G x 4 8 [(0, .ref (gB x + o0)), (2, .int i2), (3, .int i3)] [] μ 0 0 := by
  obtain ⟨I, ⟨n, hI⟩, hs⟩ := h
  induction n using Nat.strongRecOn generalizing i2 i3 μ with
  | ind n ih => exact tB_X2_walkFrom_8 f hq (fun a2 a3 ν hk => by obtain ⟨n2, hn, hI2⟩ := hk; exact ih n2 hn hI2) (hs _ _ _ _ hI)
def S_X2_walkFrom (o0 : Nat) (i1 : Int32) (μ : Me) (Q : Int32 → Me → Prop) : Prop := mok μ o0 2 ∧ S_X2_clearMarks o0 μ (fun μ2 => L_X2_walkFrom_8 o0 i1 1 μ2 Q)
set_option maxHeartbeats 4000000 in
set_option maxRecDepth 100000 in
theorem t_X2_walkFrom {x : GX} (f : Fx x cX2_walkFrom RX2 4 (rmc 5 0 0)) {o0 : Nat} {i1 : Int32} {μ : Me} {Q : Int32 → Me → Prop} (hq : Rt x (some .int) (qI Q)) (h : S_X2_walkFrom o0 i1 μ Q) : G x 4 0 [(0, .ref (gB x + o0)), (1, .int i1)] [] μ 0 0 := by
  unfold S_X2_walkFrom at h
  refine g_aload_n f 0 dX2_walkFrom_0 rfl rfl ?_
  obtain ⟨v1, h⟩ := h
  refine g_callV f mk_X2_64 v1 (c_X2_clearMarks h) dX2_walkFrom_1 rfl rfl (Nat.le_of_ble_eq_true rfl) (rm_ok (by decide) (by decide)) ⟨Nat.le_of_ble_eq_true rfl, Nat.le_of_ble_eq_true rfl⟩ (kV fun μ2 x3 h => ?_)
  refine g_iload_n f 1 dX2_walkFrom_4 rfl rfl ?_
  refine h_istore_n f dX2_walkFrom_5 rfl (by decide) ?_
  refine g_iconst f 1 dX2_walkFrom_6 kc_1 ?_
  refine h_istore_n f dX2_walkFrom_7 rfl (by decide) ?_
  exact h_sub [2, 1, 0] rfl (tL_X2_walkFrom_8 f hq h)
theorem c_X2_walkFrom {Ω : OM} {o0 : Nat} {i1 : Int32} {μ : Me} {Q : Int32 → Me → Prop} (h : S_X2_walkFrom o0 i1 μ Q) : CT Ω yX2_walkFrom cX2_walkFrom 4 (some .int) (rmc 5 0 0) [.ref (oB Ω + o0), .int i1] μ (qI Q) := CT_of (by decide) rfl (by simp [lg_sl, Value.category]) (fun x hΩ f hq hi => by subst hΩ; exact t_X2_walkFrom f hq h)
theorem dX2_tailOf_0 : decode cX2_tailOf 0 = .ok (.aload_n 0, 1) := by decide +kernel
theorem dX2_tailOf_1 : decode cX2_tailOf 1 = .ok (.getfield 18, 3) := by decide +kernel
theorem dX2_tailOf_4 : decode cX2_tailOf 4 = .ok (.aload_n 0, 1) := by decide +kernel
theorem dX2_tailOf_5 : decode cX2_tailOf 5 = .ok (.iload_n 1, 1) := by decide +kernel
theorem dX2_tailOf_6 : decode cX2_tailOf 6 = .ok (.invokevirtual 67, 3) := by decide +kernel
theorem dX2_tailOf_9 : decode cX2_tailOf 9 = .ok (.iaload, 1) := by decide +kernel
theorem dX2_tailOf_10 : decode cX2_tailOf 10 = .ok (.iconst 1, 1) := by decide +kernel
theorem dX2_tailOf_11 : decode cX2_tailOf 11 = .ok (.isub, 1) := by decide +kernel
theorem dX2_tailOf_12 : decode cX2_tailOf 12 = .ok (.ireturn, 1) := by decide +kernel
def S_X2_tailOf (o0 : Nat) (i1 : Int32) (μ : Me) (Q : Int32 → Me → Prop) : Prop := mok μ o0 2 ∧ ∃ t2, mgr μ o0 4 = some t2 ∧ S_X2_walkFrom o0 i1 μ (fun r5 μ3 => mok μ3 t2 12 ∧ vp_in r5 (mln μ3 t2) ∧ Q ((mgi μ3 t2 r5.toNatClampNeg) - 1) μ3)
set_option maxHeartbeats 4000000 in
set_option maxRecDepth 100000 in
theorem t_X2_tailOf {x : GX} (f : Fx x cX2_tailOf RX2 2 (rmc 6 0 0)) {o0 : Nat} {i1 : Int32} {μ : Me} {Q : Int32 → Me → Prop} (hq : Rt x (some .int) (qI Q)) (h : S_X2_tailOf o0 i1 μ Q) : G x 2 0 [(0, .ref (gB x + o0)), (1, .int i1)] [] μ 0 0 := by
  unfold S_X2_tailOf at h
  refine g_aload_n f 0 dX2_tailOf_0 rfl rfl ?_
  obtain ⟨v1, h⟩ := h
  refine g_getR f fk_X2_18 v1 dX2_tailOf_1 rfl h (fun t2 h => ?_)
  refine g_aload_n f 0 dX2_tailOf_4 rfl rfl ?_
  refine g_iload_n f 1 dX2_tailOf_5 rfl rfl ?_
  refine g_callV f mk_X2_67 v1 (c_X2_walkFrom h) dX2_tailOf_6 rfl rfl (Nat.le_of_ble_eq_true rfl) (rm_ok (by decide) (by decide)) ⟨Nat.le_of_ble_eq_true rfl, Nat.le_of_ble_eq_true rfl⟩ (kI fun r5 μ3 x4 h => ?_)
  obtain ⟨v6, h⟩ := h
  refine g_iald f v6 dX2_tailOf_9 h (fun h => ?_)
  refine g_iconst f 1 dX2_tailOf_10 kc_1 ?_
  refine g_isub f dX2_tailOf_11 ?_
  exact g_iret f hq (Nat.le_of_ble_eq_true rfl) (Nat.le_of_ble_eq_true rfl) dX2_tailOf_12 h
theorem c_X2_tailOf {Ω : OM} {o0 : Nat} {i1 : Int32} {μ : Me} {Q : Int32 → Me → Prop} (h : S_X2_tailOf o0 i1 μ Q) : CT Ω yX2_tailOf cX2_tailOf 2 (some .int) (rmc 6 0 0) [.ref (oB Ω + o0), .int i1] μ (qI Q) := CT_of (by decide) rfl (by simp [lg_sl, Value.category]) (fun x hΩ f hq hi => by subst hΩ; exact t_X2_tailOf f hq h)
theorem dX2_roundOf_0 : decode cX2_roundOf 0 = .ok (.aload_n 0, 1) := by decide +kernel
theorem dX2_roundOf_1 : decode cX2_roundOf 1 = .ok (.iload_n 1, 1) := by decide +kernel
theorem dX2_roundOf_2 : decode cX2_roundOf 2 = .ok (.invokevirtual 67, 3) := by decide +kernel
theorem dX2_roundOf_5 : decode cX2_roundOf 5 = .ok (.istore_n 2, 1) := by decide +kernel
theorem dX2_roundOf_6 : decode cX2_roundOf 6 = .ok (.iconst 1, 1) := by decide +kernel
theorem dX2_roundOf_7 : decode cX2_roundOf 7 = .ok (.istore_n 3, 1) := by decide +kernel
theorem dX2_roundOf_8 : decode cX2_roundOf 8 = .ok (.aload_n 0, 1) := by decide +kernel
theorem dX2_roundOf_9 : decode cX2_roundOf 9 = .ok (.iload_n 2, 1) := by decide +kernel
theorem dX2_roundOf_10 : decode cX2_roundOf 10 = .ok (.invokevirtual 42, 3) := by decide +kernel
theorem dX2_roundOf_13 : decode cX2_roundOf 13 = .ok (.istore 4, 2) := by decide +kernel
theorem dX2_roundOf_15 : decode cX2_roundOf 15 = .ok (.iload 4, 2) := by decide +kernel
theorem dX2_roundOf_17 : decode cX2_roundOf 17 = .ok (.iload_n 2, 1) := by decide +kernel
theorem dX2_roundOf_18 : decode cX2_roundOf 18 = .ok (.if_icmp .eq 28, 3) := by decide +kernel
theorem dX2_roundOf_21 : decode cX2_roundOf 21 = .ok (.iload_n 3, 1) := by decide +kernel
theorem dX2_roundOf_22 : decode cX2_roundOf 22 = .ok (.aload_n 0, 1) := by decide +kernel
theorem dX2_roundOf_23 : decode cX2_roundOf 23 = .ok (.getfield 25, 3) := by decide +kernel
theorem dX2_roundOf_26 : decode cX2_roundOf 26 = .ok (.invokevirtual 45, 3) := by decide +kernel
theorem dX2_roundOf_29 : decode cX2_roundOf 29 = .ok (.if_icmp .ge 17, 3) := by decide +kernel
theorem dX2_roundOf_32 : decode cX2_roundOf 32 = .ok (.iinc 3 1, 3) := by decide +kernel
theorem dX2_roundOf_35 : decode cX2_roundOf 35 = .ok (.aload_n 0, 1) := by decide +kernel
theorem dX2_roundOf_36 : decode cX2_roundOf 36 = .ok (.iload 4, 2) := by decide +kernel
theorem dX2_roundOf_38 : decode cX2_roundOf 38 = .ok (.invokevirtual 42, 3) := by decide +kernel
theorem dX2_roundOf_41 : decode cX2_roundOf 41 = .ok (.istore 4, 2) := by decide +kernel
theorem dX2_roundOf_43 : decode cX2_roundOf 43 = .ok (.goto (-28), 3) := by decide +kernel
theorem dX2_roundOf_46 : decode cX2_roundOf 46 = .ok (.iload_n 3, 1) := by decide +kernel
theorem dX2_roundOf_47 : decode cX2_roundOf 47 = .ok (.ireturn, 1) := by decide +kernel
def B_X2_roundOf_15 (o0 : Nat) (i2 : Int32) (i3 : Int32) (i4 : Int32) (μ : Me) (K15 : Int32 → Int32 → Me → Prop) (Q : Int32 → Me → Prop) : Prop := ((i4 = i2 → Q i3 μ) ∧ (¬ i4 = i2 → mok μ o0 2 ∧ ∃ t9, mgr μ o0 0 = some t9 ∧ mok μ t9 9 ∧ S_X9_allRings t9 μ (fun r13 μ11 => ((r13 ≤ i3 → Q i3 μ11) ∧ (¬ r13 ≤ i3 → S_X2_next o0 i4 μ11 (fun r16 μ14 => K15 (i3 + 1) r16 μ14))))))
set_option maxHeartbeats 4000000 in
set_option maxRecDepth 100000 in
theorem tB_X2_roundOf_15 {x : GX} (f : Fx x cX2_roundOf RX2 5 (rmc 6 0 0)) {o0 : Nat} {i2 : Int32} {i3 : Int32} {i4 : Int32} {μ : Me} {Q : Int32 → Me → Prop} (hq : Rt x (some .int) (qI Q)) {K15 : Int32 → Int32 → Me → Prop} (hK15 : ∀ (a3 : Int32) (a4 : Int32) (ν : Me), K15 a3 a4 ν → G x 5 15 [(0, .ref (gB x + o0)), (2, .int i2), (3, .int a3), (4, .int a4)] [] ν 0 0) (h : B_X2_roundOf_15 o0 i2 i3 i4 μ K15 Q) : G x 5 15 [(0, .ref (gB x + o0)), (2, .int i2), (3, .int i3), (4, .int i4)] [] μ 0 0 := by
  unfold B_X2_roundOf_15 at h
  refine g_iload f 3 dX2_roundOf_15 rfl ?_
  refine g_iload_n f 1 dX2_roundOf_17 rfl rfl ?_
  refine g_ic_eq f 46 dX2_roundOf_18 rfl h (fun h => ?_) (fun h => ?_)
  · refine g_iload_n f 2 dX2_roundOf_46 rfl rfl ?_
    exact g_iret f hq (Nat.le_of_ble_eq_true rfl) (Nat.le_of_ble_eq_true rfl) dX2_roundOf_47 h
  · refine g_iload_n f 2 dX2_roundOf_21 rfl rfl ?_
    refine g_aload_n f 0 dX2_roundOf_22 rfl rfl ?_
    obtain ⟨v8, h⟩ := h
    refine g_getR f fk_X2_25 v8 dX2_roundOf_23 rfl h (fun t9 h => ?_)
    obtain ⟨v10, h⟩ := h
    refine g_callV f mk_X2_45 v10 (c_X9_allRings h) dX2_roundOf_26 rfl rfl (Nat.le_of_ble_eq_true rfl) (rm_ok (by decide) (by decide)) ⟨Nat.le_of_ble_eq_true rfl, Nat.le_of_ble_eq_true rfl⟩ (kI fun r13 μ11 x12 h => ?_)
    refine g_ic_ge f 46 dX2_roundOf_29 rfl h (fun h => ?_) (fun h => ?_)
    · refine g_iload_n f 2 dX2_roundOf_46 rfl rfl ?_
      exact g_iret f hq (Nat.le_of_ble_eq_true rfl) (Nat.le_of_ble_eq_true rfl) dX2_roundOf_47 h
    · refine h_iinc f 2 1 dX2_roundOf_32 rfl kc_1 (by decide) ?_
      refine g_aload_n f 1 dX2_roundOf_35 rfl rfl ?_
      refine g_iload f 3 dX2_roundOf_36 rfl ?_
      have v8 := mex_ok x12 v8
      refine g_callV f mk_X2_42 v8 (c_X2_next h) dX2_roundOf_38 rfl rfl (Nat.le_of_ble_eq_true rfl) (rm_ok (by decide) (by decide)) ⟨Nat.le_of_ble_eq_true rfl, Nat.le_of_ble_eq_true rfl⟩ (kI fun r16 μ14 x15 h => ?_)
      refine h_istore f dX2_roundOf_41 (by decide) ?_
      refine g_goto f 15 dX2_roundOf_43 rfl ?_
      exact h_sub [2, 3, 1, 0] rfl (hK15 _ _ _ h)
def L_X2_roundOf_15 (o0 : Nat) (i2 : Int32) (i3 : Int32) (i4 : Int32) (μ : Me) (Q : Int32 → Me → Prop) : Prop := ∃ I : Int32 → Int32 → Me → Nat → Prop, (∃ n, I i3 i4 μ n) ∧ ∀ (i3 : Int32) (i4 : Int32) (μ : Me) (n : Nat), I i3 i4 μ n → B_X2_roundOf_15 o0 i2 i3 i4 μ (fun a3 a4 ν => ∃ n', n' < n ∧ I a3 a4 ν n') Q
set_option maxHeartbeats 4000000 in
set_option maxRecDepth 100000 in
theorem tL_X2_roundOf_15 {x : GX} (f : Fx x cX2_roundOf RX2 5 (rmc 6 0 0)) {o0 : Nat} {i2 : Int32} {i3 : Int32} {i4 : Int32} {μ : Me} {Q : Int32 → Me → Prop} (hq : Rt x (some .int) (qI Q)) (h : L_X2_roundOf_15 o0 i2 i3 i4 μ Q) : G x 5 15 [(0, .ref (gB x + o0)), (2, .int i2), (3, .int i3), (4, .int i4)] [] μ 0 0 := by
  obtain ⟨I, ⟨n, hI⟩, hs⟩ := h
  induction n using Nat.strongRecOn generalizing i3 i4 μ with
  | ind n ih => exact tB_X2_roundOf_15 f hq (fun a3 a4 ν hk => by obtain ⟨n2, hn, hI2⟩ := hk; exact ih n2 hn hI2) (hs _ _ _ _ hI)
def S_X2_roundOf (o0 : Nat) (i1 : Int32) (μ : Me) (Q : Int32 → Me → Prop) : Prop := mok μ o0 2 ∧ S_X2_walkFrom o0 i1 μ (fun r4 μ2 => S_X2_next o0 r4 μ2 (fun r7 μ5 => L_X2_roundOf_15 o0 r4 1 r7 μ5 Q))
set_option maxHeartbeats 4000000 in
set_option maxRecDepth 100000 in
theorem t_X2_roundOf {x : GX} (f : Fx x cX2_roundOf RX2 5 (rmc 6 0 0)) {o0 : Nat} {i1 : Int32} {μ : Me} {Q : Int32 → Me → Prop} (hq : Rt x (some .int) (qI Q)) (h : S_X2_roundOf o0 i1 μ Q) : G x 5 0 [(0, .ref (gB x + o0)), (1, .int i1)] [] μ 0 0 := by
  unfold S_X2_roundOf at h
  refine g_aload_n f 0 dX2_roundOf_0 rfl rfl ?_
  refine g_iload_n f 1 dX2_roundOf_1 rfl rfl ?_
  obtain ⟨v1, h⟩ := h
  refine g_callV f mk_X2_67 v1 (c_X2_walkFrom h) dX2_roundOf_2 rfl rfl (Nat.le_of_ble_eq_true rfl) (rm_ok (by decide) (by decide)) ⟨Nat.le_of_ble_eq_true rfl, Nat.le_of_ble_eq_true rfl⟩ (kI fun r4 μ2 x3 h => ?_)
  refine h_istore_n f dX2_roundOf_5 rfl (by decide) ?_
  refine g_iconst f 1 dX2_roundOf_6 kc_1 ?_
  refine h_istore_n f dX2_roundOf_7 rfl (by decide) ?_
  refine g_aload_n f 2 dX2_roundOf_8 rfl rfl ?_
  refine g_iload_n f 1 dX2_roundOf_9 rfl rfl ?_
  have v1 := mex_ok x3 v1
  refine g_callV f mk_X2_42 v1 (c_X2_next h) dX2_roundOf_10 rfl rfl (Nat.le_of_ble_eq_true rfl) (rm_ok (by decide) (by decide)) ⟨Nat.le_of_ble_eq_true rfl, Nat.le_of_ble_eq_true rfl⟩ (kI fun r7 μ5 x6 h => ?_)
  refine h_istore f dX2_roundOf_13 (by decide) ?_
  exact h_sub [3, 2, 1, 0] rfl (tL_X2_roundOf_15 f hq h)
theorem c_X2_roundOf {Ω : OM} {o0 : Nat} {i1 : Int32} {μ : Me} {Q : Int32 → Me → Prop} (h : S_X2_roundOf o0 i1 μ Q) : CT Ω yX2_roundOf cX2_roundOf 5 (some .int) (rmc 6 0 0) [.ref (oB Ω + o0), .int i1] μ (qI Q) := CT_of (by decide) rfl (by simp [lg_sl, Value.category]) (fun x hΩ f hq hi => by subst hΩ; exact t_X2_roundOf f hq h)
theorem dX2_roundCount_0 : decode cX2_roundCount 0 = .ok (.aload_n 0, 1) := by decide +kernel
theorem dX2_roundCount_1 : decode cX2_roundCount 1 = .ok (.invokevirtual 64, 3) := by decide +kernel
theorem dX2_roundCount_4 : decode cX2_roundCount 4 = .ok (.iconst 0, 1) := by decide +kernel
theorem dX2_roundCount_5 : decode cX2_roundCount 5 = .ok (.istore_n 1, 1) := by decide +kernel
theorem dX2_roundCount_6 : decode cX2_roundCount 6 = .ok (.iconst 0, 1) := by decide +kernel
theorem dX2_roundCount_7 : decode cX2_roundCount 7 = .ok (.istore_n 2, 1) := by decide +kernel
theorem dX2_roundCount_8 : decode cX2_roundCount 8 = .ok (.iload_n 2, 1) := by decide +kernel
theorem dX2_roundCount_9 : decode cX2_roundCount 9 = .ok (.aload_n 0, 1) := by decide +kernel
theorem dX2_roundCount_10 : decode cX2_roundCount 10 = .ok (.getfield 25, 3) := by decide +kernel
theorem dX2_roundCount_13 : decode cX2_roundCount 13 = .ok (.invokevirtual 45, 3) := by decide +kernel
theorem dX2_roundCount_16 : decode cX2_roundCount 16 = .ok (.if_icmp .ge 83, 3) := by decide +kernel
theorem dX2_roundCount_19 : decode cX2_roundCount 19 = .ok (.iload_n 2, 1) := by decide +kernel
theorem dX2_roundCount_20 : decode cX2_roundCount 20 = .ok (.istore_n 3, 1) := by decide +kernel
theorem dX2_roundCount_21 : decode cX2_roundCount 21 = .ok (.iconst 0, 1) := by decide +kernel
theorem dX2_roundCount_22 : decode cX2_roundCount 22 = .ok (.istore 4, 2) := by decide +kernel
theorem dX2_roundCount_24 : decode cX2_roundCount 24 = .ok (.iload 4, 2) := by decide +kernel
theorem dX2_roundCount_26 : decode cX2_roundCount 26 = .ok (.aload_n 0, 1) := by decide +kernel
theorem dX2_roundCount_27 : decode cX2_roundCount 27 = .ok (.getfield 25, 3) := by decide +kernel
theorem dX2_roundCount_30 : decode cX2_roundCount 30 = .ok (.invokevirtual 45, 3) := by decide +kernel
theorem dX2_roundCount_33 : decode cX2_roundCount 33 = .ok (.if_icmp .ge 33, 3) := by decide +kernel
theorem dX2_roundCount_36 : decode cX2_roundCount 36 = .ok (.aload_n 0, 1) := by decide +kernel
theorem dX2_roundCount_37 : decode cX2_roundCount 37 = .ok (.getfield 18, 3) := by decide +kernel
theorem dX2_roundCount_40 : decode cX2_roundCount 40 = .ok (.iload_n 3, 1) := by decide +kernel
theorem dX2_roundCount_41 : decode cX2_roundCount 41 = .ok (.iaload, 1) := by decide +kernel
theorem dX2_roundCount_42 : decode cX2_roundCount 42 = .ok (.ifCond .ne 24, 3) := by decide +kernel
theorem dX2_roundCount_45 : decode cX2_roundCount 45 = .ok (.aload_n 0, 1) := by decide +kernel
theorem dX2_roundCount_46 : decode cX2_roundCount 46 = .ok (.getfield 18, 3) := by decide +kernel
theorem dX2_roundCount_49 : decode cX2_roundCount 49 = .ok (.iload_n 3, 1) := by decide +kernel
theorem dX2_roundCount_50 : decode cX2_roundCount 50 = .ok (.iload_n 2, 1) := by decide +kernel
theorem dX2_roundCount_51 : decode cX2_roundCount 51 = .ok (.iconst 1, 1) := by decide +kernel
theorem dX2_roundCount_52 : decode cX2_roundCount 52 = .ok (.iadd, 1) := by decide +kernel
theorem dX2_roundCount_53 : decode cX2_roundCount 53 = .ok (.iastore, 1) := by decide +kernel
theorem dX2_roundCount_54 : decode cX2_roundCount 54 = .ok (.aload_n 0, 1) := by decide +kernel
theorem dX2_roundCount_55 : decode cX2_roundCount 55 = .ok (.iload_n 3, 1) := by decide +kernel
theorem dX2_roundCount_56 : decode cX2_roundCount 56 = .ok (.invokevirtual 42, 3) := by decide +kernel
theorem dX2_roundCount_59 : decode cX2_roundCount 59 = .ok (.istore_n 3, 1) := by decide +kernel
theorem dX2_roundCount_60 : decode cX2_roundCount 60 = .ok (.iinc 4 1, 3) := by decide +kernel
theorem dX2_roundCount_63 : decode cX2_roundCount 63 = .ok (.goto (-39), 3) := by decide +kernel
theorem dX2_roundCount_66 : decode cX2_roundCount 66 = .ok (.aload_n 0, 1) := by decide +kernel
theorem dX2_roundCount_67 : decode cX2_roundCount 67 = .ok (.getfield 18, 3) := by decide +kernel
theorem dX2_roundCount_70 : decode cX2_roundCount 70 = .ok (.iload_n 2, 1) := by decide +kernel
theorem dX2_roundCount_71 : decode cX2_roundCount 71 = .ok (.iaload, 1) := by decide +kernel
theorem dX2_roundCount_72 : decode cX2_roundCount 72 = .ok (.iload_n 2, 1) := by decide +kernel
theorem dX2_roundCount_73 : decode cX2_roundCount 73 = .ok (.iconst 1, 1) := by decide +kernel
theorem dX2_roundCount_74 : decode cX2_roundCount 74 = .ok (.iadd, 1) := by decide +kernel
theorem dX2_roundCount_75 : decode cX2_roundCount 75 = .ok (.if_icmp .ne 18, 3) := by decide +kernel
theorem dX2_roundCount_78 : decode cX2_roundCount 78 = .ok (.aload_n 0, 1) := by decide +kernel
theorem dX2_roundCount_79 : decode cX2_roundCount 79 = .ok (.getfield 18, 3) := by decide +kernel
theorem dX2_roundCount_82 : decode cX2_roundCount 82 = .ok (.iload_n 3, 1) := by decide +kernel
theorem dX2_roundCount_83 : decode cX2_roundCount 83 = .ok (.iaload, 1) := by decide +kernel
theorem dX2_roundCount_84 : decode cX2_roundCount 84 = .ok (.iload_n 2, 1) := by decide +kernel
theorem dX2_roundCount_85 : decode cX2_roundCount 85 = .ok (.iconst 1, 1) := by decide +kernel
theorem dX2_roundCount_86 : decode cX2_roundCount 86 = .ok (.iadd, 1) := by decide +kernel
theorem dX2_roundCount_87 : decode cX2_roundCount 87 = .ok (.if_icmp .ne 6, 3) := by decide +kernel
theorem dX2_roundCount_90 : decode cX2_roundCount 90 = .ok (.iinc 1 1, 3) := by decide +kernel
theorem dX2_roundCount_93 : decode cX2_roundCount 93 = .ok (.iinc 2 1, 3) := by decide +kernel
theorem dX2_roundCount_96 : decode cX2_roundCount 96 = .ok (.goto (-88), 3) := by decide +kernel
theorem dX2_roundCount_99 : decode cX2_roundCount 99 = .ok (.iload_n 1, 1) := by decide +kernel
theorem dX2_roundCount_100 : decode cX2_roundCount 100 = .ok (.ireturn, 1) := by decide +kernel
def B_X2_roundCount_93 (o0 : Nat) (i1 : Int32) (i2 : Int32) (μ : Me) (K8 : Int32 → Int32 → Me → Prop) (Q : Int32 → Me → Prop) : Prop := K8 i1 (i2 + 1) μ
set_option maxHeartbeats 4000000 in
set_option maxRecDepth 100000 in
theorem tB_X2_roundCount_93 {x : GX} (f : Fx x cX2_roundCount RX2 5 (rmc 5 0 0)) {o0 : Nat} {i1 : Int32} {i2 : Int32} {μ : Me} {Q : Int32 → Me → Prop} (hq : Rt x (some .int) (qI Q)) {K8 : Int32 → Int32 → Me → Prop} (hK8 : ∀ (a1 : Int32) (a2 : Int32) (ν : Me), K8 a1 a2 ν → G x 5 8 [(0, .ref (gB x + o0)), (1, .int a1), (2, .int a2)] [] ν 0 0) (h : B_X2_roundCount_93 o0 i1 i2 μ K8 Q) : G x 5 93 [(0, .ref (gB x + o0)), (1, .int i1), (2, .int i2)] [] μ 0 0 := by
  unfold B_X2_roundCount_93 at h
  refine h_iinc f 2 1 dX2_roundCount_93 rfl kc_1 (by decide) ?_
  refine g_goto f 8 dX2_roundCount_96 rfl ?_
  exact h_sub [1, 2, 0] rfl (hK8 _ _ _ h)
def B_X2_roundCount_66 (o0 : Nat) (i1 : Int32) (i2 : Int32) (i3 : Int32) (μ : Me) (K8 : Int32 → Int32 → Me → Prop) (Q : Int32 → Me → Prop) : Prop := mok μ o0 2 ∧ ∃ t18, mgr μ o0 4 = some t18 ∧ mok μ t18 12 ∧ vp_in i2 (mln μ t18) ∧ ((¬ (mgi μ t18 i2.toNatClampNeg) = (i2 + 1) → B_X2_roundCount_93 o0 i1 i2 μ K8 Q) ∧ ((mgi μ t18 i2.toNatClampNeg) = (i2 + 1) → ∃ t20, mgr μ o0 4 = some t20 ∧ mok μ t20 12 ∧ vp_in i3 (mln μ t20) ∧ ((¬ (mgi μ t20 i3.toNatClampNeg) = (i2 + 1) → B_X2_roundCount_93 o0 i1 i2 μ K8 Q) ∧ ((mgi μ t20 i3.toNatClampNeg) = (i2 + 1) → B_X2_roundCount_93 o0 (i1 + 1) i2 μ K8 Q))))
set_option maxHeartbeats 4000000 in
set_option maxRecDepth 100000 in
theorem tB_X2_roundCount_66 {x : GX} (f : Fx x cX2_roundCount RX2 5 (rmc 5 0 0)) {o0 : Nat} {i1 : Int32} {i2 : Int32} {i3 : Int32} {μ : Me} {Q : Int32 → Me → Prop} (hq : Rt x (some .int) (qI Q)) {K8 : Int32 → Int32 → Me → Prop} (hK8 : ∀ (a1 : Int32) (a2 : Int32) (ν : Me), K8 a1 a2 ν → G x 5 8 [(0, .ref (gB x + o0)), (1, .int a1), (2, .int a2)] [] ν 0 0) (h : B_X2_roundCount_66 o0 i1 i2 i3 μ K8 Q) : G x 5 66 [(0, .ref (gB x + o0)), (1, .int i1), (2, .int i2), (3, .int i3)] [] μ 0 0 := by
  unfold B_X2_roundCount_66 at h
  refine g_aload_n f 0 dX2_roundCount_66 rfl rfl ?_
  obtain ⟨v17, h⟩ := h
  refine g_getR f fk_X2_18 v17 dX2_roundCount_67 rfl h (fun t18 h => ?_)
  refine g_iload_n f 2 dX2_roundCount_70 rfl rfl ?_
  obtain ⟨v19, h⟩ := h
  refine g_iald f v19 dX2_roundCount_71 h (fun h => ?_)
  refine g_iload_n f 2 dX2_roundCount_72 rfl rfl ?_
  refine g_iconst f 1 dX2_roundCount_73 kc_1 ?_
  refine g_iadd f dX2_roundCount_74 ?_
  refine g_ic_ne f 93 dX2_roundCount_75 rfl h (fun h => ?_) (fun h => ?_)
  · exact h_sub [0, 1, 2] rfl (tB_X2_roundCount_93 f hq hK8 h)
  · refine g_aload_n f 0 dX2_roundCount_78 rfl rfl ?_
    refine g_getR f fk_X2_18 v17 dX2_roundCount_79 rfl h (fun t20 h => ?_)
    refine g_iload_n f 3 dX2_roundCount_82 rfl rfl ?_
    obtain ⟨v21, h⟩ := h
    refine g_iald f v21 dX2_roundCount_83 h (fun h => ?_)
    refine g_iload_n f 2 dX2_roundCount_84 rfl rfl ?_
    refine g_iconst f 1 dX2_roundCount_85 kc_1 ?_
    refine g_iadd f dX2_roundCount_86 ?_
    refine g_ic_ne f 93 dX2_roundCount_87 rfl h (fun h => ?_) (fun h => ?_)
    · exact h_sub [0, 1, 2] rfl (tB_X2_roundCount_93 f hq hK8 h)
    · refine h_iinc f 1 1 dX2_roundCount_90 rfl kc_1 (by decide) ?_
      exact h_sub [1, 0, 2] rfl (tB_X2_roundCount_93 f hq hK8 h)
def B_X2_roundCount_24 (o0 : Nat) (i1 : Int32) (i2 : Int32) (i3 : Int32) (i4 : Int32) (μ : Me) (K8 : Int32 → Int32 → Me → Prop) (K24 : Int32 → Int32 → Me → Prop) (Q : Int32 → Me → Prop) : Prop := mok μ o0 2 ∧ ∃ t12, mgr μ o0 0 = some t12 ∧ mok μ t12 9 ∧ S_X9_allRings t12 μ (fun r16 μ14 => ((r16 ≤ i4 → B_X2_roundCount_66 o0 i1 i2 i3 μ14 K8 Q) ∧ (¬ r16 ≤ i4 → ∃ t22, mgr μ14 o0 4 = some t22 ∧ mok μ14 t22 12 ∧ vp_in i3 (mln μ14 t22) ∧ ((¬ (mgi μ14 t22 i3.toNatClampNeg) = 0 → B_X2_roundCount_66 o0 i1 i2 i3 μ14 K8 Q) ∧ ((mgi μ14 t22 i3.toNatClampNeg) = 0 → ∃ t24, mgr μ14 o0 4 = some t24 ∧ mok μ14 t24 12 ∧ vp_in i3 (mln μ14 t24) ∧ ∀ μ26, μ26 = msi μ14 t24 i3.toNatClampNeg (i2 + 1) → S_X2_next o0 i3 μ26 (fun r29 μ27 => K24 r29 (i4 + 1) μ27))))))
set_option maxHeartbeats 4000000 in
set_option maxRecDepth 100000 in
theorem tB_X2_roundCount_24 {x : GX} (f : Fx x cX2_roundCount RX2 5 (rmc 5 0 0)) {o0 : Nat} {i1 : Int32} {i2 : Int32} {i3 : Int32} {i4 : Int32} {μ : Me} {Q : Int32 → Me → Prop} (hq : Rt x (some .int) (qI Q)) {K8 : Int32 → Int32 → Me → Prop} {K24 : Int32 → Int32 → Me → Prop} (hK8 : ∀ (a1 : Int32) (a2 : Int32) (ν : Me), K8 a1 a2 ν → G x 5 8 [(0, .ref (gB x + o0)), (1, .int a1), (2, .int a2)] [] ν 0 0) (hK24 : ∀ (a3 : Int32) (a4 : Int32) (ν : Me), K24 a3 a4 ν → G x 5 24 [(0, .ref (gB x + o0)), (1, .int i1), (2, .int i2), (3, .int a3), (4, .int a4)] [] ν 0 0) (h : B_X2_roundCount_24 o0 i1 i2 i3 i4 μ K8 K24 Q) : G x 5 24 [(0, .ref (gB x + o0)), (1, .int i1), (2, .int i2), (3, .int i3), (4, .int i4)] [] μ 0 0 := by
  unfold B_X2_roundCount_24 at h
  refine g_iload f 4 dX2_roundCount_24 rfl ?_
  refine g_aload_n f 0 dX2_roundCount_26 rfl rfl ?_
  obtain ⟨v11, h⟩ := h
  refine g_getR f fk_X2_25 v11 dX2_roundCount_27 rfl h (fun t12 h => ?_)
  obtain ⟨v13, h⟩ := h
  refine g_callV f mk_X2_45 v13 (c_X9_allRings h) dX2_roundCount_30 rfl rfl (Nat.le_of_ble_eq_true rfl) (rm_ok (by decide) (by decide)) ⟨Nat.le_of_ble_eq_true rfl, Nat.le_of_ble_eq_true rfl⟩ (kI fun r16 μ14 x15 h => ?_)
  refine g_ic_ge f 66 dX2_roundCount_33 rfl h (fun h => ?_) (fun h => ?_)
  · exact h_sub [0, 1, 2, 3] rfl (tB_X2_roundCount_66 f hq hK8 h)
  · refine g_aload_n f 0 dX2_roundCount_36 rfl rfl ?_
    have v11 := mex_ok x15 v11
    refine g_getR f fk_X2_18 v11 dX2_roundCount_37 rfl h (fun t22 h => ?_)
    refine g_iload_n f 3 dX2_roundCount_40 rfl rfl ?_
    obtain ⟨v23, h⟩ := h
    refine g_iald f v23 dX2_roundCount_41 h (fun h => ?_)
    refine g_if_ne f 66 dX2_roundCount_42 rfl h (fun h => ?_) (fun h => ?_)
    · exact h_sub [0, 1, 2, 3] rfl (tB_X2_roundCount_66 f hq hK8 h)
    · refine g_aload_n f 0 dX2_roundCount_45 rfl rfl ?_
      refine g_getR f fk_X2_18 v11 dX2_roundCount_46 rfl h (fun t24 h => ?_)
      refine g_iload_n f 3 dX2_roundCount_49 rfl rfl ?_
      refine g_iload_n f 2 dX2_roundCount_50 rfl rfl ?_
      refine g_iconst f 1 dX2_roundCount_51 kc_1 ?_
      refine g_iadd f dX2_roundCount_52 ?_
      obtain ⟨v25, h⟩ := h
      refine g_iast f v25 dX2_roundCount_53 h (fun h => ?_)
      refine g_aload_n f 0 dX2_roundCount_54 rfl rfl ?_
      refine g_iload_n f 3 dX2_roundCount_55 rfl rfl ?_
      refine g_callV f mk_X2_42 v11 (c_X2_next h) dX2_roundCount_56 rfl rfl (Nat.le_of_ble_eq_true rfl) (rm_ok (by decide) (by decide)) ⟨Nat.le_of_ble_eq_true rfl, Nat.le_of_ble_eq_true rfl⟩ (kI fun r29 μ27 x28 h => ?_)
      refine h_istore_n f dX2_roundCount_59 rfl (by decide) ?_
      refine h_iinc f 4 1 dX2_roundCount_60 rfl kc_1 (by decide) ?_
      refine g_goto f 24 dX2_roundCount_63 rfl ?_
      exact h_sub [2, 3, 4, 1, 0] rfl (hK24 _ _ _ h)
def L_X2_roundCount_24 (o0 : Nat) (i1 : Int32) (i2 : Int32) (i3 : Int32) (i4 : Int32) (μ : Me) (K8 : Int32 → Int32 → Me → Prop) (Q : Int32 → Me → Prop) : Prop := ∃ I : Int32 → Int32 → Me → Nat → Prop, (∃ n, I i3 i4 μ n) ∧ ∀ (i3 : Int32) (i4 : Int32) (μ : Me) (n : Nat), I i3 i4 μ n → B_X2_roundCount_24 o0 i1 i2 i3 i4 μ K8 (fun a3 a4 ν => ∃ n', n' < n ∧ I a3 a4 ν n') Q
set_option maxHeartbeats 4000000 in
set_option maxRecDepth 100000 in
theorem tL_X2_roundCount_24 {x : GX} (f : Fx x cX2_roundCount RX2 5 (rmc 5 0 0)) {o0 : Nat} {i1 : Int32} {i2 : Int32} {i3 : Int32} {i4 : Int32} {μ : Me} {Q : Int32 → Me → Prop} (hq : Rt x (some .int) (qI Q)) {K8 : Int32 → Int32 → Me → Prop} (hK8 : ∀ (a1 : Int32) (a2 : Int32) (ν : Me), K8 a1 a2 ν → G x 5 8 [(0, .ref (gB x + o0)), (1, .int a1), (2, .int a2)] [] ν 0 0) (h : L_X2_roundCount_24 o0 i1 i2 i3 i4 μ K8 Q) : G x 5 24 [(0, .ref (gB x + o0)), (1, .int i1), (2, .int i2), (3, .int i3), (4, .int i4)] [] μ 0 0 := by
  obtain ⟨I, ⟨n, hI⟩, hs⟩ := h
  induction n using Nat.strongRecOn generalizing i3 i4 μ with
  | ind n ih => exact tB_X2_roundCount_24 f hq hK8 (fun a3 a4 ν hk => by obtain ⟨n2, hn, hI2⟩ := hk; exact ih n2 hn hI2) (hs _ _ _ _ hI)
def B_X2_roundCount_8 (o0 : Nat) (i1 : Int32) (i2 : Int32) (μ : Me) (K8 : Int32 → Int32 → Me → Prop) (Q : Int32 → Me → Prop) : Prop := mok μ o0 2 ∧ ∃ t6, mgr μ o0 0 = some t6 ∧ mok μ t6 9 ∧ S_X9_allRings t6 μ (fun r10 μ8 => ((r10 ≤ i2 → Q i1 μ8) ∧ (¬ r10 ≤ i2 → L_X2_roundCount_24 o0 i1 i2 i2 0 μ8 K8 Q)))
set_option maxHeartbeats 4000000 in
set_option maxRecDepth 100000 in
theorem tB_X2_roundCount_8 {x : GX} (f : Fx x cX2_roundCount RX2 5 (rmc 5 0 0)) {o0 : Nat} {i1 : Int32} {i2 : Int32} {μ : Me} {Q : Int32 → Me → Prop} (hq : Rt x (some .int) (qI Q)) {K8 : Int32 → Int32 → Me → Prop} (hK8 : ∀ (a1 : Int32) (a2 : Int32) (ν : Me), K8 a1 a2 ν → G x 5 8 [(0, .ref (gB x + o0)), (1, .int a1), (2, .int a2)] [] ν 0 0) (h : B_X2_roundCount_8 o0 i1 i2 μ K8 Q) : G x 5 8 [(0, .ref (gB x + o0)), (1, .int i1), (2, .int i2)] [] μ 0 0 := by
  unfold B_X2_roundCount_8 at h
  refine g_iload_n f 2 dX2_roundCount_8 rfl rfl ?_
  refine g_aload_n f 0 dX2_roundCount_9 rfl rfl ?_
  obtain ⟨v5, h⟩ := h
  refine g_getR f fk_X2_25 v5 dX2_roundCount_10 rfl h (fun t6 h => ?_)
  obtain ⟨v7, h⟩ := h
  refine g_callV f mk_X2_45 v7 (c_X9_allRings h) dX2_roundCount_13 rfl rfl (Nat.le_of_ble_eq_true rfl) (rm_ok (by decide) (by decide)) ⟨Nat.le_of_ble_eq_true rfl, Nat.le_of_ble_eq_true rfl⟩ (kI fun r10 μ8 x9 h => ?_)
  refine g_ic_ge f 99 dX2_roundCount_16 rfl h (fun h => ?_) (fun h => ?_)
  · refine g_iload_n f 1 dX2_roundCount_99 rfl rfl ?_
    exact g_iret f hq (Nat.le_of_ble_eq_true rfl) (Nat.le_of_ble_eq_true rfl) dX2_roundCount_100 h
  · refine g_iload_n f 2 dX2_roundCount_19 rfl rfl ?_
    refine h_istore_n f dX2_roundCount_20 rfl (by decide) ?_
    refine g_iconst f 0 dX2_roundCount_21 kc_0 ?_
    refine h_istore f dX2_roundCount_22 (by decide) ?_
    exact h_sub [2, 3, 4, 1, 0] rfl (tL_X2_roundCount_24 f hq hK8 h)
def L_X2_roundCount_8 (o0 : Nat) (i1 : Int32) (i2 : Int32) (μ : Me) (Q : Int32 → Me → Prop) : Prop := ∃ I : Int32 → Int32 → Me → Nat → Prop, (∃ n, I i1 i2 μ n) ∧ ∀ (i1 : Int32) (i2 : Int32) (μ : Me) (n : Nat), I i1 i2 μ n → B_X2_roundCount_8 o0 i1 i2 μ (fun a1 a2 ν => ∃ n', n' < n ∧ I a1 a2 ν n') Q
set_option maxHeartbeats 4000000 in
set_option maxRecDepth 100000 in
theorem tL_X2_roundCount_8 {x : GX} (f : Fx x cX2_roundCount RX2 5 (rmc 5 0 0)) {o0 : Nat} {i1 : Int32} {i2 : Int32} {μ : Me} {Q : Int32 → Me → Prop} (hq : Rt x (some .int) (qI Q)) (h : L_X2_roundCount_8 o0 i1 i2 μ Q) : G x 5 8 [(0, .ref (gB x + o0)), (1, .int i1), (2, .int i2)] [] μ 0 0 := by
  obtain ⟨I, ⟨n, hI⟩, hs⟩ := h
  induction n using Nat.strongRecOn generalizing i1 i2 μ with
  | ind n ih => exact tB_X2_roundCount_8 f hq (fun a1 a2 ν hk => by obtain ⟨n2, hn, hI2⟩ := hk; exact ih n2 hn hI2) (hs _ _ _ _ hI)
def S_X2_roundCount (o0 : Nat) (μ : Me) (Q : Int32 → Me → Prop) : Prop := mok μ o0 2 ∧ S_X2_clearMarks o0 μ (fun μ2 => L_X2_roundCount_8 o0 0 0 μ2 Q)
set_option maxHeartbeats 4000000 in
set_option maxRecDepth 100000 in
theorem t_X2_roundCount {x : GX} (f : Fx x cX2_roundCount RX2 5 (rmc 5 0 0)) {o0 : Nat} {μ : Me} {Q : Int32 → Me → Prop} (hq : Rt x (some .int) (qI Q)) (h : S_X2_roundCount o0 μ Q) : G x 5 0 [(0, .ref (gB x + o0))] [] μ 0 0 := by
  unfold S_X2_roundCount at h
  refine g_aload_n f 0 dX2_roundCount_0 rfl rfl ?_
  obtain ⟨v1, h⟩ := h
  refine g_callV f mk_X2_64 v1 (c_X2_clearMarks h) dX2_roundCount_1 rfl rfl (Nat.le_of_ble_eq_true rfl) (rm_ok (by decide) (by decide)) ⟨Nat.le_of_ble_eq_true rfl, Nat.le_of_ble_eq_true rfl⟩ (kV fun μ2 x3 h => ?_)
  refine g_iconst f 0 dX2_roundCount_4 kc_0 ?_
  refine h_istore_n f dX2_roundCount_5 rfl (by decide) ?_
  refine g_iconst f 0 dX2_roundCount_6 kc_0 ?_
  refine h_istore_n f dX2_roundCount_7 rfl (by decide) ?_
  exact h_sub [2, 1, 0] rfl (tL_X2_roundCount_8 f hq h)
theorem c_X2_roundCount {Ω : OM} {o0 : Nat} {μ : Me} {Q : Int32 → Me → Prop} (h : S_X2_roundCount o0 μ Q) : CT Ω yX2_roundCount cX2_roundCount 5 (some .int) (rmc 5 0 0) [.ref (oB Ω + o0)] μ (qI Q) := CT_of (by decide) rfl (by simp [lg_sl, Value.category]) (fun x hΩ f hq hi => by subst hΩ; exact t_X2_roundCount f hq h)
theorem dX2_basinOf_0 : decode cX2_basinOf 0 = .ok (.aload_n 0, 1) := by decide +kernel
theorem dX2_basinOf_1 : decode cX2_basinOf 1 = .ok (.invokevirtual 64, 3) := by decide +kernel
theorem dX2_basinOf_4 : decode cX2_basinOf 4 = .ok (.aload_n 0, 1) := by decide +kernel
theorem dX2_basinOf_5 : decode cX2_basinOf 5 = .ok (.getfield 18, 3) := by decide +kernel
theorem dX2_basinOf_8 : decode cX2_basinOf 8 = .ok (.iload_n 1, 1) := by decide +kernel
theorem dX2_basinOf_9 : decode cX2_basinOf 9 = .ok (.iconst 1, 1) := by decide +kernel
theorem dX2_basinOf_10 : decode cX2_basinOf 10 = .ok (.iastore, 1) := by decide +kernel
theorem dX2_basinOf_11 : decode cX2_basinOf 11 = .ok (.iconst 1, 1) := by decide +kernel
theorem dX2_basinOf_12 : decode cX2_basinOf 12 = .ok (.istore_n 2, 1) := by decide +kernel
theorem dX2_basinOf_13 : decode cX2_basinOf 13 = .ok (.iconst 1, 1) := by decide +kernel
theorem dX2_basinOf_14 : decode cX2_basinOf 14 = .ok (.istore_n 3, 1) := by decide +kernel
theorem dX2_basinOf_15 : decode cX2_basinOf 15 = .ok (.iconst 0, 1) := by decide +kernel
theorem dX2_basinOf_16 : decode cX2_basinOf 16 = .ok (.istore 4, 2) := by decide +kernel
theorem dX2_basinOf_18 : decode cX2_basinOf 18 = .ok (.iload 4, 2) := by decide +kernel
theorem dX2_basinOf_20 : decode cX2_basinOf 20 = .ok (.aload_n 0, 1) := by decide +kernel
theorem dX2_basinOf_21 : decode cX2_basinOf 21 = .ok (.getfield 25, 3) := by decide +kernel
theorem dX2_basinOf_24 : decode cX2_basinOf 24 = .ok (.invokevirtual 45, 3) := by decide +kernel
theorem dX2_basinOf_27 : decode cX2_basinOf 27 = .ok (.if_icmp .ge 74, 3) := by decide +kernel
theorem dX2_basinOf_30 : decode cX2_basinOf 30 = .ok (.iload_n 3, 1) := by decide +kernel
theorem dX2_basinOf_31 : decode cX2_basinOf 31 = .ok (.ifCond .eq 70, 3) := by decide +kernel
theorem dX2_basinOf_34 : decode cX2_basinOf 34 = .ok (.iconst 0, 1) := by decide +kernel
theorem dX2_basinOf_35 : decode cX2_basinOf 35 = .ok (.istore_n 3, 1) := by decide +kernel
theorem dX2_basinOf_36 : decode cX2_basinOf 36 = .ok (.iconst 0, 1) := by decide +kernel
theorem dX2_basinOf_37 : decode cX2_basinOf 37 = .ok (.istore 5, 2) := by decide +kernel
theorem dX2_basinOf_39 : decode cX2_basinOf 39 = .ok (.iload 5, 2) := by decide +kernel
theorem dX2_basinOf_41 : decode cX2_basinOf 41 = .ok (.aload_n 0, 1) := by decide +kernel
theorem dX2_basinOf_42 : decode cX2_basinOf 42 = .ok (.getfield 25, 3) := by decide +kernel
theorem dX2_basinOf_45 : decode cX2_basinOf 45 = .ok (.invokevirtual 45, 3) := by decide +kernel
theorem dX2_basinOf_48 : decode cX2_basinOf 48 = .ok (.if_icmp .ge 47, 3) := by decide +kernel
theorem dX2_basinOf_51 : decode cX2_basinOf 51 = .ok (.aload_n 0, 1) := by decide +kernel
theorem dX2_basinOf_52 : decode cX2_basinOf 52 = .ok (.getfield 18, 3) := by decide +kernel
theorem dX2_basinOf_55 : decode cX2_basinOf 55 = .ok (.iload 5, 2) := by decide +kernel
theorem dX2_basinOf_57 : decode cX2_basinOf 57 = .ok (.iaload, 1) := by decide +kernel
theorem dX2_basinOf_58 : decode cX2_basinOf 58 = .ok (.ifCond .ne 31, 3) := by decide +kernel
theorem dX2_basinOf_61 : decode cX2_basinOf 61 = .ok (.aload_n 0, 1) := by decide +kernel
theorem dX2_basinOf_62 : decode cX2_basinOf 62 = .ok (.getfield 18, 3) := by decide +kernel
theorem dX2_basinOf_65 : decode cX2_basinOf 65 = .ok (.aload_n 0, 1) := by decide +kernel
theorem dX2_basinOf_66 : decode cX2_basinOf 66 = .ok (.iload 5, 2) := by decide +kernel
theorem dX2_basinOf_68 : decode cX2_basinOf 68 = .ok (.invokevirtual 42, 3) := by decide +kernel
theorem dX2_basinOf_71 : decode cX2_basinOf 71 = .ok (.iaload, 1) := by decide +kernel
theorem dX2_basinOf_72 : decode cX2_basinOf 72 = .ok (.iconst 1, 1) := by decide +kernel
theorem dX2_basinOf_73 : decode cX2_basinOf 73 = .ok (.if_icmp .ne 16, 3) := by decide +kernel
theorem dX2_basinOf_76 : decode cX2_basinOf 76 = .ok (.aload_n 0, 1) := by decide +kernel
theorem dX2_basinOf_77 : decode cX2_basinOf 77 = .ok (.getfield 18, 3) := by decide +kernel
theorem dX2_basinOf_80 : decode cX2_basinOf 80 = .ok (.iload 5, 2) := by decide +kernel
theorem dX2_basinOf_82 : decode cX2_basinOf 82 = .ok (.iconst 1, 1) := by decide +kernel
theorem dX2_basinOf_83 : decode cX2_basinOf 83 = .ok (.iastore, 1) := by decide +kernel
theorem dX2_basinOf_84 : decode cX2_basinOf 84 = .ok (.iinc 2 1, 3) := by decide +kernel
theorem dX2_basinOf_87 : decode cX2_basinOf 87 = .ok (.iconst 1, 1) := by decide +kernel
theorem dX2_basinOf_88 : decode cX2_basinOf 88 = .ok (.istore_n 3, 1) := by decide +kernel
theorem dX2_basinOf_89 : decode cX2_basinOf 89 = .ok (.iinc 5 1, 3) := by decide +kernel
theorem dX2_basinOf_92 : decode cX2_basinOf 92 = .ok (.goto (-53), 3) := by decide +kernel
theorem dX2_basinOf_95 : decode cX2_basinOf 95 = .ok (.iinc 4 1, 3) := by decide +kernel
theorem dX2_basinOf_98 : decode cX2_basinOf 98 = .ok (.goto (-80), 3) := by decide +kernel
theorem dX2_basinOf_101 : decode cX2_basinOf 101 = .ok (.iload_n 2, 1) := by decide +kernel
theorem dX2_basinOf_102 : decode cX2_basinOf 102 = .ok (.ireturn, 1) := by decide +kernel
def B_X2_basinOf_89 (o0 : Nat) (i2 : Int32) (i3 : Int32) (i4 : Int32) (i5 : Int32) (μ : Me) (K18 : Int32 → Int32 → Int32 → Me → Prop) (K39 : Int32 → Int32 → Int32 → Me → Prop) (Q : Int32 → Me → Prop) : Prop := K39 i2 i3 (i5 + 1) μ
set_option maxHeartbeats 4000000 in
set_option maxRecDepth 100000 in
theorem tB_X2_basinOf_89 {x : GX} (f : Fx x cX2_basinOf RX2 6 (rmc 5 0 0)) {o0 : Nat} {i2 : Int32} {i3 : Int32} {i4 : Int32} {i5 : Int32} {μ : Me} {Q : Int32 → Me → Prop} (hq : Rt x (some .int) (qI Q)) {K18 : Int32 → Int32 → Int32 → Me → Prop} {K39 : Int32 → Int32 → Int32 → Me → Prop} (hK18 : ∀ (a2 : Int32) (a3 : Int32) (a4 : Int32) (ν : Me), K18 a2 a3 a4 ν → G x 6 18 [(0, .ref (gB x + o0)), (2, .int a2), (3, .int a3), (4, .int a4)] [] ν 0 0) (hK39 : ∀ (a2 : Int32) (a3 : Int32) (a5 : Int32) (ν : Me), K39 a2 a3 a5 ν → G x 6 39 [(0, .ref (gB x + o0)), (2, .int a2), (3, .int a3), (4, .int i4), (5, .int a5)] [] ν 0 0) (h : B_X2_basinOf_89 o0 i2 i3 i4 i5 μ K18 K39 Q) : G x 6 89 [(0, .ref (gB x + o0)), (2, .int i2), (3, .int i3), (4, .int i4), (5, .int i5)] [] μ 0 0 := by
  unfold B_X2_basinOf_89 at h
  refine h_iinc f 4 1 dX2_basinOf_89 rfl kc_1 (by decide) ?_
  refine g_goto f 39 dX2_basinOf_92 rfl ?_
  exact h_sub [1, 2, 3, 4, 0] rfl (hK39 _ _ _ _ h)
def B_X2_basinOf_39 (o0 : Nat) (i2 : Int32) (i3 : Int32) (i4 : Int32) (i5 : Int32) (μ : Me) (K18 : Int32 → Int32 → Int32 → Me → Prop) (K39 : Int32 → Int32 → Int32 → Me → Prop) (Q : Int32 → Me → Prop) : Prop := mok μ o0 2 ∧ ∃ t15, mgr μ o0 0 = some t15 ∧ mok μ t15 9 ∧ S_X9_allRings t15 μ (fun r19 μ17 => ((r19 ≤ i5 → K18 i2 i3 (i4 + 1) μ17) ∧ (¬ r19 ≤ i5 → ∃ t20, mgr μ17 o0 4 = some t20 ∧ mok μ17 t20 12 ∧ vp_in i5 (mln μ17 t20) ∧ ((¬ (mgi μ17 t20 i5.toNatClampNeg) = 0 → B_X2_basinOf_89 o0 i2 i3 i4 i5 μ17 K18 K39 Q) ∧ ((mgi μ17 t20 i5.toNatClampNeg) = 0 → ∃ t22, mgr μ17 o0 4 = some t22 ∧ S_X2_next o0 i5 μ17 (fun r25 μ23 => mok μ23 t22 12 ∧ vp_in r25 (mln μ23 t22) ∧ ((¬ (mgi μ23 t22 r25.toNatClampNeg) = 1 → B_X2_basinOf_89 o0 i2 i3 i4 i5 μ23 K18 K39 Q) ∧ ((mgi μ23 t22 r25.toNatClampNeg) = 1 → ∃ t27, mgr μ23 o0 4 = some t27 ∧ mok μ23 t27 12 ∧ vp_in i5 (mln μ23 t27) ∧ ∀ μ29, μ29 = msi μ23 t27 i5.toNatClampNeg 1 → B_X2_basinOf_89 o0 (i2 + 1) 1 i4 i5 μ29 K18 K39 Q))))))))
set_option maxHeartbeats 4000000 in
set_option maxRecDepth 100000 in
theorem tB_X2_basinOf_39 {x : GX} (f : Fx x cX2_basinOf RX2 6 (rmc 5 0 0)) {o0 : Nat} {i2 : Int32} {i3 : Int32} {i4 : Int32} {i5 : Int32} {μ : Me} {Q : Int32 → Me → Prop} (hq : Rt x (some .int) (qI Q)) {K18 : Int32 → Int32 → Int32 → Me → Prop} {K39 : Int32 → Int32 → Int32 → Me → Prop} (hK18 : ∀ (a2 : Int32) (a3 : Int32) (a4 : Int32) (ν : Me), K18 a2 a3 a4 ν → G x 6 18 [(0, .ref (gB x + o0)), (2, .int a2), (3, .int a3), (4, .int a4)] [] ν 0 0) (hK39 : ∀ (a2 : Int32) (a3 : Int32) (a5 : Int32) (ν : Me), K39 a2 a3 a5 ν → G x 6 39 [(0, .ref (gB x + o0)), (2, .int a2), (3, .int a3), (4, .int i4), (5, .int a5)] [] ν 0 0) (h : B_X2_basinOf_39 o0 i2 i3 i4 i5 μ K18 K39 Q) : G x 6 39 [(0, .ref (gB x + o0)), (2, .int i2), (3, .int i3), (4, .int i4), (5, .int i5)] [] μ 0 0 := by
  unfold B_X2_basinOf_39 at h
  refine g_iload f 4 dX2_basinOf_39 rfl ?_
  refine g_aload_n f 0 dX2_basinOf_41 rfl rfl ?_
  obtain ⟨v14, h⟩ := h
  refine g_getR f fk_X2_25 v14 dX2_basinOf_42 rfl h (fun t15 h => ?_)
  obtain ⟨v16, h⟩ := h
  refine g_callV f mk_X2_45 v16 (c_X9_allRings h) dX2_basinOf_45 rfl rfl (Nat.le_of_ble_eq_true rfl) (rm_ok (by decide) (by decide)) ⟨Nat.le_of_ble_eq_true rfl, Nat.le_of_ble_eq_true rfl⟩ (kI fun r19 μ17 x18 h => ?_)
  refine g_ic_ge f 95 dX2_basinOf_48 rfl h (fun h => ?_) (fun h => ?_)
  · refine h_iinc f 3 1 dX2_basinOf_95 rfl kc_1 (by decide) ?_
    refine g_goto f 18 dX2_basinOf_98 rfl ?_
    exact h_sub [1, 2, 3, 0] rfl (hK18 _ _ _ _ h)
  · refine g_aload_n f 0 dX2_basinOf_51 rfl rfl ?_
    have v14 := mex_ok x18 v14
    refine g_getR f fk_X2_18 v14 dX2_basinOf_52 rfl h (fun t20 h => ?_)
    refine g_iload f 4 dX2_basinOf_55 rfl ?_
    obtain ⟨v21, h⟩ := h
    refine g_iald f v21 dX2_basinOf_57 h (fun h => ?_)
    refine g_if_ne f 89 dX2_basinOf_58 rfl h (fun h => ?_) (fun h => ?_)
    · exact h_sub [0, 1, 2, 3, 4] rfl (tB_X2_basinOf_89 f hq hK18 hK39 h)
    · refine g_aload_n f 0 dX2_basinOf_61 rfl rfl ?_
      refine g_getR f fk_X2_18 v14 dX2_basinOf_62 rfl h (fun t22 h => ?_)
      refine g_aload_n f 0 dX2_basinOf_65 rfl rfl ?_
      refine g_iload f 4 dX2_basinOf_66 rfl ?_
      refine g_callV f mk_X2_42 v14 (c_X2_next h) dX2_basinOf_68 rfl rfl (Nat.le_of_ble_eq_true rfl) (rm_ok (by decide) (by decide)) ⟨Nat.le_of_ble_eq_true rfl, Nat.le_of_ble_eq_true rfl⟩ (kI fun r25 μ23 x24 h => ?_)
      obtain ⟨v26, h⟩ := h
      refine g_iald f v26 dX2_basinOf_71 h (fun h => ?_)
      refine g_iconst f 1 dX2_basinOf_72 kc_1 ?_
      refine g_ic_ne f 89 dX2_basinOf_73 rfl h (fun h => ?_) (fun h => ?_)
      · exact h_sub [0, 1, 2, 3, 4] rfl (tB_X2_basinOf_89 f hq hK18 hK39 h)
      · refine g_aload_n f 0 dX2_basinOf_76 rfl rfl ?_
        have v14 := mex_ok x24 v14
        refine g_getR f fk_X2_18 v14 dX2_basinOf_77 rfl h (fun t27 h => ?_)
        refine g_iload f 4 dX2_basinOf_80 rfl ?_
        refine g_iconst f 1 dX2_basinOf_82 kc_1 ?_
        obtain ⟨v28, h⟩ := h
        refine g_iast f v28 dX2_basinOf_83 h (fun h => ?_)
        refine h_iinc f 1 1 dX2_basinOf_84 rfl kc_1 (by decide) ?_
        refine g_iconst f 1 dX2_basinOf_87 kc_1 ?_
        refine h_istore_n f dX2_basinOf_88 rfl (by decide) ?_
        exact h_sub [2, 1, 0, 3, 4] rfl (tB_X2_basinOf_89 f hq hK18 hK39 h)
def L_X2_basinOf_39 (o0 : Nat) (i2 : Int32) (i3 : Int32) (i4 : Int32) (i5 : Int32) (μ : Me) (K18 : Int32 → Int32 → Int32 → Me → Prop) (Q : Int32 → Me → Prop) : Prop := ∃ I : Int32 → Int32 → Int32 → Me → Nat → Prop, (∃ n, I i2 i3 i5 μ n) ∧ ∀ (i2 : Int32) (i3 : Int32) (i5 : Int32) (μ : Me) (n : Nat), I i2 i3 i5 μ n → B_X2_basinOf_39 o0 i2 i3 i4 i5 μ K18 (fun a2 a3 a5 ν => ∃ n', n' < n ∧ I a2 a3 a5 ν n') Q
set_option maxHeartbeats 4000000 in
set_option maxRecDepth 100000 in
theorem tL_X2_basinOf_39 {x : GX} (f : Fx x cX2_basinOf RX2 6 (rmc 5 0 0)) {o0 : Nat} {i2 : Int32} {i3 : Int32} {i4 : Int32} {i5 : Int32} {μ : Me} {Q : Int32 → Me → Prop} (hq : Rt x (some .int) (qI Q)) {K18 : Int32 → Int32 → Int32 → Me → Prop} (hK18 : ∀ (a2 : Int32) (a3 : Int32) (a4 : Int32) (ν : Me), K18 a2 a3 a4 ν → G x 6 18 [(0, .ref (gB x + o0)), (2, .int a2), (3, .int a3), (4, .int a4)] [] ν 0 0) (h : L_X2_basinOf_39 o0 i2 i3 i4 i5 μ K18 Q) : G x 6 39 [(0, .ref (gB x + o0)), (2, .int i2), (3, .int i3), (4, .int i4), (5, .int i5)] [] μ 0 0 := by
  obtain ⟨I, ⟨n, hI⟩, hs⟩ := h
  induction n using Nat.strongRecOn generalizing i2 i3 i5 μ with
  | ind n ih => exact tB_X2_basinOf_39 f hq hK18 (fun a2 a3 a5 ν hk => by obtain ⟨n2, hn, hI2⟩ := hk; exact ih n2 hn hI2) (hs _ _ _ _ _ hI)
def B_X2_basinOf_18 (o0 : Nat) (i2 : Int32) (i3 : Int32) (i4 : Int32) (μ : Me) (K18 : Int32 → Int32 → Int32 → Me → Prop) (Q : Int32 → Me → Prop) : Prop := mok μ o0 2 ∧ ∃ t9, mgr μ o0 0 = some t9 ∧ mok μ t9 9 ∧ S_X9_allRings t9 μ (fun r13 μ11 => ((r13 ≤ i4 → Q i2 μ11) ∧ (¬ r13 ≤ i4 → ((i3 = 0 → Q i2 μ11) ∧ (¬ i3 = 0 → L_X2_basinOf_39 o0 i2 0 i4 0 μ11 K18 Q)))))
set_option maxHeartbeats 4000000 in
set_option maxRecDepth 100000 in
theorem tB_X2_basinOf_18 {x : GX} (f : Fx x cX2_basinOf RX2 6 (rmc 5 0 0)) {o0 : Nat} {i2 : Int32} {i3 : Int32} {i4 : Int32} {μ : Me} {Q : Int32 → Me → Prop} (hq : Rt x (some .int) (qI Q)) {K18 : Int32 → Int32 → Int32 → Me → Prop} (hK18 : ∀ (a2 : Int32) (a3 : Int32) (a4 : Int32) (ν : Me), K18 a2 a3 a4 ν → G x 6 18 [(0, .ref (gB x + o0)), (2, .int a2), (3, .int a3), (4, .int a4)] [] ν 0 0) (h : B_X2_basinOf_18 o0 i2 i3 i4 μ K18 Q) : G x 6 18 [(0, .ref (gB x + o0)), (2, .int i2), (3, .int i3), (4, .int i4)] [] μ 0 0 := by
  unfold B_X2_basinOf_18 at h
  refine g_iload f 3 dX2_basinOf_18 rfl ?_
  refine g_aload_n f 0 dX2_basinOf_20 rfl rfl ?_
  obtain ⟨v8, h⟩ := h
  refine g_getR f fk_X2_25 v8 dX2_basinOf_21 rfl h (fun t9 h => ?_)
  obtain ⟨v10, h⟩ := h
  refine g_callV f mk_X2_45 v10 (c_X9_allRings h) dX2_basinOf_24 rfl rfl (Nat.le_of_ble_eq_true rfl) (rm_ok (by decide) (by decide)) ⟨Nat.le_of_ble_eq_true rfl, Nat.le_of_ble_eq_true rfl⟩ (kI fun r13 μ11 x12 h => ?_)
  refine g_ic_ge f 101 dX2_basinOf_27 rfl h (fun h => ?_) (fun h => ?_)
  · refine g_iload_n f 1 dX2_basinOf_101 rfl rfl ?_
    exact g_iret f hq (Nat.le_of_ble_eq_true rfl) (Nat.le_of_ble_eq_true rfl) dX2_basinOf_102 h
  · refine g_iload_n f 2 dX2_basinOf_30 rfl rfl ?_
    refine g_if_eq f 101 dX2_basinOf_31 rfl h (fun h => ?_) (fun h => ?_)
    · refine g_iload_n f 1 dX2_basinOf_101 rfl rfl ?_
      exact g_iret f hq (Nat.le_of_ble_eq_true rfl) (Nat.le_of_ble_eq_true rfl) dX2_basinOf_102 h
    · refine g_iconst f 0 dX2_basinOf_34 kc_0 ?_
      refine h_istore_n f dX2_basinOf_35 rfl (by decide) ?_
      refine g_iconst f 0 dX2_basinOf_36 kc_0 ?_
      refine h_istore f dX2_basinOf_37 (by decide) ?_
      exact h_sub [2, 3, 1, 4, 0] rfl (tL_X2_basinOf_39 f hq hK18 h)
def L_X2_basinOf_18 (o0 : Nat) (i2 : Int32) (i3 : Int32) (i4 : Int32) (μ : Me) (Q : Int32 → Me → Prop) : Prop := ∃ I : Int32 → Int32 → Int32 → Me → Nat → Prop, (∃ n, I i2 i3 i4 μ n) ∧ ∀ (i2 : Int32) (i3 : Int32) (i4 : Int32) (μ : Me) (n : Nat), I i2 i3 i4 μ n → B_X2_basinOf_18 o0 i2 i3 i4 μ (fun a2 a3 a4 ν => ∃ n', n' < n ∧ I a2 a3 a4 ν n') Q
set_option maxHeartbeats 4000000 in
set_option maxRecDepth 100000 in
theorem tL_X2_basinOf_18 {x : GX} (f : Fx x cX2_basinOf RX2 6 (rmc 5 0 0)) {o0 : Nat} {i2 : Int32} {i3 : Int32} {i4 : Int32} {μ : Me} {Q : Int32 → Me → Prop} (hq : Rt x (some .int) (qI Q)) (h : L_X2_basinOf_18 o0 i2 i3 i4 μ Q) : G x 6 18 [(0, .ref (gB x + o0)), (2, .int i2), (3, .int i3), (4, .int i4)] [] μ 0 0 := by
  obtain ⟨I, ⟨n, hI⟩, hs⟩ := h
  induction n using Nat.strongRecOn generalizing i2 i3 i4 μ with
  | ind n ih => exact tB_X2_basinOf_18 f hq (fun a2 a3 a4 ν hk => by obtain ⟨n2, hn, hI2⟩ := hk; exact ih n2 hn hI2) (hs _ _ _ _ _ hI)
def S_X2_basinOf (o0 : Nat) (i1 : Int32) (μ : Me) (Q : Int32 → Me → Prop) : Prop := mok μ o0 2 ∧ S_X2_clearMarks o0 μ (fun μ2 => ∃ t5, mgr μ2 o0 4 = some t5 ∧ mok μ2 t5 12 ∧ vp_in i1 (mln μ2 t5) ∧ ∀ μ7, μ7 = msi μ2 t5 i1.toNatClampNeg 1 → L_X2_basinOf_18 o0 1 1 0 μ7 Q)
set_option maxHeartbeats 4000000 in
set_option maxRecDepth 100000 in
theorem t_X2_basinOf {x : GX} (f : Fx x cX2_basinOf RX2 6 (rmc 5 0 0)) {o0 : Nat} {i1 : Int32} {μ : Me} {Q : Int32 → Me → Prop} (hq : Rt x (some .int) (qI Q)) (h : S_X2_basinOf o0 i1 μ Q) : G x 6 0 [(0, .ref (gB x + o0)), (1, .int i1)] [] μ 0 0 := by
  unfold S_X2_basinOf at h
  refine g_aload_n f 0 dX2_basinOf_0 rfl rfl ?_
  obtain ⟨v1, h⟩ := h
  refine g_callV f mk_X2_64 v1 (c_X2_clearMarks h) dX2_basinOf_1 rfl rfl (Nat.le_of_ble_eq_true rfl) (rm_ok (by decide) (by decide)) ⟨Nat.le_of_ble_eq_true rfl, Nat.le_of_ble_eq_true rfl⟩ (kV fun μ2 x3 h => ?_)
  refine g_aload_n f 0 dX2_basinOf_4 rfl rfl ?_
  have v1 := mex_ok x3 v1
  refine g_getR f fk_X2_18 v1 dX2_basinOf_5 rfl h (fun t5 h => ?_)
  refine g_iload_n f 1 dX2_basinOf_8 rfl rfl ?_
  refine g_iconst f 1 dX2_basinOf_9 kc_1 ?_
  obtain ⟨v6, h⟩ := h
  refine g_iast f v6 dX2_basinOf_10 h (fun h => ?_)
  refine g_iconst f 1 dX2_basinOf_11 kc_1 ?_
  refine h_istore_n f dX2_basinOf_12 rfl (by decide) ?_
  refine g_iconst f 1 dX2_basinOf_13 kc_1 ?_
  refine h_istore_n f dX2_basinOf_14 rfl (by decide) ?_
  refine g_iconst f 0 dX2_basinOf_15 kc_0 ?_
  refine h_istore f dX2_basinOf_16 (by decide) ?_
  exact h_sub [3, 2, 1, 0] rfl (tL_X2_basinOf_18 f hq h)
theorem c_X2_basinOf {Ω : OM} {o0 : Nat} {i1 : Int32} {μ : Me} {Q : Int32 → Me → Prop} (h : S_X2_basinOf o0 i1 μ Q) : CT Ω yX2_basinOf cX2_basinOf 6 (some .int) (rmc 5 0 0) [.ref (oB Ω + o0), .int i1] μ (qI Q) := CT_of (by decide) rfl (by simp [lg_sl, Value.category]) (fun x hΩ f hq hi => by subst hΩ; exact t_X2_basinOf f hq h)
theorem dX2_neverLedTo_0 : decode cX2_neverLedTo 0 = .ok (.aload_n 0, 1) := by decide +kernel
theorem dX2_neverLedTo_1 : decode cX2_neverLedTo 1 = .ok (.invokevirtual 64, 3) := by decide +kernel
theorem dX2_neverLedTo_4 : decode cX2_neverLedTo 4 = .ok (.aload_n 0, 1) := by decide +kernel
theorem dX2_neverLedTo_5 : decode cX2_neverLedTo 5 = .ok (.getfield 25, 3) := by decide +kernel
theorem dX2_neverLedTo_8 : decode cX2_neverLedTo 8 = .ok (.invokevirtual 45, 3) := by decide +kernel
theorem dX2_neverLedTo_11 : decode cX2_neverLedTo 11 = .ok (.istore_n 1, 1) := by decide +kernel
theorem dX2_neverLedTo_12 : decode cX2_neverLedTo 12 = .ok (.iconst 0, 1) := by decide +kernel
theorem dX2_neverLedTo_13 : decode cX2_neverLedTo 13 = .ok (.istore_n 2, 1) := by decide +kernel
theorem dX2_neverLedTo_14 : decode cX2_neverLedTo 14 = .ok (.iload_n 2, 1) := by decide +kernel
theorem dX2_neverLedTo_15 : decode cX2_neverLedTo 15 = .ok (.aload_n 0, 1) := by decide +kernel
theorem dX2_neverLedTo_16 : decode cX2_neverLedTo 16 = .ok (.getfield 25, 3) := by decide +kernel
theorem dX2_neverLedTo_19 : decode cX2_neverLedTo 19 = .ok (.invokevirtual 45, 3) := by decide +kernel
theorem dX2_neverLedTo_22 : decode cX2_neverLedTo 22 = .ok (.if_icmp .ge 39, 3) := by decide +kernel
theorem dX2_neverLedTo_25 : decode cX2_neverLedTo 25 = .ok (.aload_n 0, 1) := by decide +kernel
theorem dX2_neverLedTo_26 : decode cX2_neverLedTo 26 = .ok (.iload_n 2, 1) := by decide +kernel
theorem dX2_neverLedTo_27 : decode cX2_neverLedTo 27 = .ok (.invokevirtual 42, 3) := by decide +kernel
theorem dX2_neverLedTo_30 : decode cX2_neverLedTo 30 = .ok (.istore_n 3, 1) := by decide +kernel
theorem dX2_neverLedTo_31 : decode cX2_neverLedTo 31 = .ok (.iload_n 1, 1) := by decide +kernel
theorem dX2_neverLedTo_32 : decode cX2_neverLedTo 32 = .ok (.aload_n 0, 1) := by decide +kernel
theorem dX2_neverLedTo_33 : decode cX2_neverLedTo 33 = .ok (.getfield 18, 3) := by decide +kernel
theorem dX2_neverLedTo_36 : decode cX2_neverLedTo 36 = .ok (.iload_n 3, 1) := by decide +kernel
theorem dX2_neverLedTo_37 : decode cX2_neverLedTo 37 = .ok (.iaload, 1) := by decide +kernel
theorem dX2_neverLedTo_38 : decode cX2_neverLedTo 38 = .ok (.ifCond .ne 7, 3) := by decide +kernel
theorem dX2_neverLedTo_41 : decode cX2_neverLedTo 41 = .ok (.iconst 1, 1) := by decide +kernel
theorem dX2_neverLedTo_42 : decode cX2_neverLedTo 42 = .ok (.goto 4, 3) := by decide +kernel
theorem dX2_neverLedTo_45 : decode cX2_neverLedTo 45 = .ok (.iconst 0, 1) := by decide +kernel
theorem dX2_neverLedTo_46 : decode cX2_neverLedTo 46 = .ok (.isub, 1) := by decide +kernel
theorem dX2_neverLedTo_47 : decode cX2_neverLedTo 47 = .ok (.istore_n 1, 1) := by decide +kernel
theorem dX2_neverLedTo_48 : decode cX2_neverLedTo 48 = .ok (.aload_n 0, 1) := by decide +kernel
theorem dX2_neverLedTo_49 : decode cX2_neverLedTo 49 = .ok (.getfield 18, 3) := by decide +kernel
theorem dX2_neverLedTo_52 : decode cX2_neverLedTo 52 = .ok (.iload_n 3, 1) := by decide +kernel
theorem dX2_neverLedTo_53 : decode cX2_neverLedTo 53 = .ok (.iconst 1, 1) := by decide +kernel
theorem dX2_neverLedTo_54 : decode cX2_neverLedTo 54 = .ok (.iastore, 1) := by decide +kernel
theorem dX2_neverLedTo_55 : decode cX2_neverLedTo 55 = .ok (.iinc 2 1, 3) := by decide +kernel
theorem dX2_neverLedTo_58 : decode cX2_neverLedTo 58 = .ok (.goto (-44), 3) := by decide +kernel
theorem dX2_neverLedTo_61 : decode cX2_neverLedTo 61 = .ok (.iload_n 1, 1) := by decide +kernel
theorem dX2_neverLedTo_62 : decode cX2_neverLedTo 62 = .ok (.ireturn, 1) := by decide +kernel
def B_X2_neverLedTo_46 (o0 : Nat) (i2 : Int32) (i3 : Int32) (s0 : Int32) (s1 : Int32) (μ : Me) (K14 : Int32 → Int32 → Me → Prop) (Q : Int32 → Me → Prop) : Prop := mok μ o0 2 ∧ ∃ t22, mgr μ o0 4 = some t22 ∧ mok μ t22 12 ∧ vp_in i3 (mln μ t22) ∧ ∀ μ24, μ24 = msi μ t22 i3.toNatClampNeg 1 → K14 (s1 - s0) (i2 + 1) μ24
set_option maxHeartbeats 4000000 in
set_option maxRecDepth 100000 in
theorem tB_X2_neverLedTo_46 {x : GX} (f : Fx x cX2_neverLedTo RX2 4 (rmc 5 0 0)) {o0 : Nat} {i2 : Int32} {i3 : Int32} {s0 : Int32} {s1 : Int32} {μ : Me} {Q : Int32 → Me → Prop} (hq : Rt x (some .int) (qI Q)) {K14 : Int32 → Int32 → Me → Prop} (hK14 : ∀ (a1 : Int32) (a2 : Int32) (ν : Me), K14 a1 a2 ν → G x 4 14 [(0, .ref (gB x + o0)), (1, .int a1), (2, .int a2)] [] ν 0 0) (h : B_X2_neverLedTo_46 o0 i2 i3 s0 s1 μ K14 Q) : G x 4 46 [(0, .ref (gB x + o0)), (2, .int i2), (3, .int i3)] [.int s0, .int s1] μ 0 0 := by
  unfold B_X2_neverLedTo_46 at h
  refine g_isub f dX2_neverLedTo_46 ?_
  refine h_istore_n f dX2_neverLedTo_47 rfl (by decide) ?_
  refine g_aload_n f 1 dX2_neverLedTo_48 rfl rfl ?_
  obtain ⟨v21, h⟩ := h
  refine g_getR f fk_X2_18 v21 dX2_neverLedTo_49 rfl h (fun t22 h => ?_)
  refine g_iload_n f 3 dX2_neverLedTo_52 rfl rfl ?_
  refine g_iconst f 1 dX2_neverLedTo_53 kc_1 ?_
  obtain ⟨v23, h⟩ := h
  refine g_iast f v23 dX2_neverLedTo_54 h (fun h => ?_)
  refine h_iinc f 2 1 dX2_neverLedTo_55 rfl kc_1 (by decide) ?_
  refine g_goto f 14 dX2_neverLedTo_58 rfl ?_
  exact h_sub [2, 1, 0] rfl (hK14 _ _ _ h)
def B_X2_neverLedTo_14 (o0 : Nat) (i1 : Int32) (i2 : Int32) (μ : Me) (K14 : Int32 → Int32 → Me → Prop) (Q : Int32 → Me → Prop) : Prop := mok μ o0 2 ∧ ∃ t11, mgr μ o0 0 = some t11 ∧ mok μ t11 9 ∧ S_X9_allRings t11 μ (fun r15 μ13 => ((r15 ≤ i2 → Q i1 μ13) ∧ (¬ r15 ≤ i2 → S_X2_next o0 i2 μ13 (fun r18 μ16 => ∃ t19, mgr μ16 o0 4 = some t19 ∧ mok μ16 t19 12 ∧ vp_in r18 (mln μ16 t19) ∧ ((¬ (mgi μ16 t19 r18.toNatClampNeg) = 0 → B_X2_neverLedTo_46 o0 i2 r18 0 i1 μ16 K14 Q) ∧ ((mgi μ16 t19 r18.toNatClampNeg) = 0 → B_X2_neverLedTo_46 o0 i2 r18 1 i1 μ16 K14 Q))))))
set_option maxHeartbeats 4000000 in
set_option maxRecDepth 100000 in
theorem tB_X2_neverLedTo_14 {x : GX} (f : Fx x cX2_neverLedTo RX2 4 (rmc 5 0 0)) {o0 : Nat} {i1 : Int32} {i2 : Int32} {μ : Me} {Q : Int32 → Me → Prop} (hq : Rt x (some .int) (qI Q)) {K14 : Int32 → Int32 → Me → Prop} (hK14 : ∀ (a1 : Int32) (a2 : Int32) (ν : Me), K14 a1 a2 ν → G x 4 14 [(0, .ref (gB x + o0)), (1, .int a1), (2, .int a2)] [] ν 0 0) (h : B_X2_neverLedTo_14 o0 i1 i2 μ K14 Q) : G x 4 14 [(0, .ref (gB x + o0)), (1, .int i1), (2, .int i2)] [] μ 0 0 := by
  unfold B_X2_neverLedTo_14 at h
  refine g_iload_n f 2 dX2_neverLedTo_14 rfl rfl ?_
  refine g_aload_n f 0 dX2_neverLedTo_15 rfl rfl ?_
  obtain ⟨v10, h⟩ := h
  refine g_getR f fk_X2_25 v10 dX2_neverLedTo_16 rfl h (fun t11 h => ?_)
  obtain ⟨v12, h⟩ := h
  refine g_callV f mk_X2_45 v12 (c_X9_allRings h) dX2_neverLedTo_19 rfl rfl (Nat.le_of_ble_eq_true rfl) (rm_ok (by decide) (by decide)) ⟨Nat.le_of_ble_eq_true rfl, Nat.le_of_ble_eq_true rfl⟩ (kI fun r15 μ13 x14 h => ?_)
  refine g_ic_ge f 61 dX2_neverLedTo_22 rfl h (fun h => ?_) (fun h => ?_)
  · refine g_iload_n f 1 dX2_neverLedTo_61 rfl rfl ?_
    exact g_iret f hq (Nat.le_of_ble_eq_true rfl) (Nat.le_of_ble_eq_true rfl) dX2_neverLedTo_62 h
  · refine g_aload_n f 0 dX2_neverLedTo_25 rfl rfl ?_
    refine g_iload_n f 2 dX2_neverLedTo_26 rfl rfl ?_
    have v10 := mex_ok x14 v10
    refine g_callV f mk_X2_42 v10 (c_X2_next h) dX2_neverLedTo_27 rfl rfl (Nat.le_of_ble_eq_true rfl) (rm_ok (by decide) (by decide)) ⟨Nat.le_of_ble_eq_true rfl, Nat.le_of_ble_eq_true rfl⟩ (kI fun r18 μ16 x17 h => ?_)
    refine h_istore_n f dX2_neverLedTo_30 rfl (by decide) ?_
    refine g_iload_n f 2 dX2_neverLedTo_31 rfl rfl ?_
    refine g_aload_n f 1 dX2_neverLedTo_32 rfl rfl ?_
    have v10 := mex_ok x17 v10
    refine g_getR f fk_X2_18 v10 dX2_neverLedTo_33 rfl h (fun t19 h => ?_)
    refine g_iload_n f 0 dX2_neverLedTo_36 rfl rfl ?_
    obtain ⟨v20, h⟩ := h
    refine g_iald f v20 dX2_neverLedTo_37 h (fun h => ?_)
    refine g_if_ne f 45 dX2_neverLedTo_38 rfl h (fun h => ?_) (fun h => ?_)
    · refine g_iconst f 0 dX2_neverLedTo_45 kc_0 ?_
      exact h_sub [1, 3, 0] rfl (tB_X2_neverLedTo_46 f hq hK14 h)
    · refine g_iconst f 1 dX2_neverLedTo_41 kc_1 ?_
      refine g_goto f 46 dX2_neverLedTo_42 rfl ?_
      exact h_sub [1, 3, 0] rfl (tB_X2_neverLedTo_46 f hq hK14 h)
def L_X2_neverLedTo_14 (o0 : Nat) (i1 : Int32) (i2 : Int32) (μ : Me) (Q : Int32 → Me → Prop) : Prop := ∃ I : Int32 → Int32 → Me → Nat → Prop, (∃ n, I i1 i2 μ n) ∧ ∀ (i1 : Int32) (i2 : Int32) (μ : Me) (n : Nat), I i1 i2 μ n → B_X2_neverLedTo_14 o0 i1 i2 μ (fun a1 a2 ν => ∃ n', n' < n ∧ I a1 a2 ν n') Q
set_option maxHeartbeats 4000000 in
set_option maxRecDepth 100000 in
theorem tL_X2_neverLedTo_14 {x : GX} (f : Fx x cX2_neverLedTo RX2 4 (rmc 5 0 0)) {o0 : Nat} {i1 : Int32} {i2 : Int32} {μ : Me} {Q : Int32 → Me → Prop} (hq : Rt x (some .int) (qI Q)) (h : L_X2_neverLedTo_14 o0 i1 i2 μ Q) : G x 4 14 [(0, .ref (gB x + o0)), (1, .int i1), (2, .int i2)] [] μ 0 0 := by
  obtain ⟨I, ⟨n, hI⟩, hs⟩ := h
  induction n using Nat.strongRecOn generalizing i1 i2 μ with
  | ind n ih => exact tB_X2_neverLedTo_14 f hq (fun a1 a2 ν hk => by obtain ⟨n2, hn, hI2⟩ := hk; exact ih n2 hn hI2) (hs _ _ _ _ hI)
def S_X2_neverLedTo (o0 : Nat) (μ : Me) (Q : Int32 → Me → Prop) : Prop := mok μ o0 2 ∧ S_X2_clearMarks o0 μ (fun μ2 => ∃ t5, mgr μ2 o0 0 = some t5 ∧ mok μ2 t5 9 ∧ S_X9_allRings t5 μ2 (fun r9 μ7 => L_X2_neverLedTo_14 o0 r9 0 μ7 Q))
set_option maxHeartbeats 4000000 in
set_option maxRecDepth 100000 in
theorem t_X2_neverLedTo {x : GX} (f : Fx x cX2_neverLedTo RX2 4 (rmc 5 0 0)) {o0 : Nat} {μ : Me} {Q : Int32 → Me → Prop} (hq : Rt x (some .int) (qI Q)) (h : S_X2_neverLedTo o0 μ Q) : G x 4 0 [(0, .ref (gB x + o0))] [] μ 0 0 := by
  unfold S_X2_neverLedTo at h
  refine g_aload_n f 0 dX2_neverLedTo_0 rfl rfl ?_
  obtain ⟨v1, h⟩ := h
  refine g_callV f mk_X2_64 v1 (c_X2_clearMarks h) dX2_neverLedTo_1 rfl rfl (Nat.le_of_ble_eq_true rfl) (rm_ok (by decide) (by decide)) ⟨Nat.le_of_ble_eq_true rfl, Nat.le_of_ble_eq_true rfl⟩ (kV fun μ2 x3 h => ?_)
  refine g_aload_n f 0 dX2_neverLedTo_4 rfl rfl ?_
  have v1 := mex_ok x3 v1
  refine g_getR f fk_X2_25 v1 dX2_neverLedTo_5 rfl h (fun t5 h => ?_)
  obtain ⟨v6, h⟩ := h
  refine g_callV f mk_X2_45 v6 (c_X9_allRings h) dX2_neverLedTo_8 rfl rfl (Nat.le_of_ble_eq_true rfl) (rm_ok (by decide) (by decide)) ⟨Nat.le_of_ble_eq_true rfl, Nat.le_of_ble_eq_true rfl⟩ (kI fun r9 μ7 x8 h => ?_)
  refine h_istore_n f dX2_neverLedTo_11 rfl (by decide) ?_
  refine g_iconst f 0 dX2_neverLedTo_12 kc_0 ?_
  refine h_istore_n f dX2_neverLedTo_13 rfl (by decide) ?_
  exact h_sub [2, 1, 0] rfl (tL_X2_neverLedTo_14 f hq h)
theorem c_X2_neverLedTo {Ω : OM} {o0 : Nat} {μ : Me} {Q : Int32 → Me → Prop} (h : S_X2_neverLedTo o0 μ Q) : CT Ω yX2_neverLedTo cX2_neverLedTo 4 (some .int) (rmc 5 0 0) [.ref (oB Ω + o0)] μ (qI Q) := CT_of (by decide) rfl (by simp [lg_sl, Value.category]) (fun x hΩ f hq hi => by subst hΩ; exact t_X2_neverLedTo f hq h)
theorem dX2_behind_0 : decode cX2_behind 0 = .ok (.iload_n 1, 1) := by decide +kernel
theorem dX2_behind_1 : decode cX2_behind 1 = .ok (.istore_n 3, 1) := by decide +kernel
theorem dX2_behind_2 : decode cX2_behind 2 = .ok (.iconst 0, 1) := by decide +kernel
theorem dX2_behind_3 : decode cX2_behind 3 = .ok (.istore 4, 2) := by decide +kernel
theorem dX2_behind_5 : decode cX2_behind 5 = .ok (.iload 4, 2) := by decide +kernel
theorem dX2_behind_7 : decode cX2_behind 7 = .ok (.iload_n 2, 1) := by decide +kernel
theorem dX2_behind_8 : decode cX2_behind 8 = .ok (.if_icmp .ge 15, 3) := by decide +kernel
theorem dX2_behind_11 : decode cX2_behind 11 = .ok (.aload_n 0, 1) := by decide +kernel
theorem dX2_behind_12 : decode cX2_behind 12 = .ok (.iload_n 3, 1) := by decide +kernel
theorem dX2_behind_13 : decode cX2_behind 13 = .ok (.invokevirtual 42, 3) := by decide +kernel
theorem dX2_behind_16 : decode cX2_behind 16 = .ok (.istore_n 3, 1) := by decide +kernel
theorem dX2_behind_17 : decode cX2_behind 17 = .ok (.iinc 4 1, 3) := by decide +kernel
theorem dX2_behind_20 : decode cX2_behind 20 = .ok (.goto (-15), 3) := by decide +kernel
theorem dX2_behind_23 : decode cX2_behind 23 = .ok (.iload_n 3, 1) := by decide +kernel
theorem dX2_behind_24 : decode cX2_behind 24 = .ok (.ireturn, 1) := by decide +kernel
def B_X2_behind_5 (o0 : Nat) (i2 : Int32) (i3 : Int32) (i4 : Int32) (μ : Me) (K5 : Int32 → Int32 → Me → Prop) (Q : Int32 → Me → Prop) : Prop := ((i2 ≤ i4 → Q i3 μ) ∧ (¬ i2 ≤ i4 → mok μ o0 2 ∧ S_X2_next o0 i3 μ (fun r4 μ2 => K5 r4 (i4 + 1) μ2)))
set_option maxHeartbeats 4000000 in
set_option maxRecDepth 100000 in
theorem tB_X2_behind_5 {x : GX} (f : Fx x cX2_behind RX2 5 (rmc 5 0 0)) {o0 : Nat} {i2 : Int32} {i3 : Int32} {i4 : Int32} {μ : Me} {Q : Int32 → Me → Prop} (hq : Rt x (some .int) (qI Q)) {K5 : Int32 → Int32 → Me → Prop} (hK5 : ∀ (a3 : Int32) (a4 : Int32) (ν : Me), K5 a3 a4 ν → G x 5 5 [(0, .ref (gB x + o0)), (2, .int i2), (3, .int a3), (4, .int a4)] [] ν 0 0) (h : B_X2_behind_5 o0 i2 i3 i4 μ K5 Q) : G x 5 5 [(0, .ref (gB x + o0)), (2, .int i2), (3, .int i3), (4, .int i4)] [] μ 0 0 := by
  unfold B_X2_behind_5 at h
  refine g_iload f 3 dX2_behind_5 rfl ?_
  refine g_iload_n f 1 dX2_behind_7 rfl rfl ?_
  refine g_ic_ge f 23 dX2_behind_8 rfl h (fun h => ?_) (fun h => ?_)
  · refine g_iload_n f 2 dX2_behind_23 rfl rfl ?_
    exact g_iret f hq (Nat.le_of_ble_eq_true rfl) (Nat.le_of_ble_eq_true rfl) dX2_behind_24 h
  · refine g_aload_n f 0 dX2_behind_11 rfl rfl ?_
    refine g_iload_n f 2 dX2_behind_12 rfl rfl ?_
    obtain ⟨v1, h⟩ := h
    refine g_callV f mk_X2_42 v1 (c_X2_next h) dX2_behind_13 rfl rfl (Nat.le_of_ble_eq_true rfl) (rm_ok (by decide) (by decide)) ⟨Nat.le_of_ble_eq_true rfl, Nat.le_of_ble_eq_true rfl⟩ (kI fun r4 μ2 x3 h => ?_)
    refine h_istore_n f dX2_behind_16 rfl (by decide) ?_
    refine h_iinc f 3 1 dX2_behind_17 rfl kc_1 (by decide) ?_
    refine g_goto f 5 dX2_behind_20 rfl ?_
    exact h_sub [2, 3, 1, 0] rfl (hK5 _ _ _ h)
def L_X2_behind_5 (o0 : Nat) (i2 : Int32) (i3 : Int32) (i4 : Int32) (μ : Me) (Q : Int32 → Me → Prop) : Prop := ∃ I : Int32 → Int32 → Me → Nat → Prop, (∃ n, I i3 i4 μ n) ∧ ∀ (i3 : Int32) (i4 : Int32) (μ : Me) (n : Nat), I i3 i4 μ n → B_X2_behind_5 o0 i2 i3 i4 μ (fun a3 a4 ν => ∃ n', n' < n ∧ I a3 a4 ν n') Q
set_option maxHeartbeats 4000000 in
set_option maxRecDepth 100000 in
theorem tL_X2_behind_5 {x : GX} (f : Fx x cX2_behind RX2 5 (rmc 5 0 0)) {o0 : Nat} {i2 : Int32} {i3 : Int32} {i4 : Int32} {μ : Me} {Q : Int32 → Me → Prop} (hq : Rt x (some .int) (qI Q)) (h : L_X2_behind_5 o0 i2 i3 i4 μ Q) : G x 5 5 [(0, .ref (gB x + o0)), (2, .int i2), (3, .int i3), (4, .int i4)] [] μ 0 0 := by
  obtain ⟨I, ⟨n, hI⟩, hs⟩ := h
  induction n using Nat.strongRecOn generalizing i3 i4 μ with
  | ind n ih => exact tB_X2_behind_5 f hq (fun a3 a4 ν hk => by obtain ⟨n2, hn, hI2⟩ := hk; exact ih n2 hn hI2) (hs _ _ _ _ hI)
def S_X2_behind (o0 : Nat) (i1 : Int32) (i2 : Int32) (μ : Me) (Q : Int32 → Me → Prop) : Prop := L_X2_behind_5 o0 i2 i1 0 μ Q
set_option maxHeartbeats 4000000 in
set_option maxRecDepth 100000 in
theorem t_X2_behind {x : GX} (f : Fx x cX2_behind RX2 5 (rmc 5 0 0)) {o0 : Nat} {i1 : Int32} {i2 : Int32} {μ : Me} {Q : Int32 → Me → Prop} (hq : Rt x (some .int) (qI Q)) (h : S_X2_behind o0 i1 i2 μ Q) : G x 5 0 [(0, .ref (gB x + o0)), (1, .int i1), (2, .int i2)] [] μ 0 0 := by
  unfold S_X2_behind at h
  refine g_iload_n f 1 dX2_behind_0 rfl rfl ?_
  refine h_istore_n f dX2_behind_1 rfl (by decide) ?_
  refine g_iconst f 0 dX2_behind_2 kc_0 ?_
  refine h_istore f dX2_behind_3 (by decide) ?_
  exact h_sub [2, 4, 1, 0] rfl (tL_X2_behind_5 f hq h)
theorem c_X2_behind {Ω : OM} {o0 : Nat} {i1 : Int32} {i2 : Int32} {μ : Me} {Q : Int32 → Me → Prop} (h : S_X2_behind o0 i1 i2 μ Q) : CT Ω yX2_behind cX2_behind 5 (some .int) (rmc 5 0 0) [.ref (oB Ω + o0), .int i1, .int i2] μ (qI Q) := CT_of (by decide) rfl (by simp [lg_sl, Value.category]) (fun x hΩ f hq hi => by subst hΩ; exact t_X2_behind f hq h)
theorem dX2_timesTill_0 : decode cX2_timesTill 0 = .ok (.iload_n 1, 1) := by decide +kernel
theorem dX2_timesTill_1 : decode cX2_timesTill 1 = .ok (.istore_n 3, 1) := by decide +kernel
theorem dX2_timesTill_2 : decode cX2_timesTill 2 = .ok (.iconst 0, 1) := by decide +kernel
theorem dX2_timesTill_3 : decode cX2_timesTill 3 = .ok (.istore 4, 2) := by decide +kernel
theorem dX2_timesTill_5 : decode cX2_timesTill 5 = .ok (.iload 4, 2) := by decide +kernel
theorem dX2_timesTill_7 : decode cX2_timesTill 7 = .ok (.aload_n 0, 1) := by decide +kernel
theorem dX2_timesTill_8 : decode cX2_timesTill 8 = .ok (.getfield 25, 3) := by decide +kernel
theorem dX2_timesTill_11 : decode cX2_timesTill 11 = .ok (.invokevirtual 45, 3) := by decide +kernel
theorem dX2_timesTill_14 : decode cX2_timesTill 14 = .ok (.if_icmp .ge 23, 3) := by decide +kernel
theorem dX2_timesTill_17 : decode cX2_timesTill 17 = .ok (.iload_n 3, 1) := by decide +kernel
theorem dX2_timesTill_18 : decode cX2_timesTill 18 = .ok (.iload_n 2, 1) := by decide +kernel
theorem dX2_timesTill_19 : decode cX2_timesTill 19 = .ok (.if_icmp .ne 6, 3) := by decide +kernel
theorem dX2_timesTill_22 : decode cX2_timesTill 22 = .ok (.iload 4, 2) := by decide +kernel
theorem dX2_timesTill_24 : decode cX2_timesTill 24 = .ok (.ireturn, 1) := by decide +kernel
theorem dX2_timesTill_25 : decode cX2_timesTill 25 = .ok (.aload_n 0, 1) := by decide +kernel
theorem dX2_timesTill_26 : decode cX2_timesTill 26 = .ok (.iload_n 3, 1) := by decide +kernel
theorem dX2_timesTill_27 : decode cX2_timesTill 27 = .ok (.invokevirtual 42, 3) := by decide +kernel
theorem dX2_timesTill_30 : decode cX2_timesTill 30 = .ok (.istore_n 3, 1) := by decide +kernel
theorem dX2_timesTill_31 : decode cX2_timesTill 31 = .ok (.iinc 4 1, 3) := by decide +kernel
theorem dX2_timesTill_34 : decode cX2_timesTill 34 = .ok (.goto (-29), 3) := by decide +kernel
theorem dX2_timesTill_37 : decode cX2_timesTill 37 = .ok (.iconst (-1), 1) := by decide +kernel
theorem dX2_timesTill_38 : decode cX2_timesTill 38 = .ok (.ireturn, 1) := by decide +kernel
def B_X2_timesTill_5 (o0 : Nat) (i2 : Int32) (i3 : Int32) (i4 : Int32) (μ : Me) (K5 : Int32 → Int32 → Me → Prop) (Q : Int32 → Me → Prop) : Prop := mok μ o0 2 ∧ ∃ t2, mgr μ o0 0 = some t2 ∧ mok μ t2 9 ∧ S_X9_allRings t2 μ (fun r6 μ4 => ((r6 ≤ i4 → Q (-1) μ4) ∧ (¬ r6 ≤ i4 → ((¬ i3 = i2 → S_X2_next o0 i3 μ4 (fun r9 μ7 => K5 r9 (i4 + 1) μ7)) ∧ (i3 = i2 → Q i4 μ4)))))
set_option maxHeartbeats 4000000 in
set_option maxRecDepth 100000 in
theorem tB_X2_timesTill_5 {x : GX} (f : Fx x cX2_timesTill RX2 5 (rmc 5 0 0)) {o0 : Nat} {i2 : Int32} {i3 : Int32} {i4 : Int32} {μ : Me} {Q : Int32 → Me → Prop} (hq : Rt x (some .int) (qI Q)) {K5 : Int32 → Int32 → Me → Prop} (hK5 : ∀ (a3 : Int32) (a4 : Int32) (ν : Me), K5 a3 a4 ν → G x 5 5 [(0, .ref (gB x + o0)), (2, .int i2), (3, .int a3), (4, .int a4)] [] ν 0 0) (h : B_X2_timesTill_5 o0 i2 i3 i4 μ K5 Q) : G x 5 5 [(0, .ref (gB x + o0)), (2, .int i2), (3, .int i3), (4, .int i4)] [] μ 0 0 := by
  unfold B_X2_timesTill_5 at h
  refine g_iload f 3 dX2_timesTill_5 rfl ?_
  refine g_aload_n f 0 dX2_timesTill_7 rfl rfl ?_
  obtain ⟨v1, h⟩ := h
  refine g_getR f fk_X2_25 v1 dX2_timesTill_8 rfl h (fun t2 h => ?_)
  obtain ⟨v3, h⟩ := h
  refine g_callV f mk_X2_45 v3 (c_X9_allRings h) dX2_timesTill_11 rfl rfl (Nat.le_of_ble_eq_true rfl) (rm_ok (by decide) (by decide)) ⟨Nat.le_of_ble_eq_true rfl, Nat.le_of_ble_eq_true rfl⟩ (kI fun r6 μ4 x5 h => ?_)
  refine g_ic_ge f 37 dX2_timesTill_14 rfl h (fun h => ?_) (fun h => ?_)
  · refine g_iconst f (-1) dX2_timesTill_37 kc_m1 ?_
    exact g_iret f hq (Nat.le_of_ble_eq_true rfl) (Nat.le_of_ble_eq_true rfl) dX2_timesTill_38 h
  · refine g_iload_n f 2 dX2_timesTill_17 rfl rfl ?_
    refine g_iload_n f 1 dX2_timesTill_18 rfl rfl ?_
    refine g_ic_ne f 25 dX2_timesTill_19 rfl h (fun h => ?_) (fun h => ?_)
    · refine g_aload_n f 0 dX2_timesTill_25 rfl rfl ?_
      refine g_iload_n f 2 dX2_timesTill_26 rfl rfl ?_
      have v1 := mex_ok x5 v1
      refine g_callV f mk_X2_42 v1 (c_X2_next h) dX2_timesTill_27 rfl rfl (Nat.le_of_ble_eq_true rfl) (rm_ok (by decide) (by decide)) ⟨Nat.le_of_ble_eq_true rfl, Nat.le_of_ble_eq_true rfl⟩ (kI fun r9 μ7 x8 h => ?_)
      refine h_istore_n f dX2_timesTill_30 rfl (by decide) ?_
      refine h_iinc f 3 1 dX2_timesTill_31 rfl kc_1 (by decide) ?_
      refine g_goto f 5 dX2_timesTill_34 rfl ?_
      exact h_sub [2, 3, 1, 0] rfl (hK5 _ _ _ h)
    · refine g_iload f 3 dX2_timesTill_22 rfl ?_
      exact g_iret f hq (Nat.le_of_ble_eq_true rfl) (Nat.le_of_ble_eq_true rfl) dX2_timesTill_24 h
def L_X2_timesTill_5 (o0 : Nat) (i2 : Int32) (i3 : Int32) (i4 : Int32) (μ : Me) (Q : Int32 → Me → Prop) : Prop := ∃ I : Int32 → Int32 → Me → Nat → Prop, (∃ n, I i3 i4 μ n) ∧ ∀ (i3 : Int32) (i4 : Int32) (μ : Me) (n : Nat), I i3 i4 μ n → B_X2_timesTill_5 o0 i2 i3 i4 μ (fun a3 a4 ν => ∃ n', n' < n ∧ I a3 a4 ν n') Q
set_option maxHeartbeats 4000000 in
set_option maxRecDepth 100000 in
theorem tL_X2_timesTill_5 {x : GX} (f : Fx x cX2_timesTill RX2 5 (rmc 5 0 0)) {o0 : Nat} {i2 : Int32} {i3 : Int32} {i4 : Int32} {μ : Me} {Q : Int32 → Me → Prop} (hq : Rt x (some .int) (qI Q)) (h : L_X2_timesTill_5 o0 i2 i3 i4 μ Q) : G x 5 5 [(0, .ref (gB x + o0)), (2, .int i2), (3, .int i3), (4, .int i4)] [] μ 0 0 := by
  obtain ⟨I, ⟨n, hI⟩, hs⟩ := h
  induction n using Nat.strongRecOn generalizing i3 i4 μ with
  | ind n ih => exact tB_X2_timesTill_5 f hq (fun a3 a4 ν hk => by obtain ⟨n2, hn, hI2⟩ := hk; exact ih n2 hn hI2) (hs _ _ _ _ hI)
def S_X2_timesTill (o0 : Nat) (i1 : Int32) (i2 : Int32) (μ : Me) (Q : Int32 → Me → Prop) : Prop := L_X2_timesTill_5 o0 i2 i1 0 μ Q
set_option maxHeartbeats 4000000 in
set_option maxRecDepth 100000 in
theorem t_X2_timesTill {x : GX} (f : Fx x cX2_timesTill RX2 5 (rmc 5 0 0)) {o0 : Nat} {i1 : Int32} {i2 : Int32} {μ : Me} {Q : Int32 → Me → Prop} (hq : Rt x (some .int) (qI Q)) (h : S_X2_timesTill o0 i1 i2 μ Q) : G x 5 0 [(0, .ref (gB x + o0)), (1, .int i1), (2, .int i2)] [] μ 0 0 := by
  unfold S_X2_timesTill at h
  refine g_iload_n f 1 dX2_timesTill_0 rfl rfl ?_
  refine h_istore_n f dX2_timesTill_1 rfl (by decide) ?_
  refine g_iconst f 0 dX2_timesTill_2 kc_0 ?_
  refine h_istore f dX2_timesTill_3 (by decide) ?_
  exact h_sub [2, 4, 1, 0] rfl (tL_X2_timesTill_5 f hq h)
theorem c_X2_timesTill {Ω : OM} {o0 : Nat} {i1 : Int32} {i2 : Int32} {μ : Me} {Q : Int32 → Me → Prop} (h : S_X2_timesTill o0 i1 i2 μ Q) : CT Ω yX2_timesTill cX2_timesTill 5 (some .int) (rmc 5 0 0) [.ref (oB Ω + o0), .int i1, .int i2] μ (qI Q) := CT_of (by decide) rfl (by simp [lg_sl, Value.category]) (fun x hΩ f hq hi => by subst hΩ; exact t_X2_timesTill f hq h)
theorem dX2_timesApart_0 : decode cX2_timesApart 0 = .ok (.iload_n 1, 1) := by decide +kernel
theorem dX2_timesApart_1 : decode cX2_timesApart 1 = .ok (.istore_n 3, 1) := by decide +kernel
theorem dX2_timesApart_2 : decode cX2_timesApart 2 = .ok (.iload_n 2, 1) := by decide +kernel
theorem dX2_timesApart_3 : decode cX2_timesApart 3 = .ok (.istore 4, 2) := by decide +kernel
theorem dX2_timesApart_5 : decode cX2_timesApart 5 = .ok (.iconst 0, 1) := by decide +kernel
theorem dX2_timesApart_6 : decode cX2_timesApart 6 = .ok (.istore 5, 2) := by decide +kernel
theorem dX2_timesApart_8 : decode cX2_timesApart 8 = .ok (.iload 5, 2) := by decide +kernel
theorem dX2_timesApart_10 : decode cX2_timesApart 10 = .ok (.aload_n 0, 1) := by decide +kernel
theorem dX2_timesApart_11 : decode cX2_timesApart 11 = .ok (.getfield 25, 3) := by decide +kernel
theorem dX2_timesApart_14 : decode cX2_timesApart 14 = .ok (.invokevirtual 45, 3) := by decide +kernel
theorem dX2_timesApart_17 : decode cX2_timesApart 17 = .ok (.if_icmp .ge 32, 3) := by decide +kernel
theorem dX2_timesApart_20 : decode cX2_timesApart 20 = .ok (.iload_n 3, 1) := by decide +kernel
theorem dX2_timesApart_21 : decode cX2_timesApart 21 = .ok (.iload 4, 2) := by decide +kernel
theorem dX2_timesApart_23 : decode cX2_timesApart 23 = .ok (.if_icmp .ne 6, 3) := by decide +kernel
theorem dX2_timesApart_26 : decode cX2_timesApart 26 = .ok (.iload 5, 2) := by decide +kernel
theorem dX2_timesApart_28 : decode cX2_timesApart 28 = .ok (.ireturn, 1) := by decide +kernel
theorem dX2_timesApart_29 : decode cX2_timesApart 29 = .ok (.aload_n 0, 1) := by decide +kernel
theorem dX2_timesApart_30 : decode cX2_timesApart 30 = .ok (.iload_n 3, 1) := by decide +kernel
theorem dX2_timesApart_31 : decode cX2_timesApart 31 = .ok (.invokevirtual 42, 3) := by decide +kernel
theorem dX2_timesApart_34 : decode cX2_timesApart 34 = .ok (.istore_n 3, 1) := by decide +kernel
theorem dX2_timesApart_35 : decode cX2_timesApart 35 = .ok (.aload_n 0, 1) := by decide +kernel
theorem dX2_timesApart_36 : decode cX2_timesApart 36 = .ok (.iload 4, 2) := by decide +kernel
theorem dX2_timesApart_38 : decode cX2_timesApart 38 = .ok (.invokevirtual 42, 3) := by decide +kernel
theorem dX2_timesApart_41 : decode cX2_timesApart 41 = .ok (.istore 4, 2) := by decide +kernel
theorem dX2_timesApart_43 : decode cX2_timesApart 43 = .ok (.iinc 5 1, 3) := by decide +kernel
theorem dX2_timesApart_46 : decode cX2_timesApart 46 = .ok (.goto (-38), 3) := by decide +kernel
theorem dX2_timesApart_49 : decode cX2_timesApart 49 = .ok (.iconst (-1), 1) := by decide +kernel
theorem dX2_timesApart_50 : decode cX2_timesApart 50 = .ok (.ireturn, 1) := by decide +kernel
def B_X2_timesApart_8 (o0 : Nat) (i3 : Int32) (i4 : Int32) (i5 : Int32) (μ : Me) (K8 : Int32 → Int32 → Int32 → Me → Prop) (Q : Int32 → Me → Prop) : Prop := mok μ o0 2 ∧ ∃ t2, mgr μ o0 0 = some t2 ∧ mok μ t2 9 ∧ S_X9_allRings t2 μ (fun r6 μ4 => ((r6 ≤ i5 → Q (-1) μ4) ∧ (¬ r6 ≤ i5 → ((¬ i3 = i4 → S_X2_next o0 i3 μ4 (fun r9 μ7 => S_X2_next o0 i4 μ7 (fun r12 μ10 => K8 r9 r12 (i5 + 1) μ10))) ∧ (i3 = i4 → Q i5 μ4)))))
set_option maxHeartbeats 4000000 in
set_option maxRecDepth 100000 in
theorem tB_X2_timesApart_8 {x : GX} (f : Fx x cX2_timesApart RX2 6 (rmc 5 0 0)) {o0 : Nat} {i3 : Int32} {i4 : Int32} {i5 : Int32} {μ : Me} {Q : Int32 → Me → Prop} (hq : Rt x (some .int) (qI Q)) {K8 : Int32 → Int32 → Int32 → Me → Prop} (hK8 : ∀ (a3 : Int32) (a4 : Int32) (a5 : Int32) (ν : Me), K8 a3 a4 a5 ν → G x 6 8 [(0, .ref (gB x + o0)), (3, .int a3), (4, .int a4), (5, .int a5)] [] ν 0 0) (h : B_X2_timesApart_8 o0 i3 i4 i5 μ K8 Q) : G x 6 8 [(0, .ref (gB x + o0)), (3, .int i3), (4, .int i4), (5, .int i5)] [] μ 0 0 := by
  unfold B_X2_timesApart_8 at h
  refine g_iload f 3 dX2_timesApart_8 rfl ?_
  refine g_aload_n f 0 dX2_timesApart_10 rfl rfl ?_
  obtain ⟨v1, h⟩ := h
  refine g_getR f fk_X2_25 v1 dX2_timesApart_11 rfl h (fun t2 h => ?_)
  obtain ⟨v3, h⟩ := h
  refine g_callV f mk_X2_45 v3 (c_X9_allRings h) dX2_timesApart_14 rfl rfl (Nat.le_of_ble_eq_true rfl) (rm_ok (by decide) (by decide)) ⟨Nat.le_of_ble_eq_true rfl, Nat.le_of_ble_eq_true rfl⟩ (kI fun r6 μ4 x5 h => ?_)
  refine g_ic_ge f 49 dX2_timesApart_17 rfl h (fun h => ?_) (fun h => ?_)
  · refine g_iconst f (-1) dX2_timesApart_49 kc_m1 ?_
    exact g_iret f hq (Nat.le_of_ble_eq_true rfl) (Nat.le_of_ble_eq_true rfl) dX2_timesApart_50 h
  · refine g_iload_n f 1 dX2_timesApart_20 rfl rfl ?_
    refine g_iload f 2 dX2_timesApart_21 rfl ?_
    refine g_ic_ne f 29 dX2_timesApart_23 rfl h (fun h => ?_) (fun h => ?_)
    · refine g_aload_n f 0 dX2_timesApart_29 rfl rfl ?_
      refine g_iload_n f 1 dX2_timesApart_30 rfl rfl ?_
      have v1 := mex_ok x5 v1
      refine g_callV f mk_X2_42 v1 (c_X2_next h) dX2_timesApart_31 rfl rfl (Nat.le_of_ble_eq_true rfl) (rm_ok (by decide) (by decide)) ⟨Nat.le_of_ble_eq_true rfl, Nat.le_of_ble_eq_true rfl⟩ (kI fun r9 μ7 x8 h => ?_)
      refine h_istore_n f dX2_timesApart_34 rfl (by decide) ?_
      refine g_aload_n f 1 dX2_timesApart_35 rfl rfl ?_
      refine g_iload f 2 dX2_timesApart_36 rfl ?_
      have v1 := mex_ok x8 v1
      refine g_callV f mk_X2_42 v1 (c_X2_next h) dX2_timesApart_38 rfl rfl (Nat.le_of_ble_eq_true rfl) (rm_ok (by decide) (by decide)) ⟨Nat.le_of_ble_eq_true rfl, Nat.le_of_ble_eq_true rfl⟩ (kI fun r12 μ10 x11 h => ?_)
      refine h_istore f dX2_timesApart_41 (by decide) ?_
      refine h_iinc f 3 1 dX2_timesApart_43 rfl kc_1 (by decide) ?_
      refine g_goto f 8 dX2_timesApart_46 rfl ?_
      exact h_sub [3, 2, 1, 0] rfl (hK8 _ _ _ _ h)
    · refine g_iload f 3 dX2_timesApart_26 rfl ?_
      exact g_iret f hq (Nat.le_of_ble_eq_true rfl) (Nat.le_of_ble_eq_true rfl) dX2_timesApart_28 h
def L_X2_timesApart_8 (o0 : Nat) (i3 : Int32) (i4 : Int32) (i5 : Int32) (μ : Me) (Q : Int32 → Me → Prop) : Prop := ∃ I : Int32 → Int32 → Int32 → Me → Nat → Prop, (∃ n, I i3 i4 i5 μ n) ∧ ∀ (i3 : Int32) (i4 : Int32) (i5 : Int32) (μ : Me) (n : Nat), I i3 i4 i5 μ n → B_X2_timesApart_8 o0 i3 i4 i5 μ (fun a3 a4 a5 ν => ∃ n', n' < n ∧ I a3 a4 a5 ν n') Q
set_option maxHeartbeats 4000000 in
set_option maxRecDepth 100000 in
theorem tL_X2_timesApart_8 {x : GX} (f : Fx x cX2_timesApart RX2 6 (rmc 5 0 0)) {o0 : Nat} {i3 : Int32} {i4 : Int32} {i5 : Int32} {μ : Me} {Q : Int32 → Me → Prop} (hq : Rt x (some .int) (qI Q)) (h : L_X2_timesApart_8 o0 i3 i4 i5 μ Q) : G x 6 8 [(0, .ref (gB x + o0)), (3, .int i3), (4, .int i4), (5, .int i5)] [] μ 0 0 := by
  obtain ⟨I, ⟨n, hI⟩, hs⟩ := h
  induction n using Nat.strongRecOn generalizing i3 i4 i5 μ with
  | ind n ih => exact tB_X2_timesApart_8 f hq (fun a3 a4 a5 ν hk => by obtain ⟨n2, hn, hI2⟩ := hk; exact ih n2 hn hI2) (hs _ _ _ _ _ hI)
def S_X2_timesApart (o0 : Nat) (i1 : Int32) (i2 : Int32) (μ : Me) (Q : Int32 → Me → Prop) : Prop := L_X2_timesApart_8 o0 i1 i2 0 μ Q
set_option maxHeartbeats 4000000 in
set_option maxRecDepth 100000 in
theorem t_X2_timesApart {x : GX} (f : Fx x cX2_timesApart RX2 6 (rmc 5 0 0)) {o0 : Nat} {i1 : Int32} {i2 : Int32} {μ : Me} {Q : Int32 → Me → Prop} (hq : Rt x (some .int) (qI Q)) (h : S_X2_timesApart o0 i1 i2 μ Q) : G x 6 0 [(0, .ref (gB x + o0)), (1, .int i1), (2, .int i2)] [] μ 0 0 := by
  unfold S_X2_timesApart at h
  refine g_iload_n f 1 dX2_timesApart_0 rfl rfl ?_
  refine h_istore_n f dX2_timesApart_1 rfl (by decide) ?_
  refine g_iload_n f 3 dX2_timesApart_2 rfl rfl ?_
  refine h_istore f dX2_timesApart_3 (by decide) ?_
  refine g_iconst f 0 dX2_timesApart_5 kc_0 ?_
  refine h_istore f dX2_timesApart_6 (by decide) ?_
  exact h_sub [3, 2, 1, 0] rfl (tL_X2_timesApart_8 f hq h)
theorem c_X2_timesApart {Ω : OM} {o0 : Nat} {i1 : Int32} {i2 : Int32} {μ : Me} {Q : Int32 → Me → Prop} (h : S_X2_timesApart o0 i1 i2 μ Q) : CT Ω yX2_timesApart cX2_timesApart 6 (some .int) (rmc 5 0 0) [.ref (oB Ω + o0), .int i1, .int i2] μ (qI Q) := CT_of (by decide) rfl (by simp [lg_sl, Value.category]) (fun x hΩ f hq hi => by subst hΩ; exact t_X2_timesApart f hq h)
theorem dX2_calmest_0 : decode cX2_calmest 0 = .ok (.iconst 0, 1) := by decide +kernel
theorem dX2_calmest_1 : decode cX2_calmest 1 = .ok (.istore_n 2, 1) := by decide +kernel
theorem dX2_calmest_2 : decode cX2_calmest 2 = .ok (.iconst 1, 1) := by decide +kernel
theorem dX2_calmest_3 : decode cX2_calmest 3 = .ok (.istore_n 3, 1) := by decide +kernel
theorem dX2_calmest_4 : decode cX2_calmest 4 = .ok (.iload_n 3, 1) := by decide +kernel
theorem dX2_calmest_5 : decode cX2_calmest 5 = .ok (.aload_n 0, 1) := by decide +kernel
theorem dX2_calmest_6 : decode cX2_calmest 6 = .ok (.getfield 25, 3) := by decide +kernel
theorem dX2_calmest_9 : decode cX2_calmest 9 = .ok (.invokevirtual 45, 3) := by decide +kernel
theorem dX2_calmest_12 : decode cX2_calmest 12 = .ok (.if_icmp .ge 28, 3) := by decide +kernel
theorem dX2_calmest_15 : decode cX2_calmest 15 = .ok (.aload_n 0, 1) := by decide +kernel
theorem dX2_calmest_16 : decode cX2_calmest 16 = .ok (.iload_n 3, 1) := by decide +kernel
theorem dX2_calmest_17 : decode cX2_calmest 17 = .ok (.invokevirtual 42, 3) := by decide +kernel
theorem dX2_calmest_20 : decode cX2_calmest 20 = .ok (.aload_n 0, 1) := by decide +kernel
theorem dX2_calmest_21 : decode cX2_calmest 21 = .ok (.iload_n 2, 1) := by decide +kernel
theorem dX2_calmest_22 : decode cX2_calmest 22 = .ok (.invokevirtual 42, 3) := by decide +kernel
theorem dX2_calmest_25 : decode cX2_calmest 25 = .ok (.iload_n 1, 1) := by decide +kernel
theorem dX2_calmest_26 : decode cX2_calmest 26 = .ok (.invokestatic 55, 3) := by decide +kernel
theorem dX2_calmest_29 : decode cX2_calmest 29 = .ok (.ifCond .eq 5, 3) := by decide +kernel
theorem dX2_calmest_32 : decode cX2_calmest 32 = .ok (.iload_n 3, 1) := by decide +kernel
theorem dX2_calmest_33 : decode cX2_calmest 33 = .ok (.istore_n 2, 1) := by decide +kernel
theorem dX2_calmest_34 : decode cX2_calmest 34 = .ok (.iinc 3 1, 3) := by decide +kernel
theorem dX2_calmest_37 : decode cX2_calmest 37 = .ok (.goto (-33), 3) := by decide +kernel
theorem dX2_calmest_40 : decode cX2_calmest 40 = .ok (.iload_n 2, 1) := by decide +kernel
theorem dX2_calmest_41 : decode cX2_calmest 41 = .ok (.ireturn, 1) := by decide +kernel
def B_X2_calmest_34 (o0 : Nat) (i1 : Int32) (i2 : Int32) (i3 : Int32) (μ : Me) (K4 : Int32 → Int32 → Me → Prop) (Q : Int32 → Me → Prop) : Prop := K4 i2 (i3 + 1) μ
set_option maxHeartbeats 4000000 in
set_option maxRecDepth 100000 in
theorem tB_X2_calmest_34 {x : GX} (f : Fx x cX2_calmest RX2 4 (rmc 5 0 0)) {o0 : Nat} {i1 : Int32} {i2 : Int32} {i3 : Int32} {μ : Me} {Q : Int32 → Me → Prop} (hq : Rt x (some .int) (qI Q)) {K4 : Int32 → Int32 → Me → Prop} (hK4 : ∀ (a2 : Int32) (a3 : Int32) (ν : Me), K4 a2 a3 ν → G x 4 4 [(0, .ref (gB x + o0)), (1, .int i1), (2, .int a2), (3, .int a3)] [] ν 0 0) (h : B_X2_calmest_34 o0 i1 i2 i3 μ K4 Q) : G x 4 34 [(0, .ref (gB x + o0)), (1, .int i1), (2, .int i2), (3, .int i3)] [] μ 0 0 := by
  unfold B_X2_calmest_34 at h
  refine h_iinc f 3 1 dX2_calmest_34 rfl kc_1 (by decide) ?_
  refine g_goto f 4 dX2_calmest_37 rfl ?_
  exact h_sub [1, 2, 3, 0] rfl (hK4 _ _ _ h)
def B_X2_calmest_4 (o0 : Nat) (i1 : Int32) (i2 : Int32) (i3 : Int32) (μ : Me) (K4 : Int32 → Int32 → Me → Prop) (Q : Int32 → Me → Prop) : Prop := mok μ o0 2 ∧ ∃ t2, mgr μ o0 0 = some t2 ∧ mok μ t2 9 ∧ S_X9_allRings t2 μ (fun r6 μ4 => ((r6 ≤ i3 → Q i2 μ4) ∧ (¬ r6 ≤ i3 → S_X2_next o0 i3 μ4 (fun r9 μ7 => S_X2_next o0 i2 μ7 (fun r12 μ10 => S_X2_isBetter r9 r12 i1 μ10 (fun r15 μ13 => ((r15 = 0 → B_X2_calmest_34 o0 i1 i2 i3 μ13 K4 Q) ∧ (¬ r15 = 0 → B_X2_calmest_34 o0 i1 i3 i3 μ13 K4 Q))))))))
set_option maxHeartbeats 4000000 in
set_option maxRecDepth 100000 in
theorem tB_X2_calmest_4 {x : GX} (f : Fx x cX2_calmest RX2 4 (rmc 5 0 0)) {o0 : Nat} {i1 : Int32} {i2 : Int32} {i3 : Int32} {μ : Me} {Q : Int32 → Me → Prop} (hq : Rt x (some .int) (qI Q)) {K4 : Int32 → Int32 → Me → Prop} (hK4 : ∀ (a2 : Int32) (a3 : Int32) (ν : Me), K4 a2 a3 ν → G x 4 4 [(0, .ref (gB x + o0)), (1, .int i1), (2, .int a2), (3, .int a3)] [] ν 0 0) (h : B_X2_calmest_4 o0 i1 i2 i3 μ K4 Q) : G x 4 4 [(0, .ref (gB x + o0)), (1, .int i1), (2, .int i2), (3, .int i3)] [] μ 0 0 := by
  unfold B_X2_calmest_4 at h
  refine g_iload_n f 3 dX2_calmest_4 rfl rfl ?_
  refine g_aload_n f 0 dX2_calmest_5 rfl rfl ?_
  obtain ⟨v1, h⟩ := h
  refine g_getR f fk_X2_25 v1 dX2_calmest_6 rfl h (fun t2 h => ?_)
  obtain ⟨v3, h⟩ := h
  refine g_callV f mk_X2_45 v3 (c_X9_allRings h) dX2_calmest_9 rfl rfl (Nat.le_of_ble_eq_true rfl) (rm_ok (by decide) (by decide)) ⟨Nat.le_of_ble_eq_true rfl, Nat.le_of_ble_eq_true rfl⟩ (kI fun r6 μ4 x5 h => ?_)
  refine g_ic_ge f 40 dX2_calmest_12 rfl h (fun h => ?_) (fun h => ?_)
  · refine g_iload_n f 2 dX2_calmest_40 rfl rfl ?_
    exact g_iret f hq (Nat.le_of_ble_eq_true rfl) (Nat.le_of_ble_eq_true rfl) dX2_calmest_41 h
  · refine g_aload_n f 0 dX2_calmest_15 rfl rfl ?_
    refine g_iload_n f 3 dX2_calmest_16 rfl rfl ?_
    have v1 := mex_ok x5 v1
    refine g_callV f mk_X2_42 v1 (c_X2_next h) dX2_calmest_17 rfl rfl (Nat.le_of_ble_eq_true rfl) (rm_ok (by decide) (by decide)) ⟨Nat.le_of_ble_eq_true rfl, Nat.le_of_ble_eq_true rfl⟩ (kI fun r9 μ7 x8 h => ?_)
    refine g_aload_n f 0 dX2_calmest_20 rfl rfl ?_
    refine g_iload_n f 2 dX2_calmest_21 rfl rfl ?_
    have v1 := mex_ok x8 v1
    refine g_callV f mk_X2_42 v1 (c_X2_next h) dX2_calmest_22 rfl rfl (Nat.le_of_ble_eq_true rfl) (rm_ok (by decide) (by decide)) ⟨Nat.le_of_ble_eq_true rfl, Nat.le_of_ble_eq_true rfl⟩ (kI fun r12 μ10 x11 h => ?_)
    refine g_iload_n f 1 dX2_calmest_25 rfl rfl ?_
    refine g_callS f mk_X2_55 (c_X2_isBetter h) dX2_calmest_26 rfl rfl (Nat.le_of_ble_eq_true rfl) (rm_ok (by decide) (by decide)) ⟨Nat.le_of_ble_eq_true rfl, Nat.le_of_ble_eq_true rfl⟩ (kI fun r15 μ13 x14 h => ?_)
    refine g_if_eq f 34 dX2_calmest_29 rfl h (fun h => ?_) (fun h => ?_)
    · exact h_sub [0, 1, 2, 3] rfl (tB_X2_calmest_34 f hq hK4 h)
    · refine g_iload_n f 3 dX2_calmest_32 rfl rfl ?_
      refine h_istore_n f dX2_calmest_33 rfl (by decide) ?_
      exact h_sub [1, 2, 0, 3] rfl (tB_X2_calmest_34 f hq hK4 h)
def L_X2_calmest_4 (o0 : Nat) (i1 : Int32) (i2 : Int32) (i3 : Int32) (μ : Me) (Q : Int32 → Me → Prop) : Prop := ∃ I : Int32 → Int32 → Me → Nat → Prop, (∃ n, I i2 i3 μ n) ∧ ∀ (i2 : Int32) (i3 : Int32) (μ : Me) (n : Nat), I i2 i3 μ n → B_X2_calmest_4 o0 i1 i2 i3 μ (fun a2 a3 ν => ∃ n', n' < n ∧ I a2 a3 ν n') Q
set_option maxHeartbeats 4000000 in
set_option maxRecDepth 100000 in
theorem tL_X2_calmest_4 {x : GX} (f : Fx x cX2_calmest RX2 4 (rmc 5 0 0)) {o0 : Nat} {i1 : Int32} {i2 : Int32} {i3 : Int32} {μ : Me} {Q : Int32 → Me → Prop} (hq : Rt x (some .int) (qI Q)) (h : L_X2_calmest_4 o0 i1 i2 i3 μ Q) : G x 4 4 [(0, .ref (gB x + o0)), (1, .int i1), (2, .int i2), (3, .int i3)] [] μ 0 0 := by
  obtain ⟨I, ⟨n, hI⟩, hs⟩ := h
  induction n using Nat.strongRecOn generalizing i2 i3 μ with
  | ind n ih => exact tB_X2_calmest_4 f hq (fun a2 a3 ν hk => by obtain ⟨n2, hn, hI2⟩ := hk; exact ih n2 hn hI2) (hs _ _ _ _ hI)
def S_X2_calmest (o0 : Nat) (i1 : Int32) (μ : Me) (Q : Int32 → Me → Prop) : Prop := L_X2_calmest_4 o0 i1 0 1 μ Q
set_option maxHeartbeats 4000000 in
set_option maxRecDepth 100000 in
theorem t_X2_calmest {x : GX} (f : Fx x cX2_calmest RX2 4 (rmc 5 0 0)) {o0 : Nat} {i1 : Int32} {μ : Me} {Q : Int32 → Me → Prop} (hq : Rt x (some .int) (qI Q)) (h : S_X2_calmest o0 i1 μ Q) : G x 4 0 [(0, .ref (gB x + o0)), (1, .int i1)] [] μ 0 0 := by
  unfold S_X2_calmest at h
  refine g_iconst f 0 dX2_calmest_0 kc_0 ?_
  refine h_istore_n f dX2_calmest_1 rfl (by decide) ?_
  refine g_iconst f 1 dX2_calmest_2 kc_1 ?_
  refine h_istore_n f dX2_calmest_3 rfl (by decide) ?_
  exact h_sub [2, 3, 1, 0] rfl (tL_X2_calmest_4 f hq h)
theorem c_X2_calmest {Ω : OM} {o0 : Nat} {i1 : Int32} {μ : Me} {Q : Int32 → Me → Prop} (h : S_X2_calmest o0 i1 μ Q) : CT Ω yX2_calmest cX2_calmest 4 (some .int) (rmc 5 0 0) [.ref (oB Ω + o0), .int i1] μ (qI Q) := CT_of (by decide) rfl (by simp [lg_sl, Value.category]) (fun x hΩ f hq hi => by subst hΩ; exact t_X2_calmest f hq h)
theorem dX2_isLateByAll_0 : decode cX2_isLateByAll 0 = .ok (.iconst 0, 1) := by decide +kernel
theorem dX2_isLateByAll_1 : decode cX2_isLateByAll 1 = .ok (.istore_n 2, 1) := by decide +kernel
theorem dX2_isLateByAll_2 : decode cX2_isLateByAll 2 = .ok (.iload_n 2, 1) := by decide +kernel
theorem dX2_isLateByAll_3 : decode cX2_isLateByAll 3 = .ok (.aload_n 0, 1) := by decide +kernel
theorem dX2_isLateByAll_4 : decode cX2_isLateByAll 4 = .ok (.getfield 25, 3) := by decide +kernel
theorem dX2_isLateByAll_7 : decode cX2_isLateByAll 7 = .ok (.invokevirtual 45, 3) := by decide +kernel
theorem dX2_isLateByAll_10 : decode cX2_isLateByAll 10 = .ok (.if_icmp .ge 23, 3) := by decide +kernel
theorem dX2_isLateByAll_13 : decode cX2_isLateByAll 13 = .ok (.aload_n 0, 1) := by decide +kernel
theorem dX2_isLateByAll_14 : decode cX2_isLateByAll 14 = .ok (.iload_n 2, 1) := by decide +kernel
theorem dX2_isLateByAll_15 : decode cX2_isLateByAll 15 = .ok (.invokevirtual 42, 3) := by decide +kernel
theorem dX2_isLateByAll_18 : decode cX2_isLateByAll 18 = .ok (.iload_n 1, 1) := by decide +kernel
theorem dX2_isLateByAll_19 : decode cX2_isLateByAll 19 = .ok (.ishr, 1) := by decide +kernel
theorem dX2_isLateByAll_20 : decode cX2_isLateByAll 20 = .ok (.iconst 1, 1) := by decide +kernel
theorem dX2_isLateByAll_21 : decode cX2_isLateByAll 21 = .ok (.iand, 1) := by decide +kernel
theorem dX2_isLateByAll_22 : decode cX2_isLateByAll 22 = .ok (.ifCond .ne 5, 3) := by decide +kernel
theorem dX2_isLateByAll_25 : decode cX2_isLateByAll 25 = .ok (.iconst 0, 1) := by decide +kernel
theorem dX2_isLateByAll_26 : decode cX2_isLateByAll 26 = .ok (.ireturn, 1) := by decide +kernel
theorem dX2_isLateByAll_27 : decode cX2_isLateByAll 27 = .ok (.iinc 2 1, 3) := by decide +kernel
theorem dX2_isLateByAll_30 : decode cX2_isLateByAll 30 = .ok (.goto (-28), 3) := by decide +kernel
theorem dX2_isLateByAll_33 : decode cX2_isLateByAll 33 = .ok (.iconst 1, 1) := by decide +kernel
theorem dX2_isLateByAll_34 : decode cX2_isLateByAll 34 = .ok (.ireturn, 1) := by decide +kernel
def B_X2_isLateByAll_2 (o0 : Nat) (i1 : Int32) (i2 : Int32) (μ : Me) (K2 : Int32 → Me → Prop) (Q : Int32 → Me → Prop) : Prop := mok μ o0 2 ∧ ∃ t2, mgr μ o0 0 = some t2 ∧ mok μ t2 9 ∧ S_X9_allRings t2 μ (fun r6 μ4 => ((r6 ≤ i2 → Q 1 μ4) ∧ (¬ r6 ≤ i2 → S_X2_next o0 i2 μ4 (fun r9 μ7 => ((¬ ((r9 >>> (i1 &&& 31)) &&& 1) = 0 → K2 (i2 + 1) μ7) ∧ (((r9 >>> (i1 &&& 31)) &&& 1) = 0 → Q 0 μ7))))))
set_option maxHeartbeats 4000000 in
set_option maxRecDepth 100000 in
theorem tB_X2_isLateByAll_2 {x : GX} (f : Fx x cX2_isLateByAll RX2 3 (rmc 5 0 0)) {o0 : Nat} {i1 : Int32} {i2 : Int32} {μ : Me} {Q : Int32 → Me → Prop} (hq : Rt x (some .boolean) (qI Q)) {K2 : Int32 → Me → Prop} (hK2 : ∀ (a2 : Int32) (ν : Me), K2 a2 ν → G x 3 2 [(0, .ref (gB x + o0)), (1, .int i1), (2, .int a2)] [] ν 0 0) (h : B_X2_isLateByAll_2 o0 i1 i2 μ K2 Q) : G x 3 2 [(0, .ref (gB x + o0)), (1, .int i1), (2, .int i2)] [] μ 0 0 := by
  unfold B_X2_isLateByAll_2 at h
  refine g_iload_n f 2 dX2_isLateByAll_2 rfl rfl ?_
  refine g_aload_n f 0 dX2_isLateByAll_3 rfl rfl ?_
  obtain ⟨v1, h⟩ := h
  refine g_getR f fk_X2_25 v1 dX2_isLateByAll_4 rfl h (fun t2 h => ?_)
  obtain ⟨v3, h⟩ := h
  refine g_callV f mk_X2_45 v3 (c_X9_allRings h) dX2_isLateByAll_7 rfl rfl (Nat.le_of_ble_eq_true rfl) (rm_ok (by decide) (by decide)) ⟨Nat.le_of_ble_eq_true rfl, Nat.le_of_ble_eq_true rfl⟩ (kI fun r6 μ4 x5 h => ?_)
  refine g_ic_ge f 33 dX2_isLateByAll_10 rfl h (fun h => ?_) (fun h => ?_)
  · refine g_iconst f 1 dX2_isLateByAll_33 kc_1 ?_
    exact g_zret f hq (Nat.le_of_ble_eq_true rfl) (Nat.le_of_ble_eq_true rfl) dX2_isLateByAll_34 zb_1.1 h
  · refine g_aload_n f 0 dX2_isLateByAll_13 rfl rfl ?_
    refine g_iload_n f 2 dX2_isLateByAll_14 rfl rfl ?_
    have v1 := mex_ok x5 v1
    refine g_callV f mk_X2_42 v1 (c_X2_next h) dX2_isLateByAll_15 rfl rfl (Nat.le_of_ble_eq_true rfl) (rm_ok (by decide) (by decide)) ⟨Nat.le_of_ble_eq_true rfl, Nat.le_of_ble_eq_true rfl⟩ (kI fun r9 μ7 x8 h => ?_)
    refine g_iload_n f 1 dX2_isLateByAll_18 rfl rfl ?_
    refine g_ishr f dX2_isLateByAll_19 ?_
    refine g_iconst f 1 dX2_isLateByAll_20 kc_1 ?_
    refine g_iand f dX2_isLateByAll_21 ?_
    refine g_if_ne f 27 dX2_isLateByAll_22 rfl h (fun h => ?_) (fun h => ?_)
    · refine h_iinc f 2 1 dX2_isLateByAll_27 rfl kc_1 (by decide) ?_
      refine g_goto f 2 dX2_isLateByAll_30 rfl ?_
      exact h_sub [1, 2, 0] rfl (hK2 _ _ h)
    · refine g_iconst f 0 dX2_isLateByAll_25 kc_0 ?_
      exact g_zret f hq (Nat.le_of_ble_eq_true rfl) (Nat.le_of_ble_eq_true rfl) dX2_isLateByAll_26 zb_0.1 h
def L_X2_isLateByAll_2 (o0 : Nat) (i1 : Int32) (i2 : Int32) (μ : Me) (Q : Int32 → Me → Prop) : Prop := ∃ I : Int32 → Me → Nat → Prop, (∃ n, I i2 μ n) ∧ ∀ (i2 : Int32) (μ : Me) (n : Nat), I i2 μ n → B_X2_isLateByAll_2 o0 i1 i2 μ (fun a2 ν => ∃ n', n' < n ∧ I a2 ν n') Q
set_option maxHeartbeats 4000000 in
set_option maxRecDepth 100000 in
theorem tL_X2_isLateByAll_2 {x : GX} (f : Fx x cX2_isLateByAll RX2 3 (rmc 5 0 0)) {o0 : Nat} {i1 : Int32} {i2 : Int32} {μ : Me} {Q : Int32 → Me → Prop} (hq : Rt x (some .boolean) (qI Q)) (h : L_X2_isLateByAll_2 o0 i1 i2 μ Q) : G x 3 2 [(0, .ref (gB x + o0)), (1, .int i1), (2, .int i2)] [] μ 0 0 := by
  obtain ⟨I, ⟨n, hI⟩, hs⟩ := h
  induction n using Nat.strongRecOn generalizing i2 μ with
  | ind n ih => exact tB_X2_isLateByAll_2 f hq (fun a2 ν hk => by obtain ⟨n2, hn, hI2⟩ := hk; exact ih n2 hn hI2) (hs _ _ _ hI)
def S_X2_isLateByAll (o0 : Nat) (i1 : Int32) (μ : Me) (Q : Int32 → Me → Prop) : Prop := L_X2_isLateByAll_2 o0 i1 0 μ Q
set_option maxHeartbeats 4000000 in
set_option maxRecDepth 100000 in
theorem t_X2_isLateByAll {x : GX} (f : Fx x cX2_isLateByAll RX2 3 (rmc 5 0 0)) {o0 : Nat} {i1 : Int32} {μ : Me} {Q : Int32 → Me → Prop} (hq : Rt x (some .boolean) (qI Q)) (h : S_X2_isLateByAll o0 i1 μ Q) : G x 3 0 [(0, .ref (gB x + o0)), (1, .int i1)] [] μ 0 0 := by
  unfold S_X2_isLateByAll at h
  refine g_iconst f 0 dX2_isLateByAll_0 kc_0 ?_
  refine h_istore_n f dX2_isLateByAll_1 rfl (by decide) ?_
  exact h_sub [1, 2, 0] rfl (tL_X2_isLateByAll_2 f hq h)
theorem c_X2_isLateByAll {Ω : OM} {o0 : Nat} {i1 : Int32} {μ : Me} {Q : Int32 → Me → Prop} (h : S_X2_isLateByAll o0 i1 μ Q) : CT Ω yX2_isLateByAll cX2_isLateByAll 3 (some .boolean) (rmc 5 0 0) [.ref (oB Ω + o0), .int i1] μ (qI Q) := CT_of (by decide) rfl (by simp [lg_sl, Value.category]) (fun x hΩ f hq hi => by subst hΩ; exact t_X2_isLateByAll f hq h)
theorem dX2_raced_0 : decode cX2_raced 0 = .ok (.iconst 0, 1) := by decide +kernel
theorem dX2_raced_1 : decode cX2_raced 1 = .ok (.istore_n 3, 1) := by decide +kernel
theorem dX2_raced_2 : decode cX2_raced 2 = .ok (.iload_n 3, 1) := by decide +kernel
theorem dX2_raced_3 : decode cX2_raced 3 = .ok (.iconst 1, 1) := by decide +kernel
theorem dX2_raced_4 : decode cX2_raced 4 = .ok (.iload_n 1, 1) := by decide +kernel
theorem dX2_raced_5 : decode cX2_raced 5 = .ok (.ishl, 1) := by decide +kernel
theorem dX2_raced_6 : decode cX2_raced 6 = .ok (.if_icmp .ge 23, 3) := by decide +kernel
theorem dX2_raced_9 : decode cX2_raced 9 = .ok (.aload_n 0, 1) := by decide +kernel
theorem dX2_raced_10 : decode cX2_raced 10 = .ok (.getfield 18, 3) := by decide +kernel
theorem dX2_raced_13 : decode cX2_raced 13 = .ok (.iload_n 3, 1) := by decide +kernel
theorem dX2_raced_14 : decode cX2_raced 14 = .ok (.aload_n 0, 1) := by decide +kernel
theorem dX2_raced_15 : decode cX2_raced 15 = .ok (.iload_n 3, 1) := by decide +kernel
theorem dX2_raced_16 : decode cX2_raced 16 = .ok (.invokevirtual 42, 3) := by decide +kernel
theorem dX2_raced_19 : decode cX2_raced 19 = .ok (.invokestatic 59, 3) := by decide +kernel
theorem dX2_raced_22 : decode cX2_raced 22 = .ok (.iastore, 1) := by decide +kernel
theorem dX2_raced_23 : decode cX2_raced 23 = .ok (.iinc 3 1, 3) := by decide +kernel
theorem dX2_raced_26 : decode cX2_raced 26 = .ok (.goto (-24), 3) := by decide +kernel
theorem dX2_raced_29 : decode cX2_raced 29 = .ok (.iload_n 1, 1) := by decide +kernel
theorem dX2_raced_30 : decode cX2_raced 30 = .ok (.iconst 1, 1) := by decide +kernel
theorem dX2_raced_31 : decode cX2_raced 31 = .ok (.isub, 1) := by decide +kernel
theorem dX2_raced_32 : decode cX2_raced 32 = .ok (.istore_n 3, 1) := by decide +kernel
theorem dX2_raced_33 : decode cX2_raced 33 = .ok (.iload_n 3, 1) := by decide +kernel
theorem dX2_raced_34 : decode cX2_raced 34 = .ok (.ifCond .le 79, 3) := by decide +kernel
theorem dX2_raced_37 : decode cX2_raced 37 = .ok (.iconst 0, 1) := by decide +kernel
theorem dX2_raced_38 : decode cX2_raced 38 = .ok (.istore 4, 2) := by decide +kernel
theorem dX2_raced_40 : decode cX2_raced 40 = .ok (.iload 4, 2) := by decide +kernel
theorem dX2_raced_42 : decode cX2_raced 42 = .ok (.iconst 1, 1) := by decide +kernel
theorem dX2_raced_43 : decode cX2_raced 43 = .ok (.iload_n 3, 1) := by decide +kernel
theorem dX2_raced_44 : decode cX2_raced 44 = .ok (.ishl, 1) := by decide +kernel
theorem dX2_raced_45 : decode cX2_raced 45 = .ok (.if_icmp .ge 62, 3) := by decide +kernel
theorem dX2_raced_48 : decode cX2_raced 48 = .ok (.aload_n 0, 1) := by decide +kernel
theorem dX2_raced_49 : decode cX2_raced 49 = .ok (.getfield 18, 3) := by decide +kernel
theorem dX2_raced_52 : decode cX2_raced 52 = .ok (.iload 4, 2) := by decide +kernel
theorem dX2_raced_54 : decode cX2_raced 54 = .ok (.iconst 1, 1) := by decide +kernel
theorem dX2_raced_55 : decode cX2_raced 55 = .ok (.iload_n 3, 1) := by decide +kernel
theorem dX2_raced_56 : decode cX2_raced 56 = .ok (.ishl, 1) := by decide +kernel
theorem dX2_raced_57 : decode cX2_raced 57 = .ok (.iadd, 1) := by decide +kernel
theorem dX2_raced_58 : decode cX2_raced 58 = .ok (.iaload, 1) := by decide +kernel
theorem dX2_raced_59 : decode cX2_raced 59 = .ok (.istore 5, 2) := by decide +kernel
theorem dX2_raced_61 : decode cX2_raced 61 = .ok (.aload_n 0, 1) := by decide +kernel
theorem dX2_raced_62 : decode cX2_raced 62 = .ok (.getfield 18, 3) := by decide +kernel
theorem dX2_raced_65 : decode cX2_raced 65 = .ok (.iload 4, 2) := by decide +kernel
theorem dX2_raced_67 : decode cX2_raced 67 = .ok (.iload_n 3, 1) := by decide +kernel
theorem dX2_raced_68 : decode cX2_raced 68 = .ok (.iconst 2, 1) := by decide +kernel
theorem dX2_raced_69 : decode cX2_raced 69 = .ok (.irem, 1) := by decide +kernel
theorem dX2_raced_70 : decode cX2_raced 70 = .ok (.ifCond .ne 18, 3) := by decide +kernel
theorem dX2_raced_73 : decode cX2_raced 73 = .ok (.aload_n 0, 1) := by decide +kernel
theorem dX2_raced_74 : decode cX2_raced 74 = .ok (.getfield 18, 3) := by decide +kernel
theorem dX2_raced_77 : decode cX2_raced 77 = .ok (.iload 4, 2) := by decide +kernel
theorem dX2_raced_79 : decode cX2_raced 79 = .ok (.iaload, 1) := by decide +kernel
theorem dX2_raced_80 : decode cX2_raced 80 = .ok (.iload 5, 2) := by decide +kernel
theorem dX2_raced_82 : decode cX2_raced 82 = .ok (.invokestatic 70, 3) := by decide +kernel
theorem dX2_raced_85 : decode cX2_raced 85 = .ok (.goto 15, 3) := by decide +kernel
theorem dX2_raced_88 : decode cX2_raced 88 = .ok (.aload_n 0, 1) := by decide +kernel
theorem dX2_raced_89 : decode cX2_raced 89 = .ok (.getfield 18, 3) := by decide +kernel
theorem dX2_raced_92 : decode cX2_raced 92 = .ok (.iload 4, 2) := by decide +kernel
theorem dX2_raced_94 : decode cX2_raced 94 = .ok (.iaload, 1) := by decide +kernel
theorem dX2_raced_95 : decode cX2_raced 95 = .ok (.iload 5, 2) := by decide +kernel
theorem dX2_raced_97 : decode cX2_raced 97 = .ok (.invokestatic 76, 3) := by decide +kernel
theorem dX2_raced_100 : decode cX2_raced 100 = .ok (.iastore, 1) := by decide +kernel
theorem dX2_raced_101 : decode cX2_raced 101 = .ok (.iinc 4 1, 3) := by decide +kernel
theorem dX2_raced_104 : decode cX2_raced 104 = .ok (.goto (-64), 3) := by decide +kernel
theorem dX2_raced_107 : decode cX2_raced 107 = .ok (.iinc 3 (-1), 3) := by decide +kernel
theorem dX2_raced_110 : decode cX2_raced 110 = .ok (.goto (-77), 3) := by decide +kernel
theorem dX2_raced_113 : decode cX2_raced 113 = .ok (.iload_n 2, 1) := by decide +kernel
theorem dX2_raced_114 : decode cX2_raced 114 = .ok (.ifCond .eq 24, 3) := by decide +kernel
theorem dX2_raced_117 : decode cX2_raced 117 = .ok (.aload_n 0, 1) := by decide +kernel
theorem dX2_raced_118 : decode cX2_raced 118 = .ok (.getfield 18, 3) := by decide +kernel
theorem dX2_raced_121 : decode cX2_raced 121 = .ok (.iconst 1, 1) := by decide +kernel
theorem dX2_raced_122 : decode cX2_raced 122 = .ok (.iaload, 1) := by decide +kernel
theorem dX2_raced_123 : decode cX2_raced 123 = .ok (.aload_n 0, 1) := by decide +kernel
theorem dX2_raced_124 : decode cX2_raced 124 = .ok (.getfield 18, 3) := by decide +kernel
theorem dX2_raced_127 : decode cX2_raced 127 = .ok (.iconst 0, 1) := by decide +kernel
theorem dX2_raced_128 : decode cX2_raced 128 = .ok (.iaload, 1) := by decide +kernel
theorem dX2_raced_129 : decode cX2_raced 129 = .ok (.if_icmp .le 7, 3) := by decide +kernel
theorem dX2_raced_132 : decode cX2_raced 132 = .ok (.iconst 1, 1) := by decide +kernel
theorem dX2_raced_133 : decode cX2_raced 133 = .ok (.goto 4, 3) := by decide +kernel
theorem dX2_raced_136 : decode cX2_raced 136 = .ok (.iconst 0, 1) := by decide +kernel
theorem dX2_raced_137 : decode cX2_raced 137 = .ok (.ireturn, 1) := by decide +kernel
theorem dX2_raced_138 : decode cX2_raced 138 = .ok (.aload_n 0, 1) := by decide +kernel
theorem dX2_raced_139 : decode cX2_raced 139 = .ok (.getfield 18, 3) := by decide +kernel
theorem dX2_raced_142 : decode cX2_raced 142 = .ok (.iconst 0, 1) := by decide +kernel
theorem dX2_raced_143 : decode cX2_raced 143 = .ok (.iaload, 1) := by decide +kernel
theorem dX2_raced_144 : decode cX2_raced 144 = .ok (.aload_n 0, 1) := by decide +kernel
theorem dX2_raced_145 : decode cX2_raced 145 = .ok (.getfield 18, 3) := by decide +kernel
theorem dX2_raced_148 : decode cX2_raced 148 = .ok (.iconst 1, 1) := by decide +kernel
theorem dX2_raced_149 : decode cX2_raced 149 = .ok (.iaload, 1) := by decide +kernel
theorem dX2_raced_150 : decode cX2_raced 150 = .ok (.invokestatic 70, 3) := by decide +kernel
theorem dX2_raced_153 : decode cX2_raced 153 = .ok (.ireturn, 1) := by decide +kernel
def B_X2_raced_100 (o0 : Nat) (i2 : Int32) (i3 : Int32) (i4 : Int32) (s0 : Int32) (s1 : Int32) (s2 : Option Nat) (μ : Me) (K33 : Int32 → Me → Prop) (K40 : Int32 → Me → Prop) (Q : Int32 → Me → Prop) : Prop := ∃ t17, s2 = some t17 ∧ mok μ t17 12 ∧ vp_in s1 (mln μ t17) ∧ ∀ μ21, μ21 = msi μ t17 s1.toNatClampNeg s0 → K40 (i4 + 1) μ21
set_option maxHeartbeats 4000000 in
set_option maxRecDepth 100000 in
theorem tB_X2_raced_100 {x : GX} (f : Fx x cX2_raced RX2 6 (rmc 5 0 0)) {o0 : Nat} {i2 : Int32} {i3 : Int32} {i4 : Int32} {s0 : Int32} {s1 : Int32} {s2 : Option Nat} {μ : Me} {Q : Int32 → Me → Prop} (hq : Rt x (some .int) (qI Q)) {K33 : Int32 → Me → Prop} {K40 : Int32 → Me → Prop} (hK33 : ∀ (a3 : Int32) (ν : Me), K33 a3 ν → G x 6 33 [(0, .ref (gB x + o0)), (2, .int i2), (3, .int a3)] [] ν 0 0) (hK40 : ∀ (a4 : Int32) (ν : Me), K40 a4 ν → G x 6 40 [(0, .ref (gB x + o0)), (2, .int i2), (3, .int i3), (4, .int a4)] [] ν 0 0) (h : B_X2_raced_100 o0 i2 i3 i4 s0 s1 s2 μ K33 K40 Q) : G x 6 100 [(0, .ref (gB x + o0)), (2, .int i2), (3, .int i3), (4, .int i4)] [.int s0, .int s1, vr (gB x) s2] μ 0 0 := by
  unfold B_X2_raced_100 at h
  obtain ⟨t17, e18, h19⟩ := h
  subst e18
  have h := h19
  obtain ⟨v20, h⟩ := h
  refine g_iast f v20 dX2_raced_100 h (fun h => ?_)
  refine h_iinc f 3 1 dX2_raced_101 rfl kc_1 (by decide) ?_
  refine g_goto f 40 dX2_raced_104 rfl ?_
  exact h_sub [1, 2, 3, 0] rfl (hK40 _ _ h)
def B_X2_raced_40 (o0 : Nat) (i2 : Int32) (i3 : Int32) (i4 : Int32) (μ : Me) (K33 : Int32 → Me → Prop) (K40 : Int32 → Me → Prop) (Q : Int32 → Me → Prop) : Prop := (((1 <<< (i3 &&& 31)) ≤ i4 → K33 (i3 + (-1)) μ) ∧ (¬ (1 <<< (i3 &&& 31)) ≤ i4 → mok μ o0 2 ∧ ∃ t12, mgr μ o0 4 = some t12 ∧ mok μ t12 12 ∧ vp_in (i4 + (1 <<< (i3 &&& 31))) (mln μ t12) ∧ ∃ t14, mgr μ o0 4 = some t14 ∧ ((¬ (i3 - i3 / 2 * 2) = 0 → ∃ t15, mgr μ o0 4 = some t15 ∧ mok μ t15 12 ∧ vp_in i4 (mln μ t15) ∧ B_X2_raced_100 o0 i2 i3 i4 (if (mgi μ t12 (i4 + (1 <<< (i3 &&& 31))).toNatClampNeg) < (mgi μ t15 i4.toNatClampNeg) then (mgi μ t12 (i4 + (1 <<< (i3 &&& 31))).toNatClampNeg) else (mgi μ t15 i4.toNatClampNeg)) i4 (some t14) μ K33 K40 Q) ∧ ((i3 - i3 / 2 * 2) = 0 → ∃ t22, mgr μ o0 4 = some t22 ∧ mok μ t22 12 ∧ vp_in i4 (mln μ t22) ∧ B_X2_raced_100 o0 i2 i3 i4 (if (mgi μ t22 i4.toNatClampNeg) < (mgi μ t12 (i4 + (1 <<< (i3 &&& 31))).toNatClampNeg) then (mgi μ t12 (i4 + (1 <<< (i3 &&& 31))).toNatClampNeg) else (mgi μ t22 i4.toNatClampNeg)) i4 (some t14) μ K33 K40 Q))))
set_option maxHeartbeats 4000000 in
set_option maxRecDepth 100000 in
theorem tB_X2_raced_40 {x : GX} (f : Fx x cX2_raced RX2 6 (rmc 5 0 0)) {o0 : Nat} {i2 : Int32} {i3 : Int32} {i4 : Int32} {μ : Me} {Q : Int32 → Me → Prop} (hq : Rt x (some .int) (qI Q)) {K33 : Int32 → Me → Prop} {K40 : Int32 → Me → Prop} (hK33 : ∀ (a3 : Int32) (ν : Me), K33 a3 ν → G x 6 33 [(0, .ref (gB x + o0)), (2, .int i2), (3, .int a3)] [] ν 0 0) (hK40 : ∀ (a4 : Int32) (ν : Me), K40 a4 ν → G x 6 40 [(0, .ref (gB x + o0)), (2, .int i2), (3, .int i3), (4, .int a4)] [] ν 0 0) (h : B_X2_raced_40 o0 i2 i3 i4 μ K33 K40 Q) : G x 6 40 [(0, .ref (gB x + o0)), (2, .int i2), (3, .int i3), (4, .int i4)] [] μ 0 0 := by
  unfold B_X2_raced_40 at h
  refine g_iload f 3 dX2_raced_40 rfl ?_
  refine g_iconst f 1 dX2_raced_42 kc_1 ?_
  refine g_iload_n f 2 dX2_raced_43 rfl rfl ?_
  refine g_ishl f dX2_raced_44 ?_
  refine g_ic_ge f 107 dX2_raced_45 rfl h (fun h => ?_) (fun h => ?_)
  · refine h_iinc f 2 (-1) dX2_raced_107 rfl kc_m1 (by decide) ?_
    refine g_goto f 33 dX2_raced_110 rfl ?_
    exact h_sub [1, 2, 0] rfl (hK33 _ _ h)
  · refine g_aload_n f 0 dX2_raced_48 rfl rfl ?_
    obtain ⟨v11, h⟩ := h
    refine g_getR f fk_X2_18 v11 dX2_raced_49 rfl h (fun t12 h => ?_)
    refine g_iload f 3 dX2_raced_52 rfl ?_
    refine g_iconst f 1 dX2_raced_54 kc_1 ?_
    refine g_iload_n f 2 dX2_raced_55 rfl rfl ?_
    refine g_ishl f dX2_raced_56 ?_
    refine g_iadd f dX2_raced_57 ?_
    obtain ⟨v13, h⟩ := h
    refine g_iald f v13 dX2_raced_58 h (fun h => ?_)
    refine h_istore f dX2_raced_59 (by decide) ?_
    refine g_aload_n f 1 dX2_raced_61 rfl rfl ?_
    refine g_getR f fk_X2_18 v11 dX2_raced_62 rfl h (fun t14 h => ?_)
    refine g_iload f 4 dX2_raced_65 rfl ?_
    refine g_iload_n f 3 dX2_raced_67 rfl rfl ?_
    refine g_iconst f 2 dX2_raced_68 kc_2 ?_
    refine g_irem f dX2_raced_69 (by decide) ?_
    refine g_if_ne f 88 dX2_raced_70 rfl h (fun h => ?_) (fun h => ?_)
    · refine g_aload_n f 1 dX2_raced_88 rfl rfl ?_
      refine g_getR f fk_X2_18 v11 dX2_raced_89 rfl h (fun t15 h => ?_)
      refine g_iload f 4 dX2_raced_92 rfl ?_
      obtain ⟨v16, h⟩ := h
      refine g_iald f v16 dX2_raced_94 h (fun h => ?_)
      refine g_iload f 0 dX2_raced_95 rfl ?_
      refine g_min f mink_X2_76 dX2_raced_97 rm_fr (rm_mx (Nat.le_of_ble_eq_true rfl)) (Nat.zero_le _) (Nat.zero_le _) ?_
      exact h_sub [1, 2, 3, 4] rfl (tB_X2_raced_100 f hq hK33 hK40 h)
    · refine g_aload_n f 1 dX2_raced_73 rfl rfl ?_
      refine g_getR f fk_X2_18 v11 dX2_raced_74 rfl h (fun t22 h => ?_)
      refine g_iload f 4 dX2_raced_77 rfl ?_
      obtain ⟨v23, h⟩ := h
      refine g_iald f v23 dX2_raced_79 h (fun h => ?_)
      refine g_iload f 0 dX2_raced_80 rfl ?_
      refine g_max f maxk_X2_70 dX2_raced_82 rm_fr (rm_mx (Nat.le_of_ble_eq_true rfl)) (Nat.zero_le _) (Nat.zero_le _) ?_
      refine g_goto f 100 dX2_raced_85 rfl ?_
      exact h_sub [1, 2, 3, 4] rfl (tB_X2_raced_100 f hq hK33 hK40 h)
def L_X2_raced_40 (o0 : Nat) (i2 : Int32) (i3 : Int32) (i4 : Int32) (μ : Me) (K33 : Int32 → Me → Prop) (Q : Int32 → Me → Prop) : Prop := ∃ I : Int32 → Me → Nat → Prop, (∃ n, I i4 μ n) ∧ ∀ (i4 : Int32) (μ : Me) (n : Nat), I i4 μ n → B_X2_raced_40 o0 i2 i3 i4 μ K33 (fun a4 ν => ∃ n', n' < n ∧ I a4 ν n') Q
set_option maxHeartbeats 4000000 in
set_option maxRecDepth 100000 in
theorem tL_X2_raced_40 {x : GX} (f : Fx x cX2_raced RX2 6 (rmc 5 0 0)) {o0 : Nat} {i2 : Int32} {i3 : Int32} {i4 : Int32} {μ : Me} {Q : Int32 → Me → Prop} (hq : Rt x (some .int) (qI Q)) {K33 : Int32 → Me → Prop} (hK33 : ∀ (a3 : Int32) (ν : Me), K33 a3 ν → G x 6 33 [(0, .ref (gB x + o0)), (2, .int i2), (3, .int a3)] [] ν 0 0) (h : L_X2_raced_40 o0 i2 i3 i4 μ K33 Q) : G x 6 40 [(0, .ref (gB x + o0)), (2, .int i2), (3, .int i3), (4, .int i4)] [] μ 0 0 := by
  obtain ⟨I, ⟨n, hI⟩, hs⟩ := h
  induction n using Nat.strongRecOn generalizing i4 μ with
  | ind n ih => exact tB_X2_raced_40 f hq hK33 (fun a4 ν hk => by obtain ⟨n2, hn, hI2⟩ := hk; exact ih n2 hn hI2) (hs _ _ _ hI)
def B_X2_raced_33 (o0 : Nat) (i2 : Int32) (i3 : Int32) (μ : Me) (K33 : Int32 → Me → Prop) (Q : Int32 → Me → Prop) : Prop := ((i3 ≤ 0 → ((i2 = 0 → mok μ o0 2 ∧ ∃ t2, mgr μ o0 4 = some t2 ∧ mok μ t2 12 ∧ vp_in (0 : Int32) (mln μ t2) ∧ ∃ t4, mgr μ o0 4 = some t4 ∧ mok μ t4 12 ∧ vp_in (1 : Int32) (mln μ t4) ∧ Q (if (mgi μ t2 (0 : Int32).toNatClampNeg) < (mgi μ t4 (1 : Int32).toNatClampNeg) then (mgi μ t4 (1 : Int32).toNatClampNeg) else (mgi μ t2 (0 : Int32).toNatClampNeg)) μ) ∧ (¬ i2 = 0 → mok μ o0 2 ∧ ∃ t7, mgr μ o0 4 = some t7 ∧ mok μ t7 12 ∧ vp_in (1 : Int32) (mln μ t7) ∧ ∃ t9, mgr μ o0 4 = some t9 ∧ mok μ t9 12 ∧ vp_in (0 : Int32) (mln μ t9) ∧ (((mgi μ t7 (1 : Int32).toNatClampNeg) ≤ (mgi μ t9 (0 : Int32).toNatClampNeg) → Q 0 μ) ∧ (¬ (mgi μ t7 (1 : Int32).toNatClampNeg) ≤ (mgi μ t9 (0 : Int32).toNatClampNeg) → Q 1 μ))))) ∧ (¬ i3 ≤ 0 → L_X2_raced_40 o0 i2 i3 0 μ K33 Q))
set_option maxHeartbeats 4000000 in
set_option maxRecDepth 100000 in
theorem tB_X2_raced_33 {x : GX} (f : Fx x cX2_raced RX2 6 (rmc 5 0 0)) {o0 : Nat} {i2 : Int32} {i3 : Int32} {μ : Me} {Q : Int32 → Me → Prop} (hq : Rt x (some .int) (qI Q)) {K33 : Int32 → Me → Prop} (hK33 : ∀ (a3 : Int32) (ν : Me), K33 a3 ν → G x 6 33 [(0, .ref (gB x + o0)), (2, .int i2), (3, .int a3)] [] ν 0 0) (h : B_X2_raced_33 o0 i2 i3 μ K33 Q) : G x 6 33 [(0, .ref (gB x + o0)), (2, .int i2), (3, .int i3)] [] μ 0 0 := by
  unfold B_X2_raced_33 at h
  refine g_iload_n f 2 dX2_raced_33 rfl rfl ?_
  refine g_if_le f 113 dX2_raced_34 rfl h (fun h => ?_) (fun h => ?_)
  · refine g_iload_n f 1 dX2_raced_113 rfl rfl ?_
    refine g_if_eq f 138 dX2_raced_114 rfl h (fun h => ?_) (fun h => ?_)
    · refine g_aload_n f 0 dX2_raced_138 rfl rfl ?_
      obtain ⟨v1, h⟩ := h
      refine g_getR f fk_X2_18 v1 dX2_raced_139 rfl h (fun t2 h => ?_)
      refine g_iconst f 0 dX2_raced_142 kc_0 ?_
      obtain ⟨v3, h⟩ := h
      refine g_iald f v3 dX2_raced_143 h (fun h => ?_)
      refine g_aload_n f 0 dX2_raced_144 rfl rfl ?_
      refine g_getR f fk_X2_18 v1 dX2_raced_145 rfl h (fun t4 h => ?_)
      refine g_iconst f 1 dX2_raced_148 kc_1 ?_
      obtain ⟨v5, h⟩ := h
      refine g_iald f v5 dX2_raced_149 h (fun h => ?_)
      refine g_max f maxk_X2_70 dX2_raced_150 rm_fr (rm_mx (Nat.le_of_ble_eq_true rfl)) (Nat.zero_le _) (Nat.zero_le _) ?_
      exact g_iret f hq (Nat.le_of_ble_eq_true rfl) (Nat.le_of_ble_eq_true rfl) dX2_raced_153 h
    · refine g_aload_n f 0 dX2_raced_117 rfl rfl ?_
      obtain ⟨v6, h⟩ := h
      refine g_getR f fk_X2_18 v6 dX2_raced_118 rfl h (fun t7 h => ?_)
      refine g_iconst f 1 dX2_raced_121 kc_1 ?_
      obtain ⟨v8, h⟩ := h
      refine g_iald f v8 dX2_raced_122 h (fun h => ?_)
      refine g_aload_n f 0 dX2_raced_123 rfl rfl ?_
      refine g_getR f fk_X2_18 v6 dX2_raced_124 rfl h (fun t9 h => ?_)
      refine g_iconst f 0 dX2_raced_127 kc_0 ?_
      obtain ⟨v10, h⟩ := h
      refine g_iald f v10 dX2_raced_128 h (fun h => ?_)
      refine g_ic_le f 136 dX2_raced_129 rfl h (fun h => ?_) (fun h => ?_)
      · refine g_iconst f 0 dX2_raced_136 kc_0 ?_
        exact g_iret f hq (Nat.le_of_ble_eq_true rfl) (Nat.le_of_ble_eq_true rfl) dX2_raced_137 h
      · refine g_iconst f 1 dX2_raced_132 kc_1 ?_
        refine g_goto f 137 dX2_raced_133 rfl ?_
        exact g_iret f hq (Nat.le_of_ble_eq_true rfl) (Nat.le_of_ble_eq_true rfl) dX2_raced_137 h
  · refine g_iconst f 0 dX2_raced_37 kc_0 ?_
    refine h_istore f dX2_raced_38 (by decide) ?_
    exact h_sub [1, 2, 3, 0] rfl (tL_X2_raced_40 f hq hK33 h)
def L_X2_raced_33 (o0 : Nat) (i2 : Int32) (i3 : Int32) (μ : Me) (Q : Int32 → Me → Prop) : Prop := ∃ I : Int32 → Me → Nat → Prop, (∃ n, I i3 μ n) ∧ ∀ (i3 : Int32) (μ : Me) (n : Nat), I i3 μ n → B_X2_raced_33 o0 i2 i3 μ (fun a3 ν => ∃ n', n' < n ∧ I a3 ν n') Q
set_option maxHeartbeats 4000000 in
set_option maxRecDepth 100000 in
theorem tL_X2_raced_33 {x : GX} (f : Fx x cX2_raced RX2 6 (rmc 5 0 0)) {o0 : Nat} {i2 : Int32} {i3 : Int32} {μ : Me} {Q : Int32 → Me → Prop} (hq : Rt x (some .int) (qI Q)) (h : L_X2_raced_33 o0 i2 i3 μ Q) : G x 6 33 [(0, .ref (gB x + o0)), (2, .int i2), (3, .int i3)] [] μ 0 0 := by
  obtain ⟨I, ⟨n, hI⟩, hs⟩ := h
  induction n using Nat.strongRecOn generalizing i3 μ with
  | ind n ih => exact tB_X2_raced_33 f hq (fun a3 ν hk => by obtain ⟨n2, hn, hI2⟩ := hk; exact ih n2 hn hI2) (hs _ _ _ hI)
def B_X2_raced_2 (o0 : Nat) (i1 : Int32) (i2 : Int32) (i3 : Int32) (μ : Me) (K2 : Int32 → Me → Prop) (Q : Int32 → Me → Prop) : Prop := (((1 <<< (i1 &&& 31)) ≤ i3 → L_X2_raced_33 o0 i2 (i1 - 1) μ Q) ∧ (¬ (1 <<< (i1 &&& 31)) ≤ i3 → mok μ o0 2 ∧ ∃ t25, mgr μ o0 4 = some t25 ∧ S_X2_next o0 i3 μ (fun r28 μ26 => S_J6_bitCount_0f7a4 r28 μ26 (fun r31 μ29 => mok μ29 t25 12 ∧ vp_in i3 (mln μ29 t25) ∧ ∀ μ33, μ33 = msi μ29 t25 i3.toNatClampNeg r31 → K2 (i3 + 1) μ33))))
set_option maxHeartbeats 4000000 in
set_option maxRecDepth 100000 in
theorem tB_X2_raced_2 {x : GX} (f : Fx x cX2_raced RX2 6 (rmc 5 0 0)) {o0 : Nat} {i1 : Int32} {i2 : Int32} {i3 : Int32} {μ : Me} {Q : Int32 → Me → Prop} (hq : Rt x (some .int) (qI Q)) {K2 : Int32 → Me → Prop} (hK2 : ∀ (a3 : Int32) (ν : Me), K2 a3 ν → G x 6 2 [(0, .ref (gB x + o0)), (1, .int i1), (2, .int i2), (3, .int a3)] [] ν 0 0) (h : B_X2_raced_2 o0 i1 i2 i3 μ K2 Q) : G x 6 2 [(0, .ref (gB x + o0)), (1, .int i1), (2, .int i2), (3, .int i3)] [] μ 0 0 := by
  unfold B_X2_raced_2 at h
  refine g_iload_n f 3 dX2_raced_2 rfl rfl ?_
  refine g_iconst f 1 dX2_raced_3 kc_1 ?_
  refine g_iload_n f 1 dX2_raced_4 rfl rfl ?_
  refine g_ishl f dX2_raced_5 ?_
  refine g_ic_ge f 29 dX2_raced_6 rfl h (fun h => ?_) (fun h => ?_)
  · refine g_iload_n f 1 dX2_raced_29 rfl rfl ?_
    refine g_iconst f 1 dX2_raced_30 kc_1 ?_
    refine g_isub f dX2_raced_31 ?_
    refine h_istore_n f dX2_raced_32 rfl (by decide) ?_
    exact h_sub [1, 3, 0] rfl (tL_X2_raced_33 f hq h)
  · refine g_aload_n f 0 dX2_raced_9 rfl rfl ?_
    obtain ⟨v24, h⟩ := h
    refine g_getR f fk_X2_18 v24 dX2_raced_10 rfl h (fun t25 h => ?_)
    refine g_iload_n f 3 dX2_raced_13 rfl rfl ?_
    refine g_aload_n f 0 dX2_raced_14 rfl rfl ?_
    refine g_iload_n f 3 dX2_raced_15 rfl rfl ?_
    refine g_callV f mk_X2_42 v24 (c_X2_next h) dX2_raced_16 rfl rfl (Nat.le_of_ble_eq_true rfl) (rm_ok (by decide) (by decide)) ⟨Nat.le_of_ble_eq_true rfl, Nat.le_of_ble_eq_true rfl⟩ (kI fun r28 μ26 x27 h => ?_)
    refine g_callS f mk_X2_59 (c_J6_bitCount_0f7a4 h) dX2_raced_19 rfl rfl (Nat.le_of_ble_eq_true rfl) (rm_ok (by decide) (by decide)) ⟨Nat.le_of_ble_eq_true rfl, Nat.le_of_ble_eq_true rfl⟩ (kI fun r31 μ29 x30 h => ?_)
    obtain ⟨v32, h⟩ := h
    refine g_iast f v32 dX2_raced_22 h (fun h => ?_)
    refine h_iinc f 3 1 dX2_raced_23 rfl kc_1 (by decide) ?_
    refine g_goto f 2 dX2_raced_26 rfl ?_
    exact h_sub [1, 2, 3, 0] rfl (hK2 _ _ h)
def L_X2_raced_2 (o0 : Nat) (i1 : Int32) (i2 : Int32) (i3 : Int32) (μ : Me) (Q : Int32 → Me → Prop) : Prop := ∃ I : Int32 → Me → Nat → Prop, (∃ n, I i3 μ n) ∧ ∀ (i3 : Int32) (μ : Me) (n : Nat), I i3 μ n → B_X2_raced_2 o0 i1 i2 i3 μ (fun a3 ν => ∃ n', n' < n ∧ I a3 ν n') Q
set_option maxHeartbeats 4000000 in
set_option maxRecDepth 100000 in
theorem tL_X2_raced_2 {x : GX} (f : Fx x cX2_raced RX2 6 (rmc 5 0 0)) {o0 : Nat} {i1 : Int32} {i2 : Int32} {i3 : Int32} {μ : Me} {Q : Int32 → Me → Prop} (hq : Rt x (some .int) (qI Q)) (h : L_X2_raced_2 o0 i1 i2 i3 μ Q) : G x 6 2 [(0, .ref (gB x + o0)), (1, .int i1), (2, .int i2), (3, .int i3)] [] μ 0 0 := by
  obtain ⟨I, ⟨n, hI⟩, hs⟩ := h
  induction n using Nat.strongRecOn generalizing i3 μ with
  | ind n ih => exact tB_X2_raced_2 f hq (fun a3 ν hk => by obtain ⟨n2, hn, hI2⟩ := hk; exact ih n2 hn hI2) (hs _ _ _ hI)
def S_X2_raced (o0 : Nat) (i1 : Int32) (i2 : Int32) (μ : Me) (Q : Int32 → Me → Prop) : Prop := L_X2_raced_2 o0 i1 i2 0 μ Q
set_option maxHeartbeats 4000000 in
set_option maxRecDepth 100000 in
theorem t_X2_raced {x : GX} (f : Fx x cX2_raced RX2 6 (rmc 5 0 0)) {o0 : Nat} {i1 : Int32} {i2 : Int32} {μ : Me} {Q : Int32 → Me → Prop} (hq : Rt x (some .int) (qI Q)) (h : S_X2_raced o0 i1 i2 μ Q) : G x 6 0 [(0, .ref (gB x + o0)), (1, .int i1), (2, .int i2)] [] μ 0 0 := by
  unfold S_X2_raced at h
  refine g_iconst f 0 dX2_raced_0 kc_0 ?_
  refine h_istore_n f dX2_raced_1 rfl (by decide) ?_
  exact h_sub [1, 2, 3, 0] rfl (tL_X2_raced_2 f hq h)
theorem c_X2_raced {Ω : OM} {o0 : Nat} {i1 : Int32} {i2 : Int32} {μ : Me} {Q : Int32 → Me → Prop} (h : S_X2_raced o0 i1 i2 μ Q) : CT Ω yX2_raced cX2_raced 6 (some .int) (rmc 5 0 0) [.ref (oB Ω + o0), .int i1, .int i2] μ (qI Q) := CT_of (by decide) rfl (by simp [lg_sl, Value.category]) (fun x hΩ f hq hi => by subst hΩ; exact t_X2_raced f hq h)
theorem dX3_written_0 : decode cX3_written 0 = .ok (.aload_n 0, 1) := by decide +kernel
theorem dX3_written_1 : decode cX3_written 1 = .ok (.getfield 22, 3) := by decide +kernel
theorem dX3_written_4 : decode cX3_written 4 = .ok (.iload_n 1, 1) := by decide +kernel
theorem dX3_written_5 : decode cX3_written 5 = .ok (.laload, 1) := by decide +kernel
theorem dX3_written_6 : decode cX3_written 6 = .ok (.bipush 16, 2) := by decide +kernel
theorem dX3_written_8 : decode cX3_written 8 = .ok (.iload_n 2, 1) := by decide +kernel
theorem dX3_written_9 : decode cX3_written 9 = .ok (.imul, 1) := by decide +kernel
theorem dX3_written_10 : decode cX3_written 10 = .ok (.lshr, 1) := by decide +kernel
theorem dX3_written_11 : decode cX3_written 11 = .ok (.l2i, 1) := by decide +kernel
theorem dX3_written_12 : decode cX3_written 12 = .ok (.ldc 51, 2) := by decide +kernel
theorem dX3_written_14 : decode cX3_written 14 = .ok (.iand, 1) := by decide +kernel
theorem dX3_written_15 : decode cX3_written 15 = .ok (.ireturn, 1) := by decide +kernel
def S_X3_written (o0 : Nat) (i1 : Int32) (i2 : Int32) (μ : Me) (Q : Int32 → Me → Prop) : Prop := mok μ o0 3 ∧ ∃ t2, mgr μ o0 7 = some t2 ∧ mok μ t2 13 ∧ vp_in i1 (mln μ t2) ∧ Q (((mgl μ t2 i1.toNatClampNeg) >>> ((16 * i2).toInt64 &&& 63)).toInt32 &&& 65535) μ
set_option maxHeartbeats 4000000 in
set_option maxRecDepth 100000 in
theorem t_X3_written {x : GX} (f : Fx x cX3_written RX3 3 (rmc 0 0 0)) {o0 : Nat} {i1 : Int32} {i2 : Int32} {μ : Me} {Q : Int32 → Me → Prop} (hq : Rt x (some .int) (qI Q)) (h : S_X3_written o0 i1 i2 μ Q) : G x 3 0 [(0, .ref (gB x + o0)), (1, .int i1), (2, .int i2)] [] μ 0 0 := by
  unfold S_X3_written at h
  refine g_aload_n f 0 dX3_written_0 rfl rfl ?_
  obtain ⟨v1, h⟩ := h
  refine g_getR f fk_X3_22 v1 dX3_written_1 rfl h (fun t2 h => ?_)
  refine g_iload_n f 1 dX3_written_4 rfl rfl ?_
  obtain ⟨v3, h⟩ := h
  refine g_lald f v3 dX3_written_5 h (fun h => ?_)
  refine g_bipush f 16 dX3_written_6 kb_16 ?_
  refine g_iload_n f 2 dX3_written_8 rfl rfl ?_
  refine g_imul f dX3_written_9 ?_
  refine g_lshr f dX3_written_10 ?_
  refine g_l2i f dX3_written_11 ?_
  refine g_ldc f w_1045 dX3_written_12 ?_
  refine g_iand f dX3_written_14 ?_
  exact g_iret f hq (Nat.le_of_ble_eq_true rfl) (Nat.le_of_ble_eq_true rfl) dX3_written_15 h
theorem c_X3_written {Ω : OM} {o0 : Nat} {i1 : Int32} {i2 : Int32} {μ : Me} {Q : Int32 → Me → Prop} (h : S_X3_written o0 i1 i2 μ Q) : CT Ω yX3_written cX3_written 3 (some .int) (rmc 0 0 0) [.ref (oB Ω + o0), .int i1, .int i2] μ (qI Q) := CT_of (by decide) rfl (by simp [lg_sl, Value.category]) (fun x hΩ f hq hi => by subst hΩ; exact t_X3_written f hq h)
theorem dX4_init_0 : decode cX4_init 0 = .ok (.aload_n 0, 1) := by decide +kernel
theorem dX4_init_1 : decode cX4_init 1 = .ok (.invokespecial 3, 3) := by decide +kernel
theorem dX4_init_4 : decode cX4_init 4 = .ok (.aload_n 0, 1) := by decide +kernel
theorem dX4_init_5 : decode cX4_init 5 = .ok (.sipush 300, 3) := by decide +kernel
theorem dX4_init_8 : decode cX4_init 8 = .ok (.newarray .int, 2) := by decide +kernel
theorem dX4_init_10 : decode cX4_init 10 = .ok (.putfield 9, 3) := by decide +kernel
theorem dX4_init_13 : decode cX4_init 13 = .ok (.aload_n 0, 1) := by decide +kernel
theorem dX4_init_14 : decode cX4_init 14 = .ok (.aload_n 1, 1) := by decide +kernel
theorem dX4_init_15 : decode cX4_init 15 = .ok (.putfield 15, 3) := by decide +kernel
theorem dX4_init_18 : decode cX4_init 18 = .ok (.aload_n 0, 1) := by decide +kernel
theorem dX4_init_19 : decode cX4_init 19 = .ok (.aload_n 2, 1) := by decide +kernel
theorem dX4_init_20 : decode cX4_init 20 = .ok (.putfield 19, 3) := by decide +kernel
theorem dX4_init_23 : decode cX4_init 23 = .ok (.return_, 1) := by decide +kernel
def S_X4_init (o0 : Nat) (o1 : Nat) (o2 : Nat) (μ : Me) (Q : Me → Prop) : Prop := ∀ μ1, μ1 = mnw μ 12 300 → mok μ1 o0 4 ∧ ∀ μ5, μ5 = msr μ1 o0 2 (some (mnn μ)) → ∀ μ6, μ6 = msr μ5 o0 0 (some o1) → ∀ μ7, μ7 = msr μ6 o0 1 (some o2) → Q μ7
set_option maxHeartbeats 4000000 in
set_option maxRecDepth 100000 in
theorem t_X4_init {x : GX} (f : Fx x cX4_init RX4 3 (rmc 0 1 300)) {o0 : Nat} {o1 : Nat} {o2 : Nat} {μ : Me} {Q : Me → Prop} (hq : Rt x none (qV Q)) (hi : x.1.2.2.2.2.2.2.2.1.name = "<init>") (h : S_X4_init o0 o1 o2 μ Q) : G x 3 0 [(0, .ref (gB x + o0)), (1, .ref (gB x + o1)), (2, .ref (gB x + o2))] [] μ 0 0 := by
  unfold S_X4_init at h
  refine g_aload_n f 0 dX4_init_0 rfl rfl ?_
  refine g_objInit f w_396 w_126 w_127 dX4_init_1 rm_fr (Nat.le_of_ble_eq_true rfl) ?_
  refine g_aload_n f 0 dX4_init_4 rfl rfl ?_
  refine g_sipush f 300 dX4_init_5 ks_300 ?_
  refine g_newa (c := 12) (N := 300) (cap := 300) f .int (Or.inl ⟨rfl, rfl⟩) dX4_init_8 w_187 (by decide) (by decide) (Nat.le_refl _) (Nat.le_of_ble_eq_true rfl) (Nat.le_of_ble_eq_true rfl) (Nat.le_of_ble_eq_true rfl) h (fun h v2 x3 => ?_)
  obtain ⟨v4, h⟩ := h
  refine g_putFQ (r := some _) f fk_X4_9 rfl hi v4 dX4_init_10 rfl (Or.inr ⟨_, rfl⟩) h (fun h => ?_)
  refine g_aload_n f 0 dX4_init_13 rfl rfl ?_
  refine g_aload_n f 1 dX4_init_14 rfl rfl ?_
  refine g_putFQ (r := some _) f fk_X4_15 rfl hi v4 dX4_init_15 rfl (Or.inl ⟨_, rfl⟩) h (fun h => ?_)
  refine g_aload_n f 0 dX4_init_18 rfl rfl ?_
  refine g_aload_n f 2 dX4_init_19 rfl rfl ?_
  refine g_putFQ (r := some _) f fk_X4_19 rfl hi v4 dX4_init_20 rfl (Or.inr ⟨_, rfl⟩) h (fun h => ?_)
  exact g_vret f hq (Nat.le_of_ble_eq_true rfl) (Nat.le_of_ble_eq_true rfl) dX4_init_23 h
theorem c_X4_init {Ω : OM} {o0 : Nat} {o1 : Nat} {o2 : Nat} {μ : Me} {Q : Me → Prop} (h : S_X4_init o0 o1 o2 μ Q) : CT Ω yX4_init cX4_init 3 none (rmc 0 1 300) [.ref (oB Ω + o0), .ref (oB Ω + o1), .ref (oB Ω + o2)] μ (qV Q) := CT_of (by decide) rfl (by simp [lg_sl, Value.category]) (fun x hΩ f hq hi => by subst hΩ; exact t_X4_init f hq (hi rfl) h)
theorem dX4_takesAmong_0 : decode cX4_takesAmong 0 = .ok (.aload_n 0, 1) := by decide +kernel
theorem dX4_takesAmong_1 : decode cX4_takesAmong 1 = .ok (.iload_n 1, 1) := by decide +kernel
theorem dX4_takesAmong_2 : decode cX4_takesAmong 2 = .ok (.iload_n 2, 1) := by decide +kernel
theorem dX4_takesAmong_3 : decode cX4_takesAmong 3 = .ok (.iload_n 1, 1) := by decide +kernel
theorem dX4_takesAmong_4 : decode cX4_takesAmong 4 = .ok (.ishr, 1) := by decide +kernel
theorem dX4_takesAmong_5 : decode cX4_takesAmong 5 = .ok (.iconst 1, 1) := by decide +kernel
theorem dX4_takesAmong_6 : decode cX4_takesAmong 6 = .ok (.iand, 1) := by decide +kernel
theorem dX4_takesAmong_7 : decode cX4_takesAmong 7 = .ok (.aload_n 0, 1) := by decide +kernel
theorem dX4_takesAmong_8 : decode cX4_takesAmong 8 = .ok (.iload_n 1, 1) := by decide +kernel
theorem dX4_takesAmong_9 : decode cX4_takesAmong 9 = .ok (.iload_n 2, 1) := by decide +kernel
theorem dX4_takesAmong_10 : decode cX4_takesAmong 10 = .ok (.invokevirtual 99, 3) := by decide +kernel
theorem dX4_takesAmong_13 : decode cX4_takesAmong 13 = .ok (.invokevirtual 103, 3) := by decide +kernel
theorem dX4_takesAmong_16 : decode cX4_takesAmong 16 = .ok (.ireturn, 1) := by decide +kernel
def S_X4_takesAmong (o0 : Nat) (i1 : Int32) (i2 : Int32) (μ : Me) (Q : Int32 → Me → Prop) : Prop := mok μ o0 4 ∧ S_X4_jamOf o0 i1 i2 μ (fun r4 μ2 => S_X4_takesOf o0 i1 ((i2 >>> (i1 &&& 31)) &&& 1) r4 μ2 (fun r7 μ5 => Q r7 μ5))
set_option maxHeartbeats 4000000 in
set_option maxRecDepth 100000 in
theorem t_X4_takesAmong {x : GX} (f : Fx x cX4_takesAmong RX4 3 (rmc 3 0 0)) {o0 : Nat} {i1 : Int32} {i2 : Int32} {μ : Me} {Q : Int32 → Me → Prop} (hq : Rt x (some .int) (qI Q)) (h : S_X4_takesAmong o0 i1 i2 μ Q) : G x 3 0 [(0, .ref (gB x + o0)), (1, .int i1), (2, .int i2)] [] μ 0 0 := by
  unfold S_X4_takesAmong at h
  refine g_aload_n f 0 dX4_takesAmong_0 rfl rfl ?_
  refine g_iload_n f 1 dX4_takesAmong_1 rfl rfl ?_
  refine g_iload_n f 2 dX4_takesAmong_2 rfl rfl ?_
  refine g_iload_n f 1 dX4_takesAmong_3 rfl rfl ?_
  refine g_ishr f dX4_takesAmong_4 ?_
  refine g_iconst f 1 dX4_takesAmong_5 kc_1 ?_
  refine g_iand f dX4_takesAmong_6 ?_
  refine g_aload_n f 0 dX4_takesAmong_7 rfl rfl ?_
  refine g_iload_n f 1 dX4_takesAmong_8 rfl rfl ?_
  refine g_iload_n f 2 dX4_takesAmong_9 rfl rfl ?_
  obtain ⟨v1, h⟩ := h
  refine g_callV f mk_X4_99 v1 (c_X4_jamOf h) dX4_takesAmong_10 rfl rfl (Nat.le_of_ble_eq_true rfl) (rm_ok (by decide) (by decide)) ⟨Nat.le_of_ble_eq_true rfl, Nat.le_of_ble_eq_true rfl⟩ (kI fun r4 μ2 x3 h => ?_)
  have v1 := mex_ok x3 v1
  refine g_callV f mk_X4_103 v1 (c_X4_takesOf h) dX4_takesAmong_13 rfl rfl (Nat.le_of_ble_eq_true rfl) (rm_ok (by decide) (by decide)) ⟨Nat.le_of_ble_eq_true rfl, Nat.le_of_ble_eq_true rfl⟩ (kI fun r7 μ5 x6 h => ?_)
  exact g_iret f hq (Nat.le_of_ble_eq_true rfl) (Nat.le_of_ble_eq_true rfl) dX4_takesAmong_16 h
theorem c_X4_takesAmong {Ω : OM} {o0 : Nat} {i1 : Int32} {i2 : Int32} {μ : Me} {Q : Int32 → Me → Prop} (h : S_X4_takesAmong o0 i1 i2 μ Q) : CT Ω yX4_takesAmong cX4_takesAmong 3 (some .int) (rmc 3 0 0) [.ref (oB Ω + o0), .int i1, .int i2] μ (qI Q) := CT_of (by decide) rfl (by simp [lg_sl, Value.category]) (fun x hΩ f hq hi => by subst hΩ; exact t_X4_takesAmong f hq h)
theorem dX8_init_0 : decode cX8_init 0 = .ok (.aload_n 0, 1) := by decide +kernel
theorem dX8_init_1 : decode cX8_init 1 = .ok (.invokespecial 3, 3) := by decide +kernel
theorem dX8_init_4 : decode cX8_init 4 = .ok (.aload_n 0, 1) := by decide +kernel
theorem dX8_init_5 : decode cX8_init 5 = .ok (.sipush 301, 3) := by decide +kernel
theorem dX8_init_8 : decode cX8_init 8 = .ok (.newarray .int, 2) := by decide +kernel
theorem dX8_init_10 : decode cX8_init 10 = .ok (.putfield 9, 3) := by decide +kernel
theorem dX8_init_13 : decode cX8_init 13 = .ok (.aload_n 0, 1) := by decide +kernel
theorem dX8_init_14 : decode cX8_init 14 = .ok (.sipush 301, 3) := by decide +kernel
theorem dX8_init_17 : decode cX8_init 17 = .ok (.newarray .int, 2) := by decide +kernel
theorem dX8_init_19 : decode cX8_init 19 = .ok (.putfield 15, 3) := by decide +kernel
theorem dX8_init_22 : decode cX8_init 22 = .ok (.aload_n 0, 1) := by decide +kernel
theorem dX8_init_23 : decode cX8_init 23 = .ok (.sipush 301, 3) := by decide +kernel
theorem dX8_init_26 : decode cX8_init 26 = .ok (.newarray .int, 2) := by decide +kernel
theorem dX8_init_28 : decode cX8_init 28 = .ok (.putfield 18, 3) := by decide +kernel
theorem dX8_init_31 : decode cX8_init 31 = .ok (.return_, 1) := by decide +kernel
def S_X8_init (o0 : Nat) (μ : Me) (Q : Me → Prop) : Prop := ∀ μ1, μ1 = mnw μ 12 301 → mok μ1 o0 8 ∧ ∀ μ5, μ5 = msr μ1 o0 0 (some (mnn μ)) → ∀ μ6, μ6 = mnw μ5 12 301 → ∀ μ9, μ9 = msr μ6 o0 1 (some (mnn μ5)) → ∀ μ10, μ10 = mnw μ9 12 301 → ∀ μ13, μ13 = msr μ10 o0 2 (some (mnn μ9)) → Q μ13
set_option maxHeartbeats 4000000 in
set_option maxRecDepth 100000 in
theorem t_X8_init {x : GX} (f : Fx x cX8_init RX8 1 (rmc 0 3 903)) {o0 : Nat} {μ : Me} {Q : Me → Prop} (hq : Rt x none (qV Q)) (hi : x.1.2.2.2.2.2.2.2.1.name = "<init>") (h : S_X8_init o0 μ Q) : G x 1 0 [(0, .ref (gB x + o0))] [] μ 0 0 := by
  unfold S_X8_init at h
  refine g_aload_n f 0 dX8_init_0 rfl rfl ?_
  refine g_objInit f w_345 w_126 w_127 dX8_init_1 rm_fr (Nat.le_of_ble_eq_true rfl) ?_
  refine g_aload_n f 0 dX8_init_4 rfl rfl ?_
  refine g_sipush f 301 dX8_init_5 ks_301 ?_
  refine g_newa (c := 12) (N := 301) (cap := 301) f .int (Or.inl ⟨rfl, rfl⟩) dX8_init_8 w_187 (by decide) (by decide) (Nat.le_refl _) (Nat.le_of_ble_eq_true rfl) (Nat.le_of_ble_eq_true rfl) (Nat.le_of_ble_eq_true rfl) h (fun h v2 x3 => ?_)
  obtain ⟨v4, h⟩ := h
  refine g_putFQ (r := some _) f fk_X8_9 rfl hi v4 dX8_init_10 rfl (Or.inr ⟨_, rfl⟩) h (fun h => ?_)
  refine g_aload_n f 0 dX8_init_13 rfl rfl ?_
  refine g_sipush f 301 dX8_init_14 ks_301 ?_
  refine g_newa (c := 12) (N := 301) (cap := 301) f .int (Or.inl ⟨rfl, rfl⟩) dX8_init_17 w_187 (by decide) (by decide) (Nat.le_refl _) (Nat.le_of_ble_eq_true rfl) (Nat.le_of_ble_eq_true rfl) (Nat.le_of_ble_eq_true rfl) h (fun h v7 x8 => ?_)
  have v4 := mex_ok x8 v4
  refine g_putFQ (r := some _) f fk_X8_15 rfl hi v4 dX8_init_19 rfl (Or.inr ⟨_, rfl⟩) h (fun h => ?_)
  refine g_aload_n f 0 dX8_init_22 rfl rfl ?_
  refine g_sipush f 301 dX8_init_23 ks_301 ?_
  refine g_newa (c := 12) (N := 301) (cap := 301) f .int (Or.inl ⟨rfl, rfl⟩) dX8_init_26 w_187 (by decide) (by decide) (Nat.le_refl _) (Nat.le_of_ble_eq_true rfl) (Nat.le_of_ble_eq_true rfl) (Nat.le_of_ble_eq_true rfl) h (fun h v11 x12 => ?_)
  have v4 := mex_ok x12 v4
  refine g_putFQ (r := some _) f fk_X8_18 rfl hi v4 dX8_init_28 rfl (Or.inr ⟨_, rfl⟩) h (fun h => ?_)
  exact g_vret f hq (Nat.le_of_ble_eq_true rfl) (Nat.le_of_ble_eq_true rfl) dX8_init_31 h
theorem c_X8_init {Ω : OM} {o0 : Nat} {μ : Me} {Q : Me → Prop} (h : S_X8_init o0 μ Q) : CT Ω yX8_init cX8_init 1 none (rmc 0 3 903) [.ref (oB Ω + o0)] μ (qV Q) := CT_of (by decide) rfl (by simp [lg_sl, Value.category]) (fun x hΩ f hq hi => by subst hΩ; exact t_X8_init f hq (hi rfl) h)
theorem dX7_init_0 : decode cX7_init 0 = .ok (.aload_n 0, 1) := by decide +kernel
theorem dX7_init_1 : decode cX7_init 1 = .ok (.invokespecial 3, 3) := by decide +kernel
theorem dX7_init_4 : decode cX7_init 4 = .ok (.aload_n 0, 1) := by decide +kernel
theorem dX7_init_5 : decode cX7_init 5 = .ok (.sipush 300, 3) := by decide +kernel
theorem dX7_init_8 : decode cX7_init 8 = .ok (.newarray .int, 2) := by decide +kernel
theorem dX7_init_10 : decode cX7_init 10 = .ok (.putfield 9, 3) := by decide +kernel
theorem dX7_init_13 : decode cX7_init 13 = .ok (.aload_n 0, 1) := by decide +kernel
theorem dX7_init_14 : decode cX7_init 14 = .ok (.sipush 300, 3) := by decide +kernel
theorem dX7_init_17 : decode cX7_init 17 = .ok (.newarray .int, 2) := by decide +kernel
theorem dX7_init_19 : decode cX7_init 19 = .ok (.putfield 15, 3) := by decide +kernel
theorem dX7_init_22 : decode cX7_init 22 = .ok (.aload_n 0, 1) := by decide +kernel
theorem dX7_init_23 : decode cX7_init 23 = .ok (.bipush 120, 2) := by decide +kernel
theorem dX7_init_25 : decode cX7_init 25 = .ok (.newarray .int, 2) := by decide +kernel
theorem dX7_init_27 : decode cX7_init 27 = .ok (.putfield 18, 3) := by decide +kernel
theorem dX7_init_30 : decode cX7_init 30 = .ok (.return_, 1) := by decide +kernel
def S_X7_init (o0 : Nat) (μ : Me) (Q : Me → Prop) : Prop := ∀ μ1, μ1 = mnw μ 12 300 → mok μ1 o0 7 ∧ ∀ μ5, μ5 = msr μ1 o0 0 (some (mnn μ)) → ∀ μ6, μ6 = mnw μ5 12 300 → ∀ μ9, μ9 = msr μ6 o0 1 (some (mnn μ5)) → ∀ μ10, μ10 = mnw μ9 12 120 → ∀ μ13, μ13 = msr μ10 o0 7 (some (mnn μ9)) → Q μ13
set_option maxHeartbeats 4000000 in
set_option maxRecDepth 100000 in
theorem t_X7_init {x : GX} (f : Fx x cX7_init RX7 1 (rmc 0 3 720)) {o0 : Nat} {μ : Me} {Q : Me → Prop} (hq : Rt x none (qV Q)) (hi : x.1.2.2.2.2.2.2.2.1.name = "<init>") (h : S_X7_init o0 μ Q) : G x 1 0 [(0, .ref (gB x + o0))] [] μ 0 0 := by
  unfold S_X7_init at h
  refine g_aload_n f 0 dX7_init_0 rfl rfl ?_
  refine g_objInit f w_297 w_126 w_127 dX7_init_1 rm_fr (Nat.le_of_ble_eq_true rfl) ?_
  refine g_aload_n f 0 dX7_init_4 rfl rfl ?_
  refine g_sipush f 300 dX7_init_5 ks_300 ?_
  refine g_newa (c := 12) (N := 300) (cap := 300) f .int (Or.inl ⟨rfl, rfl⟩) dX7_init_8 w_187 (by decide) (by decide) (Nat.le_refl _) (Nat.le_of_ble_eq_true rfl) (Nat.le_of_ble_eq_true rfl) (Nat.le_of_ble_eq_true rfl) h (fun h v2 x3 => ?_)
  obtain ⟨v4, h⟩ := h
  refine g_putFQ (r := some _) f fk_X7_9 rfl hi v4 dX7_init_10 rfl (Or.inr ⟨_, rfl⟩) h (fun h => ?_)
  refine g_aload_n f 0 dX7_init_13 rfl rfl ?_
  refine g_sipush f 300 dX7_init_14 ks_300 ?_
  refine g_newa (c := 12) (N := 300) (cap := 300) f .int (Or.inl ⟨rfl, rfl⟩) dX7_init_17 w_187 (by decide) (by decide) (Nat.le_refl _) (Nat.le_of_ble_eq_true rfl) (Nat.le_of_ble_eq_true rfl) (Nat.le_of_ble_eq_true rfl) h (fun h v7 x8 => ?_)
  have v4 := mex_ok x8 v4
  refine g_putFQ (r := some _) f fk_X7_15 rfl hi v4 dX7_init_19 rfl (Or.inr ⟨_, rfl⟩) h (fun h => ?_)
  refine g_aload_n f 0 dX7_init_22 rfl rfl ?_
  refine g_bipush f 120 dX7_init_23 kb_120 ?_
  refine g_newa (c := 12) (N := 120) (cap := 120) f .int (Or.inl ⟨rfl, rfl⟩) dX7_init_25 w_187 (by decide) (by decide) (Nat.le_refl _) (Nat.le_of_ble_eq_true rfl) (Nat.le_of_ble_eq_true rfl) (Nat.le_of_ble_eq_true rfl) h (fun h v11 x12 => ?_)
  have v4 := mex_ok x12 v4
  refine g_putFQ (r := some _) f fk_X7_18 rfl hi v4 dX7_init_27 rfl (Or.inr ⟨_, rfl⟩) h (fun h => ?_)
  exact g_vret f hq (Nat.le_of_ble_eq_true rfl) (Nat.le_of_ble_eq_true rfl) dX7_init_30 h
theorem c_X7_init {Ω : OM} {o0 : Nat} {μ : Me} {Q : Me → Prop} (h : S_X7_init o0 μ Q) : CT Ω yX7_init cX7_init 1 none (rmc 0 3 720) [.ref (oB Ω + o0)] μ (qV Q) := CT_of (by decide) rfl (by simp [lg_sl, Value.category]) (fun x hΩ f hq hi => by subst hΩ; exact t_X7_init f hq (hi rfl) h)
theorem dX5_init_0 : decode cX5_init 0 = .ok (.aload_n 0, 1) := by decide +kernel
theorem dX5_init_1 : decode cX5_init 1 = .ok (.invokespecial 3, 3) := by decide +kernel
theorem dX5_init_4 : decode cX5_init 4 = .ok (.aload_n 0, 1) := by decide +kernel
theorem dX5_init_5 : decode cX5_init 5 = .ok (.new 9, 3) := by decide +kernel
theorem dX5_init_8 : decode cX5_init 8 = .ok (.dup, 1) := by decide +kernel
theorem dX5_init_9 : decode cX5_init 9 = .ok (.invokespecial 11, 3) := by decide +kernel
theorem dX5_init_12 : decode cX5_init 12 = .ok (.putfield 12, 3) := by decide +kernel
theorem dX5_init_15 : decode cX5_init 15 = .ok (.aload_n 0, 1) := by decide +kernel
theorem dX5_init_16 : decode cX5_init 16 = .ok (.new 18, 3) := by decide +kernel
theorem dX5_init_19 : decode cX5_init 19 = .ok (.dup, 1) := by decide +kernel
theorem dX5_init_20 : decode cX5_init 20 = .ok (.invokespecial 20, 3) := by decide +kernel
theorem dX5_init_23 : decode cX5_init 23 = .ok (.putfield 21, 3) := by decide +kernel
theorem dX5_init_26 : decode cX5_init 26 = .ok (.return_, 1) := by decide +kernel
def S_X5_init (o0 : Nat) (μ : Me) (Q : Me → Prop) : Prop := ∀ μ1, μ1 = mnw μ 8 0 → S_X8_init (mnn μ) μ1 (fun μ4 => mok μ4 o0 5 ∧ ∀ μ8, μ8 = msr μ4 o0 0 (some (mnn μ)) → ∀ μ9, μ9 = mnw μ8 7 0 → S_X7_init (mnn μ8) μ9 (fun μ12 => ∀ μ15, μ15 = msr μ12 o0 1 (some (mnn μ8)) → Q μ15))
set_option maxHeartbeats 4000000 in
set_option maxRecDepth 100000 in
theorem t_X5_init {x : GX} (f : Fx x cX5_init RX5 1 (rmc 1 8 1636)) {o0 : Nat} {μ : Me} {Q : Me → Prop} (hq : Rt x none (qV Q)) (hi : x.1.2.2.2.2.2.2.2.1.name = "<init>") (h : S_X5_init o0 μ Q) : G x 1 0 [(0, .ref (gB x + o0))] [] μ 0 0 := by
  unfold S_X5_init at h
  refine g_aload_n f 0 dX5_init_0 rfl rfl ?_
  refine g_objInit f w_339 w_126 w_127 dX5_init_1 rm_fr (Nat.le_of_ble_eq_true rfl) ?_
  refine g_aload_n f 0 dX5_init_4 rfl rfl ?_
  refine g_new f nk_X5_9 dX5_init_5 (Nat.le_of_ble_eq_true rfl) (Nat.le_of_ble_eq_true rfl) h (fun h v2 x3 => ?_)
  refine g_dup f dX5_init_8 rfl ?_
  refine g_callIn f mk_X5_11 (c_X8_init h) dX5_init_9 rfl rfl (Nat.le_of_ble_eq_true rfl) (rm_ok (by decide) (by decide)) ⟨Nat.le_of_ble_eq_true rfl, Nat.le_of_ble_eq_true rfl⟩ (kV fun μ4 x5 h => ?_)
  obtain ⟨v7, h⟩ := h
  refine g_putFQ (r := some _) f fk_X5_12 rfl hi v7 dX5_init_12 rfl (Or.inl ⟨_, rfl⟩) h (fun h => ?_)
  refine g_aload_n f 0 dX5_init_15 rfl rfl ?_
  refine g_new f nk_X5_18 dX5_init_16 (Nat.le_of_ble_eq_true rfl) (Nat.le_of_ble_eq_true rfl) h (fun h v10 x11 => ?_)
  refine g_dup f dX5_init_19 rfl ?_
  refine g_callIn f mk_X5_20 (c_X7_init h) dX5_init_20 rfl rfl (Nat.le_of_ble_eq_true rfl) (rm_ok (by decide) (by decide)) ⟨Nat.le_of_ble_eq_true rfl, Nat.le_of_ble_eq_true rfl⟩ (kV fun μ12 x13 h => ?_)
  have v7 := mex_ok x11 v7
  have v7 := mex_ok x13 v7
  refine g_putQ (r := some _) f fk_X5_21 v7 dX5_init_23 rfl (Or.inl ⟨_, rfl⟩) h (fun h => ?_)
  exact g_vret f hq (Nat.le_of_ble_eq_true rfl) (Nat.le_of_ble_eq_true rfl) dX5_init_26 h
theorem c_X5_init {Ω : OM} {o0 : Nat} {μ : Me} {Q : Me → Prop} (h : S_X5_init o0 μ Q) : CT Ω yX5_init cX5_init 1 none (rmc 1 8 1636) [.ref (oB Ω + o0)] μ (qV Q) := CT_of (by decide) rfl (by simp [lg_sl, Value.category]) (fun x hΩ f hq hi => by subst hΩ; exact t_X5_init f hq (hi rfl) h)
theorem dX7_clear_0 : decode cX7_clear 0 = .ok (.aload_n 0, 1) := by decide +kernel
theorem dX7_clear_1 : decode cX7_clear 1 = .ok (.iconst 0, 1) := by decide +kernel
theorem dX7_clear_2 : decode cX7_clear 2 = .ok (.putfield 21, 3) := by decide +kernel
theorem dX7_clear_5 : decode cX7_clear 5 = .ok (.aload_n 0, 1) := by decide +kernel
theorem dX7_clear_6 : decode cX7_clear 6 = .ok (.iconst 0, 1) := by decide +kernel
theorem dX7_clear_7 : decode cX7_clear 7 = .ok (.putfield 25, 3) := by decide +kernel
theorem dX7_clear_10 : decode cX7_clear 10 = .ok (.aload_n 0, 1) := by decide +kernel
theorem dX7_clear_11 : decode cX7_clear 11 = .ok (.iconst (-1), 1) := by decide +kernel
theorem dX7_clear_12 : decode cX7_clear 12 = .ok (.putfield 28, 3) := by decide +kernel
theorem dX7_clear_15 : decode cX7_clear 15 = .ok (.aload_n 0, 1) := by decide +kernel
theorem dX7_clear_16 : decode cX7_clear 16 = .ok (.iconst (-1), 1) := by decide +kernel
theorem dX7_clear_17 : decode cX7_clear 17 = .ok (.putfield 31, 3) := by decide +kernel
theorem dX7_clear_20 : decode cX7_clear 20 = .ok (.return_, 1) := by decide +kernel
def S_X7_clear (o0 : Nat) (μ : Me) (Q : Me → Prop) : Prop := mok μ o0 7 ∧ ∀ μ2, μ2 = msi μ o0 2 0 → ∀ μ3, μ3 = msi μ2 o0 8 0 → ∀ μ4, μ4 = msi μ3 o0 3 (-1) → ∀ μ5, μ5 = msi μ4 o0 5 (-1) → Q μ5
set_option maxHeartbeats 4000000 in
set_option maxRecDepth 100000 in
theorem t_X7_clear {x : GX} (f : Fx x cX7_clear RX7 1 (rmc 0 0 0)) {o0 : Nat} {μ : Me} {Q : Me → Prop} (hq : Rt x none (qV Q)) (h : S_X7_clear o0 μ Q) : G x 1 0 [(0, .ref (gB x + o0))] [] μ 0 0 := by
  unfold S_X7_clear at h
  refine g_aload_n f 0 dX7_clear_0 rfl rfl ?_
  refine g_iconst f 0 dX7_clear_1 kc_0 ?_
  obtain ⟨v1, h⟩ := h
  refine g_putI f fk_X7_21 v1 dX7_clear_2 rfl h (fun h => ?_)
  refine g_aload_n f 0 dX7_clear_5 rfl rfl ?_
  refine g_iconst f 0 dX7_clear_6 kc_0 ?_
  refine g_putI f fk_X7_25 v1 dX7_clear_7 rfl h (fun h => ?_)
  refine g_aload_n f 0 dX7_clear_10 rfl rfl ?_
  refine g_iconst f (-1) dX7_clear_11 kc_m1 ?_
  refine g_putI f fk_X7_28 v1 dX7_clear_12 rfl h (fun h => ?_)
  refine g_aload_n f 0 dX7_clear_15 rfl rfl ?_
  refine g_iconst f (-1) dX7_clear_16 kc_m1 ?_
  refine g_putI f fk_X7_31 v1 dX7_clear_17 rfl h (fun h => ?_)
  exact g_vret f hq (Nat.le_of_ble_eq_true rfl) (Nat.le_of_ble_eq_true rfl) dX7_clear_20 h
theorem c_X7_clear {Ω : OM} {o0 : Nat} {μ : Me} {Q : Me → Prop} (h : S_X7_clear o0 μ Q) : CT Ω yX7_clear cX7_clear 1 none (rmc 0 0 0) [.ref (oB Ω + o0)] μ (qV Q) := CT_of (by decide) rfl (by simp [lg_sl, Value.category]) (fun x hΩ f hq hi => by subst hΩ; exact t_X7_clear f hq h)
theorem dX8_isLetter_0 : decode cX8_isLetter 0 = .ok (.iload_n 0, 1) := by decide +kernel
theorem dX8_isLetter_1 : decode cX8_isLetter 1 = .ok (.bipush 97, 2) := by decide +kernel
theorem dX8_isLetter_3 : decode cX8_isLetter 3 = .ok (.if_icmp .lt 9, 3) := by decide +kernel
theorem dX8_isLetter_6 : decode cX8_isLetter 6 = .ok (.iload_n 0, 1) := by decide +kernel
theorem dX8_isLetter_7 : decode cX8_isLetter 7 = .ok (.bipush 122, 2) := by decide +kernel
theorem dX8_isLetter_9 : decode cX8_isLetter 9 = .ok (.if_icmp .le 15, 3) := by decide +kernel
theorem dX8_isLetter_12 : decode cX8_isLetter 12 = .ok (.iload_n 0, 1) := by decide +kernel
theorem dX8_isLetter_13 : decode cX8_isLetter 13 = .ok (.bipush 65, 2) := by decide +kernel
theorem dX8_isLetter_15 : decode cX8_isLetter 15 = .ok (.if_icmp .lt 13, 3) := by decide +kernel
theorem dX8_isLetter_18 : decode cX8_isLetter 18 = .ok (.iload_n 0, 1) := by decide +kernel
theorem dX8_isLetter_19 : decode cX8_isLetter 19 = .ok (.bipush 90, 2) := by decide +kernel
theorem dX8_isLetter_21 : decode cX8_isLetter 21 = .ok (.if_icmp .gt 7, 3) := by decide +kernel
theorem dX8_isLetter_24 : decode cX8_isLetter 24 = .ok (.iconst 1, 1) := by decide +kernel
theorem dX8_isLetter_25 : decode cX8_isLetter 25 = .ok (.goto 4, 3) := by decide +kernel
theorem dX8_isLetter_28 : decode cX8_isLetter 28 = .ok (.iconst 0, 1) := by decide +kernel
theorem dX8_isLetter_29 : decode cX8_isLetter 29 = .ok (.ireturn, 1) := by decide +kernel
def B_X8_isLetter_12 (i0 : Int32) (μ : Me) (Q : Int32 → Me → Prop) : Prop := ((i0 < 65 → Q 0 μ) ∧ (¬ i0 < 65 → ((90 < i0 → Q 0 μ) ∧ (¬ 90 < i0 → Q 1 μ))))
set_option maxHeartbeats 4000000 in
set_option maxRecDepth 100000 in
theorem tB_X8_isLetter_12 {x : GX} (f : Fx x cX8_isLetter RX8 1 (rmc 0 0 0)) {i0 : Int32} {μ : Me} {Q : Int32 → Me → Prop} (hq : Rt x (some .boolean) (qI Q)) (h : B_X8_isLetter_12 i0 μ Q) : G x 1 12 [(0, .int i0)] [] μ 0 0 := by
  unfold B_X8_isLetter_12 at h
  refine g_iload_n f 0 dX8_isLetter_12 rfl rfl ?_
  refine g_bipush f 65 dX8_isLetter_13 kb_65 ?_
  refine g_ic_lt f 28 dX8_isLetter_15 rfl h (fun h => ?_) (fun h => ?_)
  · refine g_iconst f 0 dX8_isLetter_28 kc_0 ?_
    exact g_zret f hq (Nat.le_of_ble_eq_true rfl) (Nat.le_of_ble_eq_true rfl) dX8_isLetter_29 zb_0.1 h
  · refine g_iload_n f 0 dX8_isLetter_18 rfl rfl ?_
    refine g_bipush f 90 dX8_isLetter_19 kb_90 ?_
    refine g_ic_gt f 28 dX8_isLetter_21 rfl h (fun h => ?_) (fun h => ?_)
    · refine g_iconst f 0 dX8_isLetter_28 kc_0 ?_
      exact g_zret f hq (Nat.le_of_ble_eq_true rfl) (Nat.le_of_ble_eq_true rfl) dX8_isLetter_29 zb_0.1 h
    · refine g_iconst f 1 dX8_isLetter_24 kc_1 ?_
      refine g_goto f 29 dX8_isLetter_25 rfl ?_
      exact g_zret f hq (Nat.le_of_ble_eq_true rfl) (Nat.le_of_ble_eq_true rfl) dX8_isLetter_29 zb_1.1 h
def S_X8_isLetter (i0 : Int32) (μ : Me) (Q : Int32 → Me → Prop) : Prop := ((i0 < 97 → B_X8_isLetter_12 i0 μ Q) ∧ (¬ i0 < 97 → ((i0 ≤ 122 → Q 1 μ) ∧ (¬ i0 ≤ 122 → B_X8_isLetter_12 i0 μ Q))))
set_option maxHeartbeats 4000000 in
set_option maxRecDepth 100000 in
theorem t_X8_isLetter {x : GX} (f : Fx x cX8_isLetter RX8 1 (rmc 0 0 0)) {i0 : Int32} {μ : Me} {Q : Int32 → Me → Prop} (hq : Rt x (some .boolean) (qI Q)) (h : S_X8_isLetter i0 μ Q) : G x 1 0 [(0, .int i0)] [] μ 0 0 := by
  unfold S_X8_isLetter at h
  refine g_iload_n f 0 dX8_isLetter_0 rfl rfl ?_
  refine g_bipush f 97 dX8_isLetter_1 kb_97 ?_
  refine g_ic_lt f 12 dX8_isLetter_3 rfl h (fun h => ?_) (fun h => ?_)
  · exact h_sub [0] rfl (tB_X8_isLetter_12 f hq h)
  · refine g_iload_n f 0 dX8_isLetter_6 rfl rfl ?_
    refine g_bipush f 122 dX8_isLetter_7 kb_122 ?_
    refine g_ic_le f 24 dX8_isLetter_9 rfl h (fun h => ?_) (fun h => ?_)
    · refine g_iconst f 1 dX8_isLetter_24 kc_1 ?_
      refine g_goto f 29 dX8_isLetter_25 rfl ?_
      exact g_zret f hq (Nat.le_of_ble_eq_true rfl) (Nat.le_of_ble_eq_true rfl) dX8_isLetter_29 zb_1.1 h
    · exact h_sub [0] rfl (tB_X8_isLetter_12 f hq h)
theorem c_X8_isLetter {Ω : OM} {i0 : Int32} {μ : Me} {Q : Int32 → Me → Prop} (h : S_X8_isLetter i0 μ Q) : CT Ω yX8_isLetter cX8_isLetter 1 (some .boolean) (rmc 0 0 0) [.int i0] μ (qI Q) := CT_of (by decide) rfl (by simp [lg_sl, Value.category]) (fun x hΩ f hq hi => by subst hΩ; exact t_X8_isLetter f hq h)
theorem dX8_wordOf_0 : decode cX8_wordOf 0 = .ok (.iconst 0, 1) := by decide +kernel
theorem dX8_wordOf_1 : decode cX8_wordOf 1 = .ok (.istore_n 3, 1) := by decide +kernel
theorem dX8_wordOf_2 : decode cX8_wordOf 2 = .ok (.iload_n 1, 1) := by decide +kernel
theorem dX8_wordOf_3 : decode cX8_wordOf 3 = .ok (.istore 4, 2) := by decide +kernel
theorem dX8_wordOf_5 : decode cX8_wordOf 5 = .ok (.iconst 0, 1) := by decide +kernel
theorem dX8_wordOf_6 : decode cX8_wordOf 6 = .ok (.istore 5, 2) := by decide +kernel
theorem dX8_wordOf_8 : decode cX8_wordOf 8 = .ok (.iload 5, 2) := by decide +kernel
theorem dX8_wordOf_10 : decode cX8_wordOf 10 = .ok (.ldc 69, 2) := by decide +kernel
theorem dX8_wordOf_12 : decode cX8_wordOf 12 = .ok (.invokevirtual 71, 3) := by decide +kernel
theorem dX8_wordOf_15 : decode cX8_wordOf 15 = .ok (.if_icmp .gt 102, 3) := by decide +kernel
theorem dX8_wordOf_18 : decode cX8_wordOf 18 = .ok (.iload 5, 2) := by decide +kernel
theorem dX8_wordOf_20 : decode cX8_wordOf 20 = .ok (.ldc 69, 2) := by decide +kernel
theorem dX8_wordOf_22 : decode cX8_wordOf 22 = .ok (.invokevirtual 71, 3) := by decide +kernel
theorem dX8_wordOf_25 : decode cX8_wordOf 25 = .ok (.if_icmp .ge 13, 3) := by decide +kernel
theorem dX8_wordOf_28 : decode cX8_wordOf 28 = .ok (.ldc 69, 2) := by decide +kernel
theorem dX8_wordOf_30 : decode cX8_wordOf 30 = .ok (.iload 5, 2) := by decide +kernel
theorem dX8_wordOf_32 : decode cX8_wordOf 32 = .ok (.invokevirtual 74, 3) := by decide +kernel
theorem dX8_wordOf_35 : decode cX8_wordOf 35 = .ok (.goto 5, 3) := by decide +kernel
theorem dX8_wordOf_38 : decode cX8_wordOf 38 = .ok (.bipush 32, 2) := by decide +kernel
theorem dX8_wordOf_40 : decode cX8_wordOf 40 = .ok (.istore 6, 2) := by decide +kernel
theorem dX8_wordOf_42 : decode cX8_wordOf 42 = .ok (.iload 6, 2) := by decide +kernel
theorem dX8_wordOf_44 : decode cX8_wordOf 44 = .ok (.bipush 32, 2) := by decide +kernel
theorem dX8_wordOf_46 : decode cX8_wordOf 46 = .ok (.if_icmp .eq 51, 3) := by decide +kernel
theorem dX8_wordOf_49 : decode cX8_wordOf 49 = .ok (.iload 4, 2) := by decide +kernel
theorem dX8_wordOf_51 : decode cX8_wordOf 51 = .ok (.ifCond .lt 25, 3) := by decide +kernel
theorem dX8_wordOf_54 : decode cX8_wordOf 54 = .ok (.iload 4, 2) := by decide +kernel
theorem dX8_wordOf_56 : decode cX8_wordOf 56 = .ok (.iload_n 2, 1) := by decide +kernel
theorem dX8_wordOf_57 : decode cX8_wordOf 57 = .ok (.if_icmp .ge 19, 3) := by decide +kernel
theorem dX8_wordOf_60 : decode cX8_wordOf 60 = .ok (.aload_n 0, 1) := by decide +kernel
theorem dX8_wordOf_61 : decode cX8_wordOf 61 = .ok (.getfield 38, 3) := by decide +kernel
theorem dX8_wordOf_64 : decode cX8_wordOf 64 = .ok (.iload 4, 2) := by decide +kernel
theorem dX8_wordOf_66 : decode cX8_wordOf 66 = .ok (.iaload, 1) := by decide +kernel
theorem dX8_wordOf_67 : decode cX8_wordOf 67 = .ok (.iload 6, 2) := by decide +kernel
theorem dX8_wordOf_69 : decode cX8_wordOf 69 = .ok (.if_icmp .ne 7, 3) := by decide +kernel
theorem dX8_wordOf_72 : decode cX8_wordOf 72 = .ok (.iconst 1, 1) := by decide +kernel
theorem dX8_wordOf_73 : decode cX8_wordOf 73 = .ok (.goto 4, 3) := by decide +kernel
theorem dX8_wordOf_76 : decode cX8_wordOf 76 = .ok (.iconst 0, 1) := by decide +kernel
theorem dX8_wordOf_77 : decode cX8_wordOf 77 = .ok (.istore 7, 2) := by decide +kernel
theorem dX8_wordOf_79 : decode cX8_wordOf 79 = .ok (.iload 7, 2) := by decide +kernel
theorem dX8_wordOf_81 : decode cX8_wordOf 81 = .ok (.ifCond .eq 10, 3) := by decide +kernel
theorem dX8_wordOf_84 : decode cX8_wordOf 84 = .ok (.iload 4, 2) := by decide +kernel
theorem dX8_wordOf_86 : decode cX8_wordOf 86 = .ok (.iconst 1, 1) := by decide +kernel
theorem dX8_wordOf_87 : decode cX8_wordOf 87 = .ok (.iadd, 1) := by decide +kernel
theorem dX8_wordOf_88 : decode cX8_wordOf 88 = .ok (.goto 4, 3) := by decide +kernel
theorem dX8_wordOf_91 : decode cX8_wordOf 91 = .ok (.iconst (-1), 1) := by decide +kernel
theorem dX8_wordOf_92 : decode cX8_wordOf 92 = .ok (.istore 4, 2) := by decide +kernel
theorem dX8_wordOf_94 : decode cX8_wordOf 94 = .ok (.goto 17, 3) := by decide +kernel
theorem dX8_wordOf_97 : decode cX8_wordOf 97 = .ok (.iload 4, 2) := by decide +kernel
theorem dX8_wordOf_99 : decode cX8_wordOf 99 = .ok (.iload_n 2, 1) := by decide +kernel
theorem dX8_wordOf_100 : decode cX8_wordOf 100 = .ok (.if_icmp .ne 5, 3) := by decide +kernel
theorem dX8_wordOf_103 : decode cX8_wordOf 103 = .ok (.iload_n 3, 1) := by decide +kernel
theorem dX8_wordOf_104 : decode cX8_wordOf 104 = .ok (.ireturn, 1) := by decide +kernel
theorem dX8_wordOf_105 : decode cX8_wordOf 105 = .ok (.iinc 3 1, 3) := by decide +kernel
theorem dX8_wordOf_108 : decode cX8_wordOf 108 = .ok (.iload_n 1, 1) := by decide +kernel
theorem dX8_wordOf_109 : decode cX8_wordOf 109 = .ok (.istore 4, 2) := by decide +kernel
theorem dX8_wordOf_111 : decode cX8_wordOf 111 = .ok (.iinc 5 1, 3) := by decide +kernel
theorem dX8_wordOf_114 : decode cX8_wordOf 114 = .ok (.goto (-106), 3) := by decide +kernel
theorem dX8_wordOf_117 : decode cX8_wordOf 117 = .ok (.bipush 52, 2) := by decide +kernel
theorem dX8_wordOf_119 : decode cX8_wordOf 119 = .ok (.ireturn, 1) := by decide +kernel
def B_X8_wordOf_111 (o0 : Nat) (i1 : Int32) (i2 : Int32) (i3 : Int32) (i4 : Int32) (i5 : Int32) (μ : Me) (K8 : Int32 → Int32 → Int32 → Me → Prop) (Q : Int32 → Me → Prop) : Prop := K8 i3 i4 (i5 + 1) μ
set_option maxHeartbeats 4000000 in
set_option maxRecDepth 100000 in
theorem tB_X8_wordOf_111 {x : GX} (f : Fx x cX8_wordOf RX8 8 (rmc 5 0 0)) {o0 : Nat} {i1 : Int32} {i2 : Int32} {i3 : Int32} {i4 : Int32} {i5 : Int32} {μ : Me} {Q : Int32 → Me → Prop} (hq : Rt x (some .int) (qI Q)) {K8 : Int32 → Int32 → Int32 → Me → Prop} (hK8 : ∀ (a3 : Int32) (a4 : Int32) (a5 : Int32) (ν : Me), K8 a3 a4 a5 ν → G x 8 8 [(0, .ref (gB x + o0)), (1, .int i1), (2, .int i2), (3, .int a3), (4, .int a4), (5, .int a5)] [] ν 0 0) (h : B_X8_wordOf_111 o0 i1 i2 i3 i4 i5 μ K8 Q) : G x 8 111 [(0, .ref (gB x + o0)), (1, .int i1), (2, .int i2), (3, .int i3), (4, .int i4), (5, .int i5)] [] μ 0 0 := by
  unfold B_X8_wordOf_111 at h
  refine h_iinc f 5 1 dX8_wordOf_111 rfl kc_1 (by decide) ?_
  refine g_goto f 8 dX8_wordOf_114 rfl ?_
  exact h_sub [1, 2, 3, 4, 5, 0] rfl (hK8 _ _ _ _ h)
def B_X8_wordOf_92 (o0 : Nat) (i1 : Int32) (i2 : Int32) (i3 : Int32) (i5 : Int32) (s0 : Int32) (μ : Me) (K8 : Int32 → Int32 → Int32 → Me → Prop) (Q : Int32 → Me → Prop) : Prop := B_X8_wordOf_111 o0 i1 i2 i3 s0 i5 μ K8 Q
set_option maxHeartbeats 4000000 in
set_option maxRecDepth 100000 in
theorem tB_X8_wordOf_92 {x : GX} (f : Fx x cX8_wordOf RX8 8 (rmc 5 0 0)) {o0 : Nat} {i1 : Int32} {i2 : Int32} {i3 : Int32} {i5 : Int32} {s0 : Int32} {μ : Me} {Q : Int32 → Me → Prop} (hq : Rt x (some .int) (qI Q)) {K8 : Int32 → Int32 → Int32 → Me → Prop} (hK8 : ∀ (a3 : Int32) (a4 : Int32) (a5 : Int32) (ν : Me), K8 a3 a4 a5 ν → G x 8 8 [(0, .ref (gB x + o0)), (1, .int i1), (2, .int i2), (3, .int a3), (4, .int a4), (5, .int a5)] [] ν 0 0) (h : B_X8_wordOf_92 o0 i1 i2 i3 i5 s0 μ K8 Q) : G x 8 92 [(0, .ref (gB x + o0)), (1, .int i1), (2, .int i2), (3, .int i3), (5, .int i5)] [.int s0] μ 0 0 := by
  unfold B_X8_wordOf_92 at h
  refine h_istore f dX8_wordOf_92 (by decide) ?_
  refine g_goto f 111 dX8_wordOf_94 rfl ?_
  exact h_sub [1, 2, 3, 4, 0, 5] rfl (tB_X8_wordOf_111 f hq hK8 h)
def B_X8_wordOf_77 (o0 : Nat) (i1 : Int32) (i2 : Int32) (i3 : Int32) (i4 : Int32) (i5 : Int32) (s0 : Int32) (μ : Me) (K8 : Int32 → Int32 → Int32 → Me → Prop) (Q : Int32 → Me → Prop) : Prop := ((s0 = 0 → B_X8_wordOf_92 o0 i1 i2 i3 i5 (-1) μ K8 Q) ∧ (¬ s0 = 0 → B_X8_wordOf_92 o0 i1 i2 i3 i5 (i4 + 1) μ K8 Q))
set_option maxHeartbeats 4000000 in
set_option maxRecDepth 100000 in
theorem tB_X8_wordOf_77 {x : GX} (f : Fx x cX8_wordOf RX8 8 (rmc 5 0 0)) {o0 : Nat} {i1 : Int32} {i2 : Int32} {i3 : Int32} {i4 : Int32} {i5 : Int32} {s0 : Int32} {μ : Me} {Q : Int32 → Me → Prop} (hq : Rt x (some .int) (qI Q)) {K8 : Int32 → Int32 → Int32 → Me → Prop} (hK8 : ∀ (a3 : Int32) (a4 : Int32) (a5 : Int32) (ν : Me), K8 a3 a4 a5 ν → G x 8 8 [(0, .ref (gB x + o0)), (1, .int i1), (2, .int i2), (3, .int a3), (4, .int a4), (5, .int a5)] [] ν 0 0) (h : B_X8_wordOf_77 o0 i1 i2 i3 i4 i5 s0 μ K8 Q) : G x 8 77 [(0, .ref (gB x + o0)), (1, .int i1), (2, .int i2), (3, .int i3), (4, .int i4), (5, .int i5)] [.int s0] μ 0 0 := by
  unfold B_X8_wordOf_77 at h
  refine h_istore f dX8_wordOf_77 (by decide) ?_
  refine g_iload f 0 dX8_wordOf_79 rfl ?_
  refine g_if_eq f 91 dX8_wordOf_81 rfl h (fun h => ?_) (fun h => ?_)
  · refine g_iconst f (-1) dX8_wordOf_91 kc_m1 ?_
    exact h_sub [1, 2, 3, 4, 6] rfl (tB_X8_wordOf_92 f hq hK8 h)
  · refine g_iload f 5 dX8_wordOf_84 rfl ?_
    refine g_iconst f 1 dX8_wordOf_86 kc_1 ?_
    refine g_iadd f dX8_wordOf_87 ?_
    refine g_goto f 92 dX8_wordOf_88 rfl ?_
    exact h_sub [1, 2, 3, 4, 6] rfl (tB_X8_wordOf_92 f hq hK8 h)
def B_X8_wordOf_40 (o0 : Nat) (i1 : Int32) (i2 : Int32) (i3 : Int32) (i4 : Int32) (i5 : Int32) (s0 : Int32) (μ : Me) (K8 : Int32 → Int32 → Int32 → Me → Prop) (Q : Int32 → Me → Prop) : Prop := ((s0 = 32 → ((¬ i4 = i2 → B_X8_wordOf_111 o0 i1 i2 (i3 + 1) i1 i5 μ K8 Q) ∧ (i4 = i2 → Q i3 μ))) ∧ (¬ s0 = 32 → ((i4 < 0 → B_X8_wordOf_77 o0 i1 i2 i3 i4 i5 0 μ K8 Q) ∧ (¬ i4 < 0 → ((i2 ≤ i4 → B_X8_wordOf_77 o0 i1 i2 i3 i4 i5 0 μ K8 Q) ∧ (¬ i2 ≤ i4 → mok μ o0 6 ∧ ∃ t8, mgr μ o0 0 = some t8 ∧ mok μ t8 12 ∧ vp_in i4 (mln μ t8) ∧ ((¬ (mgi μ t8 i4.toNatClampNeg) = s0 → B_X8_wordOf_77 o0 i1 i2 i3 i4 i5 0 μ K8 Q) ∧ ((mgi μ t8 i4.toNatClampNeg) = s0 → B_X8_wordOf_77 o0 i1 i2 i3 i4 i5 1 μ K8 Q))))))))
set_option maxHeartbeats 4000000 in
set_option maxRecDepth 100000 in
theorem tB_X8_wordOf_40 {x : GX} (f : Fx x cX8_wordOf RX8 8 (rmc 5 0 0)) {o0 : Nat} {i1 : Int32} {i2 : Int32} {i3 : Int32} {i4 : Int32} {i5 : Int32} {s0 : Int32} {μ : Me} {Q : Int32 → Me → Prop} (hq : Rt x (some .int) (qI Q)) {K8 : Int32 → Int32 → Int32 → Me → Prop} (hK8 : ∀ (a3 : Int32) (a4 : Int32) (a5 : Int32) (ν : Me), K8 a3 a4 a5 ν → G x 8 8 [(0, .ref (gB x + o0)), (1, .int i1), (2, .int i2), (3, .int a3), (4, .int a4), (5, .int a5)] [] ν 0 0) (h : B_X8_wordOf_40 o0 i1 i2 i3 i4 i5 s0 μ K8 Q) : G x 8 40 [(0, .ref (gB x + o0)), (1, .int i1), (2, .int i2), (3, .int i3), (4, .int i4), (5, .int i5)] [.int s0] μ 0 0 := by
  unfold B_X8_wordOf_40 at h
  refine h_istore f dX8_wordOf_40 (by decide) ?_
  refine g_iload f 0 dX8_wordOf_42 rfl ?_
  refine g_bipush f 32 dX8_wordOf_44 kb_32 ?_
  refine g_ic_eq f 97 dX8_wordOf_46 rfl h (fun h => ?_) (fun h => ?_)
  · refine g_iload f 5 dX8_wordOf_97 rfl ?_
    refine g_iload_n f 3 dX8_wordOf_99 rfl rfl ?_
    refine g_ic_ne f 105 dX8_wordOf_100 rfl h (fun h => ?_) (fun h => ?_)
    · refine h_iinc f 4 1 dX8_wordOf_105 rfl kc_1 (by decide) ?_
      refine g_iload_n f 3 dX8_wordOf_108 rfl rfl ?_
      refine h_istore f dX8_wordOf_109 (by decide) ?_
      exact h_sub [3, 4, 5, 1, 0, 6] rfl (tB_X8_wordOf_111 f hq hK8 h)
    · refine g_iload_n f 4 dX8_wordOf_103 rfl rfl ?_
      exact g_iret f hq (Nat.le_of_ble_eq_true rfl) (Nat.le_of_ble_eq_true rfl) dX8_wordOf_104 h
  · refine g_iload f 5 dX8_wordOf_49 rfl ?_
    refine g_if_lt f 76 dX8_wordOf_51 rfl h (fun h => ?_) (fun h => ?_)
    · refine g_iconst f 0 dX8_wordOf_76 kc_0 ?_
      exact h_sub [1, 2, 3, 4, 5, 6] rfl (tB_X8_wordOf_77 f hq hK8 h)
    · refine g_iload f 5 dX8_wordOf_54 rfl ?_
      refine g_iload_n f 3 dX8_wordOf_56 rfl rfl ?_
      refine g_ic_ge f 76 dX8_wordOf_57 rfl h (fun h => ?_) (fun h => ?_)
      · refine g_iconst f 0 dX8_wordOf_76 kc_0 ?_
        exact h_sub [1, 2, 3, 4, 5, 6] rfl (tB_X8_wordOf_77 f hq hK8 h)
      · refine g_aload_n f 1 dX8_wordOf_60 rfl rfl ?_
        obtain ⟨v7, h⟩ := h
        refine g_getR f fk_X8_38 v7 dX8_wordOf_61 rfl h (fun t8 h => ?_)
        refine g_iload f 5 dX8_wordOf_64 rfl ?_
        obtain ⟨v9, h⟩ := h
        refine g_iald f v9 dX8_wordOf_66 h (fun h => ?_)
        refine g_iload f 0 dX8_wordOf_67 rfl ?_
        refine g_ic_ne f 76 dX8_wordOf_69 rfl h (fun h => ?_) (fun h => ?_)
        · refine g_iconst f 0 dX8_wordOf_76 kc_0 ?_
          exact h_sub [1, 2, 3, 4, 5, 6] rfl (tB_X8_wordOf_77 f hq hK8 h)
        · refine g_iconst f 1 dX8_wordOf_72 kc_1 ?_
          refine g_goto f 77 dX8_wordOf_73 rfl ?_
          exact h_sub [1, 2, 3, 4, 5, 6] rfl (tB_X8_wordOf_77 f hq hK8 h)
def B_X8_wordOf_8 (o0 : Nat) (i1 : Int32) (i2 : Int32) (i3 : Int32) (i4 : Int32) (i5 : Int32) (μ : Me) (K8 : Int32 → Int32 → Int32 → Me → Prop) (Q : Int32 → Me → Prop) : Prop := S_J0_length_8abf5 0 μ (fun r3 μ1 => ((r3 < i5 → Q 52 μ1) ∧ (¬ r3 < i5 → S_J0_length_8abf5 0 μ1 (fun r6 μ4 => ((r6 ≤ i5 → B_X8_wordOf_40 o0 i1 i2 i3 i4 i5 32 μ4 K8 Q) ∧ (¬ r6 ≤ i5 → S_J0_charAt_5068e 0 i5 μ4 (fun r12 μ10 => B_X8_wordOf_40 o0 i1 i2 i3 i4 i5 r12 μ10 K8 Q)))))))
set_option maxHeartbeats 4000000 in
set_option maxRecDepth 100000 in
theorem tB_X8_wordOf_8 {x : GX} (f : Fx x cX8_wordOf RX8 8 (rmc 5 0 0)) {o0 : Nat} {i1 : Int32} {i2 : Int32} {i3 : Int32} {i4 : Int32} {i5 : Int32} {μ : Me} {Q : Int32 → Me → Prop} (hq : Rt x (some .int) (qI Q)) {K8 : Int32 → Int32 → Int32 → Me → Prop} (hK8 : ∀ (a3 : Int32) (a4 : Int32) (a5 : Int32) (ν : Me), K8 a3 a4 a5 ν → G x 8 8 [(0, .ref (gB x + o0)), (1, .int i1), (2, .int i2), (3, .int a3), (4, .int a4), (5, .int a5)] [] ν 0 0) (h : B_X8_wordOf_8 o0 i1 i2 i3 i4 i5 μ K8 Q) : G x 8 8 [(0, .ref (gB x + o0)), (1, .int i1), (2, .int i2), (3, .int i3), (4, .int i4), (5, .int i5)] [] μ 0 0 := by
  unfold B_X8_wordOf_8 at h
  refine g_iload f 5 dX8_wordOf_8 rfl ?_
  refine g_ldcS0 f dX8_wordOf_10 ?_
  refine g_callK f mk_X8_71 (by decide) (c_J0_length_8abf5 h) dX8_wordOf_12 rfl rfl (Nat.le_of_ble_eq_true rfl) (rm_ok (by decide) (by decide)) ⟨Nat.le_of_ble_eq_true rfl, Nat.le_of_ble_eq_true rfl⟩ (kI fun r3 μ1 x2 h => ?_)
  refine g_ic_gt f 117 dX8_wordOf_15 rfl h (fun h => ?_) (fun h => ?_)
  · refine g_bipush f 52 dX8_wordOf_117 kb_52 ?_
    exact g_iret f hq (Nat.le_of_ble_eq_true rfl) (Nat.le_of_ble_eq_true rfl) dX8_wordOf_119 h
  · refine g_iload f 5 dX8_wordOf_18 rfl ?_
    refine g_ldcS0 f dX8_wordOf_20 ?_
    refine g_callK f mk_X8_71 (by decide) (c_J0_length_8abf5 h) dX8_wordOf_22 rfl rfl (Nat.le_of_ble_eq_true rfl) (rm_ok (by decide) (by decide)) ⟨Nat.le_of_ble_eq_true rfl, Nat.le_of_ble_eq_true rfl⟩ (kI fun r6 μ4 x5 h => ?_)
    refine g_ic_ge f 38 dX8_wordOf_25 rfl h (fun h => ?_) (fun h => ?_)
    · refine g_bipush f 32 dX8_wordOf_38 kb_32 ?_
      exact h_sub [0, 1, 2, 3, 4, 5] rfl (tB_X8_wordOf_40 f hq hK8 h)
    · refine g_ldcS0 f dX8_wordOf_28 ?_
      refine g_iload f 5 dX8_wordOf_30 rfl ?_
      refine g_callK f mk_X8_74 (by decide) (c_J0_charAt_5068e h) dX8_wordOf_32 rfl rfl (Nat.le_of_ble_eq_true rfl) (rm_ok (by decide) (by decide)) ⟨Nat.le_of_ble_eq_true rfl, Nat.le_of_ble_eq_true rfl⟩ (kI fun r12 μ10 x11 h => ?_)
      refine g_goto f 40 dX8_wordOf_35 rfl ?_
      exact h_sub [0, 1, 2, 3, 4, 5] rfl (tB_X8_wordOf_40 f hq hK8 h)
def L_X8_wordOf_8 (o0 : Nat) (i1 : Int32) (i2 : Int32) (i3 : Int32) (i4 : Int32) (i5 : Int32) (μ : Me) (Q : Int32 → Me → Prop) : Prop := ∃ I : Int32 → Int32 → Int32 → Me → Nat → Prop, (∃ n, I i3 i4 i5 μ n) ∧ ∀ (i3 : Int32) (i4 : Int32) (i5 : Int32) (μ : Me) (n : Nat), I i3 i4 i5 μ n → B_X8_wordOf_8 o0 i1 i2 i3 i4 i5 μ (fun a3 a4 a5 ν => ∃ n', n' < n ∧ I a3 a4 a5 ν n') Q
set_option maxHeartbeats 4000000 in
set_option maxRecDepth 100000 in
theorem tL_X8_wordOf_8 {x : GX} (f : Fx x cX8_wordOf RX8 8 (rmc 5 0 0)) {o0 : Nat} {i1 : Int32} {i2 : Int32} {i3 : Int32} {i4 : Int32} {i5 : Int32} {μ : Me} {Q : Int32 → Me → Prop} (hq : Rt x (some .int) (qI Q)) (h : L_X8_wordOf_8 o0 i1 i2 i3 i4 i5 μ Q) : G x 8 8 [(0, .ref (gB x + o0)), (1, .int i1), (2, .int i2), (3, .int i3), (4, .int i4), (5, .int i5)] [] μ 0 0 := by
  obtain ⟨I, ⟨n, hI⟩, hs⟩ := h
  induction n using Nat.strongRecOn generalizing i3 i4 i5 μ with
  | ind n ih => exact tB_X8_wordOf_8 f hq (fun a3 a4 a5 ν hk => by obtain ⟨n2, hn, hI2⟩ := hk; exact ih n2 hn hI2) (hs _ _ _ _ _ hI)
def S_X8_wordOf (o0 : Nat) (i1 : Int32) (i2 : Int32) (μ : Me) (Q : Int32 → Me → Prop) : Prop := L_X8_wordOf_8 o0 i1 i2 0 i1 0 μ Q
set_option maxHeartbeats 4000000 in
set_option maxRecDepth 100000 in
theorem t_X8_wordOf {x : GX} (f : Fx x cX8_wordOf RX8 8 (rmc 5 0 0)) {o0 : Nat} {i1 : Int32} {i2 : Int32} {μ : Me} {Q : Int32 → Me → Prop} (hq : Rt x (some .int) (qI Q)) (h : S_X8_wordOf o0 i1 i2 μ Q) : G x 8 0 [(0, .ref (gB x + o0)), (1, .int i1), (2, .int i2)] [] μ 0 0 := by
  unfold S_X8_wordOf at h
  refine g_iconst f 0 dX8_wordOf_0 kc_0 ?_
  refine h_istore_n f dX8_wordOf_1 rfl (by decide) ?_
  refine g_iload_n f 2 dX8_wordOf_2 rfl rfl ?_
  refine h_istore f dX8_wordOf_3 (by decide) ?_
  refine g_iconst f 0 dX8_wordOf_5 kc_0 ?_
  refine h_istore f dX8_wordOf_6 (by decide) ?_
  exact h_sub [3, 4, 5, 2, 1, 0] rfl (tL_X8_wordOf_8 f hq h)
theorem c_X8_wordOf {Ω : OM} {o0 : Nat} {i1 : Int32} {i2 : Int32} {μ : Me} {Q : Int32 → Me → Prop} (h : S_X8_wordOf o0 i1 i2 μ Q) : CT Ω yX8_wordOf cX8_wordOf 8 (some .int) (rmc 5 0 0) [.ref (oB Ω + o0), .int i1, .int i2] μ (qI Q) := CT_of (by decide) rfl (by simp [lg_sl, Value.category]) (fun x hΩ f hq hi => by subst hΩ; exact t_X8_wordOf f hq h)
theorem dX8_add_0 : decode cX8_add 0 = .ok (.aload_n 0, 1) := by decide +kernel
theorem dX8_add_1 : decode cX8_add 1 = .ok (.getfield 21, 3) := by decide +kernel
theorem dX8_add_4 : decode cX8_add 4 = .ok (.sipush 300, 3) := by decide +kernel
theorem dX8_add_7 : decode cX8_add 7 = .ok (.if_icmp .gt 43, 3) := by decide +kernel
theorem dX8_add_10 : decode cX8_add 10 = .ok (.aload_n 0, 1) := by decide +kernel
theorem dX8_add_11 : decode cX8_add 11 = .ok (.getfield 9, 3) := by decide +kernel
theorem dX8_add_14 : decode cX8_add 14 = .ok (.aload_n 0, 1) := by decide +kernel
theorem dX8_add_15 : decode cX8_add 15 = .ok (.getfield 21, 3) := by decide +kernel
theorem dX8_add_18 : decode cX8_add 18 = .ok (.iload_n 1, 1) := by decide +kernel
theorem dX8_add_19 : decode cX8_add 19 = .ok (.iastore, 1) := by decide +kernel
theorem dX8_add_20 : decode cX8_add 20 = .ok (.aload_n 0, 1) := by decide +kernel
theorem dX8_add_21 : decode cX8_add 21 = .ok (.getfield 15, 3) := by decide +kernel
theorem dX8_add_24 : decode cX8_add 24 = .ok (.aload_n 0, 1) := by decide +kernel
theorem dX8_add_25 : decode cX8_add 25 = .ok (.getfield 21, 3) := by decide +kernel
theorem dX8_add_28 : decode cX8_add 28 = .ok (.iload_n 2, 1) := by decide +kernel
theorem dX8_add_29 : decode cX8_add 29 = .ok (.iastore, 1) := by decide +kernel
theorem dX8_add_30 : decode cX8_add 30 = .ok (.aload_n 0, 1) := by decide +kernel
theorem dX8_add_31 : decode cX8_add 31 = .ok (.getfield 18, 3) := by decide +kernel
theorem dX8_add_34 : decode cX8_add 34 = .ok (.aload_n 0, 1) := by decide +kernel
theorem dX8_add_35 : decode cX8_add 35 = .ok (.getfield 21, 3) := by decide +kernel
theorem dX8_add_38 : decode cX8_add 38 = .ok (.iload_n 3, 1) := by decide +kernel
theorem dX8_add_39 : decode cX8_add 39 = .ok (.iastore, 1) := by decide +kernel
theorem dX8_add_40 : decode cX8_add 40 = .ok (.aload_n 0, 1) := by decide +kernel
theorem dX8_add_41 : decode cX8_add 41 = .ok (.dup, 1) := by decide +kernel
theorem dX8_add_42 : decode cX8_add 42 = .ok (.getfield 21, 3) := by decide +kernel
theorem dX8_add_45 : decode cX8_add 45 = .ok (.iconst 1, 1) := by decide +kernel
theorem dX8_add_46 : decode cX8_add 46 = .ok (.iadd, 1) := by decide +kernel
theorem dX8_add_47 : decode cX8_add 47 = .ok (.putfield 21, 3) := by decide +kernel
theorem dX8_add_50 : decode cX8_add 50 = .ok (.return_, 1) := by decide +kernel
def S_X8_add (o0 : Nat) (i1 : Int32) (i2 : Int32) (i3 : Int32) (μ : Me) (Q : Me → Prop) : Prop := mok μ o0 8 ∧ ((300 < (mgi μ o0 3) → Q μ) ∧ (¬ 300 < (mgi μ o0 3) → ∃ t2, mgr μ o0 0 = some t2 ∧ mok μ t2 12 ∧ vp_in (mgi μ o0 3) (mln μ t2) ∧ ∀ μ4, μ4 = msi μ t2 (mgi μ o0 3).toNatClampNeg i1 → ∃ t5, mgr μ4 o0 1 = some t5 ∧ mok μ4 t5 12 ∧ vp_in (mgi μ4 o0 3) (mln μ4 t5) ∧ ∀ μ7, μ7 = msi μ4 t5 (mgi μ4 o0 3).toNatClampNeg i2 → ∃ t8, mgr μ7 o0 2 = some t8 ∧ mok μ7 t8 12 ∧ vp_in (mgi μ7 o0 3) (mln μ7 t8) ∧ ∀ μ10, μ10 = msi μ7 t8 (mgi μ7 o0 3).toNatClampNeg i3 → ∀ μ11, μ11 = msi μ10 o0 3 ((mgi μ10 o0 3) + 1) → Q μ11))
set_option maxHeartbeats 4000000 in
set_option maxRecDepth 100000 in
theorem t_X8_add {x : GX} (f : Fx x cX8_add RX8 4 (rmc 0 0 0)) {o0 : Nat} {i1 : Int32} {i2 : Int32} {i3 : Int32} {μ : Me} {Q : Me → Prop} (hq : Rt x none (qV Q)) (h : S_X8_add o0 i1 i2 i3 μ Q) : G x 4 0 [(0, .ref (gB x + o0)), (1, .int i1), (2, .int i2), (3, .int i3)] [] μ 0 0 := by
  unfold S_X8_add at h
  refine g_aload_n f 0 dX8_add_0 rfl rfl ?_
  obtain ⟨v1, h⟩ := h
  refine g_getI f fk_X8_21 v1 dX8_add_1 rfl ?_
  refine g_sipush f 300 dX8_add_4 ks_300 ?_
  refine g_ic_gt f 50 dX8_add_7 rfl h (fun h => ?_) (fun h => ?_)
  · exact g_vret f hq (Nat.le_of_ble_eq_true rfl) (Nat.le_of_ble_eq_true rfl) dX8_add_50 h
  · refine g_aload_n f 0 dX8_add_10 rfl rfl ?_
    refine g_getR f fk_X8_9 v1 dX8_add_11 rfl h (fun t2 h => ?_)
    refine g_aload_n f 0 dX8_add_14 rfl rfl ?_
    refine g_getI f fk_X8_21 v1 dX8_add_15 rfl ?_
    refine g_iload_n f 1 dX8_add_18 rfl rfl ?_
    obtain ⟨v3, h⟩ := h
    refine g_iast f v3 dX8_add_19 h (fun h => ?_)
    refine g_aload_n f 0 dX8_add_20 rfl rfl ?_
    refine g_getR f fk_X8_15 v1 dX8_add_21 rfl h (fun t5 h => ?_)
    refine g_aload_n f 0 dX8_add_24 rfl rfl ?_
    refine g_getI f fk_X8_21 v1 dX8_add_25 rfl ?_
    refine g_iload_n f 2 dX8_add_28 rfl rfl ?_
    obtain ⟨v6, h⟩ := h
    refine g_iast f v6 dX8_add_29 h (fun h => ?_)
    refine g_aload_n f 0 dX8_add_30 rfl rfl ?_
    refine g_getR f fk_X8_18 v1 dX8_add_31 rfl h (fun t8 h => ?_)
    refine g_aload_n f 0 dX8_add_34 rfl rfl ?_
    refine g_getI f fk_X8_21 v1 dX8_add_35 rfl ?_
    refine g_iload_n f 3 dX8_add_38 rfl rfl ?_
    obtain ⟨v9, h⟩ := h
    refine g_iast f v9 dX8_add_39 h (fun h => ?_)
    refine g_aload_n f 0 dX8_add_40 rfl rfl ?_
    refine g_dup f dX8_add_41 rfl ?_
    refine g_getI f fk_X8_21 v1 dX8_add_42 rfl ?_
    refine g_iconst f 1 dX8_add_45 kc_1 ?_
    refine g_iadd f dX8_add_46 ?_
    refine g_putI f fk_X8_21 v1 dX8_add_47 rfl h (fun h => ?_)
    exact g_vret f hq (Nat.le_of_ble_eq_true rfl) (Nat.le_of_ble_eq_true rfl) dX8_add_50 h
theorem c_X8_add {Ω : OM} {o0 : Nat} {i1 : Int32} {i2 : Int32} {i3 : Int32} {μ : Me} {Q : Me → Prop} (h : S_X8_add o0 i1 i2 i3 μ Q) : CT Ω yX8_add cX8_add 4 none (rmc 0 0 0) [.ref (oB Ω + o0), .int i1, .int i2, .int i3] μ (qV Q) := CT_of (by decide) rfl (by simp [lg_sl, Value.category]) (fun x hΩ f hq hi => by subst hΩ; exact t_X8_add f hq h)
theorem dX8_isDigit_0 : decode cX8_isDigit 0 = .ok (.iload_n 0, 1) := by decide +kernel
theorem dX8_isDigit_1 : decode cX8_isDigit 1 = .ok (.bipush 48, 2) := by decide +kernel
theorem dX8_isDigit_3 : decode cX8_isDigit 3 = .ok (.if_icmp .lt 13, 3) := by decide +kernel
theorem dX8_isDigit_6 : decode cX8_isDigit 6 = .ok (.iload_n 0, 1) := by decide +kernel
theorem dX8_isDigit_7 : decode cX8_isDigit 7 = .ok (.bipush 57, 2) := by decide +kernel
theorem dX8_isDigit_9 : decode cX8_isDigit 9 = .ok (.if_icmp .gt 7, 3) := by decide +kernel
theorem dX8_isDigit_12 : decode cX8_isDigit 12 = .ok (.iconst 1, 1) := by decide +kernel
theorem dX8_isDigit_13 : decode cX8_isDigit 13 = .ok (.goto 4, 3) := by decide +kernel
theorem dX8_isDigit_16 : decode cX8_isDigit 16 = .ok (.iconst 0, 1) := by decide +kernel
theorem dX8_isDigit_17 : decode cX8_isDigit 17 = .ok (.ireturn, 1) := by decide +kernel
def S_X8_isDigit (i0 : Int32) (μ : Me) (Q : Int32 → Me → Prop) : Prop := ((i0 < 48 → Q 0 μ) ∧ (¬ i0 < 48 → ((57 < i0 → Q 0 μ) ∧ (¬ 57 < i0 → Q 1 μ))))
set_option maxHeartbeats 4000000 in
set_option maxRecDepth 100000 in
theorem t_X8_isDigit {x : GX} (f : Fx x cX8_isDigit RX8 1 (rmc 0 0 0)) {i0 : Int32} {μ : Me} {Q : Int32 → Me → Prop} (hq : Rt x (some .boolean) (qI Q)) (h : S_X8_isDigit i0 μ Q) : G x 1 0 [(0, .int i0)] [] μ 0 0 := by
  unfold S_X8_isDigit at h
  refine g_iload_n f 0 dX8_isDigit_0 rfl rfl ?_
  refine g_bipush f 48 dX8_isDigit_1 kb_48 ?_
  refine g_ic_lt f 16 dX8_isDigit_3 rfl h (fun h => ?_) (fun h => ?_)
  · refine g_iconst f 0 dX8_isDigit_16 kc_0 ?_
    exact g_zret f hq (Nat.le_of_ble_eq_true rfl) (Nat.le_of_ble_eq_true rfl) dX8_isDigit_17 zb_0.1 h
  · refine g_iload_n f 0 dX8_isDigit_6 rfl rfl ?_
    refine g_bipush f 57 dX8_isDigit_7 kb_57 ?_
    refine g_ic_gt f 16 dX8_isDigit_9 rfl h (fun h => ?_) (fun h => ?_)
    · refine g_iconst f 0 dX8_isDigit_16 kc_0 ?_
      exact g_zret f hq (Nat.le_of_ble_eq_true rfl) (Nat.le_of_ble_eq_true rfl) dX8_isDigit_17 zb_0.1 h
    · refine g_iconst f 1 dX8_isDigit_12 kc_1 ?_
      refine g_goto f 17 dX8_isDigit_13 rfl ?_
      exact g_zret f hq (Nat.le_of_ble_eq_true rfl) (Nat.le_of_ble_eq_true rfl) dX8_isDigit_17 zb_1.1 h
theorem c_X8_isDigit {Ω : OM} {i0 : Int32} {μ : Me} {Q : Int32 → Me → Prop} (h : S_X8_isDigit i0 μ Q) : CT Ω yX8_isDigit cX8_isDigit 1 (some .boolean) (rmc 0 0 0) [.int i0] μ (qI Q) := CT_of (by decide) rfl (by simp [lg_sl, Value.category]) (fun x hΩ f hq hi => by subst hΩ; exact t_X8_isDigit f hq h)
theorem dX8_signOf_0 : decode cX8_signOf 0 = .ok (.iload_n 0, 1) := by decide +kernel
theorem dX8_signOf_1 : decode cX8_signOf 1 = .ok (.bipush 60, 2) := by decide +kernel
theorem dX8_signOf_3 : decode cX8_signOf 3 = .ok (.if_icmp .ne 12, 3) := by decide +kernel
theorem dX8_signOf_6 : decode cX8_signOf 6 = .ok (.iload_n 1, 1) := by decide +kernel
theorem dX8_signOf_7 : decode cX8_signOf 7 = .ok (.bipush 61, 2) := by decide +kernel
theorem dX8_signOf_9 : decode cX8_signOf 9 = .ok (.if_icmp .ne 6, 3) := by decide +kernel
theorem dX8_signOf_12 : decode cX8_signOf 12 = .ok (.bipush 41, 2) := by decide +kernel
theorem dX8_signOf_14 : decode cX8_signOf 14 = .ok (.ireturn, 1) := by decide +kernel
theorem dX8_signOf_15 : decode cX8_signOf 15 = .ok (.iload_n 0, 1) := by decide +kernel
theorem dX8_signOf_16 : decode cX8_signOf 16 = .ok (.bipush 62, 2) := by decide +kernel
theorem dX8_signOf_18 : decode cX8_signOf 18 = .ok (.if_icmp .ne 12, 3) := by decide +kernel
theorem dX8_signOf_21 : decode cX8_signOf 21 = .ok (.iload_n 1, 1) := by decide +kernel
theorem dX8_signOf_22 : decode cX8_signOf 22 = .ok (.bipush 61, 2) := by decide +kernel
theorem dX8_signOf_24 : decode cX8_signOf 24 = .ok (.if_icmp .ne 6, 3) := by decide +kernel
theorem dX8_signOf_27 : decode cX8_signOf 27 = .ok (.bipush 42, 2) := by decide +kernel
theorem dX8_signOf_29 : decode cX8_signOf 29 = .ok (.ireturn, 1) := by decide +kernel
theorem dX8_signOf_30 : decode cX8_signOf 30 = .ok (.ldc 61, 2) := by decide +kernel
theorem dX8_signOf_32 : decode cX8_signOf 32 = .ok (.iload_n 0, 1) := by decide +kernel
theorem dX8_signOf_33 : decode cX8_signOf 33 = .ok (.i2c, 1) := by decide +kernel
theorem dX8_signOf_34 : decode cX8_signOf 34 = .ok (.invokevirtual 63, 3) := by decide +kernel
theorem dX8_signOf_37 : decode cX8_signOf 37 = .ok (.istore_n 2, 1) := by decide +kernel
theorem dX8_signOf_38 : decode cX8_signOf 38 = .ok (.iload_n 2, 1) := by decide +kernel
theorem dX8_signOf_39 : decode cX8_signOf 39 = .ok (.ifCond .ge 8, 3) := by decide +kernel
theorem dX8_signOf_42 : decode cX8_signOf 42 = .ok (.bipush 52, 2) := by decide +kernel
theorem dX8_signOf_44 : decode cX8_signOf 44 = .ok (.goto 7, 3) := by decide +kernel
theorem dX8_signOf_47 : decode cX8_signOf 47 = .ok (.bipush 30, 2) := by decide +kernel
theorem dX8_signOf_49 : decode cX8_signOf 49 = .ok (.iload_n 2, 1) := by decide +kernel
theorem dX8_signOf_50 : decode cX8_signOf 50 = .ok (.iadd, 1) := by decide +kernel
theorem dX8_signOf_51 : decode cX8_signOf 51 = .ok (.ireturn, 1) := by decide +kernel
def B_X8_signOf_30 (i0 : Int32) (μ : Me) (Q : Int32 → Me → Prop) : Prop := S_J0_indexOf_0f7a4 1 (i0.toUInt32 % 65536).toInt32 μ (fun r3 μ1 => ((0 ≤ r3 → Q (30 + r3) μ1) ∧ (¬ 0 ≤ r3 → Q 52 μ1)))
set_option maxHeartbeats 4000000 in
set_option maxRecDepth 100000 in
theorem tB_X8_signOf_30 {x : GX} (f : Fx x cX8_signOf RX8 3 (rmc 7 0 0)) {i0 : Int32} {μ : Me} {Q : Int32 → Me → Prop} (hq : Rt x (some .int) (qI Q)) (h : B_X8_signOf_30 i0 μ Q) : G x 3 30 [(0, .int i0)] [] μ 0 0 := by
  unfold B_X8_signOf_30 at h
  refine g_ldcS1 f dX8_signOf_30 ?_
  refine g_iload_n f 0 dX8_signOf_32 rfl rfl ?_
  refine g_i2c f dX8_signOf_33 ?_
  refine g_callK f mk_X8_63 (by decide) (c_J0_indexOf_0f7a4 h) dX8_signOf_34 rfl rfl (Nat.le_of_ble_eq_true rfl) (rm_ok (by decide) (by decide)) ⟨Nat.le_of_ble_eq_true rfl, Nat.le_of_ble_eq_true rfl⟩ (kI fun r3 μ1 x2 h => ?_)
  refine h_istore_n f dX8_signOf_37 rfl (by decide) ?_
  refine g_iload_n f 0 dX8_signOf_38 rfl rfl ?_
  refine g_if_ge f 47 dX8_signOf_39 rfl h (fun h => ?_) (fun h => ?_)
  · refine g_bipush f 30 dX8_signOf_47 kb_30 ?_
    refine g_iload_n f 0 dX8_signOf_49 rfl rfl ?_
    refine g_iadd f dX8_signOf_50 ?_
    exact g_iret f hq (Nat.le_of_ble_eq_true rfl) (Nat.le_of_ble_eq_true rfl) dX8_signOf_51 h
  · refine g_bipush f 52 dX8_signOf_42 kb_52 ?_
    refine g_goto f 51 dX8_signOf_44 rfl ?_
    exact g_iret f hq (Nat.le_of_ble_eq_true rfl) (Nat.le_of_ble_eq_true rfl) dX8_signOf_51 h
def B_X8_signOf_15 (i0 : Int32) (i1 : Int32) (μ : Me) (Q : Int32 → Me → Prop) : Prop := ((¬ i0 = 62 → B_X8_signOf_30 i0 μ Q) ∧ (i0 = 62 → ((¬ i1 = 61 → B_X8_signOf_30 i0 μ Q) ∧ (i1 = 61 → Q 42 μ))))
set_option maxHeartbeats 4000000 in
set_option maxRecDepth 100000 in
theorem tB_X8_signOf_15 {x : GX} (f : Fx x cX8_signOf RX8 3 (rmc 7 0 0)) {i0 : Int32} {i1 : Int32} {μ : Me} {Q : Int32 → Me → Prop} (hq : Rt x (some .int) (qI Q)) (h : B_X8_signOf_15 i0 i1 μ Q) : G x 3 15 [(0, .int i0), (1, .int i1)] [] μ 0 0 := by
  unfold B_X8_signOf_15 at h
  refine g_iload_n f 0 dX8_signOf_15 rfl rfl ?_
  refine g_bipush f 62 dX8_signOf_16 kb_62 ?_
  refine g_ic_ne f 30 dX8_signOf_18 rfl h (fun h => ?_) (fun h => ?_)
  · exact h_sub [0] rfl (tB_X8_signOf_30 f hq h)
  · refine g_iload_n f 1 dX8_signOf_21 rfl rfl ?_
    refine g_bipush f 61 dX8_signOf_22 kb_61 ?_
    refine g_ic_ne f 30 dX8_signOf_24 rfl h (fun h => ?_) (fun h => ?_)
    · exact h_sub [0] rfl (tB_X8_signOf_30 f hq h)
    · refine g_bipush f 42 dX8_signOf_27 kb_42 ?_
      exact g_iret f hq (Nat.le_of_ble_eq_true rfl) (Nat.le_of_ble_eq_true rfl) dX8_signOf_29 h
def S_X8_signOf (i0 : Int32) (i1 : Int32) (μ : Me) (Q : Int32 → Me → Prop) : Prop := ((¬ i0 = 60 → B_X8_signOf_15 i0 i1 μ Q) ∧ (i0 = 60 → ((¬ i1 = 61 → B_X8_signOf_15 i0 i1 μ Q) ∧ (i1 = 61 → Q 41 μ))))
set_option maxHeartbeats 4000000 in
set_option maxRecDepth 100000 in
theorem t_X8_signOf {x : GX} (f : Fx x cX8_signOf RX8 3 (rmc 7 0 0)) {i0 : Int32} {i1 : Int32} {μ : Me} {Q : Int32 → Me → Prop} (hq : Rt x (some .int) (qI Q)) (h : S_X8_signOf i0 i1 μ Q) : G x 3 0 [(0, .int i0), (1, .int i1)] [] μ 0 0 := by
  unfold S_X8_signOf at h
  refine g_iload_n f 0 dX8_signOf_0 rfl rfl ?_
  refine g_bipush f 60 dX8_signOf_1 kb_60 ?_
  refine g_ic_ne f 15 dX8_signOf_3 rfl h (fun h => ?_) (fun h => ?_)
  · exact h_sub [0, 1] rfl (tB_X8_signOf_15 f hq h)
  · refine g_iload_n f 1 dX8_signOf_6 rfl rfl ?_
    refine g_bipush f 61 dX8_signOf_7 kb_61 ?_
    refine g_ic_ne f 15 dX8_signOf_9 rfl h (fun h => ?_) (fun h => ?_)
    · exact h_sub [0, 1] rfl (tB_X8_signOf_15 f hq h)
    · refine g_bipush f 41 dX8_signOf_12 kb_41 ?_
      exact g_iret f hq (Nat.le_of_ble_eq_true rfl) (Nat.le_of_ble_eq_true rfl) dX8_signOf_14 h
theorem c_X8_signOf {Ω : OM} {i0 : Int32} {i1 : Int32} {μ : Me} {Q : Int32 → Me → Prop} (h : S_X8_signOf i0 i1 μ Q) : CT Ω yX8_signOf cX8_signOf 3 (some .int) (rmc 7 0 0) [.int i0, .int i1] μ (qI Q) := CT_of (by decide) rfl (by simp [lg_sl, Value.category]) (fun x hΩ f hq hi => by subst hΩ; exact t_X8_signOf f hq h)
theorem dX8_cutOne_0 : decode cX8_cutOne 0 = .ok (.aload_n 1, 1) := by decide +kernel
theorem dX8_cutOne_1 : decode cX8_cutOne 1 = .ok (.getfield 38, 3) := by decide +kernel
theorem dX8_cutOne_4 : decode cX8_cutOne 4 = .ok (.iload_n 2, 1) := by decide +kernel
theorem dX8_cutOne_5 : decode cX8_cutOne 5 = .ok (.iaload, 1) := by decide +kernel
theorem dX8_cutOne_6 : decode cX8_cutOne 6 = .ok (.istore_n 3, 1) := by decide +kernel
theorem dX8_cutOne_7 : decode cX8_cutOne 7 = .ok (.iload_n 3, 1) := by decide +kernel
theorem dX8_cutOne_8 : decode cX8_cutOne 8 = .ok (.bipush 32, 2) := by decide +kernel
theorem dX8_cutOne_10 : decode cX8_cutOne 10 = .ok (.if_icmp .eq 9, 3) := by decide +kernel
theorem dX8_cutOne_13 : decode cX8_cutOne 13 = .ok (.iload_n 3, 1) := by decide +kernel
theorem dX8_cutOne_14 : decode cX8_cutOne 14 = .ok (.bipush 10, 2) := by decide +kernel
theorem dX8_cutOne_16 : decode cX8_cutOne 16 = .ok (.if_icmp .ne 7, 3) := by decide +kernel
theorem dX8_cutOne_19 : decode cX8_cutOne 19 = .ok (.iload_n 2, 1) := by decide +kernel
theorem dX8_cutOne_20 : decode cX8_cutOne 20 = .ok (.iconst 1, 1) := by decide +kernel
theorem dX8_cutOne_21 : decode cX8_cutOne 21 = .ok (.iadd, 1) := by decide +kernel
theorem dX8_cutOne_22 : decode cX8_cutOne 22 = .ok (.ireturn, 1) := by decide +kernel
theorem dX8_cutOne_23 : decode cX8_cutOne 23 = .ok (.iload_n 2, 1) := by decide +kernel
theorem dX8_cutOne_24 : decode cX8_cutOne 24 = .ok (.iconst 1, 1) := by decide +kernel
theorem dX8_cutOne_25 : decode cX8_cutOne 25 = .ok (.iadd, 1) := by decide +kernel
theorem dX8_cutOne_26 : decode cX8_cutOne 26 = .ok (.istore 4, 2) := by decide +kernel
theorem dX8_cutOne_28 : decode cX8_cutOne 28 = .ok (.iload_n 3, 1) := by decide +kernel
theorem dX8_cutOne_29 : decode cX8_cutOne 29 = .ok (.invokestatic 41, 3) := by decide +kernel
theorem dX8_cutOne_32 : decode cX8_cutOne 32 = .ok (.ifCond .eq 47, 3) := by decide +kernel
theorem dX8_cutOne_35 : decode cX8_cutOne 35 = .ok (.iload 4, 2) := by decide +kernel
theorem dX8_cutOne_37 : decode cX8_cutOne 37 = .ok (.aload_n 1, 1) := by decide +kernel
theorem dX8_cutOne_38 : decode cX8_cutOne 38 = .ok (.getfield 25, 3) := by decide +kernel
theorem dX8_cutOne_41 : decode cX8_cutOne 41 = .ok (.if_icmp .ge 22, 3) := by decide +kernel
theorem dX8_cutOne_44 : decode cX8_cutOne 44 = .ok (.aload_n 1, 1) := by decide +kernel
theorem dX8_cutOne_45 : decode cX8_cutOne 45 = .ok (.getfield 38, 3) := by decide +kernel
theorem dX8_cutOne_48 : decode cX8_cutOne 48 = .ok (.iload 4, 2) := by decide +kernel
theorem dX8_cutOne_50 : decode cX8_cutOne 50 = .ok (.iaload, 1) := by decide +kernel
theorem dX8_cutOne_51 : decode cX8_cutOne 51 = .ok (.invokestatic 41, 3) := by decide +kernel
theorem dX8_cutOne_54 : decode cX8_cutOne 54 = .ok (.ifCond .eq 9, 3) := by decide +kernel
theorem dX8_cutOne_57 : decode cX8_cutOne 57 = .ok (.iinc 4 1, 3) := by decide +kernel
theorem dX8_cutOne_60 : decode cX8_cutOne 60 = .ok (.goto (-25), 3) := by decide +kernel
theorem dX8_cutOne_63 : decode cX8_cutOne 63 = .ok (.aload_n 0, 1) := by decide +kernel
theorem dX8_cutOne_64 : decode cX8_cutOne 64 = .ok (.aload_n 1, 1) := by decide +kernel
theorem dX8_cutOne_65 : decode cX8_cutOne 65 = .ok (.iload_n 2, 1) := by decide +kernel
theorem dX8_cutOne_66 : decode cX8_cutOne 66 = .ok (.iload 4, 2) := by decide +kernel
theorem dX8_cutOne_68 : decode cX8_cutOne 68 = .ok (.invokestatic 45, 3) := by decide +kernel
theorem dX8_cutOne_71 : decode cX8_cutOne 71 = .ok (.iload_n 2, 1) := by decide +kernel
theorem dX8_cutOne_72 : decode cX8_cutOne 72 = .ok (.iconst 0, 1) := by decide +kernel
theorem dX8_cutOne_73 : decode cX8_cutOne 73 = .ok (.invokevirtual 34, 3) := by decide +kernel
theorem dX8_cutOne_76 : decode cX8_cutOne 76 = .ok (.goto 142, 3) := by decide +kernel
theorem dX8_cutOne_79 : decode cX8_cutOne 79 = .ok (.iload_n 3, 1) := by decide +kernel
theorem dX8_cutOne_80 : decode cX8_cutOne 80 = .ok (.invokestatic 49, 3) := by decide +kernel
theorem dX8_cutOne_83 : decode cX8_cutOne 83 = .ok (.ifCond .eq 73, 3) := by decide +kernel
theorem dX8_cutOne_86 : decode cX8_cutOne 86 = .ok (.iload_n 3, 1) := by decide +kernel
theorem dX8_cutOne_87 : decode cX8_cutOne 87 = .ok (.bipush 48, 2) := by decide +kernel
theorem dX8_cutOne_89 : decode cX8_cutOne 89 = .ok (.isub, 1) := by decide +kernel
theorem dX8_cutOne_90 : decode cX8_cutOne 90 = .ok (.istore 5, 2) := by decide +kernel
theorem dX8_cutOne_92 : decode cX8_cutOne 92 = .ok (.iload 4, 2) := by decide +kernel
theorem dX8_cutOne_94 : decode cX8_cutOne 94 = .ok (.aload_n 1, 1) := by decide +kernel
theorem dX8_cutOne_95 : decode cX8_cutOne 95 = .ok (.getfield 25, 3) := by decide +kernel
theorem dX8_cutOne_98 : decode cX8_cutOne 98 = .ok (.if_icmp .ge 46, 3) := by decide +kernel
theorem dX8_cutOne_101 : decode cX8_cutOne 101 = .ok (.aload_n 1, 1) := by decide +kernel
theorem dX8_cutOne_102 : decode cX8_cutOne 102 = .ok (.getfield 38, 3) := by decide +kernel
theorem dX8_cutOne_105 : decode cX8_cutOne 105 = .ok (.iload 4, 2) := by decide +kernel
theorem dX8_cutOne_107 : decode cX8_cutOne 107 = .ok (.iaload, 1) := by decide +kernel
theorem dX8_cutOne_108 : decode cX8_cutOne 108 = .ok (.invokestatic 49, 3) := by decide +kernel
theorem dX8_cutOne_111 : decode cX8_cutOne 111 = .ok (.ifCond .eq 33, 3) := by decide +kernel
theorem dX8_cutOne_114 : decode cX8_cutOne 114 = .ok (.sipush 10000, 3) := by decide +kernel
theorem dX8_cutOne_117 : decode cX8_cutOne 117 = .ok (.iload 5, 2) := by decide +kernel
theorem dX8_cutOne_119 : decode cX8_cutOne 119 = .ok (.bipush 10, 2) := by decide +kernel
theorem dX8_cutOne_121 : decode cX8_cutOne 121 = .ok (.imul, 1) := by decide +kernel
theorem dX8_cutOne_122 : decode cX8_cutOne 122 = .ok (.aload_n 1, 1) := by decide +kernel
theorem dX8_cutOne_123 : decode cX8_cutOne 123 = .ok (.getfield 38, 3) := by decide +kernel
theorem dX8_cutOne_126 : decode cX8_cutOne 126 = .ok (.iload 4, 2) := by decide +kernel
theorem dX8_cutOne_128 : decode cX8_cutOne 128 = .ok (.iaload, 1) := by decide +kernel
theorem dX8_cutOne_129 : decode cX8_cutOne 129 = .ok (.iadd, 1) := by decide +kernel
theorem dX8_cutOne_130 : decode cX8_cutOne 130 = .ok (.bipush 48, 2) := by decide +kernel
theorem dX8_cutOne_132 : decode cX8_cutOne 132 = .ok (.isub, 1) := by decide +kernel
theorem dX8_cutOne_133 : decode cX8_cutOne 133 = .ok (.invokestatic 52, 3) := by decide +kernel
theorem dX8_cutOne_136 : decode cX8_cutOne 136 = .ok (.istore 5, 2) := by decide +kernel
theorem dX8_cutOne_138 : decode cX8_cutOne 138 = .ok (.iinc 4 1, 3) := by decide +kernel
theorem dX8_cutOne_141 : decode cX8_cutOne 141 = .ok (.goto (-49), 3) := by decide +kernel
theorem dX8_cutOne_144 : decode cX8_cutOne 144 = .ok (.aload_n 0, 1) := by decide +kernel
theorem dX8_cutOne_145 : decode cX8_cutOne 145 = .ok (.bipush 50, 2) := by decide +kernel
theorem dX8_cutOne_147 : decode cX8_cutOne 147 = .ok (.iload_n 2, 1) := by decide +kernel
theorem dX8_cutOne_148 : decode cX8_cutOne 148 = .ok (.iload 5, 2) := by decide +kernel
theorem dX8_cutOne_150 : decode cX8_cutOne 150 = .ok (.invokevirtual 34, 3) := by decide +kernel
theorem dX8_cutOne_153 : decode cX8_cutOne 153 = .ok (.goto 65, 3) := by decide +kernel
theorem dX8_cutOne_156 : decode cX8_cutOne 156 = .ok (.iload 4, 2) := by decide +kernel
theorem dX8_cutOne_158 : decode cX8_cutOne 158 = .ok (.aload_n 1, 1) := by decide +kernel
theorem dX8_cutOne_159 : decode cX8_cutOne 159 = .ok (.getfield 25, 3) := by decide +kernel
theorem dX8_cutOne_162 : decode cX8_cutOne 162 = .ok (.if_icmp .ge 13, 3) := by decide +kernel
theorem dX8_cutOne_165 : decode cX8_cutOne 165 = .ok (.aload_n 1, 1) := by decide +kernel
theorem dX8_cutOne_166 : decode cX8_cutOne 166 = .ok (.getfield 38, 3) := by decide +kernel
theorem dX8_cutOne_169 : decode cX8_cutOne 169 = .ok (.iload 4, 2) := by decide +kernel
theorem dX8_cutOne_171 : decode cX8_cutOne 171 = .ok (.iaload, 1) := by decide +kernel
theorem dX8_cutOne_172 : decode cX8_cutOne 172 = .ok (.goto 4, 3) := by decide +kernel
theorem dX8_cutOne_175 : decode cX8_cutOne 175 = .ok (.iconst 0, 1) := by decide +kernel
theorem dX8_cutOne_176 : decode cX8_cutOne 176 = .ok (.istore 5, 2) := by decide +kernel
theorem dX8_cutOne_178 : decode cX8_cutOne 178 = .ok (.iload_n 3, 1) := by decide +kernel
theorem dX8_cutOne_179 : decode cX8_cutOne 179 = .ok (.iload 5, 2) := by decide +kernel
theorem dX8_cutOne_181 : decode cX8_cutOne 181 = .ok (.invokestatic 58, 3) := by decide +kernel
theorem dX8_cutOne_184 : decode cX8_cutOne 184 = .ok (.istore 6, 2) := by decide +kernel
theorem dX8_cutOne_186 : decode cX8_cutOne 186 = .ok (.iload 4, 2) := by decide +kernel
theorem dX8_cutOne_188 : decode cX8_cutOne 188 = .ok (.iload 6, 2) := by decide +kernel
theorem dX8_cutOne_190 : decode cX8_cutOne 190 = .ok (.bipush 41, 2) := by decide +kernel
theorem dX8_cutOne_192 : decode cX8_cutOne 192 = .ok (.if_icmp .eq 10, 3) := by decide +kernel
theorem dX8_cutOne_195 : decode cX8_cutOne 195 = .ok (.iload 6, 2) := by decide +kernel
theorem dX8_cutOne_197 : decode cX8_cutOne 197 = .ok (.bipush 42, 2) := by decide +kernel
theorem dX8_cutOne_199 : decode cX8_cutOne 199 = .ok (.if_icmp .ne 7, 3) := by decide +kernel
theorem dX8_cutOne_202 : decode cX8_cutOne 202 = .ok (.iconst 1, 1) := by decide +kernel
theorem dX8_cutOne_203 : decode cX8_cutOne 203 = .ok (.goto 4, 3) := by decide +kernel
theorem dX8_cutOne_206 : decode cX8_cutOne 206 = .ok (.iconst 0, 1) := by decide +kernel
theorem dX8_cutOne_207 : decode cX8_cutOne 207 = .ok (.iadd, 1) := by decide +kernel
theorem dX8_cutOne_208 : decode cX8_cutOne 208 = .ok (.istore 4, 2) := by decide +kernel
theorem dX8_cutOne_210 : decode cX8_cutOne 210 = .ok (.aload_n 0, 1) := by decide +kernel
theorem dX8_cutOne_211 : decode cX8_cutOne 211 = .ok (.iload 6, 2) := by decide +kernel
theorem dX8_cutOne_213 : decode cX8_cutOne 213 = .ok (.iload_n 2, 1) := by decide +kernel
theorem dX8_cutOne_214 : decode cX8_cutOne 214 = .ok (.iconst 0, 1) := by decide +kernel
theorem dX8_cutOne_215 : decode cX8_cutOne 215 = .ok (.invokevirtual 34, 3) := by decide +kernel
theorem dX8_cutOne_218 : decode cX8_cutOne 218 = .ok (.iload 4, 2) := by decide +kernel
theorem dX8_cutOne_220 : decode cX8_cutOne 220 = .ok (.ireturn, 1) := by decide +kernel
def B_X8_cutOne_19 (i2 : Int32) (μ : Me) (Q : Int32 → Me → Prop) : Prop := Q (i2 + 1) μ
set_option maxHeartbeats 4000000 in
set_option maxRecDepth 100000 in
theorem tB_X8_cutOne_19 {x : GX} (f : Fx x cX8_cutOne RX8 7 (rmc 8 0 0)) {i2 : Int32} {μ : Me} {Q : Int32 → Me → Prop} (hq : Rt x (some .int) (qI Q)) (h : B_X8_cutOne_19 i2 μ Q) : G x 7 19 [(2, .int i2)] [] μ 0 0 := by
  unfold B_X8_cutOne_19 at h
  refine g_iload_n f 0 dX8_cutOne_19 rfl rfl ?_
  refine g_iconst f 1 dX8_cutOne_20 kc_1 ?_
  refine g_iadd f dX8_cutOne_21 ?_
  exact g_iret f hq (Nat.le_of_ble_eq_true rfl) (Nat.le_of_ble_eq_true rfl) dX8_cutOne_22 h
def B_X8_cutOne_207 (o0 : Nat) (i2 : Int32) (i6 : Int32) (s0 : Int32) (s1 : Int32) (μ : Me) (Q : Int32 → Me → Prop) : Prop := mok μ o0 8 ∧ S_X8_add o0 i6 i2 0 μ (fun μ14 => Q (s1 + s0) μ14)
set_option maxHeartbeats 4000000 in
set_option maxRecDepth 100000 in
theorem tB_X8_cutOne_207 {x : GX} (f : Fx x cX8_cutOne RX8 7 (rmc 8 0 0)) {o0 : Nat} {i2 : Int32} {i6 : Int32} {s0 : Int32} {s1 : Int32} {μ : Me} {Q : Int32 → Me → Prop} (hq : Rt x (some .int) (qI Q)) (h : B_X8_cutOne_207 o0 i2 i6 s0 s1 μ Q) : G x 7 207 [(0, .ref (gB x + o0)), (2, .int i2), (6, .int i6)] [.int s0, .int s1] μ 0 0 := by
  unfold B_X8_cutOne_207 at h
  refine g_iadd f dX8_cutOne_207 ?_
  refine h_istore f dX8_cutOne_208 (by decide) ?_
  refine g_aload_n f 1 dX8_cutOne_210 rfl rfl ?_
  refine g_iload f 3 dX8_cutOne_211 rfl ?_
  refine g_iload_n f 2 dX8_cutOne_213 rfl rfl ?_
  refine g_iconst f 0 dX8_cutOne_214 kc_0 ?_
  obtain ⟨v13, h⟩ := h
  refine g_callV f mk_X8_34 v13 (c_X8_add h) dX8_cutOne_215 rfl rfl (Nat.le_of_ble_eq_true rfl) (rm_ok (by decide) (by decide)) ⟨Nat.le_of_ble_eq_true rfl, Nat.le_of_ble_eq_true rfl⟩ (kV fun μ14 x15 h => ?_)
  refine g_iload f 0 dX8_cutOne_218 rfl ?_
  exact g_iret f hq (Nat.le_of_ble_eq_true rfl) (Nat.le_of_ble_eq_true rfl) dX8_cutOne_220 h
def B_X8_cutOne_176 (o0 : Nat) (i2 : Int32) (i3 : Int32) (i4 : Int32) (s0 : Int32) (μ : Me) (Q : Int32 → Me → Prop) : Prop := S_X8_signOf i3 s0 μ (fun r12 μ10 => ((r12 = 41 → B_X8_cutOne_207 o0 i2 r12 1 i4 μ10 Q) ∧ (¬ r12 = 41 → ((¬ r12 = 42 → B_X8_cutOne_207 o0 i2 r12 0 i4 μ10 Q) ∧ (r12 = 42 → B_X8_cutOne_207 o0 i2 r12 1 i4 μ10 Q)))))
set_option maxHeartbeats 4000000 in
set_option maxRecDepth 100000 in
theorem tB_X8_cutOne_176 {x : GX} (f : Fx x cX8_cutOne RX8 7 (rmc 8 0 0)) {o0 : Nat} {i2 : Int32} {i3 : Int32} {i4 : Int32} {s0 : Int32} {μ : Me} {Q : Int32 → Me → Prop} (hq : Rt x (some .int) (qI Q)) (h : B_X8_cutOne_176 o0 i2 i3 i4 s0 μ Q) : G x 7 176 [(0, .ref (gB x + o0)), (2, .int i2), (3, .int i3), (4, .int i4)] [.int s0] μ 0 0 := by
  unfold B_X8_cutOne_176 at h
  refine h_istore f dX8_cutOne_176 (by decide) ?_
  refine g_iload_n f 3 dX8_cutOne_178 rfl rfl ?_
  refine g_iload f 0 dX8_cutOne_179 rfl ?_
  refine g_callS f mk_X8_58 (c_X8_signOf h) dX8_cutOne_181 rfl rfl (Nat.le_of_ble_eq_true rfl) (rm_ok (by decide) (by decide)) ⟨Nat.le_of_ble_eq_true rfl, Nat.le_of_ble_eq_true rfl⟩ (kI fun r12 μ10 x11 h => ?_)
  refine h_istore f dX8_cutOne_184 (by decide) ?_
  refine g_iload f 5 dX8_cutOne_186 rfl ?_
  refine g_iload f 0 dX8_cutOne_188 rfl ?_
  refine g_bipush f 41 dX8_cutOne_190 kb_41 ?_
  refine g_ic_eq f 202 dX8_cutOne_192 rfl h (fun h => ?_) (fun h => ?_)
  · refine g_iconst f 1 dX8_cutOne_202 kc_1 ?_
    refine g_goto f 207 dX8_cutOne_203 rfl ?_
    exact h_sub [2, 3, 0] rfl (tB_X8_cutOne_207 f hq h)
  · refine g_iload f 0 dX8_cutOne_195 rfl ?_
    refine g_bipush f 42 dX8_cutOne_197 kb_42 ?_
    refine g_ic_ne f 206 dX8_cutOne_199 rfl h (fun h => ?_) (fun h => ?_)
    · refine g_iconst f 0 dX8_cutOne_206 kc_0 ?_
      exact h_sub [2, 3, 0] rfl (tB_X8_cutOne_207 f hq h)
    · refine g_iconst f 1 dX8_cutOne_202 kc_1 ?_
      refine g_goto f 207 dX8_cutOne_203 rfl ?_
      exact h_sub [2, 3, 0] rfl (tB_X8_cutOne_207 f hq h)
def B_X8_cutOne_144 (o0 : Nat) (i2 : Int32) (i4 : Int32) (i5 : Int32) (μ : Me) (Q : Int32 → Me → Prop) : Prop := mok μ o0 8 ∧ S_X8_add o0 50 i2 i5 μ (fun μ21 => Q i4 μ21)
set_option maxHeartbeats 4000000 in
set_option maxRecDepth 100000 in
theorem tB_X8_cutOne_144 {x : GX} (f : Fx x cX8_cutOne RX8 7 (rmc 8 0 0)) {o0 : Nat} {i2 : Int32} {i4 : Int32} {i5 : Int32} {μ : Me} {Q : Int32 → Me → Prop} (hq : Rt x (some .int) (qI Q)) (h : B_X8_cutOne_144 o0 i2 i4 i5 μ Q) : G x 7 144 [(0, .ref (gB x + o0)), (2, .int i2), (4, .int i4), (5, .int i5)] [] μ 0 0 := by
  unfold B_X8_cutOne_144 at h
  refine g_aload_n f 0 dX8_cutOne_144 rfl rfl ?_
  refine g_bipush f 50 dX8_cutOne_145 kb_50 ?_
  refine g_iload_n f 1 dX8_cutOne_147 rfl rfl ?_
  refine g_iload f 3 dX8_cutOne_148 rfl ?_
  obtain ⟨v20, h⟩ := h
  refine g_callV f mk_X8_34 v20 (c_X8_add h) dX8_cutOne_150 rfl rfl (Nat.le_of_ble_eq_true rfl) (rm_ok (by decide) (by decide)) ⟨Nat.le_of_ble_eq_true rfl, Nat.le_of_ble_eq_true rfl⟩ (kV fun μ21 x22 h => ?_)
  refine g_goto f 218 dX8_cutOne_153 rfl ?_
  refine g_iload f 2 dX8_cutOne_218 rfl ?_
  exact g_iret f hq (Nat.le_of_ble_eq_true rfl) (Nat.le_of_ble_eq_true rfl) dX8_cutOne_220 h
def B_X8_cutOne_92 (o0 : Nat) (o1 : Nat) (i2 : Int32) (i4 : Int32) (i5 : Int32) (μ : Me) (K92 : Int32 → Int32 → Me → Prop) (Q : Int32 → Me → Prop) : Prop := mok μ o1 6 ∧ (((mgi μ o1 1) ≤ i4 → B_X8_cutOne_144 o0 i2 i4 i5 μ Q) ∧ (¬ (mgi μ o1 1) ≤ i4 → ∃ t24, mgr μ o1 0 = some t24 ∧ mok μ t24 12 ∧ vp_in i4 (mln μ t24) ∧ S_X8_isDigit (mgi μ t24 i4.toNatClampNeg) μ (fun r28 μ26 => ((r28 = 0 → B_X8_cutOne_144 o0 i2 i4 i5 μ26 Q) ∧ (¬ r28 = 0 → ∃ t29, mgr μ26 o1 0 = some t29 ∧ mok μ26 t29 12 ∧ vp_in i4 (mln μ26 t29) ∧ K92 (i4 + 1) (if (((i5 * 10) + (mgi μ26 t29 i4.toNatClampNeg)) - 48) < 10000 then (((i5 * 10) + (mgi μ26 t29 i4.toNatClampNeg)) - 48) else 10000) μ26)))))
set_option maxHeartbeats 4000000 in
set_option maxRecDepth 100000 in
theorem tB_X8_cutOne_92 {x : GX} (f : Fx x cX8_cutOne RX8 7 (rmc 8 0 0)) {o0 : Nat} {o1 : Nat} {i2 : Int32} {i4 : Int32} {i5 : Int32} {μ : Me} {Q : Int32 → Me → Prop} (hq : Rt x (some .int) (qI Q)) {K92 : Int32 → Int32 → Me → Prop} (hK92 : ∀ (a4 : Int32) (a5 : Int32) (ν : Me), K92 a4 a5 ν → G x 7 92 [(0, .ref (gB x + o0)), (1, .ref (gB x + o1)), (2, .int i2), (4, .int a4), (5, .int a5)] [] ν 0 0) (h : B_X8_cutOne_92 o0 o1 i2 i4 i5 μ K92 Q) : G x 7 92 [(0, .ref (gB x + o0)), (1, .ref (gB x + o1)), (2, .int i2), (4, .int i4), (5, .int i5)] [] μ 0 0 := by
  unfold B_X8_cutOne_92 at h
  refine g_iload f 3 dX8_cutOne_92 rfl ?_
  refine g_aload_n f 1 dX8_cutOne_94 rfl rfl ?_
  obtain ⟨v19, h⟩ := h
  refine g_getI f fk_X8_25 v19 dX8_cutOne_95 rfl ?_
  refine g_ic_ge f 144 dX8_cutOne_98 rfl h (fun h => ?_) (fun h => ?_)
  · exact h_sub [0, 2, 3, 4] rfl (tB_X8_cutOne_144 f hq h)
  · refine g_aload_n f 1 dX8_cutOne_101 rfl rfl ?_
    refine g_getR f fk_X8_38 v19 dX8_cutOne_102 rfl h (fun t24 h => ?_)
    refine g_iload f 3 dX8_cutOne_105 rfl ?_
    obtain ⟨v25, h⟩ := h
    refine g_iald f v25 dX8_cutOne_107 h (fun h => ?_)
    refine g_callS f mk_X8_49 (c_X8_isDigit h) dX8_cutOne_108 rfl rfl (Nat.le_of_ble_eq_true rfl) (rm_ok (by decide) (by decide)) ⟨Nat.le_of_ble_eq_true rfl, Nat.le_of_ble_eq_true rfl⟩ (kI fun r28 μ26 x27 h => ?_)
    refine g_if_eq f 144 dX8_cutOne_111 rfl h (fun h => ?_) (fun h => ?_)
    · exact h_sub [0, 2, 3, 4] rfl (tB_X8_cutOne_144 f hq h)
    · refine g_sipush f 10000 dX8_cutOne_114 ks_10000 ?_
      refine g_iload f 4 dX8_cutOne_117 rfl ?_
      refine g_bipush f 10 dX8_cutOne_119 kb_10 ?_
      refine g_imul f dX8_cutOne_121 ?_
      refine g_aload_n f 1 dX8_cutOne_122 rfl rfl ?_
      have v19 := mex_ok x27 v19
      refine g_getR f fk_X8_38 v19 dX8_cutOne_123 rfl h (fun t29 h => ?_)
      refine g_iload f 3 dX8_cutOne_126 rfl ?_
      obtain ⟨v30, h⟩ := h
      refine g_iald f v30 dX8_cutOne_128 h (fun h => ?_)
      refine g_iadd f dX8_cutOne_129 ?_
      refine g_bipush f 48 dX8_cutOne_130 kb_48 ?_
      refine g_isub f dX8_cutOne_132 ?_
      refine g_min f mink_X8_52 dX8_cutOne_133 rm_fr (rm_mx (Nat.le_of_ble_eq_true rfl)) (Nat.zero_le _) (Nat.zero_le _) ?_
      refine h_istore f dX8_cutOne_136 (by decide) ?_
      refine h_iinc f 4 1 dX8_cutOne_138 rfl kc_1 (by decide) ?_
      refine g_goto f 92 dX8_cutOne_141 rfl ?_
      exact h_sub [2, 3, 4, 0, 1] rfl (hK92 _ _ _ h)
def L_X8_cutOne_92 (o0 : Nat) (o1 : Nat) (i2 : Int32) (i4 : Int32) (i5 : Int32) (μ : Me) (Q : Int32 → Me → Prop) : Prop := ∃ I : Int32 → Int32 → Me → Nat → Prop, (∃ n, I i4 i5 μ n) ∧ ∀ (i4 : Int32) (i5 : Int32) (μ : Me) (n : Nat), I i4 i5 μ n → B_X8_cutOne_92 o0 o1 i2 i4 i5 μ (fun a4 a5 ν => ∃ n', n' < n ∧ I a4 a5 ν n') Q
set_option maxHeartbeats 4000000 in
set_option maxRecDepth 100000 in
theorem tL_X8_cutOne_92 {x : GX} (f : Fx x cX8_cutOne RX8 7 (rmc 8 0 0)) {o0 : Nat} {o1 : Nat} {i2 : Int32} {i4 : Int32} {i5 : Int32} {μ : Me} {Q : Int32 → Me → Prop} (hq : Rt x (some .int) (qI Q)) (h : L_X8_cutOne_92 o0 o1 i2 i4 i5 μ Q) : G x 7 92 [(0, .ref (gB x + o0)), (1, .ref (gB x + o1)), (2, .int i2), (4, .int i4), (5, .int i5)] [] μ 0 0 := by
  obtain ⟨I, ⟨n, hI⟩, hs⟩ := h
  induction n using Nat.strongRecOn generalizing i4 i5 μ with
  | ind n ih => exact tB_X8_cutOne_92 f hq (fun a4 a5 ν hk => by obtain ⟨n2, hn, hI2⟩ := hk; exact ih n2 hn hI2) (hs _ _ _ _ hI)
def B_X8_cutOne_63 (o0 : Nat) (o1 : Nat) (i2 : Int32) (i4 : Int32) (μ : Me) (Q : Int32 → Me → Prop) : Prop := S_X8_wordOf o1 i2 i4 μ (fun r34 μ32 => mok μ32 o0 8 ∧ S_X8_add o0 r34 i2 0 μ32 (fun μ36 => Q i4 μ36))
set_option maxHeartbeats 4000000 in
set_option maxRecDepth 100000 in
theorem tB_X8_cutOne_63 {x : GX} (f : Fx x cX8_cutOne RX8 7 (rmc 8 0 0)) {o0 : Nat} {o1 : Nat} {i2 : Int32} {i4 : Int32} {μ : Me} {Q : Int32 → Me → Prop} (hq : Rt x (some .int) (qI Q)) (h : B_X8_cutOne_63 o0 o1 i2 i4 μ Q) : G x 7 63 [(0, .ref (gB x + o0)), (1, .ref (gB x + o1)), (2, .int i2), (4, .int i4)] [] μ 0 0 := by
  unfold B_X8_cutOne_63 at h
  refine g_aload_n f 0 dX8_cutOne_63 rfl rfl ?_
  refine g_aload_n f 1 dX8_cutOne_64 rfl rfl ?_
  refine g_iload_n f 2 dX8_cutOne_65 rfl rfl ?_
  refine g_iload f 3 dX8_cutOne_66 rfl ?_
  refine g_callS f mk_X8_45 (c_X8_wordOf h) dX8_cutOne_68 rfl rfl (Nat.le_of_ble_eq_true rfl) (rm_ok (by decide) (by decide)) ⟨Nat.le_of_ble_eq_true rfl, Nat.le_of_ble_eq_true rfl⟩ (kI fun r34 μ32 x33 h => ?_)
  refine g_iload_n f 2 dX8_cutOne_71 rfl rfl ?_
  refine g_iconst f 0 dX8_cutOne_72 kc_0 ?_
  obtain ⟨v35, h⟩ := h
  refine g_callV f mk_X8_34 v35 (c_X8_add h) dX8_cutOne_73 rfl rfl (Nat.le_of_ble_eq_true rfl) (rm_ok (by decide) (by decide)) ⟨Nat.le_of_ble_eq_true rfl, Nat.le_of_ble_eq_true rfl⟩ (kV fun μ36 x37 h => ?_)
  refine g_goto f 218 dX8_cutOne_76 rfl ?_
  refine g_iload f 3 dX8_cutOne_218 rfl ?_
  exact g_iret f hq (Nat.le_of_ble_eq_true rfl) (Nat.le_of_ble_eq_true rfl) dX8_cutOne_220 h
def B_X8_cutOne_35 (o0 : Nat) (o1 : Nat) (i2 : Int32) (i4 : Int32) (μ : Me) (K35 : Int32 → Me → Prop) (Q : Int32 → Me → Prop) : Prop := mok μ o1 6 ∧ (((mgi μ o1 1) ≤ i4 → B_X8_cutOne_63 o0 o1 i2 i4 μ Q) ∧ (¬ (mgi μ o1 1) ≤ i4 → ∃ t39, mgr μ o1 0 = some t39 ∧ mok μ t39 12 ∧ vp_in i4 (mln μ t39) ∧ S_X8_isLetter (mgi μ t39 i4.toNatClampNeg) μ (fun r43 μ41 => ((r43 = 0 → B_X8_cutOne_63 o0 o1 i2 i4 μ41 Q) ∧ (¬ r43 = 0 → K35 (i4 + 1) μ41)))))
set_option maxHeartbeats 4000000 in
set_option maxRecDepth 100000 in
theorem tB_X8_cutOne_35 {x : GX} (f : Fx x cX8_cutOne RX8 7 (rmc 8 0 0)) {o0 : Nat} {o1 : Nat} {i2 : Int32} {i4 : Int32} {μ : Me} {Q : Int32 → Me → Prop} (hq : Rt x (some .int) (qI Q)) {K35 : Int32 → Me → Prop} (hK35 : ∀ (a4 : Int32) (ν : Me), K35 a4 ν → G x 7 35 [(0, .ref (gB x + o0)), (1, .ref (gB x + o1)), (2, .int i2), (4, .int a4)] [] ν 0 0) (h : B_X8_cutOne_35 o0 o1 i2 i4 μ K35 Q) : G x 7 35 [(0, .ref (gB x + o0)), (1, .ref (gB x + o1)), (2, .int i2), (4, .int i4)] [] μ 0 0 := by
  unfold B_X8_cutOne_35 at h
  refine g_iload f 3 dX8_cutOne_35 rfl ?_
  refine g_aload_n f 1 dX8_cutOne_37 rfl rfl ?_
  obtain ⟨v31, h⟩ := h
  refine g_getI f fk_X8_25 v31 dX8_cutOne_38 rfl ?_
  refine g_ic_ge f 63 dX8_cutOne_41 rfl h (fun h => ?_) (fun h => ?_)
  · exact h_sub [0, 1, 2, 3] rfl (tB_X8_cutOne_63 f hq h)
  · refine g_aload_n f 1 dX8_cutOne_44 rfl rfl ?_
    refine g_getR f fk_X8_38 v31 dX8_cutOne_45 rfl h (fun t39 h => ?_)
    refine g_iload f 3 dX8_cutOne_48 rfl ?_
    obtain ⟨v40, h⟩ := h
    refine g_iald f v40 dX8_cutOne_50 h (fun h => ?_)
    refine g_callS f mk_X8_41 (c_X8_isLetter h) dX8_cutOne_51 rfl rfl (Nat.le_of_ble_eq_true rfl) (rm_ok (by decide) (by decide)) ⟨Nat.le_of_ble_eq_true rfl, Nat.le_of_ble_eq_true rfl⟩ (kI fun r43 μ41 x42 h => ?_)
    refine g_if_eq f 63 dX8_cutOne_54 rfl h (fun h => ?_) (fun h => ?_)
    · exact h_sub [0, 1, 2, 3] rfl (tB_X8_cutOne_63 f hq h)
    · refine h_iinc f 3 1 dX8_cutOne_57 rfl kc_1 (by decide) ?_
      refine g_goto f 35 dX8_cutOne_60 rfl ?_
      exact h_sub [1, 2, 3, 0] rfl (hK35 _ _ h)
def L_X8_cutOne_35 (o0 : Nat) (o1 : Nat) (i2 : Int32) (i4 : Int32) (μ : Me) (Q : Int32 → Me → Prop) : Prop := ∃ I : Int32 → Me → Nat → Prop, (∃ n, I i4 μ n) ∧ ∀ (i4 : Int32) (μ : Me) (n : Nat), I i4 μ n → B_X8_cutOne_35 o0 o1 i2 i4 μ (fun a4 ν => ∃ n', n' < n ∧ I a4 ν n') Q
set_option maxHeartbeats 4000000 in
set_option maxRecDepth 100000 in
theorem tL_X8_cutOne_35 {x : GX} (f : Fx x cX8_cutOne RX8 7 (rmc 8 0 0)) {o0 : Nat} {o1 : Nat} {i2 : Int32} {i4 : Int32} {μ : Me} {Q : Int32 → Me → Prop} (hq : Rt x (some .int) (qI Q)) (h : L_X8_cutOne_35 o0 o1 i2 i4 μ Q) : G x 7 35 [(0, .ref (gB x + o0)), (1, .ref (gB x + o1)), (2, .int i2), (4, .int i4)] [] μ 0 0 := by
  obtain ⟨I, ⟨n, hI⟩, hs⟩ := h
  induction n using Nat.strongRecOn generalizing i4 μ with
  | ind n ih => exact tB_X8_cutOne_35 f hq (fun a4 ν hk => by obtain ⟨n2, hn, hI2⟩ := hk; exact ih n2 hn hI2) (hs _ _ _ hI)
def S_X8_cutOne (o0 : Nat) (o1 : Nat) (i2 : Int32) (μ : Me) (Q : Int32 → Me → Prop) : Prop := mok μ o1 6 ∧ ∃ t2, mgr μ o1 0 = some t2 ∧ mok μ t2 12 ∧ vp_in i2 (mln μ t2) ∧ (((mgi μ t2 i2.toNatClampNeg) = 32 → B_X8_cutOne_19 i2 μ Q) ∧ (¬ (mgi μ t2 i2.toNatClampNeg) = 32 → ((¬ (mgi μ t2 i2.toNatClampNeg) = 10 → S_X8_isLetter (mgi μ t2 i2.toNatClampNeg) μ (fun r6 μ4 => ((r6 = 0 → S_X8_isDigit (mgi μ t2 i2.toNatClampNeg) μ4 (fun r9 μ7 => ((r9 = 0 → (((mgi μ7 o1 1) ≤ (i2 + 1) → B_X8_cutOne_176 o0 i2 (mgi μ t2 i2.toNatClampNeg) (i2 + 1) 0 μ7 Q) ∧ (¬ (mgi μ7 o1 1) ≤ (i2 + 1) → ∃ t17, mgr μ7 o1 0 = some t17 ∧ mok μ7 t17 12 ∧ vp_in (i2 + 1) (mln μ7 t17) ∧ B_X8_cutOne_176 o0 i2 (mgi μ t2 i2.toNatClampNeg) (i2 + 1) (mgi μ7 t17 (i2 + 1).toNatClampNeg) μ7 Q))) ∧ (¬ r9 = 0 → L_X8_cutOne_92 o0 o1 i2 (i2 + 1) ((mgi μ t2 i2.toNatClampNeg) - 48) μ7 Q)))) ∧ (¬ r6 = 0 → L_X8_cutOne_35 o0 o1 i2 (i2 + 1) μ4 Q)))) ∧ ((mgi μ t2 i2.toNatClampNeg) = 10 → B_X8_cutOne_19 i2 μ Q))))
set_option maxHeartbeats 4000000 in
set_option maxRecDepth 100000 in
theorem t_X8_cutOne {x : GX} (f : Fx x cX8_cutOne RX8 7 (rmc 8 0 0)) {o0 : Nat} {o1 : Nat} {i2 : Int32} {μ : Me} {Q : Int32 → Me → Prop} (hq : Rt x (some .int) (qI Q)) (h : S_X8_cutOne o0 o1 i2 μ Q) : G x 7 0 [(0, .ref (gB x + o0)), (1, .ref (gB x + o1)), (2, .int i2)] [] μ 0 0 := by
  unfold S_X8_cutOne at h
  refine g_aload_n f 1 dX8_cutOne_0 rfl rfl ?_
  obtain ⟨v1, h⟩ := h
  refine g_getR f fk_X8_38 v1 dX8_cutOne_1 rfl h (fun t2 h => ?_)
  refine g_iload_n f 2 dX8_cutOne_4 rfl rfl ?_
  obtain ⟨v3, h⟩ := h
  refine g_iald f v3 dX8_cutOne_5 h (fun h => ?_)
  refine h_istore_n f dX8_cutOne_6 rfl (by decide) ?_
  refine g_iload_n f 0 dX8_cutOne_7 rfl rfl ?_
  refine g_bipush f 32 dX8_cutOne_8 kb_32 ?_
  refine g_ic_eq f 19 dX8_cutOne_10 rfl h (fun h => ?_) (fun h => ?_)
  · exact h_sub [3] rfl (tB_X8_cutOne_19 f hq h)
  · refine g_iload_n f 0 dX8_cutOne_13 rfl rfl ?_
    refine g_bipush f 10 dX8_cutOne_14 kb_10 ?_
    refine g_ic_ne f 23 dX8_cutOne_16 rfl h (fun h => ?_) (fun h => ?_)
    · refine g_iload_n f 3 dX8_cutOne_23 rfl rfl ?_
      refine g_iconst f 1 dX8_cutOne_24 kc_1 ?_
      refine g_iadd f dX8_cutOne_25 ?_
      refine h_istore f dX8_cutOne_26 (by decide) ?_
      refine g_iload_n f 1 dX8_cutOne_28 rfl rfl ?_
      refine g_callS f mk_X8_41 (c_X8_isLetter h) dX8_cutOne_29 rfl rfl (Nat.le_of_ble_eq_true rfl) (rm_ok (by decide) (by decide)) ⟨Nat.le_of_ble_eq_true rfl, Nat.le_of_ble_eq_true rfl⟩ (kI fun r6 μ4 x5 h => ?_)
      refine g_if_eq f 79 dX8_cutOne_32 rfl h (fun h => ?_) (fun h => ?_)
      · refine g_iload_n f 1 dX8_cutOne_79 rfl rfl ?_
        refine g_callS f mk_X8_49 (c_X8_isDigit h) dX8_cutOne_80 rfl rfl (Nat.le_of_ble_eq_true rfl) (rm_ok (by decide) (by decide)) ⟨Nat.le_of_ble_eq_true rfl, Nat.le_of_ble_eq_true rfl⟩ (kI fun r9 μ7 x8 h => ?_)
        refine g_if_eq f 156 dX8_cutOne_83 rfl h (fun h => ?_) (fun h => ?_)
        · refine g_iload f 0 dX8_cutOne_156 rfl ?_
          refine g_aload_n f 3 dX8_cutOne_158 rfl rfl ?_
          have v1 := mex_ok x5 v1
          have v1 := mex_ok x8 v1
          refine g_getI f fk_X8_25 v1 dX8_cutOne_159 rfl ?_
          refine g_ic_ge f 175 dX8_cutOne_162 rfl h (fun h => ?_) (fun h => ?_)
          · refine g_iconst f 0 dX8_cutOne_175 kc_0 ?_
            exact h_sub [2, 4, 1, 0] rfl (tB_X8_cutOne_176 f hq h)
          · refine g_aload_n f 3 dX8_cutOne_165 rfl rfl ?_
            refine g_getR f fk_X8_38 v1 dX8_cutOne_166 rfl h (fun t17 h => ?_)
            refine g_iload f 0 dX8_cutOne_169 rfl ?_
            obtain ⟨v18, h⟩ := h
            refine g_iald f v18 dX8_cutOne_171 h (fun h => ?_)
            refine g_goto f 176 dX8_cutOne_172 rfl ?_
            exact h_sub [2, 4, 1, 0] rfl (tB_X8_cutOne_176 f hq h)
        · refine g_iload_n f 1 dX8_cutOne_86 rfl rfl ?_
          refine g_bipush f 48 dX8_cutOne_87 kb_48 ?_
          refine g_isub f dX8_cutOne_89 ?_
          refine h_istore f dX8_cutOne_90 (by decide) ?_
          exact h_sub [3, 4, 5, 1, 0] rfl (tL_X8_cutOne_92 f hq h)
      · exact h_sub [2, 3, 4, 0] rfl (tL_X8_cutOne_35 f hq h)
    · exact h_sub [3] rfl (tB_X8_cutOne_19 f hq h)
theorem c_X8_cutOne {Ω : OM} {o0 : Nat} {o1 : Nat} {i2 : Int32} {μ : Me} {Q : Int32 → Me → Prop} (h : S_X8_cutOne o0 o1 i2 μ Q) : CT Ω yX8_cutOne cX8_cutOne 7 (some .int) (rmc 8 0 0) [.ref (oB Ω + o0), .ref (oB Ω + o1), .int i2] μ (qI Q) := CT_of (by decide) rfl (by simp [lg_sl, Value.category]) (fun x hΩ f hq hi => by subst hΩ; exact t_X8_cutOne f hq h)
