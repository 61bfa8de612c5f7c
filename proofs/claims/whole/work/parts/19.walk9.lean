/-! contracts by program (wip/whole/gen.py) -/
theorem dX11_write_0 : decode cX11_write 0 = .ok (.aload_n 0, 1) := by decide +kernel
theorem dX11_write_1 : decode cX11_write 1 = .ok (.getfield 43, 3) := by decide +kernel
theorem dX11_write_4 : decode cX11_write 4 = .ok (.ifCond .ne 4, 3) := by decide +kernel
theorem dX11_write_7 : decode cX11_write 7 = .ok (.return_, 1) := by decide +kernel
theorem dX11_write_8 : decode cX11_write 8 = .ok (.aload_n 0, 1) := by decide +kernel
theorem dX11_write_9 : decode cX11_write 9 = .ok (.getfield 7, 3) := by decide +kernel
theorem dX11_write_12 : decode cX11_write 12 = .ok (.bipush 10, 2) := by decide +kernel
theorem dX11_write_14 : decode cX11_write 14 = .ok (.iaload, 1) := by decide +kernel
theorem dX11_write_15 : decode cX11_write 15 = .ok (.bipush 30, 2) := by decide +kernel
theorem dX11_write_17 : decode cX11_write 17 = .ok (.if_icmp .ne 50, 3) := by decide +kernel
theorem dX11_write_20 : decode cX11_write 20 = .ok (.iconst 2, 1) := by decide +kernel
theorem dX11_write_21 : decode cX11_write 21 = .ok (.istore_n 2, 1) := by decide +kernel
theorem dX11_write_22 : decode cX11_write 22 = .ok (.iload_n 2, 1) := by decide +kernel
theorem dX11_write_23 : decode cX11_write 23 = .ok (.bipush 60, 2) := by decide +kernel
theorem dX11_write_25 : decode cX11_write 25 = .ok (.if_icmp .ge 31, 3) := by decide +kernel
theorem dX11_write_28 : decode cX11_write 28 = .ok (.aload_n 0, 1) := by decide +kernel
theorem dX11_write_29 : decode cX11_write 29 = .ok (.getfield 7, 3) := by decide +kernel
theorem dX11_write_32 : decode cX11_write 32 = .ok (.sipush 2807, 3) := by decide +kernel
theorem dX11_write_35 : decode cX11_write 35 = .ok (.iload_n 2, 1) := by decide +kernel
theorem dX11_write_36 : decode cX11_write 36 = .ok (.iadd, 1) := by decide +kernel
theorem dX11_write_37 : decode cX11_write 37 = .ok (.iconst 2, 1) := by decide +kernel
theorem dX11_write_38 : decode cX11_write 38 = .ok (.isub, 1) := by decide +kernel
theorem dX11_write_39 : decode cX11_write 39 = .ok (.aload_n 0, 1) := by decide +kernel
theorem dX11_write_40 : decode cX11_write 40 = .ok (.getfield 7, 3) := by decide +kernel
theorem dX11_write_43 : decode cX11_write 43 = .ok (.sipush 2807, 3) := by decide +kernel
theorem dX11_write_46 : decode cX11_write 46 = .ok (.iload_n 2, 1) := by decide +kernel
theorem dX11_write_47 : decode cX11_write 47 = .ok (.iadd, 1) := by decide +kernel
theorem dX11_write_48 : decode cX11_write 48 = .ok (.iaload, 1) := by decide +kernel
theorem dX11_write_49 : decode cX11_write 49 = .ok (.iastore, 1) := by decide +kernel
theorem dX11_write_50 : decode cX11_write 50 = .ok (.iinc 2 1, 3) := by decide +kernel
theorem dX11_write_53 : decode cX11_write 53 = .ok (.goto (-31), 3) := by decide +kernel
theorem dX11_write_56 : decode cX11_write 56 = .ok (.aload_n 0, 1) := by decide +kernel
theorem dX11_write_57 : decode cX11_write 57 = .ok (.getfield 7, 3) := by decide +kernel
theorem dX11_write_60 : decode cX11_write 60 = .ok (.bipush 10, 2) := by decide +kernel
theorem dX11_write_62 : decode cX11_write 62 = .ok (.dup2, 1) := by decide +kernel
theorem dX11_write_63 : decode cX11_write 63 = .ok (.iaload, 1) := by decide +kernel
theorem dX11_write_64 : decode cX11_write 64 = .ok (.iconst 1, 1) := by decide +kernel
theorem dX11_write_65 : decode cX11_write 65 = .ok (.isub, 1) := by decide +kernel
theorem dX11_write_66 : decode cX11_write 66 = .ok (.iastore, 1) := by decide +kernel
theorem dX11_write_67 : decode cX11_write 67 = .ok (.aload_n 0, 1) := by decide +kernel
theorem dX11_write_68 : decode cX11_write 68 = .ok (.getfield 7, 3) := by decide +kernel
theorem dX11_write_71 : decode cX11_write 71 = .ok (.sipush 2807, 3) := by decide +kernel
theorem dX11_write_74 : decode cX11_write 74 = .ok (.iconst 2, 1) := by decide +kernel
theorem dX11_write_75 : decode cX11_write 75 = .ok (.aload_n 0, 1) := by decide +kernel
theorem dX11_write_76 : decode cX11_write 76 = .ok (.getfield 7, 3) := by decide +kernel
theorem dX11_write_79 : decode cX11_write 79 = .ok (.bipush 10, 2) := by decide +kernel
theorem dX11_write_81 : decode cX11_write 81 = .ok (.iaload, 1) := by decide +kernel
theorem dX11_write_82 : decode cX11_write 82 = .ok (.imul, 1) := by decide +kernel
theorem dX11_write_83 : decode cX11_write 83 = .ok (.iadd, 1) := by decide +kernel
theorem dX11_write_84 : decode cX11_write 84 = .ok (.aload_n 0, 1) := by decide +kernel
theorem dX11_write_85 : decode cX11_write 85 = .ok (.getfield 7, 3) := by decide +kernel
theorem dX11_write_88 : decode cX11_write 88 = .ok (.bipush 6, 2) := by decide +kernel
theorem dX11_write_90 : decode cX11_write 90 = .ok (.iaload, 1) := by decide +kernel
theorem dX11_write_91 : decode cX11_write 91 = .ok (.bipush 16, 2) := by decide +kernel
theorem dX11_write_93 : decode cX11_write 93 = .ok (.imul, 1) := by decide +kernel
theorem dX11_write_94 : decode cX11_write 94 = .ok (.aload_n 0, 1) := by decide +kernel
theorem dX11_write_95 : decode cX11_write 95 = .ok (.getfield 7, 3) := by decide +kernel
theorem dX11_write_98 : decode cX11_write 98 = .ok (.bipush 8, 2) := by decide +kernel
theorem dX11_write_100 : decode cX11_write 100 = .ok (.iaload, 1) := by decide +kernel
theorem dX11_write_101 : decode cX11_write 101 = .ok (.iadd, 1) := by decide +kernel
theorem dX11_write_102 : decode cX11_write 102 = .ok (.iastore, 1) := by decide +kernel
theorem dX11_write_103 : decode cX11_write 103 = .ok (.aload_n 0, 1) := by decide +kernel
theorem dX11_write_104 : decode cX11_write 104 = .ok (.getfield 7, 3) := by decide +kernel
theorem dX11_write_107 : decode cX11_write 107 = .ok (.sipush 2807, 3) := by decide +kernel
theorem dX11_write_110 : decode cX11_write 110 = .ok (.iconst 2, 1) := by decide +kernel
theorem dX11_write_111 : decode cX11_write 111 = .ok (.aload_n 0, 1) := by decide +kernel
theorem dX11_write_112 : decode cX11_write 112 = .ok (.getfield 7, 3) := by decide +kernel
theorem dX11_write_115 : decode cX11_write 115 = .ok (.bipush 10, 2) := by decide +kernel
theorem dX11_write_117 : decode cX11_write 117 = .ok (.iaload, 1) := by decide +kernel
theorem dX11_write_118 : decode cX11_write 118 = .ok (.imul, 1) := by decide +kernel
theorem dX11_write_119 : decode cX11_write 119 = .ok (.iadd, 1) := by decide +kernel
theorem dX11_write_120 : decode cX11_write 120 = .ok (.iconst 1, 1) := by decide +kernel
theorem dX11_write_121 : decode cX11_write 121 = .ok (.iadd, 1) := by decide +kernel
theorem dX11_write_122 : decode cX11_write 122 = .ok (.aload_n 0, 1) := by decide +kernel
theorem dX11_write_123 : decode cX11_write 123 = .ok (.getfield 7, 3) := by decide +kernel
theorem dX11_write_126 : decode cX11_write 126 = .ok (.bipush 7, 2) := by decide +kernel
theorem dX11_write_128 : decode cX11_write 128 = .ok (.iaload, 1) := by decide +kernel
theorem dX11_write_129 : decode cX11_write 129 = .ok (.sipush 256, 3) := by decide +kernel
theorem dX11_write_132 : decode cX11_write 132 = .ok (.imul, 1) := by decide +kernel
theorem dX11_write_133 : decode cX11_write 133 = .ok (.iload_n 1, 1) := by decide +kernel
theorem dX11_write_134 : decode cX11_write 134 = .ok (.iadd, 1) := by decide +kernel
theorem dX11_write_135 : decode cX11_write 135 = .ok (.iastore, 1) := by decide +kernel
theorem dX11_write_136 : decode cX11_write 136 = .ok (.aload_n 0, 1) := by decide +kernel
theorem dX11_write_137 : decode cX11_write 137 = .ok (.getfield 7, 3) := by decide +kernel
theorem dX11_write_140 : decode cX11_write 140 = .ok (.bipush 10, 2) := by decide +kernel
theorem dX11_write_142 : decode cX11_write 142 = .ok (.dup2, 1) := by decide +kernel
theorem dX11_write_143 : decode cX11_write 143 = .ok (.iaload, 1) := by decide +kernel
theorem dX11_write_144 : decode cX11_write 144 = .ok (.iconst 1, 1) := by decide +kernel
theorem dX11_write_145 : decode cX11_write 145 = .ok (.iadd, 1) := by decide +kernel
theorem dX11_write_146 : decode cX11_write 146 = .ok (.iastore, 1) := by decide +kernel
theorem dX11_write_147 : decode cX11_write 147 = .ok (.return_, 1) := by decide +kernel
def B_X11_write_67 (o0 : Nat) (i1 : Int32) (μ : Me) (Q : Me → Prop) : Prop := mok μ o0 11 ∧ ∃ t5, mgr μ o0 0 = some t5 ∧ ∃ t6, mgr μ o0 0 = some t6 ∧ mok μ t6 12 ∧ vp_in (10 : Int32) (mln μ t6) ∧ ∃ t8, mgr μ o0 0 = some t8 ∧ mok μ t8 12 ∧ vp_in (6 : Int32) (mln μ t8) ∧ ∃ t10, mgr μ o0 0 = some t10 ∧ mok μ t10 12 ∧ vp_in (8 : Int32) (mln μ t10) ∧ mok μ t5 12 ∧ vp_in (2807 + (2 * (mgi μ t6 (10 : Int32).toNatClampNeg))) (mln μ t5) ∧ ∀ μ13, μ13 = msi μ t5 (2807 + (2 * (mgi μ t6 (10 : Int32).toNatClampNeg))).toNatClampNeg (((mgi μ t8 (6 : Int32).toNatClampNeg) * 16) + (mgi μ t10 (8 : Int32).toNatClampNeg)) → ∃ t14, mgr μ13 o0 0 = some t14 ∧ ∃ t15, mgr μ13 o0 0 = some t15 ∧ mok μ13 t15 12 ∧ vp_in (10 : Int32) (mln μ13 t15) ∧ ∃ t17, mgr μ13 o0 0 = some t17 ∧ mok μ13 t17 12 ∧ vp_in (7 : Int32) (mln μ13 t17) ∧ mok μ13 t14 12 ∧ vp_in ((2807 + (2 * (mgi μ13 t15 (10 : Int32).toNatClampNeg))) + 1) (mln μ13 t14) ∧ ∀ μ20, μ20 = msi μ13 t14 ((2807 + (2 * (mgi μ13 t15 (10 : Int32).toNatClampNeg))) + 1).toNatClampNeg (((mgi μ13 t17 (7 : Int32).toNatClampNeg) * 256) + i1) → ∃ t21, mgr μ20 o0 0 = some t21 ∧ mok μ20 t21 12 ∧ vp_in (10 : Int32) (mln μ20 t21) ∧ vp_in (10 : Int32) (mln μ20 t21) ∧ ∀ μ23, μ23 = msi μ20 t21 (10 : Int32).toNatClampNeg ((mgi μ20 t21 (10 : Int32).toNatClampNeg) + 1) → Q μ23
set_option maxHeartbeats 4000000 in
set_option maxRecDepth 100000 in
theorem tB_X11_write_67 {x : GX} (f : Fx x cX11_write RX11 3 (rmc 0 0 0)) {o0 : Nat} {i1 : Int32} {μ : Me} {Q : Me → Prop} (hq : Rt x none (qV Q)) (h : B_X11_write_67 o0 i1 μ Q) : G x 3 67 [(0, .ref (gB x + o0)), (1, .int i1)] [] μ 0 0 := by
  unfold B_X11_write_67 at h
  refine g_aload_n f 0 dX11_write_67 rfl rfl ?_
  obtain ⟨v4, h⟩ := h
  refine g_getR f fk_X11_7 v4 dX11_write_68 rfl h (fun t5 h => ?_)
  refine g_sipush f 2807 dX11_write_71 ks_2807 ?_
  refine g_iconst f 2 dX11_write_74 kc_2 ?_
  refine g_aload_n f 0 dX11_write_75 rfl rfl ?_
  refine g_getR f fk_X11_7 v4 dX11_write_76 rfl h (fun t6 h => ?_)
  refine g_bipush f 10 dX11_write_79 kb_10 ?_
  obtain ⟨v7, h⟩ := h
  refine g_iald f v7 dX11_write_81 h (fun h => ?_)
  refine g_imul f dX11_write_82 ?_
  refine g_iadd f dX11_write_83 ?_
  refine g_aload_n f 0 dX11_write_84 rfl rfl ?_
  refine g_getR f fk_X11_7 v4 dX11_write_85 rfl h (fun t8 h => ?_)
  refine g_bipush f 6 dX11_write_88 kb_6 ?_
  obtain ⟨v9, h⟩ := h
  refine g_iald f v9 dX11_write_90 h (fun h => ?_)
  refine g_bipush f 16 dX11_write_91 kb_16 ?_
  refine g_imul f dX11_write_93 ?_
  refine g_aload_n f 0 dX11_write_94 rfl rfl ?_
  refine g_getR f fk_X11_7 v4 dX11_write_95 rfl h (fun t10 h => ?_)
  refine g_bipush f 8 dX11_write_98 kb_8 ?_
  obtain ⟨v11, h⟩ := h
  refine g_iald f v11 dX11_write_100 h (fun h => ?_)
  refine g_iadd f dX11_write_101 ?_
  obtain ⟨v12, h⟩ := h
  refine g_iast f v12 dX11_write_102 h (fun h => ?_)
  refine g_aload_n f 0 dX11_write_103 rfl rfl ?_
  refine g_getR f fk_X11_7 v4 dX11_write_104 rfl h (fun t14 h => ?_)
  refine g_sipush f 2807 dX11_write_107 ks_2807 ?_
  refine g_iconst f 2 dX11_write_110 kc_2 ?_
  refine g_aload_n f 0 dX11_write_111 rfl rfl ?_
  refine g_getR f fk_X11_7 v4 dX11_write_112 rfl h (fun t15 h => ?_)
  refine g_bipush f 10 dX11_write_115 kb_10 ?_
  obtain ⟨v16, h⟩ := h
  refine g_iald f v16 dX11_write_117 h (fun h => ?_)
  refine g_imul f dX11_write_118 ?_
  refine g_iadd f dX11_write_119 ?_
  refine g_iconst f 1 dX11_write_120 kc_1 ?_
  refine g_iadd f dX11_write_121 ?_
  refine g_aload_n f 0 dX11_write_122 rfl rfl ?_
  refine g_getR f fk_X11_7 v4 dX11_write_123 rfl h (fun t17 h => ?_)
  refine g_bipush f 7 dX11_write_126 kb_7 ?_
  obtain ⟨v18, h⟩ := h
  refine g_iald f v18 dX11_write_128 h (fun h => ?_)
  refine g_sipush f 256 dX11_write_129 ks_256 ?_
  refine g_imul f dX11_write_132 ?_
  refine g_iload_n f 1 dX11_write_133 rfl rfl ?_
  refine g_iadd f dX11_write_134 ?_
  obtain ⟨v19, h⟩ := h
  refine g_iast f v19 dX11_write_135 h (fun h => ?_)
  refine g_aload_n f 0 dX11_write_136 rfl rfl ?_
  refine g_getR f fk_X11_7 v4 dX11_write_137 rfl h (fun t21 h => ?_)
  refine g_bipush f 10 dX11_write_140 kb_10 ?_
  refine g_dup2_11 f dX11_write_142 rfl rfl ?_
  obtain ⟨v22, h⟩ := h
  refine g_iald f v22 dX11_write_143 h (fun h => ?_)
  refine g_iconst f 1 dX11_write_144 kc_1 ?_
  refine g_iadd f dX11_write_145 ?_
  refine g_iast f v22 dX11_write_146 h (fun h => ?_)
  exact g_vret f hq (Nat.le_of_ble_eq_true rfl) (Nat.le_of_ble_eq_true rfl) dX11_write_147 h
def B_X11_write_22 (o0 : Nat) (i1 : Int32) (i2 : Int32) (μ : Me) (K22 : Int32 → Me → Prop) (Q : Me → Prop) : Prop := ((60 ≤ i2 → mok μ o0 11 ∧ ∃ t25, mgr μ o0 0 = some t25 ∧ mok μ t25 12 ∧ vp_in (10 : Int32) (mln μ t25) ∧ vp_in (10 : Int32) (mln μ t25) ∧ ∀ μ27, μ27 = msi μ t25 (10 : Int32).toNatClampNeg ((mgi μ t25 (10 : Int32).toNatClampNeg) - 1) → B_X11_write_67 o0 i1 μ27 Q) ∧ (¬ 60 ≤ i2 → mok μ o0 11 ∧ ∃ t29, mgr μ o0 0 = some t29 ∧ ∃ t30, mgr μ o0 0 = some t30 ∧ mok μ t30 12 ∧ vp_in (2807 + i2) (mln μ t30) ∧ mok μ t29 12 ∧ vp_in ((2807 + i2) - 2) (mln μ t29) ∧ ∀ μ33, μ33 = msi μ t29 ((2807 + i2) - 2).toNatClampNeg (mgi μ t30 (2807 + i2).toNatClampNeg) → K22 (i2 + 1) μ33))
set_option maxHeartbeats 4000000 in
set_option maxRecDepth 100000 in
theorem tB_X11_write_22 {x : GX} (f : Fx x cX11_write RX11 3 (rmc 0 0 0)) {o0 : Nat} {i1 : Int32} {i2 : Int32} {μ : Me} {Q : Me → Prop} (hq : Rt x none (qV Q)) {K22 : Int32 → Me → Prop} (hK22 : ∀ (a2 : Int32) (ν : Me), K22 a2 ν → G x 3 22 [(0, .ref (gB x + o0)), (1, .int i1), (2, .int a2)] [] ν 0 0) (h : B_X11_write_22 o0 i1 i2 μ K22 Q) : G x 3 22 [(0, .ref (gB x + o0)), (1, .int i1), (2, .int i2)] [] μ 0 0 := by
  unfold B_X11_write_22 at h
  refine g_iload_n f 2 dX11_write_22 rfl rfl ?_
  refine g_bipush f 60 dX11_write_23 kb_60 ?_
  refine g_ic_ge f 56 dX11_write_25 rfl h (fun h => ?_) (fun h => ?_)
  · refine g_aload_n f 0 dX11_write_56 rfl rfl ?_
    obtain ⟨v24, h⟩ := h
    refine g_getR f fk_X11_7 v24 dX11_write_57 rfl h (fun t25 h => ?_)
    refine g_bipush f 10 dX11_write_60 kb_10 ?_
    refine g_dup2_11 f dX11_write_62 rfl rfl ?_
    obtain ⟨v26, h⟩ := h
    refine g_iald f v26 dX11_write_63 h (fun h => ?_)
    refine g_iconst f 1 dX11_write_64 kc_1 ?_
    refine g_isub f dX11_write_65 ?_
    refine g_iast f v26 dX11_write_66 h (fun h => ?_)
    exact h_sub [0, 1] rfl (tB_X11_write_67 f hq h)
  · refine g_aload_n f 0 dX11_write_28 rfl rfl ?_
    obtain ⟨v28, h⟩ := h
    refine g_getR f fk_X11_7 v28 dX11_write_29 rfl h (fun t29 h => ?_)
    refine g_sipush f 2807 dX11_write_32 ks_2807 ?_
    refine g_iload_n f 2 dX11_write_35 rfl rfl ?_
    refine g_iadd f dX11_write_36 ?_
    refine g_iconst f 2 dX11_write_37 kc_2 ?_
    refine g_isub f dX11_write_38 ?_
    refine g_aload_n f 0 dX11_write_39 rfl rfl ?_
    refine g_getR f fk_X11_7 v28 dX11_write_40 rfl h (fun t30 h => ?_)
    refine g_sipush f 2807 dX11_write_43 ks_2807 ?_
    refine g_iload_n f 2 dX11_write_46 rfl rfl ?_
    refine g_iadd f dX11_write_47 ?_
    obtain ⟨v31, h⟩ := h
    refine g_iald f v31 dX11_write_48 h (fun h => ?_)
    obtain ⟨v32, h⟩ := h
    refine g_iast f v32 dX11_write_49 h (fun h => ?_)
    refine h_iinc f 2 1 dX11_write_50 rfl kc_1 (by decide) ?_
    refine g_goto f 22 dX11_write_53 rfl ?_
    exact h_sub [1, 2, 0] rfl (hK22 _ _ h)
def L_X11_write_22 (o0 : Nat) (i1 : Int32) (i2 : Int32) (μ : Me) (Q : Me → Prop) : Prop := ∃ I : Int32 → Me → Nat → Prop, (∃ n, I i2 μ n) ∧ ∀ (i2 : Int32) (μ : Me) (n : Nat), I i2 μ n → B_X11_write_22 o0 i1 i2 μ (fun a2 ν => ∃ n', n' < n ∧ I a2 ν n') Q
set_option maxHeartbeats 4000000 in
set_option maxRecDepth 100000 in
theorem tL_X11_write_22 {x : GX} (f : Fx x cX11_write RX11 3 (rmc 0 0 0)) {o0 : Nat} {i1 : Int32} {i2 : Int32} {μ : Me} {Q : Me → Prop} (hq : Rt x none (qV Q)) (h : L_X11_write_22 o0 i1 i2 μ Q) : G x 3 22 [(0, .ref (gB x + o0)), (1, .int i1), (2, .int i2)] [] μ 0 0 := by
  obtain ⟨I, ⟨n, hI⟩, hs⟩ := h
  induction n using Nat.strongRecOn generalizing i2 μ with
  | ind n ih => exact tB_X11_write_22 f hq (fun a2 ν hk => by obtain ⟨n2, hn, hI2⟩ := hk; exact ih n2 hn hI2) (hs _ _ _ hI)
def S_X11_write (o0 : Nat) (i1 : Int32) (μ : Me) (Q : Me → Prop) : Prop := mok μ o0 11 ∧ ((¬ (mgi μ o0 24) = 0 → ∃ t2, mgr μ o0 0 = some t2 ∧ mok μ t2 12 ∧ vp_in (10 : Int32) (mln μ t2) ∧ ((¬ (mgi μ t2 (10 : Int32).toNatClampNeg) = 30 → B_X11_write_67 o0 i1 μ Q) ∧ ((mgi μ t2 (10 : Int32).toNatClampNeg) = 30 → L_X11_write_22 o0 i1 2 μ Q))) ∧ ((mgi μ o0 24) = 0 → Q μ))
set_option maxHeartbeats 4000000 in
set_option maxRecDepth 100000 in
theorem t_X11_write {x : GX} (f : Fx x cX11_write RX11 3 (rmc 0 0 0)) {o0 : Nat} {i1 : Int32} {μ : Me} {Q : Me → Prop} (hq : Rt x none (qV Q)) (h : S_X11_write o0 i1 μ Q) : G x 3 0 [(0, .ref (gB x + o0)), (1, .int i1)] [] μ 0 0 := by
  unfold S_X11_write at h
  refine g_aload_n f 0 dX11_write_0 rfl rfl ?_
  obtain ⟨v1, h⟩ := h
  refine g_getI f fk_X11_43 v1 dX11_write_1 rfl ?_
  refine g_if_ne f 8 dX11_write_4 rfl h (fun h => ?_) (fun h => ?_)
  · refine g_aload_n f 0 dX11_write_8 rfl rfl ?_
    refine g_getR f fk_X11_7 v1 dX11_write_9 rfl h (fun t2 h => ?_)
    refine g_bipush f 10 dX11_write_12 kb_10 ?_
    obtain ⟨v3, h⟩ := h
    refine g_iald f v3 dX11_write_14 h (fun h => ?_)
    refine g_bipush f 30 dX11_write_15 kb_30 ?_
    refine g_ic_ne f 67 dX11_write_17 rfl h (fun h => ?_) (fun h => ?_)
    · exact h_sub [0, 1] rfl (tB_X11_write_67 f hq h)
    · refine g_iconst f 2 dX11_write_20 kc_2 ?_
      refine h_istore_n f dX11_write_21 rfl (by decide) ?_
      exact h_sub [1, 2, 0] rfl (tL_X11_write_22 f hq h)
  · exact g_vret f hq (Nat.le_of_ble_eq_true rfl) (Nat.le_of_ble_eq_true rfl) dX11_write_7 h
theorem c_X11_write {Ω : OM} {o0 : Nat} {i1 : Int32} {μ : Me} {Q : Me → Prop} (h : S_X11_write o0 i1 μ Q) : CT Ω yX11_write cX11_write 3 none (rmc 0 0 0) [.ref (oB Ω + o0), .int i1] μ (qV Q) := CT_of (by decide) rfl (by simp [lg_sl, Value.category]) (fun x hΩ f hq hi => by subst hΩ; exact t_X11_write f hq h)
theorem dX11_pass_0 : decode cX11_pass 0 = .ok (.aload_n 0, 1) := by decide +kernel
theorem dX11_pass_1 : decode cX11_pass 1 = .ok (.getfield 7, 3) := by decide +kernel
theorem dX11_pass_4 : decode cX11_pass 4 = .ok (.bipush 8, 2) := by decide +kernel
theorem dX11_pass_6 : decode cX11_pass 6 = .ok (.aload_n 0, 1) := by decide +kernel
theorem dX11_pass_7 : decode cX11_pass 7 = .ok (.getfield 7, 3) := by decide +kernel
theorem dX11_pass_10 : decode cX11_pass 10 = .ok (.bipush 9, 2) := by decide +kernel
theorem dX11_pass_12 : decode cX11_pass 12 = .ok (.iaload, 1) := by decide +kernel
theorem dX11_pass_13 : decode cX11_pass 13 = .ok (.bipush 10, 2) := by decide +kernel
theorem dX11_pass_15 : decode cX11_pass 15 = .ok (.irem, 1) := by decide +kernel
theorem dX11_pass_16 : decode cX11_pass 16 = .ok (.iastore, 1) := by decide +kernel
theorem dX11_pass_17 : decode cX11_pass 17 = .ok (.aload_n 0, 1) := by decide +kernel
theorem dX11_pass_18 : decode cX11_pass 18 = .ok (.invokevirtual 317, 3) := by decide +kernel
theorem dX11_pass_21 : decode cX11_pass 21 = .ok (.aload_n 0, 1) := by decide +kernel
theorem dX11_pass_22 : decode cX11_pass 22 = .ok (.aload_n 0, 1) := by decide +kernel
theorem dX11_pass_23 : decode cX11_pass 23 = .ok (.getfield 7, 3) := by decide +kernel
theorem dX11_pass_26 : decode cX11_pass 26 = .ok (.bipush 7, 2) := by decide +kernel
theorem dX11_pass_28 : decode cX11_pass 28 = .ok (.iaload, 1) := by decide +kernel
theorem dX11_pass_29 : decode cX11_pass 29 = .ok (.invokevirtual 320, 3) := by decide +kernel
theorem dX11_pass_32 : decode cX11_pass 32 = .ok (.istore_n 1, 1) := by decide +kernel
theorem dX11_pass_33 : decode cX11_pass 33 = .ok (.iconst 0, 1) := by decide +kernel
theorem dX11_pass_34 : decode cX11_pass 34 = .ok (.istore_n 2, 1) := by decide +kernel
theorem dX11_pass_35 : decode cX11_pass 35 = .ok (.iload_n 2, 1) := by decide +kernel
theorem dX11_pass_36 : decode cX11_pass 36 = .ok (.aload_n 0, 1) := by decide +kernel
theorem dX11_pass_37 : decode cX11_pass 37 = .ok (.getfield 7, 3) := by decide +kernel
theorem dX11_pass_40 : decode cX11_pass 40 = .ok (.iconst 0, 1) := by decide +kernel
theorem dX11_pass_41 : decode cX11_pass 41 = .ok (.iaload, 1) := by decide +kernel
theorem dX11_pass_42 : decode cX11_pass 42 = .ok (.if_icmp .ge 39, 3) := by decide +kernel
theorem dX11_pass_45 : decode cX11_pass 45 = .ok (.iload_n 1, 1) := by decide +kernel
theorem dX11_pass_46 : decode cX11_pass 46 = .ok (.iload_n 2, 1) := by decide +kernel
theorem dX11_pass_47 : decode cX11_pass 47 = .ok (.invokestatic 246, 3) := by decide +kernel
theorem dX11_pass_50 : decode cX11_pass 50 = .ok (.ifCond .eq 25, 3) := by decide +kernel
theorem dX11_pass_53 : decode cX11_pass 53 = .ok (.aload_n 0, 1) := by decide +kernel
theorem dX11_pass_54 : decode cX11_pass 54 = .ok (.iload_n 2, 1) := by decide +kernel
theorem dX11_pass_55 : decode cX11_pass 55 = .ok (.iconst 2, 1) := by decide +kernel
theorem dX11_pass_56 : decode cX11_pass 56 = .ok (.aload_n 0, 1) := by decide +kernel
theorem dX11_pass_57 : decode cX11_pass 57 = .ok (.iload_n 2, 1) := by decide +kernel
theorem dX11_pass_58 : decode cX11_pass 58 = .ok (.iconst 2, 1) := by decide +kernel
theorem dX11_pass_59 : decode cX11_pass 59 = .ok (.invokevirtual 74, 3) := by decide +kernel
theorem dX11_pass_62 : decode cX11_pass 62 = .ok (.iconst 1, 1) := by decide +kernel
theorem dX11_pass_63 : decode cX11_pass 63 = .ok (.iadd, 1) := by decide +kernel
theorem dX11_pass_64 : decode cX11_pass 64 = .ok (.i2l, 1) := by decide +kernel
theorem dX11_pass_65 : decode cX11_pass 65 = .ok (.iconst 0, 1) := by decide +kernel
theorem dX11_pass_66 : decode cX11_pass 66 = .ok (.sipush 9999, 3) := by decide +kernel
theorem dX11_pass_69 : decode cX11_pass 69 = .ok (.invokestatic 288, 3) := by decide +kernel
theorem dX11_pass_72 : decode cX11_pass 72 = .ok (.invokevirtual 78, 3) := by decide +kernel
theorem dX11_pass_75 : decode cX11_pass 75 = .ok (.iinc 2 1, 3) := by decide +kernel
theorem dX11_pass_78 : decode cX11_pass 78 = .ok (.goto (-43), 3) := by decide +kernel
theorem dX11_pass_81 : decode cX11_pass 81 = .ok (.aload_n 0, 1) := by decide +kernel
theorem dX11_pass_82 : decode cX11_pass 82 = .ok (.dup, 1) := by decide +kernel
theorem dX11_pass_83 : decode cX11_pass 83 = .ok (.getfield 323, 3) := by decide +kernel
theorem dX11_pass_86 : decode cX11_pass 86 = .ok (.iload_n 1, 1) := by decide +kernel
theorem dX11_pass_87 : decode cX11_pass 87 = .ok (.invokestatic 298, 3) := by decide +kernel
theorem dX11_pass_90 : decode cX11_pass 90 = .ok (.iadd, 1) := by decide +kernel
theorem dX11_pass_91 : decode cX11_pass 91 = .ok (.putfield 323, 3) := by decide +kernel
theorem dX11_pass_94 : decode cX11_pass 94 = .ok (.aload_n 0, 1) := by decide +kernel
theorem dX11_pass_95 : decode cX11_pass 95 = .ok (.iload_n 1, 1) := by decide +kernel
theorem dX11_pass_96 : decode cX11_pass 96 = .ok (.invokevirtual 326, 3) := by decide +kernel
theorem dX11_pass_99 : decode cX11_pass 99 = .ok (.aload_n 0, 1) := by decide +kernel
theorem dX11_pass_100 : decode cX11_pass 100 = .ok (.getfield 7, 3) := by decide +kernel
theorem dX11_pass_103 : decode cX11_pass 103 = .ok (.bipush 7, 2) := by decide +kernel
theorem dX11_pass_105 : decode cX11_pass 105 = .ok (.iload_n 1, 1) := by decide +kernel
theorem dX11_pass_106 : decode cX11_pass 106 = .ok (.iastore, 1) := by decide +kernel
theorem dX11_pass_107 : decode cX11_pass 107 = .ok (.aload_n 0, 1) := by decide +kernel
theorem dX11_pass_108 : decode cX11_pass 108 = .ok (.getfield 7, 3) := by decide +kernel
theorem dX11_pass_111 : decode cX11_pass 111 = .ok (.bipush 6, 2) := by decide +kernel
theorem dX11_pass_113 : decode cX11_pass 113 = .ok (.dup2, 1) := by decide +kernel
theorem dX11_pass_114 : decode cX11_pass 114 = .ok (.iaload, 1) := by decide +kernel
theorem dX11_pass_115 : decode cX11_pass 115 = .ok (.iconst 1, 1) := by decide +kernel
theorem dX11_pass_116 : decode cX11_pass 116 = .ok (.iadd, 1) := by decide +kernel
theorem dX11_pass_117 : decode cX11_pass 117 = .ok (.iastore, 1) := by decide +kernel
theorem dX11_pass_118 : decode cX11_pass 118 = .ok (.return_, 1) := by decide +kernel
def B_X11_pass_75 (o0 : Nat) (i1 : Int32) (i2 : Int32) (μ : Me) (K35 : Int32 → Me → Prop) (Q : Me → Prop) : Prop := K35 (i2 + 1) μ
set_option maxHeartbeats 4000000 in
set_option maxRecDepth 100000 in
theorem tB_X11_pass_75 {x : GX} (f : Fx x cX11_pass RX11 3 (rmc 6 0 0)) {o0 : Nat} {i1 : Int32} {i2 : Int32} {μ : Me} {Q : Me → Prop} (hq : Rt x none (qV Q)) {K35 : Int32 → Me → Prop} (hK35 : ∀ (a2 : Int32) (ν : Me), K35 a2 ν → G x 3 35 [(0, .ref (gB x + o0)), (1, .int i1), (2, .int a2)] [] ν 0 0) (h : B_X11_pass_75 o0 i1 i2 μ K35 Q) : G x 3 75 [(0, .ref (gB x + o0)), (1, .int i1), (2, .int i2)] [] μ 0 0 := by
  unfold B_X11_pass_75 at h
  refine h_iinc f 2 1 dX11_pass_75 rfl kc_1 (by decide) ?_
  refine g_goto f 35 dX11_pass_78 rfl ?_
  exact h_sub [1, 2, 0] rfl (hK35 _ _ h)
def B_X11_pass_35 (o0 : Nat) (i1 : Int32) (i2 : Int32) (μ : Me) (K35 : Int32 → Me → Prop) (Q : Me → Prop) : Prop := mok μ o0 11 ∧ ∃ t16, mgr μ o0 0 = some t16 ∧ mok μ t16 12 ∧ vp_in (0 : Int32) (mln μ t16) ∧ (((mgi μ t16 (0 : Int32).toNatClampNeg) ≤ i2 → S_X11_bits i1 μ (fun r20 μ18 => ∀ μ21, μ21 = msi μ18 o0 25 ((mgi μ o0 25) + r20) → S_X11_write o0 i1 μ21 (fun μ22 => ∃ t25, mgr μ22 o0 0 = some t25 ∧ mok μ22 t25 12 ∧ vp_in (7 : Int32) (mln μ22 t25) ∧ ∀ μ27, μ27 = msi μ22 t25 (7 : Int32).toNatClampNeg i1 → ∃ t28, mgr μ27 o0 0 = some t28 ∧ mok μ27 t28 12 ∧ vp_in (6 : Int32) (mln μ27 t28) ∧ vp_in (6 : Int32) (mln μ27 t28) ∧ ∀ μ30, μ30 = msi μ27 t28 (6 : Int32).toNatClampNeg ((mgi μ27 t28 (6 : Int32).toNatClampNeg) + 1) → Q μ30))) ∧ (¬ (mgi μ t16 (0 : Int32).toNatClampNeg) ≤ i2 → S_X11_has i1 i2 μ (fun r33 μ31 => ((r33 = 0 → B_X11_pass_75 o0 i1 i2 μ31 K35 Q) ∧ (¬ r33 = 0 → S_X11_get o0 i2 2 μ31 (fun r36 μ34 => S_X11_cut (r36 + 1).toInt64 0 9999 μ34 (fun r39 μ37 => S_X11_put o0 i2 2 r39 μ37 (fun μ40 => B_X11_pass_75 o0 i1 i2 μ40 K35 Q))))))))
set_option maxHeartbeats 4000000 in
set_option maxRecDepth 100000 in
theorem tB_X11_pass_35 {x : GX} (f : Fx x cX11_pass RX11 3 (rmc 6 0 0)) {o0 : Nat} {i1 : Int32} {i2 : Int32} {μ : Me} {Q : Me → Prop} (hq : Rt x none (qV Q)) {K35 : Int32 → Me → Prop} (hK35 : ∀ (a2 : Int32) (ν : Me), K35 a2 ν → G x 3 35 [(0, .ref (gB x + o0)), (1, .int i1), (2, .int a2)] [] ν 0 0) (h : B_X11_pass_35 o0 i1 i2 μ K35 Q) : G x 3 35 [(0, .ref (gB x + o0)), (1, .int i1), (2, .int i2)] [] μ 0 0 := by
  unfold B_X11_pass_35 at h
  refine g_iload_n f 2 dX11_pass_35 rfl rfl ?_
  refine g_aload_n f 0 dX11_pass_36 rfl rfl ?_
  obtain ⟨v15, h⟩ := h
  refine g_getR f fk_X11_7 v15 dX11_pass_37 rfl h (fun t16 h => ?_)
  refine g_iconst f 0 dX11_pass_40 kc_0 ?_
  obtain ⟨v17, h⟩ := h
  refine g_iald f v17 dX11_pass_41 h (fun h => ?_)
  refine g_ic_ge f 81 dX11_pass_42 rfl h (fun h => ?_) (fun h => ?_)
  · refine g_aload_n f 0 dX11_pass_81 rfl rfl ?_
    refine g_dup f dX11_pass_82 rfl ?_
    refine g_getI f fk_X11_323 v15 dX11_pass_83 rfl ?_
    refine g_iload_n f 1 dX11_pass_86 rfl rfl ?_
    refine g_callS f mk_X11_298 (c_X11_bits h) dX11_pass_87 rfl rfl (Nat.le_of_ble_eq_true rfl) (rm_ok (by decide) (by decide)) ⟨Nat.le_of_ble_eq_true rfl, Nat.le_of_ble_eq_true rfl⟩ (kI fun r20 μ18 x19 h => ?_)
    refine g_iadd f dX11_pass_90 ?_
    have v15 := mex_ok x19 v15
    refine g_putI f fk_X11_323 v15 dX11_pass_91 rfl h (fun h => ?_)
    refine g_aload_n f 0 dX11_pass_94 rfl rfl ?_
    refine g_iload_n f 1 dX11_pass_95 rfl rfl ?_
    refine g_callV f mk_X11_326 v15 (c_X11_write h) dX11_pass_96 rfl rfl (Nat.le_of_ble_eq_true rfl) (rm_ok (by decide) (by decide)) ⟨Nat.le_of_ble_eq_true rfl, Nat.le_of_ble_eq_true rfl⟩ (kV fun μ22 x23 h => ?_)
    refine g_aload_n f 0 dX11_pass_99 rfl rfl ?_
    have v15 := mex_ok x23 v15
    refine g_getR f fk_X11_7 v15 dX11_pass_100 rfl h (fun t25 h => ?_)
    refine g_bipush f 7 dX11_pass_103 kb_7 ?_
    refine g_iload_n f 1 dX11_pass_105 rfl rfl ?_
    obtain ⟨v26, h⟩ := h
    refine g_iast f v26 dX11_pass_106 h (fun h => ?_)
    refine g_aload_n f 0 dX11_pass_107 rfl rfl ?_
    refine g_getR f fk_X11_7 v15 dX11_pass_108 rfl h (fun t28 h => ?_)
    refine g_bipush f 6 dX11_pass_111 kb_6 ?_
    refine g_dup2_11 f dX11_pass_113 rfl rfl ?_
    obtain ⟨v29, h⟩ := h
    refine g_iald f v29 dX11_pass_114 h (fun h => ?_)
    refine g_iconst f 1 dX11_pass_115 kc_1 ?_
    refine g_iadd f dX11_pass_116 ?_
    refine g_iast f v29 dX11_pass_117 h (fun h => ?_)
    exact g_vret f hq (Nat.le_of_ble_eq_true rfl) (Nat.le_of_ble_eq_true rfl) dX11_pass_118 h
  · refine g_iload_n f 1 dX11_pass_45 rfl rfl ?_
    refine g_iload_n f 2 dX11_pass_46 rfl rfl ?_
    refine g_callS f mk_X11_246 (c_X11_has h) dX11_pass_47 rfl rfl (Nat.le_of_ble_eq_true rfl) (rm_ok (by decide) (by decide)) ⟨Nat.le_of_ble_eq_true rfl, Nat.le_of_ble_eq_true rfl⟩ (kI fun r33 μ31 x32 h => ?_)
    refine g_if_eq f 75 dX11_pass_50 rfl h (fun h => ?_) (fun h => ?_)
    · exact h_sub [0, 1, 2] rfl (tB_X11_pass_75 f hq hK35 h)
    · refine g_aload_n f 0 dX11_pass_53 rfl rfl ?_
      refine g_iload_n f 2 dX11_pass_54 rfl rfl ?_
      refine g_iconst f 2 dX11_pass_55 kc_2 ?_
      refine g_aload_n f 0 dX11_pass_56 rfl rfl ?_
      refine g_iload_n f 2 dX11_pass_57 rfl rfl ?_
      refine g_iconst f 2 dX11_pass_58 kc_2 ?_
      have v15 := mex_ok x32 v15
      refine g_callV f mk_X11_74 v15 (c_X11_get h) dX11_pass_59 rfl rfl (Nat.le_of_ble_eq_true rfl) (rm_ok (by decide) (by decide)) ⟨Nat.le_of_ble_eq_true rfl, Nat.le_of_ble_eq_true rfl⟩ (kI fun r36 μ34 x35 h => ?_)
      refine g_iconst f 1 dX11_pass_62 kc_1 ?_
      refine g_iadd f dX11_pass_63 ?_
      refine g_i2l f dX11_pass_64 ?_
      refine g_iconst f 0 dX11_pass_65 kc_0 ?_
      refine g_sipush f 9999 dX11_pass_66 ks_9999 ?_
      refine g_callS f mk_X11_288 (c_X11_cut h) dX11_pass_69 rfl rfl (Nat.le_of_ble_eq_true rfl) (rm_ok (by decide) (by decide)) ⟨Nat.le_of_ble_eq_true rfl, Nat.le_of_ble_eq_true rfl⟩ (kI fun r39 μ37 x38 h => ?_)
      have v15 := mex_ok x35 v15
      have v15 := mex_ok x38 v15
      refine g_callV f mk_X11_78 v15 (c_X11_put h) dX11_pass_72 rfl rfl (Nat.le_of_ble_eq_true rfl) (rm_ok (by decide) (by decide)) ⟨Nat.le_of_ble_eq_true rfl, Nat.le_of_ble_eq_true rfl⟩ (kV fun μ40 x41 h => ?_)
      exact h_sub [0, 1, 2] rfl (tB_X11_pass_75 f hq hK35 h)
def L_X11_pass_35 (o0 : Nat) (i1 : Int32) (i2 : Int32) (μ : Me) (Q : Me → Prop) : Prop := ∃ I : Int32 → Me → Nat → Prop, (∃ n, I i2 μ n) ∧ ∀ (i2 : Int32) (μ : Me) (n : Nat), I i2 μ n → B_X11_pass_35 o0 i1 i2 μ (fun a2 ν => ∃ n', n' < n ∧ I a2 ν n') Q
set_option maxHeartbeats 4000000 in
set_option maxRecDepth 100000 in
theorem tL_X11_pass_35 {x : GX} (f : Fx x cX11_pass RX11 3 (rmc 6 0 0)) {o0 : Nat} {i1 : Int32} {i2 : Int32} {μ : Me} {Q : Me → Prop} (hq : Rt x none (qV Q)) (h : L_X11_pass_35 o0 i1 i2 μ Q) : G x 3 35 [(0, .ref (gB x + o0)), (1, .int i1), (2, .int i2)] [] μ 0 0 := by
  obtain ⟨I, ⟨n, hI⟩, hs⟩ := h
  induction n using Nat.strongRecOn generalizing i2 μ with
  | ind n ih => exact tB_X11_pass_35 f hq (fun a2 ν hk => by obtain ⟨n2, hn, hI2⟩ := hk; exact ih n2 hn hI2) (hs _ _ _ hI)
def S_X11_pass (o0 : Nat) (μ : Me) (Q : Me → Prop) : Prop := mok μ o0 11 ∧ ∃ t2, mgr μ o0 0 = some t2 ∧ ∃ t3, mgr μ o0 0 = some t3 ∧ mok μ t3 12 ∧ vp_in (9 : Int32) (mln μ t3) ∧ mok μ t2 12 ∧ vp_in (8 : Int32) (mln μ t2) ∧ ∀ μ6, μ6 = msi μ t2 (8 : Int32).toNatClampNeg ((mgi μ t3 (9 : Int32).toNatClampNeg) - (mgi μ t3 (9 : Int32).toNatClampNeg) / 10 * 10) → S_X11_anew o0 μ6 (fun μ7 => ∃ t10, mgr μ7 o0 0 = some t10 ∧ mok μ7 t10 12 ∧ vp_in (7 : Int32) (mln μ7 t10) ∧ S_X11_lateBy o0 (mgi μ7 t10 (7 : Int32).toNatClampNeg) μ7 (fun r14 μ12 => L_X11_pass_35 o0 r14 0 μ12 Q))
set_option maxHeartbeats 4000000 in
set_option maxRecDepth 100000 in
theorem t_X11_pass {x : GX} (f : Fx x cX11_pass RX11 3 (rmc 6 0 0)) {o0 : Nat} {μ : Me} {Q : Me → Prop} (hq : Rt x none (qV Q)) (h : S_X11_pass o0 μ Q) : G x 3 0 [(0, .ref (gB x + o0))] [] μ 0 0 := by
  unfold S_X11_pass at h
  refine g_aload_n f 0 dX11_pass_0 rfl rfl ?_
  obtain ⟨v1, h⟩ := h
  refine g_getR f fk_X11_7 v1 dX11_pass_1 rfl h (fun t2 h => ?_)
  refine g_bipush f 8 dX11_pass_4 kb_8 ?_
  refine g_aload_n f 0 dX11_pass_6 rfl rfl ?_
  refine g_getR f fk_X11_7 v1 dX11_pass_7 rfl h (fun t3 h => ?_)
  refine g_bipush f 9 dX11_pass_10 kb_9 ?_
  obtain ⟨v4, h⟩ := h
  refine g_iald f v4 dX11_pass_12 h (fun h => ?_)
  refine g_bipush f 10 dX11_pass_13 kb_10 ?_
  refine g_irem f dX11_pass_15 (by decide) ?_
  obtain ⟨v5, h⟩ := h
  refine g_iast f v5 dX11_pass_16 h (fun h => ?_)
  refine g_aload_n f 0 dX11_pass_17 rfl rfl ?_
  refine g_callV f mk_X11_317 v1 (c_X11_anew h) dX11_pass_18 rfl rfl (Nat.le_of_ble_eq_true rfl) (rm_ok (by decide) (by decide)) ⟨Nat.le_of_ble_eq_true rfl, Nat.le_of_ble_eq_true rfl⟩ (kV fun μ7 x8 h => ?_)
  refine g_aload_n f 0 dX11_pass_21 rfl rfl ?_
  refine g_aload_n f 0 dX11_pass_22 rfl rfl ?_
  have v1 := mex_ok x8 v1
  refine g_getR f fk_X11_7 v1 dX11_pass_23 rfl h (fun t10 h => ?_)
  refine g_bipush f 7 dX11_pass_26 kb_7 ?_
  obtain ⟨v11, h⟩ := h
  refine g_iald f v11 dX11_pass_28 h (fun h => ?_)
  refine g_callV f mk_X11_320 v1 (c_X11_lateBy h) dX11_pass_29 rfl rfl (Nat.le_of_ble_eq_true rfl) (rm_ok (by decide) (by decide)) ⟨Nat.le_of_ble_eq_true rfl, Nat.le_of_ble_eq_true rfl⟩ (kI fun r14 μ12 x13 h => ?_)
  refine h_istore_n f dX11_pass_32 rfl (by decide) ?_
  refine g_iconst f 0 dX11_pass_33 kc_0 ?_
  refine h_istore_n f dX11_pass_34 rfl (by decide) ?_
  exact h_sub [2, 1, 0] rfl (tL_X11_pass_35 f hq h)
theorem c_X11_pass {Ω : OM} {o0 : Nat} {μ : Me} {Q : Me → Prop} (h : S_X11_pass o0 μ Q) : CT Ω yX11_pass cX11_pass 3 none (rmc 6 0 0) [.ref (oB Ω + o0)] μ (qV Q) := CT_of (by decide) rfl (by simp [lg_sl, Value.category]) (fun x hΩ f hq hi => by subst hΩ; exact t_X11_pass f hq h)
theorem dX11_arePassed_0 : decode cX11_arePassed 0 = .ok (.aload_n 0, 1) := by decide +kernel
theorem dX11_arePassed_1 : decode cX11_arePassed 1 = .ok (.iconst 0, 1) := by decide +kernel
theorem dX11_arePassed_2 : decode cX11_arePassed 2 = .ok (.putfield 323, 3) := by decide +kernel
theorem dX11_arePassed_5 : decode cX11_arePassed 5 = .ok (.iconst 0, 1) := by decide +kernel
theorem dX11_arePassed_6 : decode cX11_arePassed 6 = .ok (.istore_n 2, 1) := by decide +kernel
theorem dX11_arePassed_7 : decode cX11_arePassed 7 = .ok (.iload_n 2, 1) := by decide +kernel
theorem dX11_arePassed_8 : decode cX11_arePassed 8 = .ok (.iload_n 1, 1) := by decide +kernel
theorem dX11_arePassed_9 : decode cX11_arePassed 9 = .ok (.if_icmp .ge 32, 3) := by decide +kernel
theorem dX11_arePassed_12 : decode cX11_arePassed 12 = .ok (.aload_n 0, 1) := by decide +kernel
theorem dX11_arePassed_13 : decode cX11_arePassed 13 = .ok (.getfield 7, 3) := by decide +kernel
theorem dX11_arePassed_16 : decode cX11_arePassed 16 = .ok (.bipush 6, 2) := by decide +kernel
theorem dX11_arePassed_18 : decode cX11_arePassed 18 = .ok (.iaload, 1) := by decide +kernel
theorem dX11_arePassed_19 : decode cX11_arePassed 19 = .ok (.sipush 9999, 3) := by decide +kernel
theorem dX11_arePassed_22 : decode cX11_arePassed 22 = .ok (.if_icmp .ne 5, 3) := by decide +kernel
theorem dX11_arePassed_25 : decode cX11_arePassed 25 = .ok (.iconst 0, 1) := by decide +kernel
theorem dX11_arePassed_26 : decode cX11_arePassed 26 = .ok (.ireturn, 1) := by decide +kernel
theorem dX11_arePassed_27 : decode cX11_arePassed 27 = .ok (.aload_n 0, 1) := by decide +kernel
theorem dX11_arePassed_28 : decode cX11_arePassed 28 = .ok (.invokevirtual 332, 3) := by decide +kernel
theorem dX11_arePassed_31 : decode cX11_arePassed 31 = .ok (.aload_n 0, 1) := by decide +kernel
theorem dX11_arePassed_32 : decode cX11_arePassed 32 = .ok (.invokevirtual 341, 3) := by decide +kernel
theorem dX11_arePassed_35 : decode cX11_arePassed 35 = .ok (.iinc 2 1, 3) := by decide +kernel
theorem dX11_arePassed_38 : decode cX11_arePassed 38 = .ok (.goto (-31), 3) := by decide +kernel
theorem dX11_arePassed_41 : decode cX11_arePassed 41 = .ok (.iconst 1, 1) := by decide +kernel
theorem dX11_arePassed_42 : decode cX11_arePassed 42 = .ok (.ireturn, 1) := by decide +kernel
def B_X11_arePassed_7 (o0 : Nat) (i1 : Int32) (i2 : Int32) (μ : Me) (K7 : Int32 → Me → Prop) (Q : Int32 → Me → Prop) : Prop := ((i1 ≤ i2 → Q 1 μ) ∧ (¬ i1 ≤ i2 → mok μ o0 11 ∧ ∃ t4, mgr μ o0 0 = some t4 ∧ mok μ t4 12 ∧ vp_in (6 : Int32) (mln μ t4) ∧ ((¬ (mgi μ t4 (6 : Int32).toNatClampNeg) = 9999 → S_X11_keep o0 μ (fun μ6 => S_X11_pass o0 μ6 (fun μ9 => K7 (i2 + 1) μ9))) ∧ ((mgi μ t4 (6 : Int32).toNatClampNeg) = 9999 → Q 0 μ))))
set_option maxHeartbeats 4000000 in
set_option maxRecDepth 100000 in
theorem tB_X11_arePassed_7 {x : GX} (f : Fx x cX11_arePassed RX11 3 (rmc 7 0 0)) {o0 : Nat} {i1 : Int32} {i2 : Int32} {μ : Me} {Q : Int32 → Me → Prop} (hq : Rt x (some .boolean) (qI Q)) {K7 : Int32 → Me → Prop} (hK7 : ∀ (a2 : Int32) (ν : Me), K7 a2 ν → G x 3 7 [(0, .ref (gB x + o0)), (1, .int i1), (2, .int a2)] [] ν 0 0) (h : B_X11_arePassed_7 o0 i1 i2 μ K7 Q) : G x 3 7 [(0, .ref (gB x + o0)), (1, .int i1), (2, .int i2)] [] μ 0 0 := by
  unfold B_X11_arePassed_7 at h
  refine g_iload_n f 2 dX11_arePassed_7 rfl rfl ?_
  refine g_iload_n f 1 dX11_arePassed_8 rfl rfl ?_
  refine g_ic_ge f 41 dX11_arePassed_9 rfl h (fun h => ?_) (fun h => ?_)
  · refine g_iconst f 1 dX11_arePassed_41 kc_1 ?_
    exact g_zret f hq (Nat.le_of_ble_eq_true rfl) (Nat.le_of_ble_eq_true rfl) dX11_arePassed_42 zb_1.1 h
  · refine g_aload_n f 0 dX11_arePassed_12 rfl rfl ?_
    obtain ⟨v3, h⟩ := h
    refine g_getR f fk_X11_7 v3 dX11_arePassed_13 rfl h (fun t4 h => ?_)
    refine g_bipush f 6 dX11_arePassed_16 kb_6 ?_
    obtain ⟨v5, h⟩ := h
    refine g_iald f v5 dX11_arePassed_18 h (fun h => ?_)
    refine g_sipush f 9999 dX11_arePassed_19 ks_9999 ?_
    refine g_ic_ne f 27 dX11_arePassed_22 rfl h (fun h => ?_) (fun h => ?_)
    · refine g_aload_n f 0 dX11_arePassed_27 rfl rfl ?_
      refine g_callV f mk_X11_332 v3 (c_X11_keep h) dX11_arePassed_28 rfl rfl (Nat.le_of_ble_eq_true rfl) (rm_ok (by decide) (by decide)) ⟨Nat.le_of_ble_eq_true rfl, Nat.le_of_ble_eq_true rfl⟩ (kV fun μ6 x7 h => ?_)
      refine g_aload_n f 0 dX11_arePassed_31 rfl rfl ?_
      have v3 := mex_ok x7 v3
      refine g_callV f mk_X11_341 v3 (c_X11_pass h) dX11_arePassed_32 rfl rfl (Nat.le_of_ble_eq_true rfl) (rm_ok (by decide) (by decide)) ⟨Nat.le_of_ble_eq_true rfl, Nat.le_of_ble_eq_true rfl⟩ (kV fun μ9 x10 h => ?_)
      refine h_iinc f 2 1 dX11_arePassed_35 rfl kc_1 (by decide) ?_
      refine g_goto f 7 dX11_arePassed_38 rfl ?_
      exact h_sub [1, 2, 0] rfl (hK7 _ _ h)
    · refine g_iconst f 0 dX11_arePassed_25 kc_0 ?_
      exact g_zret f hq (Nat.le_of_ble_eq_true rfl) (Nat.le_of_ble_eq_true rfl) dX11_arePassed_26 zb_0.1 h
def L_X11_arePassed_7 (o0 : Nat) (i1 : Int32) (i2 : Int32) (μ : Me) (Q : Int32 → Me → Prop) : Prop := ∃ I : Int32 → Me → Nat → Prop, (∃ n, I i2 μ n) ∧ ∀ (i2 : Int32) (μ : Me) (n : Nat), I i2 μ n → B_X11_arePassed_7 o0 i1 i2 μ (fun a2 ν => ∃ n', n' < n ∧ I a2 ν n') Q
set_option maxHeartbeats 4000000 in
set_option maxRecDepth 100000 in
theorem tL_X11_arePassed_7 {x : GX} (f : Fx x cX11_arePassed RX11 3 (rmc 7 0 0)) {o0 : Nat} {i1 : Int32} {i2 : Int32} {μ : Me} {Q : Int32 → Me → Prop} (hq : Rt x (some .boolean) (qI Q)) (h : L_X11_arePassed_7 o0 i1 i2 μ Q) : G x 3 7 [(0, .ref (gB x + o0)), (1, .int i1), (2, .int i2)] [] μ 0 0 := by
  obtain ⟨I, ⟨n, hI⟩, hs⟩ := h
  induction n using Nat.strongRecOn generalizing i2 μ with
  | ind n ih => exact tB_X11_arePassed_7 f hq (fun a2 ν hk => by obtain ⟨n2, hn, hI2⟩ := hk; exact ih n2 hn hI2) (hs _ _ _ hI)
def S_X11_arePassed (o0 : Nat) (i1 : Int32) (μ : Me) (Q : Int32 → Me → Prop) : Prop := mok μ o0 11 ∧ ∀ μ2, μ2 = msi μ o0 25 0 → L_X11_arePassed_7 o0 i1 0 μ2 Q
set_option maxHeartbeats 4000000 in
set_option maxRecDepth 100000 in
theorem t_X11_arePassed {x : GX} (f : Fx x cX11_arePassed RX11 3 (rmc 7 0 0)) {o0 : Nat} {i1 : Int32} {μ : Me} {Q : Int32 → Me → Prop} (hq : Rt x (some .boolean) (qI Q)) (h : S_X11_arePassed o0 i1 μ Q) : G x 3 0 [(0, .ref (gB x + o0)), (1, .int i1)] [] μ 0 0 := by
  unfold S_X11_arePassed at h
  refine g_aload_n f 0 dX11_arePassed_0 rfl rfl ?_
  refine g_iconst f 0 dX11_arePassed_1 kc_0 ?_
  obtain ⟨v1, h⟩ := h
  refine g_putI f fk_X11_323 v1 dX11_arePassed_2 rfl h (fun h => ?_)
  refine g_iconst f 0 dX11_arePassed_5 kc_0 ?_
  refine h_istore_n f dX11_arePassed_6 rfl (by decide) ?_
  exact h_sub [1, 2, 0] rfl (tL_X11_arePassed_7 f hq h)
theorem c_X11_arePassed {Ω : OM} {o0 : Nat} {i1 : Int32} {μ : Me} {Q : Int32 → Me → Prop} (h : S_X11_arePassed o0 i1 μ Q) : CT Ω yX11_arePassed cX11_arePassed 3 (some .boolean) (rmc 7 0 0) [.ref (oB Ω + o0), .int i1] μ (qI Q) := CT_of (by decide) rfl (by simp [lg_sl, Value.category]) (fun x hΩ f hq hi => by subst hΩ; exact t_X11_arePassed f hq h)
theorem dX11_day_0 : decode cX11_day 0 = .ok (.iload_n 1, 1) := by decide +kernel
theorem dX11_day_1 : decode cX11_day 1 = .ok (.iconst 1, 1) := by decide +kernel
theorem dX11_day_2 : decode cX11_day 2 = .ok (.bipush 60, 2) := by decide +kernel
theorem dX11_day_4 : decode cX11_day 4 = .ok (.invokestatic 66, 3) := by decide +kernel
theorem dX11_day_7 : decode cX11_day 7 = .ok (.ifCond .eq 33, 3) := by decide +kernel
theorem dX11_day_10 : decode cX11_day 10 = .ok (.aload_n 0, 1) := by decide +kernel
theorem dX11_day_11 : decode cX11_day 11 = .ok (.getfield 7, 3) := by decide +kernel
theorem dX11_day_14 : decode cX11_day 14 = .ok (.bipush 6, 2) := by decide +kernel
theorem dX11_day_16 : decode cX11_day 16 = .ok (.iaload, 1) := by decide +kernel
theorem dX11_day_17 : decode cX11_day 17 = .ok (.iload_n 1, 1) := by decide +kernel
theorem dX11_day_18 : decode cX11_day 18 = .ok (.iadd, 1) := by decide +kernel
theorem dX11_day_19 : decode cX11_day 19 = .ok (.sipush 9999, 3) := by decide +kernel
theorem dX11_day_22 : decode cX11_day 22 = .ok (.if_icmp .gt 18, 3) := by decide +kernel
theorem dX11_day_25 : decode cX11_day 25 = .ok (.aload_n 0, 1) := by decide +kernel
theorem dX11_day_26 : decode cX11_day 26 = .ok (.iload_n 1, 1) := by decide +kernel
theorem dX11_day_27 : decode cX11_day 27 = .ok (.invokevirtual 344, 3) := by decide +kernel
theorem dX11_day_30 : decode cX11_day 30 = .ok (.ifCond .eq 10, 3) := by decide +kernel
theorem dX11_day_33 : decode cX11_day 33 = .ok (.aload_n 0, 1) := by decide +kernel
theorem dX11_day_34 : decode cX11_day 34 = .ok (.getfield 323, 3) := by decide +kernel
theorem dX11_day_37 : decode cX11_day 37 = .ok (.goto 4, 3) := by decide +kernel
theorem dX11_day_40 : decode cX11_day 40 = .ok (.iconst (-1), 1) := by decide +kernel
theorem dX11_day_41 : decode cX11_day 41 = .ok (.ireturn, 1) := by decide +kernel
def S_X11_day (o0 : Nat) (i1 : Int32) (μ : Me) (Q : Int32 → Me → Prop) : Prop := S_X11_isIn i1 1 60 μ (fun r3 μ1 => ((r3 = 0 → Q (-1) μ1) ∧ (¬ r3 = 0 → mok μ1 o0 11 ∧ ∃ t5, mgr μ1 o0 0 = some t5 ∧ mok μ1 t5 12 ∧ vp_in (6 : Int32) (mln μ1 t5) ∧ ((9999 < ((mgi μ1 t5 (6 : Int32).toNatClampNeg) + i1) → Q (-1) μ1) ∧ (¬ 9999 < ((mgi μ1 t5 (6 : Int32).toNatClampNeg) + i1) → S_X11_arePassed o0 i1 μ1 (fun r9 μ7 => ((r9 = 0 → Q (-1) μ7) ∧ (¬ r9 = 0 → Q (mgi μ7 o0 25) μ7))))))))
set_option maxHeartbeats 4000000 in
set_option maxRecDepth 100000 in
theorem t_X11_day {x : GX} (f : Fx x cX11_day RX11 2 (rmc 8 0 0)) {o0 : Nat} {i1 : Int32} {μ : Me} {Q : Int32 → Me → Prop} (hq : Rt x (some .int) (qI Q)) (h : S_X11_day o0 i1 μ Q) : G x 2 0 [(0, .ref (gB x + o0)), (1, .int i1)] [] μ 0 0 := by
  unfold S_X11_day at h
  refine g_iload_n f 1 dX11_day_0 rfl rfl ?_
  refine g_iconst f 1 dX11_day_1 kc_1 ?_
  refine g_bipush f 60 dX11_day_2 kb_60 ?_
  refine g_callS f mk_X11_66 (c_X11_isIn h) dX11_day_4 rfl rfl (Nat.le_of_ble_eq_true rfl) (rm_ok (by decide) (by decide)) ⟨Nat.le_of_ble_eq_true rfl, Nat.le_of_ble_eq_true rfl⟩ (kI fun r3 μ1 x2 h => ?_)
  refine g_if_eq f 40 dX11_day_7 rfl h (fun h => ?_) (fun h => ?_)
  · refine g_iconst f (-1) dX11_day_40 kc_m1 ?_
    exact g_iret f hq (Nat.le_of_ble_eq_true rfl) (Nat.le_of_ble_eq_true rfl) dX11_day_41 h
  · refine g_aload_n f 0 dX11_day_10 rfl rfl ?_
    obtain ⟨v4, h⟩ := h
    refine g_getR f fk_X11_7 v4 dX11_day_11 rfl h (fun t5 h => ?_)
    refine g_bipush f 6 dX11_day_14 kb_6 ?_
    obtain ⟨v6, h⟩ := h
    refine g_iald f v6 dX11_day_16 h (fun h => ?_)
    refine g_iload_n f 1 dX11_day_17 rfl rfl ?_
    refine g_iadd f dX11_day_18 ?_
    refine g_sipush f 9999 dX11_day_19 ks_9999 ?_
    refine g_ic_gt f 40 dX11_day_22 rfl h (fun h => ?_) (fun h => ?_)
    · refine g_iconst f (-1) dX11_day_40 kc_m1 ?_
      exact g_iret f hq (Nat.le_of_ble_eq_true rfl) (Nat.le_of_ble_eq_true rfl) dX11_day_41 h
    · refine g_aload_n f 0 dX11_day_25 rfl rfl ?_
      refine g_iload_n f 1 dX11_day_26 rfl rfl ?_
      refine g_callV f mk_X11_344 v4 (c_X11_arePassed h) dX11_day_27 rfl rfl (Nat.le_of_ble_eq_true rfl) (rm_ok (by decide) (by decide)) ⟨Nat.le_of_ble_eq_true rfl, Nat.le_of_ble_eq_true rfl⟩ (kI fun r9 μ7 x8 h => ?_)
      refine g_if_eq f 40 dX11_day_30 rfl h (fun h => ?_) (fun h => ?_)
      · refine g_iconst f (-1) dX11_day_40 kc_m1 ?_
        exact g_iret f hq (Nat.le_of_ble_eq_true rfl) (Nat.le_of_ble_eq_true rfl) dX11_day_41 h
      · refine g_aload_n f 0 dX11_day_33 rfl rfl ?_
        have v4 := mex_ok x8 v4
        refine g_getI f fk_X11_323 v4 dX11_day_34 rfl ?_
        refine g_goto f 41 dX11_day_37 rfl ?_
        exact g_iret f hq (Nat.le_of_ble_eq_true rfl) (Nat.le_of_ble_eq_true rfl) dX11_day_41 h
theorem c_X11_day {Ω : OM} {o0 : Nat} {i1 : Int32} {μ : Me} {Q : Int32 → Me → Prop} (h : S_X11_day o0 i1 μ Q) : CT Ω yX11_day cX11_day 2 (some .int) (rmc 8 0 0) [.ref (oB Ω + o0), .int i1] μ (qI Q) := CT_of (by decide) rfl (by simp [lg_sl, Value.category]) (fun x hΩ f hq hi => by subst hΩ; exact t_X11_day f hq h)
theorem dX11_isPlayed_0 : decode cX11_isPlayed 0 = .ok (.aload_n 0, 1) := by decide +kernel
theorem dX11_isPlayed_1 : decode cX11_isPlayed 1 = .ok (.getfield 16, 3) := by decide +kernel
theorem dX11_isPlayed_4 : decode cX11_isPlayed 4 = .ok (.iload_n 1, 1) := by decide +kernel
theorem dX11_isPlayed_5 : decode cX11_isPlayed 5 = .ok (.iconst 1, 1) := by decide +kernel
theorem dX11_isPlayed_6 : decode cX11_isPlayed 6 = .ok (.iadd, 1) := by decide +kernel
theorem dX11_isPlayed_7 : decode cX11_isPlayed 7 = .ok (.iaload, 1) := by decide +kernel
theorem dX11_isPlayed_8 : decode cX11_isPlayed 8 = .ok (.istore_n 2, 1) := by decide +kernel
theorem dX11_isPlayed_9 : decode cX11_isPlayed 9 = .ok (.aload_n 0, 1) := by decide +kernel
theorem dX11_isPlayed_10 : decode cX11_isPlayed 10 = .ok (.getfield 16, 3) := by decide +kernel
theorem dX11_isPlayed_13 : decode cX11_isPlayed 13 = .ok (.iload_n 1, 1) := by decide +kernel
theorem dX11_isPlayed_14 : decode cX11_isPlayed 14 = .ok (.iconst 2, 1) := by decide +kernel
theorem dX11_isPlayed_15 : decode cX11_isPlayed 15 = .ok (.iadd, 1) := by decide +kernel
theorem dX11_isPlayed_16 : decode cX11_isPlayed 16 = .ok (.iaload, 1) := by decide +kernel
theorem dX11_isPlayed_17 : decode cX11_isPlayed 17 = .ok (.istore_n 3, 1) := by decide +kernel
theorem dX11_isPlayed_18 : decode cX11_isPlayed 18 = .ok (.aload_n 0, 1) := by decide +kernel
theorem dX11_isPlayed_19 : decode cX11_isPlayed 19 = .ok (.getfield 16, 3) := by decide +kernel
theorem dX11_isPlayed_22 : decode cX11_isPlayed 22 = .ok (.iload_n 1, 1) := by decide +kernel
theorem dX11_isPlayed_23 : decode cX11_isPlayed 23 = .ok (.iaload, 1) := by decide +kernel
theorem dX11_isPlayed_24 : decode cX11_isPlayed 24 = .ok (.tableswitch 102 2 7 #[40, 71, 77, 84, 90, 96], 40) := by decide +kernel
theorem dX11_isPlayed_64 : decode cX11_isPlayed 64 = .ok (.aload_n 0, 1) := by decide +kernel
theorem dX11_isPlayed_65 : decode cX11_isPlayed 65 = .ok (.iload_n 2, 1) := by decide +kernel
theorem dX11_isPlayed_66 : decode cX11_isPlayed 66 = .ok (.iload_n 3, 1) := by decide +kernel
theorem dX11_isPlayed_67 : decode cX11_isPlayed 67 = .ok (.aload_n 0, 1) := by decide +kernel
theorem dX11_isPlayed_68 : decode cX11_isPlayed 68 = .ok (.getfield 16, 3) := by decide +kernel
theorem dX11_isPlayed_71 : decode cX11_isPlayed 71 = .ok (.iload_n 1, 1) := by decide +kernel
theorem dX11_isPlayed_72 : decode cX11_isPlayed 72 = .ok (.iconst 3, 1) := by decide +kernel
theorem dX11_isPlayed_73 : decode cX11_isPlayed 73 = .ok (.iadd, 1) := by decide +kernel
theorem dX11_isPlayed_74 : decode cX11_isPlayed 74 = .ok (.iaload, 1) := by decide +kernel
theorem dX11_isPlayed_75 : decode cX11_isPlayed 75 = .ok (.aload_n 0, 1) := by decide +kernel
theorem dX11_isPlayed_76 : decode cX11_isPlayed 76 = .ok (.getfield 16, 3) := by decide +kernel
theorem dX11_isPlayed_79 : decode cX11_isPlayed 79 = .ok (.iload_n 1, 1) := by decide +kernel
theorem dX11_isPlayed_80 : decode cX11_isPlayed 80 = .ok (.iconst 4, 1) := by decide +kernel
theorem dX11_isPlayed_81 : decode cX11_isPlayed 81 = .ok (.iadd, 1) := by decide +kernel
theorem dX11_isPlayed_82 : decode cX11_isPlayed 82 = .ok (.iaload, 1) := by decide +kernel
theorem dX11_isPlayed_83 : decode cX11_isPlayed 83 = .ok (.invokevirtual 347, 3) := by decide +kernel
theorem dX11_isPlayed_86 : decode cX11_isPlayed 86 = .ok (.ifCond .lt 7, 3) := by decide +kernel
theorem dX11_isPlayed_89 : decode cX11_isPlayed 89 = .ok (.iconst 1, 1) := by decide +kernel
theorem dX11_isPlayed_90 : decode cX11_isPlayed 90 = .ok (.goto 4, 3) := by decide +kernel
theorem dX11_isPlayed_93 : decode cX11_isPlayed 93 = .ok (.iconst 0, 1) := by decide +kernel
theorem dX11_isPlayed_94 : decode cX11_isPlayed 94 = .ok (.ireturn, 1) := by decide +kernel
theorem dX11_isPlayed_95 : decode cX11_isPlayed 95 = .ok (.aload_n 0, 1) := by decide +kernel
theorem dX11_isPlayed_96 : decode cX11_isPlayed 96 = .ok (.iload_n 2, 1) := by decide +kernel
theorem dX11_isPlayed_97 : decode cX11_isPlayed 97 = .ok (.invokevirtual 350, 3) := by decide +kernel
theorem dX11_isPlayed_100 : decode cX11_isPlayed 100 = .ok (.ireturn, 1) := by decide +kernel
theorem dX11_isPlayed_101 : decode cX11_isPlayed 101 = .ok (.aload_n 0, 1) := by decide +kernel
theorem dX11_isPlayed_102 : decode cX11_isPlayed 102 = .ok (.iload_n 3, 1) := by decide +kernel
theorem dX11_isPlayed_103 : decode cX11_isPlayed 103 = .ok (.iload_n 2, 1) := by decide +kernel
theorem dX11_isPlayed_104 : decode cX11_isPlayed 104 = .ok (.invokevirtual 353, 3) := by decide +kernel
theorem dX11_isPlayed_107 : decode cX11_isPlayed 107 = .ok (.ireturn, 1) := by decide +kernel
theorem dX11_isPlayed_108 : decode cX11_isPlayed 108 = .ok (.aload_n 0, 1) := by decide +kernel
theorem dX11_isPlayed_109 : decode cX11_isPlayed 109 = .ok (.iload_n 2, 1) := by decide +kernel
theorem dX11_isPlayed_110 : decode cX11_isPlayed 110 = .ok (.invokevirtual 356, 3) := by decide +kernel
theorem dX11_isPlayed_113 : decode cX11_isPlayed 113 = .ok (.ireturn, 1) := by decide +kernel
theorem dX11_isPlayed_114 : decode cX11_isPlayed 114 = .ok (.aload_n 0, 1) := by decide +kernel
theorem dX11_isPlayed_115 : decode cX11_isPlayed 115 = .ok (.iload_n 2, 1) := by decide +kernel
theorem dX11_isPlayed_116 : decode cX11_isPlayed 116 = .ok (.invokevirtual 359, 3) := by decide +kernel
theorem dX11_isPlayed_119 : decode cX11_isPlayed 119 = .ok (.ireturn, 1) := by decide +kernel
theorem dX11_isPlayed_120 : decode cX11_isPlayed 120 = .ok (.aload_n 0, 1) := by decide +kernel
theorem dX11_isPlayed_121 : decode cX11_isPlayed 121 = .ok (.iload_n 2, 1) := by decide +kernel
theorem dX11_isPlayed_122 : decode cX11_isPlayed 122 = .ok (.invokevirtual 344, 3) := by decide +kernel
theorem dX11_isPlayed_125 : decode cX11_isPlayed 125 = .ok (.ireturn, 1) := by decide +kernel
theorem dX11_isPlayed_126 : decode cX11_isPlayed 126 = .ok (.iconst 1, 1) := by decide +kernel
theorem dX11_isPlayed_127 : decode cX11_isPlayed 127 = .ok (.ireturn, 1) := by decide +kernel
def S_X11_isPlayed (o0 : Nat) (i1 : Int32) (μ : Me) (Q : Int32 → Me → Prop) : Prop := mok μ o0 11 ∧ ∃ t2, mgr μ o0 2 = some t2 ∧ mok μ t2 12 ∧ vp_in (i1 + 1) (mln μ t2) ∧ ∃ t4, mgr μ o0 2 = some t4 ∧ mok μ t4 12 ∧ vp_in (i1 + 2) (mln μ t4) ∧ ∃ t6, mgr μ o0 2 = some t6 ∧ mok μ t6 12 ∧ vp_in i1 (mln μ t6) ∧ (((mgi μ t6 i1.toNatClampNeg) = 2 → ∃ t9, mgr μ o0 2 = some t9 ∧ mok μ t9 12 ∧ vp_in (i1 + 3) (mln μ t9) ∧ ∃ t11, mgr μ o0 2 = some t11 ∧ mok μ t11 12 ∧ vp_in (i1 + 4) (mln μ t11) ∧ S_X11_person o0 (mgi μ t2 (i1 + 1).toNatClampNeg) (mgi μ t4 (i1 + 2).toNatClampNeg) (mgi μ t9 (i1 + 3).toNatClampNeg) (mgi μ t11 (i1 + 4).toNatClampNeg) μ (fun r15 μ13 => ((r15 < 0 → Q 0 μ13) ∧ (¬ r15 < 0 → Q 1 μ13)))) ∧ (¬ (mgi μ t6 i1.toNatClampNeg) = 2 → ((mgi μ t6 i1.toNatClampNeg) = 3 → S_X11_ring o0 (mgi μ t2 (i1 + 1).toNatClampNeg) μ (fun r19 μ17 => zb r19 ∧ Q r19 μ17)) ∧ (¬ (mgi μ t6 i1.toNatClampNeg) = 3 → ((mgi μ t6 i1.toNatClampNeg) = 4 → S_X11_due o0 (mgi μ t4 (i1 + 2).toNatClampNeg) (mgi μ t2 (i1 + 1).toNatClampNeg) μ (fun r23 μ21 => zb r23 ∧ Q r23 μ21)) ∧ (¬ (mgi μ t6 i1.toNatClampNeg) = 4 → ((mgi μ t6 i1.toNatClampNeg) = 5 → S_X11_bed o0 (mgi μ t2 (i1 + 1).toNatClampNeg) μ (fun r27 μ25 => zb r27 ∧ Q r27 μ25)) ∧ (¬ (mgi μ t6 i1.toNatClampNeg) = 5 → ((mgi μ t6 i1.toNatClampNeg) = 6 → S_X11_up o0 (mgi μ t2 (i1 + 1).toNatClampNeg) μ (fun r31 μ29 => zb r31 ∧ Q r31 μ29)) ∧ (¬ (mgi μ t6 i1.toNatClampNeg) = 6 → ((mgi μ t6 i1.toNatClampNeg) = 7 → S_X11_arePassed o0 (mgi μ t2 (i1 + 1).toNatClampNeg) μ (fun r35 μ33 => zb r35 ∧ Q r35 μ33)) ∧ (¬ (mgi μ t6 i1.toNatClampNeg) = 7 → Q 1 μ)))))))
set_option maxHeartbeats 4000000 in
set_option maxRecDepth 100000 in
theorem t_X11_isPlayed {x : GX} (f : Fx x cX11_isPlayed RX11 4 (rmc 8 0 0)) {o0 : Nat} {i1 : Int32} {μ : Me} {Q : Int32 → Me → Prop} (hq : Rt x (some .boolean) (qI Q)) (h : S_X11_isPlayed o0 i1 μ Q) : G x 4 0 [(0, .ref (gB x + o0)), (1, .int i1)] [] μ 0 0 := by
  unfold S_X11_isPlayed at h
  refine g_aload_n f 0 dX11_isPlayed_0 rfl rfl ?_
  obtain ⟨v1, h⟩ := h
  refine g_getR f fk_X11_16 v1 dX11_isPlayed_1 rfl h (fun t2 h => ?_)
  refine g_iload_n f 1 dX11_isPlayed_4 rfl rfl ?_
  refine g_iconst f 1 dX11_isPlayed_5 kc_1 ?_
  refine g_iadd f dX11_isPlayed_6 ?_
  obtain ⟨v3, h⟩ := h
  refine g_iald f v3 dX11_isPlayed_7 h (fun h => ?_)
  refine h_istore_n f dX11_isPlayed_8 rfl (by decide) ?_
  refine g_aload_n f 1 dX11_isPlayed_9 rfl rfl ?_
  refine g_getR f fk_X11_16 v1 dX11_isPlayed_10 rfl h (fun t4 h => ?_)
  refine g_iload_n f 2 dX11_isPlayed_13 rfl rfl ?_
  refine g_iconst f 2 dX11_isPlayed_14 kc_2 ?_
  refine g_iadd f dX11_isPlayed_15 ?_
  obtain ⟨v5, h⟩ := h
  refine g_iald f v5 dX11_isPlayed_16 h (fun h => ?_)
  refine h_istore_n f dX11_isPlayed_17 rfl (by decide) ?_
  refine g_aload_n f 2 dX11_isPlayed_18 rfl rfl ?_
  refine g_getR f fk_X11_16 v1 dX11_isPlayed_19 rfl h (fun t6 h => ?_)
  refine g_iload_n f 3 dX11_isPlayed_22 rfl rfl ?_
  obtain ⟨v7, h⟩ := h
  refine g_iald f v7 dX11_isPlayed_23 h (fun h => ?_)
  rcases dec_or h with ⟨e8, h⟩ | ⟨e8, h⟩
  · refine g_tableIn f 64 dX11_isPlayed_24 (by rw [e8] <;> decide) (by rw [e8] <;> decide) (by rw [e8] <;> rfl) rfl ?_
    refine g_aload_n f 2 dX11_isPlayed_64 rfl rfl ?_
    refine g_iload_n f 1 dX11_isPlayed_65 rfl rfl ?_
    refine g_iload_n f 0 dX11_isPlayed_66 rfl rfl ?_
    refine g_aload_n f 2 dX11_isPlayed_67 rfl rfl ?_
    refine g_getR f fk_X11_16 v1 dX11_isPlayed_68 rfl h (fun t9 h => ?_)
    refine g_iload_n f 3 dX11_isPlayed_71 rfl rfl ?_
    refine g_iconst f 3 dX11_isPlayed_72 kc_3 ?_
    refine g_iadd f dX11_isPlayed_73 ?_
    obtain ⟨v10, h⟩ := h
    refine g_iald f v10 dX11_isPlayed_74 h (fun h => ?_)
    refine g_aload_n f 2 dX11_isPlayed_75 rfl rfl ?_
    refine g_getR f fk_X11_16 v1 dX11_isPlayed_76 rfl h (fun t11 h => ?_)
    refine g_iload_n f 3 dX11_isPlayed_79 rfl rfl ?_
    refine g_iconst f 4 dX11_isPlayed_80 kc_4 ?_
    refine g_iadd f dX11_isPlayed_81 ?_
    obtain ⟨v12, h⟩ := h
    refine g_iald f v12 dX11_isPlayed_82 h (fun h => ?_)
    refine g_callV f mk_X11_347 v1 (c_X11_person h) dX11_isPlayed_83 rfl rfl (Nat.le_of_ble_eq_true rfl) (rm_ok (by decide) (by decide)) ⟨Nat.le_of_ble_eq_true rfl, Nat.le_of_ble_eq_true rfl⟩ (kI fun r15 μ13 x14 h => ?_)
    refine g_if_lt f 93 dX11_isPlayed_86 rfl h (fun h => ?_) (fun h => ?_)
    · refine g_iconst f 0 dX11_isPlayed_93 kc_0 ?_
      exact g_zret f hq (Nat.le_of_ble_eq_true rfl) (Nat.le_of_ble_eq_true rfl) dX11_isPlayed_94 zb_0.1 h
    · refine g_iconst f 1 dX11_isPlayed_89 kc_1 ?_
      refine g_goto f 94 dX11_isPlayed_90 rfl ?_
      exact g_zret f hq (Nat.le_of_ble_eq_true rfl) (Nat.le_of_ble_eq_true rfl) dX11_isPlayed_94 zb_1.1 h
  · skip
    rcases dec_or h with ⟨e16, h⟩ | ⟨e16, h⟩
    · refine g_tableIn f 95 dX11_isPlayed_24 (by rw [e16] <;> decide) (by rw [e16] <;> decide) (by rw [e16] <;> rfl) rfl ?_
      refine g_aload_n f 2 dX11_isPlayed_95 rfl rfl ?_
      refine g_iload_n f 1 dX11_isPlayed_96 rfl rfl ?_
      refine g_callV f mk_X11_350 v1 (c_X11_ring h) dX11_isPlayed_97 rfl rfl (Nat.le_of_ble_eq_true rfl) (rm_ok (by decide) (by decide)) ⟨Nat.le_of_ble_eq_true rfl, Nat.le_of_ble_eq_true rfl⟩ (kI fun r19 μ17 x18 h => ?_)
      exact g_zret f hq (Nat.le_of_ble_eq_true rfl) (Nat.le_of_ble_eq_true rfl) dX11_isPlayed_100 h.1.1 h.2
    · skip
      rcases dec_or h with ⟨e20, h⟩ | ⟨e20, h⟩
      · refine g_tableIn f 101 dX11_isPlayed_24 (by rw [e20] <;> decide) (by rw [e20] <;> decide) (by rw [e20] <;> rfl) rfl ?_
        refine g_aload_n f 2 dX11_isPlayed_101 rfl rfl ?_
        refine g_iload_n f 0 dX11_isPlayed_102 rfl rfl ?_
        refine g_iload_n f 1 dX11_isPlayed_103 rfl rfl ?_
        refine g_callV f mk_X11_353 v1 (c_X11_due h) dX11_isPlayed_104 rfl rfl (Nat.le_of_ble_eq_true rfl) (rm_ok (by decide) (by decide)) ⟨Nat.le_of_ble_eq_true rfl, Nat.le_of_ble_eq_true rfl⟩ (kI fun r23 μ21 x22 h => ?_)
        exact g_zret f hq (Nat.le_of_ble_eq_true rfl) (Nat.le_of_ble_eq_true rfl) dX11_isPlayed_107 h.1.1 h.2
      · skip
        rcases dec_or h with ⟨e24, h⟩ | ⟨e24, h⟩
        · refine g_tableIn f 108 dX11_isPlayed_24 (by rw [e24] <;> decide) (by rw [e24] <;> decide) (by rw [e24] <;> rfl) rfl ?_
          refine g_aload_n f 2 dX11_isPlayed_108 rfl rfl ?_
          refine g_iload_n f 1 dX11_isPlayed_109 rfl rfl ?_
          refine g_callV f mk_X11_356 v1 (c_X11_bed h) dX11_isPlayed_110 rfl rfl (Nat.le_of_ble_eq_true rfl) (rm_ok (by decide) (by decide)) ⟨Nat.le_of_ble_eq_true rfl, Nat.le_of_ble_eq_true rfl⟩ (kI fun r27 μ25 x26 h => ?_)
          exact g_zret f hq (Nat.le_of_ble_eq_true rfl) (Nat.le_of_ble_eq_true rfl) dX11_isPlayed_113 h.1.1 h.2
        · skip
          rcases dec_or h with ⟨e28, h⟩ | ⟨e28, h⟩
          · refine g_tableIn f 114 dX11_isPlayed_24 (by rw [e28] <;> decide) (by rw [e28] <;> decide) (by rw [e28] <;> rfl) rfl ?_
            refine g_aload_n f 2 dX11_isPlayed_114 rfl rfl ?_
            refine g_iload_n f 1 dX11_isPlayed_115 rfl rfl ?_
            refine g_callV f mk_X11_359 v1 (c_X11_up h) dX11_isPlayed_116 rfl rfl (Nat.le_of_ble_eq_true rfl) (rm_ok (by decide) (by decide)) ⟨Nat.le_of_ble_eq_true rfl, Nat.le_of_ble_eq_true rfl⟩ (kI fun r31 μ29 x30 h => ?_)
            exact g_zret f hq (Nat.le_of_ble_eq_true rfl) (Nat.le_of_ble_eq_true rfl) dX11_isPlayed_119 h.1.1 h.2
          · skip
            rcases dec_or h with ⟨e32, h⟩ | ⟨e32, h⟩
            · refine g_tableIn f 120 dX11_isPlayed_24 (by rw [e32] <;> decide) (by rw [e32] <;> decide) (by rw [e32] <;> rfl) rfl ?_
              refine g_aload_n f 2 dX11_isPlayed_120 rfl rfl ?_
              refine g_iload_n f 1 dX11_isPlayed_121 rfl rfl ?_
              refine g_callV f mk_X11_344 v1 (c_X11_arePassed h) dX11_isPlayed_122 rfl rfl (Nat.le_of_ble_eq_true rfl) (rm_ok (by decide) (by decide)) ⟨Nat.le_of_ble_eq_true rfl, Nat.le_of_ble_eq_true rfl⟩ (kI fun r35 μ33 x34 h => ?_)
              exact g_zret f hq (Nat.le_of_ble_eq_true rfl) (Nat.le_of_ble_eq_true rfl) dX11_isPlayed_125 h.1.1 h.2
            · skip
              have e8 := lv_neT (a := 2) e8 (by decide)
              have e16 := lv_neT (a := 3) e16 (by decide)
              have e20 := lv_neT (a := 4) e20 (by decide)
              have e24 := lv_neT (a := 5) e24 (by decide)
              have e28 := lv_neT (a := 6) e28 (by decide)
              have e32 := lv_neT (a := 7) e32 (by decide)
              refine g_tableOut f 126 dX11_isPlayed_24 (by omega) rfl ?_
              refine g_iconst f 1 dX11_isPlayed_126 kc_1 ?_
              exact g_zret f hq (Nat.le_of_ble_eq_true rfl) (Nat.le_of_ble_eq_true rfl) dX11_isPlayed_127 zb_1.1 h
theorem c_X11_isPlayed {Ω : OM} {o0 : Nat} {i1 : Int32} {μ : Me} {Q : Int32 → Me → Prop} (h : S_X11_isPlayed o0 i1 μ Q) : CT Ω yX11_isPlayed cX11_isPlayed 4 (some .boolean) (rmc 8 0 0) [.ref (oB Ω + o0), .int i1] μ (qI Q) := CT_of (by decide) rfl (by simp [lg_sl, Value.category]) (fun x hΩ f hq hi => by subst hΩ; exact t_X11_isPlayed f hq h)
theorem dX11_played_0 : decode cX11_played 0 = .ok (.iload_n 1, 1) := by decide +kernel
theorem dX11_played_1 : decode cX11_played 1 = .ok (.iconst 0, 1) := by decide +kernel
theorem dX11_played_2 : decode cX11_played 2 = .ok (.aload_n 0, 1) := by decide +kernel
theorem dX11_played_3 : decode cX11_played 3 = .ok (.getfield 7, 3) := by decide +kernel
theorem dX11_played_6 : decode cX11_played 6 = .ok (.iconst 1, 1) := by decide +kernel
theorem dX11_played_7 : decode cX11_played 7 = .ok (.iaload, 1) := by decide +kernel
theorem dX11_played_8 : decode cX11_played 8 = .ok (.iconst 1, 1) := by decide +kernel
theorem dX11_played_9 : decode cX11_played 9 = .ok (.isub, 1) := by decide +kernel
theorem dX11_played_10 : decode cX11_played 10 = .ok (.invokestatic 66, 3) := by decide +kernel
theorem dX11_played_13 : decode cX11_played 13 = .ok (.ifCond .ne 6, 3) := by decide +kernel
theorem dX11_played_16 : decode cX11_played 16 = .ok (.bipush (-2), 2) := by decide +kernel
theorem dX11_played_18 : decode cX11_played 18 = .ok (.ireturn, 1) := by decide +kernel
theorem dX11_played_19 : decode cX11_played 19 = .ok (.iconst 0, 1) := by decide +kernel
theorem dX11_played_20 : decode cX11_played 20 = .ok (.istore_n 2, 1) := by decide +kernel
theorem dX11_played_21 : decode cX11_played 21 = .ok (.iload_n 2, 1) := by decide +kernel
theorem dX11_played_22 : decode cX11_played 22 = .ok (.aload_n 0, 1) := by decide +kernel
theorem dX11_played_23 : decode cX11_played 23 = .ok (.getfield 16, 3) := by decide +kernel
theorem dX11_played_26 : decode cX11_played 26 = .ok (.sipush 729, 3) := by decide +kernel
theorem dX11_played_29 : decode cX11_played 29 = .ok (.iload_n 1, 1) := by decide +kernel
theorem dX11_played_30 : decode cX11_played 30 = .ok (.imul, 1) := by decide +kernel
theorem dX11_played_31 : decode cX11_played 31 = .ok (.iaload, 1) := by decide +kernel
theorem dX11_played_32 : decode cX11_played 32 = .ok (.if_icmp .ge 29, 3) := by decide +kernel
theorem dX11_played_35 : decode cX11_played 35 = .ok (.aload_n 0, 1) := by decide +kernel
theorem dX11_played_36 : decode cX11_played 36 = .ok (.sipush 729, 3) := by decide +kernel
theorem dX11_played_39 : decode cX11_played 39 = .ok (.iload_n 1, 1) := by decide +kernel
theorem dX11_played_40 : decode cX11_played 40 = .ok (.imul, 1) := by decide +kernel
theorem dX11_played_41 : decode cX11_played 41 = .ok (.iconst 1, 1) := by decide +kernel
theorem dX11_played_42 : decode cX11_played 42 = .ok (.iadd, 1) := by decide +kernel
theorem dX11_played_43 : decode cX11_played 43 = .ok (.iconst 5, 1) := by decide +kernel
theorem dX11_played_44 : decode cX11_played 44 = .ok (.iload_n 2, 1) := by decide +kernel
theorem dX11_played_45 : decode cX11_played 45 = .ok (.imul, 1) := by decide +kernel
theorem dX11_played_46 : decode cX11_played 46 = .ok (.iadd, 1) := by decide +kernel
theorem dX11_played_47 : decode cX11_played 47 = .ok (.invokevirtual 362, 3) := by decide +kernel
theorem dX11_played_50 : decode cX11_played 50 = .ok (.ifCond .ne 5, 3) := by decide +kernel
theorem dX11_played_53 : decode cX11_played 53 = .ok (.iload_n 2, 1) := by decide +kernel
theorem dX11_played_54 : decode cX11_played 54 = .ok (.ireturn, 1) := by decide +kernel
theorem dX11_played_55 : decode cX11_played 55 = .ok (.iinc 2 1, 3) := by decide +kernel
theorem dX11_played_58 : decode cX11_played 58 = .ok (.goto (-37), 3) := by decide +kernel
theorem dX11_played_61 : decode cX11_played 61 = .ok (.iconst (-1), 1) := by decide +kernel
theorem dX11_played_62 : decode cX11_played 62 = .ok (.ireturn, 1) := by decide +kernel
def B_X11_played_21 (o0 : Nat) (i1 : Int32) (i2 : Int32) (μ : Me) (K21 : Int32 → Me → Prop) (Q : Int32 → Me → Prop) : Prop := mok μ o0 11 ∧ ∃ t8, mgr μ o0 2 = some t8 ∧ mok μ t8 12 ∧ vp_in (729 * i1) (mln μ t8) ∧ (((mgi μ t8 (729 * i1).toNatClampNeg) ≤ i2 → Q (-1) μ) ∧ (¬ (mgi μ t8 (729 * i1).toNatClampNeg) ≤ i2 → S_X11_isPlayed o0 (((729 * i1) + 1) + (5 * i2)) μ (fun r12 μ10 => ((¬ r12 = 0 → K21 (i2 + 1) μ10) ∧ (r12 = 0 → Q i2 μ10)))))
set_option maxHeartbeats 4000000 in
set_option maxRecDepth 100000 in
theorem tB_X11_played_21 {x : GX} (f : Fx x cX11_played RX11 3 (rmc 9 0 0)) {o0 : Nat} {i1 : Int32} {i2 : Int32} {μ : Me} {Q : Int32 → Me → Prop} (hq : Rt x (some .int) (qI Q)) {K21 : Int32 → Me → Prop} (hK21 : ∀ (a2 : Int32) (ν : Me), K21 a2 ν → G x 3 21 [(0, .ref (gB x + o0)), (1, .int i1), (2, .int a2)] [] ν 0 0) (h : B_X11_played_21 o0 i1 i2 μ K21 Q) : G x 3 21 [(0, .ref (gB x + o0)), (1, .int i1), (2, .int i2)] [] μ 0 0 := by
  unfold B_X11_played_21 at h
  refine g_iload_n f 2 dX11_played_21 rfl rfl ?_
  refine g_aload_n f 0 dX11_played_22 rfl rfl ?_
  obtain ⟨v7, h⟩ := h
  refine g_getR f fk_X11_16 v7 dX11_played_23 rfl h (fun t8 h => ?_)
  refine g_sipush f 729 dX11_played_26 ks_729 ?_
  refine g_iload_n f 1 dX11_played_29 rfl rfl ?_
  refine g_imul f dX11_played_30 ?_
  obtain ⟨v9, h⟩ := h
  refine g_iald f v9 dX11_played_31 h (fun h => ?_)
  refine g_ic_ge f 61 dX11_played_32 rfl h (fun h => ?_) (fun h => ?_)
  · refine g_iconst f (-1) dX11_played_61 kc_m1 ?_
    exact g_iret f hq (Nat.le_of_ble_eq_true rfl) (Nat.le_of_ble_eq_true rfl) dX11_played_62 h
  · refine g_aload_n f 0 dX11_played_35 rfl rfl ?_
    refine g_sipush f 729 dX11_played_36 ks_729 ?_
    refine g_iload_n f 1 dX11_played_39 rfl rfl ?_
    refine g_imul f dX11_played_40 ?_
    refine g_iconst f 1 dX11_played_41 kc_1 ?_
    refine g_iadd f dX11_played_42 ?_
    refine g_iconst f 5 dX11_played_43 kc_5 ?_
    refine g_iload_n f 2 dX11_played_44 rfl rfl ?_
    refine g_imul f dX11_played_45 ?_
    refine g_iadd f dX11_played_46 ?_
    refine g_callV f mk_X11_362 v7 (c_X11_isPlayed h) dX11_played_47 rfl rfl (Nat.le_of_ble_eq_true rfl) (rm_ok (by decide) (by decide)) ⟨Nat.le_of_ble_eq_true rfl, Nat.le_of_ble_eq_true rfl⟩ (kI fun r12 μ10 x11 h => ?_)
    refine g_if_ne f 55 dX11_played_50 rfl h (fun h => ?_) (fun h => ?_)
    · refine h_iinc f 2 1 dX11_played_55 rfl kc_1 (by decide) ?_
      refine g_goto f 21 dX11_played_58 rfl ?_
      exact h_sub [1, 2, 0] rfl (hK21 _ _ h)
    · refine g_iload_n f 2 dX11_played_53 rfl rfl ?_
      exact g_iret f hq (Nat.le_of_ble_eq_true rfl) (Nat.le_of_ble_eq_true rfl) dX11_played_54 h
def L_X11_played_21 (o0 : Nat) (i1 : Int32) (i2 : Int32) (μ : Me) (Q : Int32 → Me → Prop) : Prop := ∃ I : Int32 → Me → Nat → Prop, (∃ n, I i2 μ n) ∧ ∀ (i2 : Int32) (μ : Me) (n : Nat), I i2 μ n → B_X11_played_21 o0 i1 i2 μ (fun a2 ν => ∃ n', n' < n ∧ I a2 ν n') Q
set_option maxHeartbeats 4000000 in
set_option maxRecDepth 100000 in
theorem tL_X11_played_21 {x : GX} (f : Fx x cX11_played RX11 3 (rmc 9 0 0)) {o0 : Nat} {i1 : Int32} {i2 : Int32} {μ : Me} {Q : Int32 → Me → Prop} (hq : Rt x (some .int) (qI Q)) (h : L_X11_played_21 o0 i1 i2 μ Q) : G x 3 21 [(0, .ref (gB x + o0)), (1, .int i1), (2, .int i2)] [] μ 0 0 := by
  obtain ⟨I, ⟨n, hI⟩, hs⟩ := h
  induction n using Nat.strongRecOn generalizing i2 μ with
  | ind n ih => exact tB_X11_played_21 f hq (fun a2 ν hk => by obtain ⟨n2, hn, hI2⟩ := hk; exact ih n2 hn hI2) (hs _ _ _ hI)
def S_X11_played (o0 : Nat) (i1 : Int32) (μ : Me) (Q : Int32 → Me → Prop) : Prop := mok μ o0 11 ∧ ∃ t2, mgr μ o0 0 = some t2 ∧ mok μ t2 12 ∧ vp_in (1 : Int32) (mln μ t2) ∧ S_X11_isIn i1 0 ((mgi μ t2 (1 : Int32).toNatClampNeg) - 1) μ (fun r6 μ4 => ((¬ r6 = 0 → L_X11_played_21 o0 i1 0 μ4 Q) ∧ (r6 = 0 → Q (-2) μ4)))
set_option maxHeartbeats 4000000 in
set_option maxRecDepth 100000 in
theorem t_X11_played {x : GX} (f : Fx x cX11_played RX11 3 (rmc 9 0 0)) {o0 : Nat} {i1 : Int32} {μ : Me} {Q : Int32 → Me → Prop} (hq : Rt x (some .int) (qI Q)) (h : S_X11_played o0 i1 μ Q) : G x 3 0 [(0, .ref (gB x + o0)), (1, .int i1)] [] μ 0 0 := by
  unfold S_X11_played at h
  refine g_iload_n f 1 dX11_played_0 rfl rfl ?_
  refine g_iconst f 0 dX11_played_1 kc_0 ?_
  refine g_aload_n f 0 dX11_played_2 rfl rfl ?_
  obtain ⟨v1, h⟩ := h
  refine g_getR f fk_X11_7 v1 dX11_played_3 rfl h (fun t2 h => ?_)
  refine g_iconst f 1 dX11_played_6 kc_1 ?_
  obtain ⟨v3, h⟩ := h
  refine g_iald f v3 dX11_played_7 h (fun h => ?_)
  refine g_iconst f 1 dX11_played_8 kc_1 ?_
  refine g_isub f dX11_played_9 ?_
  refine g_callS f mk_X11_66 (c_X11_isIn h) dX11_played_10 rfl rfl (Nat.le_of_ble_eq_true rfl) (rm_ok (by decide) (by decide)) ⟨Nat.le_of_ble_eq_true rfl, Nat.le_of_ble_eq_true rfl⟩ (kI fun r6 μ4 x5 h => ?_)
  refine g_if_ne f 19 dX11_played_13 rfl h (fun h => ?_) (fun h => ?_)
  · refine g_iconst f 0 dX11_played_19 kc_0 ?_
    refine h_istore_n f dX11_played_20 rfl (by decide) ?_
    exact h_sub [1, 2, 0] rfl (tL_X11_played_21 f hq h)
  · refine g_bipush f (-2) dX11_played_16 kb_m2 ?_
    exact g_iret f hq (Nat.le_of_ble_eq_true rfl) (Nat.le_of_ble_eq_true rfl) dX11_played_18 h
theorem c_X11_played {Ω : OM} {o0 : Nat} {i1 : Int32} {μ : Me} {Q : Int32 → Me → Prop} (h : S_X11_played o0 i1 μ Q) : CT Ω yX11_played cX11_played 3 (some .int) (rmc 9 0 0) [.ref (oB Ω + o0), .int i1] μ (qI Q) := CT_of (by decide) rfl (by simp [lg_sl, Value.category]) (fun x hΩ f hq hi => by subst hΩ; exact t_X11_played f hq h)
theorem dX11_happens_0 : decode cX11_happens 0 = .ok (.iload_n 1, 1) := by decide +kernel
theorem dX11_happens_1 : decode cX11_happens 1 = .ok (.bipush 6, 2) := by decide +kernel
theorem dX11_happens_3 : decode cX11_happens 3 = .ok (.irem, 1) := by decide +kernel
theorem dX11_happens_4 : decode cX11_happens 4 = .ok (.iconst 3, 1) := by decide +kernel
theorem dX11_happens_5 : decode cX11_happens 5 = .ok (.if_icmp .le 21, 3) := by decide +kernel
theorem dX11_happens_8 : decode cX11_happens 8 = .ok (.aload_n 0, 1) := by decide +kernel
theorem dX11_happens_9 : decode cX11_happens 9 = .ok (.getfield 7, 3) := by decide +kernel
theorem dX11_happens_12 : decode cX11_happens 12 = .ok (.bipush 6, 2) := by decide +kernel
theorem dX11_happens_14 : decode cX11_happens 14 = .ok (.iaload, 1) := by decide +kernel
theorem dX11_happens_15 : decode cX11_happens 15 = .ok (.sipush 9999, 3) := by decide +kernel
theorem dX11_happens_18 : decode cX11_happens 18 = .ok (.if_icmp .ge 7, 3) := by decide +kernel
theorem dX11_happens_21 : decode cX11_happens 21 = .ok (.aload_n 0, 1) := by decide +kernel
theorem dX11_happens_22 : decode cX11_happens 22 = .ok (.invokevirtual 341, 3) := by decide +kernel
theorem dX11_happens_25 : decode cX11_happens 25 = .ok (.return_, 1) := by decide +kernel
theorem dX11_happens_26 : decode cX11_happens 26 = .ok (.aload_n 0, 1) := by decide +kernel
theorem dX11_happens_27 : decode cX11_happens 27 = .ok (.getfield 7, 3) := by decide +kernel
theorem dX11_happens_30 : decode cX11_happens 30 = .ok (.iconst 0, 1) := by decide +kernel
theorem dX11_happens_31 : decode cX11_happens 31 = .ok (.iaload, 1) := by decide +kernel
theorem dX11_happens_32 : decode cX11_happens 32 = .ok (.ifCond .ne 4, 3) := by decide +kernel
theorem dX11_happens_35 : decode cX11_happens 35 = .ok (.return_, 1) := by decide +kernel
theorem dX11_happens_36 : decode cX11_happens 36 = .ok (.iload_n 1, 1) := by decide +kernel
theorem dX11_happens_37 : decode cX11_happens 37 = .ok (.aload_n 0, 1) := by decide +kernel
theorem dX11_happens_38 : decode cX11_happens 38 = .ok (.getfield 7, 3) := by decide +kernel
theorem dX11_happens_41 : decode cX11_happens 41 = .ok (.iconst 0, 1) := by decide +kernel
theorem dX11_happens_42 : decode cX11_happens 42 = .ok (.iaload, 1) := by decide +kernel
theorem dX11_happens_43 : decode cX11_happens 43 = .ok (.irem, 1) := by decide +kernel
theorem dX11_happens_44 : decode cX11_happens 44 = .ok (.istore_n 2, 1) := by decide +kernel
theorem dX11_happens_45 : decode cX11_happens 45 = .ok (.iload_n 1, 1) := by decide +kernel
theorem dX11_happens_46 : decode cX11_happens 46 = .ok (.bipush 6, 2) := by decide +kernel
theorem dX11_happens_48 : decode cX11_happens 48 = .ok (.irem, 1) := by decide +kernel
theorem dX11_happens_49 : decode cX11_happens 49 = .ok (.lookupswitch 56 #[(0, 27), (1, 40)], 27) := by decide +kernel
theorem dX11_happens_76 : decode cX11_happens 76 = .ok (.aload_n 0, 1) := by decide +kernel
theorem dX11_happens_77 : decode cX11_happens 77 = .ok (.getfield 7, 3) := by decide +kernel
theorem dX11_happens_80 : decode cX11_happens 80 = .ok (.bipush 7, 2) := by decide +kernel
theorem dX11_happens_82 : decode cX11_happens 82 = .ok (.iconst 1, 1) := by decide +kernel
theorem dX11_happens_83 : decode cX11_happens 83 = .ok (.iload_n 2, 1) := by decide +kernel
theorem dX11_happens_84 : decode cX11_happens 84 = .ok (.ishl, 1) := by decide +kernel
theorem dX11_happens_85 : decode cX11_happens 85 = .ok (.iastore, 1) := by decide +kernel
theorem dX11_happens_86 : decode cX11_happens 86 = .ok (.goto 38, 3) := by decide +kernel
theorem dX11_happens_89 : decode cX11_happens 89 = .ok (.aload_n 0, 1) := by decide +kernel
theorem dX11_happens_90 : decode cX11_happens 90 = .ok (.iload_n 2, 1) := by decide +kernel
theorem dX11_happens_91 : decode cX11_happens 91 = .ok (.iconst 0, 1) := by decide +kernel
theorem dX11_happens_92 : decode cX11_happens 92 = .ok (.iload_n 1, 1) := by decide +kernel
theorem dX11_happens_93 : decode cX11_happens 93 = .ok (.bipush 6, 2) := by decide +kernel
theorem dX11_happens_95 : decode cX11_happens 95 = .ok (.idiv, 1) := by decide +kernel
theorem dX11_happens_96 : decode cX11_happens 96 = .ok (.bipush 100, 2) := by decide +kernel
theorem dX11_happens_98 : decode cX11_happens 98 = .ok (.irem, 1) := by decide +kernel
theorem dX11_happens_99 : decode cX11_happens 99 = .ok (.invokevirtual 78, 3) := by decide +kernel
theorem dX11_happens_102 : decode cX11_happens 102 = .ok (.goto 22, 3) := by decide +kernel
theorem dX11_happens_105 : decode cX11_happens 105 = .ok (.aload_n 0, 1) := by decide +kernel
theorem dX11_happens_106 : decode cX11_happens 106 = .ok (.iload_n 2, 1) := by decide +kernel
theorem dX11_happens_107 : decode cX11_happens 107 = .ok (.iconst 1, 1) := by decide +kernel
theorem dX11_happens_108 : decode cX11_happens 108 = .ok (.iload_n 1, 1) := by decide +kernel
theorem dX11_happens_109 : decode cX11_happens 109 = .ok (.bipush 6, 2) := by decide +kernel
theorem dX11_happens_111 : decode cX11_happens 111 = .ok (.irem, 1) := by decide +kernel
theorem dX11_happens_112 : decode cX11_happens 112 = .ok (.iconst 2, 1) := by decide +kernel
theorem dX11_happens_113 : decode cX11_happens 113 = .ok (.if_icmp .ne 7, 3) := by decide +kernel
theorem dX11_happens_116 : decode cX11_happens 116 = .ok (.iconst 1, 1) := by decide +kernel
theorem dX11_happens_117 : decode cX11_happens 117 = .ok (.goto 4, 3) := by decide +kernel
theorem dX11_happens_120 : decode cX11_happens 120 = .ok (.iconst 0, 1) := by decide +kernel
theorem dX11_happens_121 : decode cX11_happens 121 = .ok (.invokevirtual 78, 3) := by decide +kernel
theorem dX11_happens_124 : decode cX11_happens 124 = .ok (.return_, 1) := by decide +kernel
def B_X11_happens_121 (s0 : Int32) (s1 : Int32) (s2 : Int32) (s3 : Option Nat) (μ : Me) (Q : Me → Prop) : Prop := ∃ t15, s3 = some t15 ∧ mok μ t15 11 ∧ S_X11_put t15 s2 s1 s0 μ (fun μ19 => Q μ19)
set_option maxHeartbeats 4000000 in
set_option maxRecDepth 100000 in
theorem tB_X11_happens_121 {x : GX} (f : Fx x cX11_happens RX11 3 (rmc 7 0 0)) {s0 : Int32} {s1 : Int32} {s2 : Int32} {s3 : Option Nat} {μ : Me} {Q : Me → Prop} (hq : Rt x none (qV Q)) (h : B_X11_happens_121 s0 s1 s2 s3 μ Q) : G x 3 121 [] [.int s0, .int s1, .int s2, vr (gB x) s3] μ 0 0 := by
  unfold B_X11_happens_121 at h
  obtain ⟨t15, e16, h17⟩ := h
  subst e16
  have h := h17
  obtain ⟨v18, h⟩ := h
  refine g_callV f mk_X11_78 v18 (c_X11_put h) dX11_happens_121 rfl rfl (Nat.le_of_ble_eq_true rfl) (rm_ok (by decide) (by decide)) ⟨Nat.le_of_ble_eq_true rfl, Nat.le_of_ble_eq_true rfl⟩ (kV fun μ19 x20 h => ?_)
  exact g_vret f hq (Nat.le_of_ble_eq_true rfl) (Nat.le_of_ble_eq_true rfl) dX11_happens_124 h
def S_X11_happens (o0 : Nat) (i1 : Int32) (μ : Me) (Q : Me → Prop) : Prop := (((i1 - i1 / 6 * 6) ≤ 3 → mok μ o0 11 ∧ ∃ t2, mgr μ o0 0 = some t2 ∧ mok μ t2 12 ∧ vp_in (0 : Int32) (mln μ t2) ∧ ((¬ (mgi μ t2 (0 : Int32).toNatClampNeg) = 0 → ∃ t4, mgr μ o0 0 = some t4 ∧ mok μ t4 12 ∧ vp_in (0 : Int32) (mln μ t4) ∧ ¬ (mgi μ t4 (0 : Int32).toNatClampNeg) = 0 ∧ (((i1 - i1 / 6 * 6) = 0 → ∃ t8, mgr μ o0 0 = some t8 ∧ mok μ t8 12 ∧ vp_in (7 : Int32) (mln μ t8) ∧ ∀ μ10, μ10 = msi μ t8 (7 : Int32).toNatClampNeg (1 <<< ((i1 - i1 / (mgi μ t4 (0 : Int32).toNatClampNeg) * (mgi μ t4 (0 : Int32).toNatClampNeg)) &&& 31)) → Q μ10) ∧ (¬ (i1 - i1 / 6 * 6) = 0 → ((i1 - i1 / 6 * 6) = 1 → S_X11_put o0 (i1 - i1 / (mgi μ t4 (0 : Int32).toNatClampNeg) * (mgi μ t4 (0 : Int32).toNatClampNeg)) 0 ((i1 / 6) - (i1 / 6) / 100 * 100) μ (fun μ12 => Q μ12)) ∧ (¬ (i1 - i1 / 6 * 6) = 1 → ((¬ (i1 - i1 / 6 * 6) = 2 → B_X11_happens_121 0 1 (i1 - i1 / (mgi μ t4 (0 : Int32).toNatClampNeg) * (mgi μ t4 (0 : Int32).toNatClampNeg)) (some o0) μ Q) ∧ ((i1 - i1 / 6 * 6) = 2 → B_X11_happens_121 1 1 (i1 - i1 / (mgi μ t4 (0 : Int32).toNatClampNeg) * (mgi μ t4 (0 : Int32).toNatClampNeg)) (some o0) μ Q)))))) ∧ ((mgi μ t2 (0 : Int32).toNatClampNeg) = 0 → Q μ))) ∧ (¬ (i1 - i1 / 6 * 6) ≤ 3 → mok μ o0 11 ∧ ∃ t23, mgr μ o0 0 = some t23 ∧ mok μ t23 12 ∧ vp_in (6 : Int32) (mln μ t23) ∧ ((9999 ≤ (mgi μ t23 (6 : Int32).toNatClampNeg) → Q μ) ∧ (¬ 9999 ≤ (mgi μ t23 (6 : Int32).toNatClampNeg) → S_X11_pass o0 μ (fun μ25 => Q μ25)))))
set_option maxHeartbeats 4000000 in
set_option maxRecDepth 100000 in
theorem t_X11_happens {x : GX} (f : Fx x cX11_happens RX11 3 (rmc 7 0 0)) {o0 : Nat} {i1 : Int32} {μ : Me} {Q : Me → Prop} (hq : Rt x none (qV Q)) (h : S_X11_happens o0 i1 μ Q) : G x 3 0 [(0, .ref (gB x + o0)), (1, .int i1)] [] μ 0 0 := by
  unfold S_X11_happens at h
  refine g_iload_n f 1 dX11_happens_0 rfl rfl ?_
  refine g_bipush f 6 dX11_happens_1 kb_6 ?_
  refine g_irem f dX11_happens_3 (by decide) ?_
  refine g_iconst f 3 dX11_happens_4 kc_3 ?_
  refine g_ic_le f 26 dX11_happens_5 rfl h (fun h => ?_) (fun h => ?_)
  · refine g_aload_n f 0 dX11_happens_26 rfl rfl ?_
    obtain ⟨v1, h⟩ := h
    refine g_getR f fk_X11_7 v1 dX11_happens_27 rfl h (fun t2 h => ?_)
    refine g_iconst f 0 dX11_happens_30 kc_0 ?_
    obtain ⟨v3, h⟩ := h
    refine g_iald f v3 dX11_happens_31 h (fun h => ?_)
    refine g_if_ne f 36 dX11_happens_32 rfl h (fun h => ?_) (fun h => ?_)
    · refine g_iload_n f 1 dX11_happens_36 rfl rfl ?_
      refine g_aload_n f 0 dX11_happens_37 rfl rfl ?_
      refine g_getR f fk_X11_7 v1 dX11_happens_38 rfl h (fun t4 h => ?_)
      refine g_iconst f 0 dX11_happens_41 kc_0 ?_
      obtain ⟨v5, h⟩ := h
      refine g_iald f v5 dX11_happens_42 h (fun h => ?_)
      obtain ⟨z6, h⟩ := h
      refine g_irem f dX11_happens_43 z6 ?_
      refine h_istore_n f dX11_happens_44 rfl (by decide) ?_
      refine g_iload_n f 2 dX11_happens_45 rfl rfl ?_
      refine g_bipush f 6 dX11_happens_46 kb_6 ?_
      refine g_irem f dX11_happens_48 (by decide) ?_
      rcases dec_or h with ⟨e7, h⟩ | ⟨e7, h⟩
      · refine g_lookup f 76 dX11_happens_49 (by decide) (by rw [e7] <;> rfl) rfl ?_
        refine g_aload_n f 1 dX11_happens_76 rfl rfl ?_
        refine g_getR f fk_X11_7 v1 dX11_happens_77 rfl h (fun t8 h => ?_)
        refine g_bipush f 7 dX11_happens_80 kb_7 ?_
        refine g_iconst f 1 dX11_happens_82 kc_1 ?_
        refine g_iload_n f 0 dX11_happens_83 rfl rfl ?_
        refine g_ishl f dX11_happens_84 ?_
        obtain ⟨v9, h⟩ := h
        refine g_iast f v9 dX11_happens_85 h (fun h => ?_)
        refine g_goto f 124 dX11_happens_86 rfl ?_
        exact g_vret f hq (Nat.le_of_ble_eq_true rfl) (Nat.le_of_ble_eq_true rfl) dX11_happens_124 h
      · skip
        rcases dec_or h with ⟨e11, h⟩ | ⟨e11, h⟩
        · refine g_lookup f 89 dX11_happens_49 (by decide) (by rw [e11] <;> rfl) rfl ?_
          refine g_aload_n f 1 dX11_happens_89 rfl rfl ?_
          refine g_iload_n f 0 dX11_happens_90 rfl rfl ?_
          refine g_iconst f 0 dX11_happens_91 kc_0 ?_
          refine g_iload_n f 2 dX11_happens_92 rfl rfl ?_
          refine g_bipush f 6 dX11_happens_93 kb_6 ?_
          refine g_idiv f dX11_happens_95 (by decide) ?_
          refine g_bipush f 100 dX11_happens_96 kb_100 ?_
          refine g_irem f dX11_happens_98 (by decide) ?_
          refine g_callV f mk_X11_78 v1 (c_X11_put h) dX11_happens_99 rfl rfl (Nat.le_of_ble_eq_true rfl) (rm_ok (by decide) (by decide)) ⟨Nat.le_of_ble_eq_true rfl, Nat.le_of_ble_eq_true rfl⟩ (kV fun μ12 x13 h => ?_)
          refine g_goto f 124 dX11_happens_102 rfl ?_
          exact g_vret f hq (Nat.le_of_ble_eq_true rfl) (Nat.le_of_ble_eq_true rfl) dX11_happens_124 h
        · skip
          refine g_lookup f 105 dX11_happens_49 (by decide) ((lv_osw (a := 0) e7 (by decide)).trans ((lv_osw (a := 1) e11 (by decide)).trans rfl)) rfl ?_
          refine g_aload_n f 1 dX11_happens_105 rfl rfl ?_
          refine g_iload_n f 0 dX11_happens_106 rfl rfl ?_
          refine g_iconst f 1 dX11_happens_107 kc_1 ?_
          refine g_iload_n f 2 dX11_happens_108 rfl rfl ?_
          refine g_bipush f 6 dX11_happens_109 kb_6 ?_
          refine g_irem f dX11_happens_111 (by decide) ?_
          refine g_iconst f 2 dX11_happens_112 kc_2 ?_
          refine g_ic_ne f 120 dX11_happens_113 rfl h (fun h => ?_) (fun h => ?_)
          · refine g_iconst f 0 dX11_happens_120 kc_0 ?_
            exact h_sub [] rfl (tB_X11_happens_121 f hq h)
          · refine g_iconst f 1 dX11_happens_116 kc_1 ?_
            refine g_goto f 121 dX11_happens_117 rfl ?_
            exact h_sub [] rfl (tB_X11_happens_121 f hq h)
    · exact g_vret f hq (Nat.le_of_ble_eq_true rfl) (Nat.le_of_ble_eq_true rfl) dX11_happens_35 h
  · refine g_aload_n f 0 dX11_happens_8 rfl rfl ?_
    obtain ⟨v22, h⟩ := h
    refine g_getR f fk_X11_7 v22 dX11_happens_9 rfl h (fun t23 h => ?_)
    refine g_bipush f 6 dX11_happens_12 kb_6 ?_
    obtain ⟨v24, h⟩ := h
    refine g_iald f v24 dX11_happens_14 h (fun h => ?_)
    refine g_sipush f 9999 dX11_happens_15 ks_9999 ?_
    refine g_ic_ge f 25 dX11_happens_18 rfl h (fun h => ?_) (fun h => ?_)
    · exact g_vret f hq (Nat.le_of_ble_eq_true rfl) (Nat.le_of_ble_eq_true rfl) dX11_happens_25 h
    · refine g_aload_n f 0 dX11_happens_21 rfl rfl ?_
      refine g_callV f mk_X11_341 v22 (c_X11_pass h) dX11_happens_22 rfl rfl (Nat.le_of_ble_eq_true rfl) (rm_ok (by decide) (by decide)) ⟨Nat.le_of_ble_eq_true rfl, Nat.le_of_ble_eq_true rfl⟩ (kV fun μ25 x26 h => ?_)
      exact g_vret f hq (Nat.le_of_ble_eq_true rfl) (Nat.le_of_ble_eq_true rfl) dX11_happens_25 h
theorem c_X11_happens {Ω : OM} {o0 : Nat} {i1 : Int32} {μ : Me} {Q : Me → Prop} (h : S_X11_happens o0 i1 μ Q) : CT Ω yX11_happens cX11_happens 3 none (rmc 7 0 0) [.ref (oB Ω + o0), .int i1] μ (qV Q) := CT_of (by decide) rfl (by simp [lg_sl, Value.category]) (fun x hΩ f hq hi => by subst hΩ; exact t_X11_happens f hq h)
theorem dX11_years_0 : decode cX11_years 0 = .ok (.iload_n 1, 1) := by decide +kernel
theorem dX11_years_1 : decode cX11_years 1 = .ok (.iconst 0, 1) := by decide +kernel
theorem dX11_years_2 : decode cX11_years 2 = .ok (.sipush 9999, 3) := by decide +kernel
theorem dX11_years_5 : decode cX11_years 5 = .ok (.invokestatic 66, 3) := by decide +kernel
theorem dX11_years_8 : decode cX11_years 8 = .ok (.ifCond .eq 13, 3) := by decide +kernel
theorem dX11_years_11 : decode cX11_years 11 = .ok (.iload_n 2, 1) := by decide +kernel
theorem dX11_years_12 : decode cX11_years 12 = .ok (.iconst 1, 1) := by decide +kernel
theorem dX11_years_13 : decode cX11_years 13 = .ok (.bipush 40, 2) := by decide +kernel
theorem dX11_years_15 : decode cX11_years 15 = .ok (.invokestatic 66, 3) := by decide +kernel
theorem dX11_years_18 : decode cX11_years 18 = .ok (.ifCond .ne 5, 3) := by decide +kernel
theorem dX11_years_21 : decode cX11_years 21 = .ok (.iconst (-1), 1) := by decide +kernel
theorem dX11_years_22 : decode cX11_years 22 = .ok (.ireturn, 1) := by decide +kernel
theorem dX11_years_23 : decode cX11_years 23 = .ok (.aload_n 0, 1) := by decide +kernel
theorem dX11_years_24 : decode cX11_years 24 = .ok (.invokevirtual 332, 3) := by decide +kernel
theorem dX11_years_27 : decode cX11_years 27 = .ok (.aload_n 0, 1) := by decide +kernel
theorem dX11_years_28 : decode cX11_years 28 = .ok (.getfield 7, 3) := by decide +kernel
theorem dX11_years_31 : decode cX11_years 31 = .ok (.bipush 9, 2) := by decide +kernel
theorem dX11_years_33 : decode cX11_years 33 = .ok (.iload_n 1, 1) := by decide +kernel
theorem dX11_years_34 : decode cX11_years 34 = .ok (.iconst 2, 1) := by decide +kernel
theorem dX11_years_35 : decode cX11_years 35 = .ok (.imul, 1) := by decide +kernel
theorem dX11_years_36 : decode cX11_years 36 = .ok (.sipush 229, 3) := by decide +kernel
theorem dX11_years_39 : decode cX11_years 39 = .ok (.iadd, 1) := by decide +kernel
theorem dX11_years_40 : decode cX11_years 40 = .ok (.iastore, 1) := by decide +kernel
theorem dX11_years_41 : decode cX11_years 41 = .ok (.iconst 0, 1) := by decide +kernel
theorem dX11_years_42 : decode cX11_years 42 = .ok (.istore_n 3, 1) := by decide +kernel
theorem dX11_years_43 : decode cX11_years 43 = .ok (.iload_n 3, 1) := by decide +kernel
theorem dX11_years_44 : decode cX11_years 44 = .ok (.iload_n 2, 1) := by decide +kernel
theorem dX11_years_45 : decode cX11_years 45 = .ok (.if_icmp .ge 28, 3) := by decide +kernel
theorem dX11_years_48 : decode cX11_years 48 = .ok (.aload_n 0, 1) := by decide +kernel
theorem dX11_years_49 : decode cX11_years 49 = .ok (.getfield 7, 3) := by decide +kernel
theorem dX11_years_52 : decode cX11_years 52 = .ok (.bipush 9, 2) := by decide +kernel
theorem dX11_years_54 : decode cX11_years 54 = .ok (.iaload, 1) := by decide +kernel
theorem dX11_years_55 : decode cX11_years 55 = .ok (.istore 4, 2) := by decide +kernel
theorem dX11_years_57 : decode cX11_years 57 = .ok (.aload_n 0, 1) := by decide +kernel
theorem dX11_years_58 : decode cX11_years 58 = .ok (.invokevirtual 317, 3) := by decide +kernel
theorem dX11_years_61 : decode cX11_years 61 = .ok (.aload_n 0, 1) := by decide +kernel
theorem dX11_years_62 : decode cX11_years 62 = .ok (.iload 4, 2) := by decide +kernel
theorem dX11_years_64 : decode cX11_years 64 = .ok (.invokevirtual 365, 3) := by decide +kernel
theorem dX11_years_67 : decode cX11_years 67 = .ok (.iinc 3 1, 3) := by decide +kernel
theorem dX11_years_70 : decode cX11_years 70 = .ok (.goto (-27), 3) := by decide +kernel
theorem dX11_years_73 : decode cX11_years 73 = .ok (.aload_n 0, 1) := by decide +kernel
theorem dX11_years_74 : decode cX11_years 74 = .ok (.getfield 7, 3) := by decide +kernel
theorem dX11_years_77 : decode cX11_years 77 = .ok (.bipush 6, 2) := by decide +kernel
theorem dX11_years_79 : decode cX11_years 79 = .ok (.iaload, 1) := by decide +kernel
theorem dX11_years_80 : decode cX11_years 80 = .ok (.ireturn, 1) := by decide +kernel
def B_X11_years_43 (o0 : Nat) (i2 : Int32) (i3 : Int32) (μ : Me) (K43 : Int32 → Me → Prop) (Q : Int32 → Me → Prop) : Prop := ((i2 ≤ i3 → mok μ o0 11 ∧ ∃ t15, mgr μ o0 0 = some t15 ∧ mok μ t15 12 ∧ vp_in (6 : Int32) (mln μ t15) ∧ Q (mgi μ t15 (6 : Int32).toNatClampNeg) μ) ∧ (¬ i2 ≤ i3 → mok μ o0 11 ∧ ∃ t18, mgr μ o0 0 = some t18 ∧ mok μ t18 12 ∧ vp_in (9 : Int32) (mln μ t18) ∧ S_X11_anew o0 μ (fun μ20 => S_X11_happens o0 (mgi μ t18 (9 : Int32).toNatClampNeg) μ20 (fun μ23 => K43 (i3 + 1) μ23))))
set_option maxHeartbeats 4000000 in
set_option maxRecDepth 100000 in
theorem tB_X11_years_43 {x : GX} (f : Fx x cX11_years RX11 5 (rmc 8 0 0)) {o0 : Nat} {i2 : Int32} {i3 : Int32} {μ : Me} {Q : Int32 → Me → Prop} (hq : Rt x (some .int) (qI Q)) {K43 : Int32 → Me → Prop} (hK43 : ∀ (a3 : Int32) (ν : Me), K43 a3 ν → G x 5 43 [(0, .ref (gB x + o0)), (2, .int i2), (3, .int a3)] [] ν 0 0) (h : B_X11_years_43 o0 i2 i3 μ K43 Q) : G x 5 43 [(0, .ref (gB x + o0)), (2, .int i2), (3, .int i3)] [] μ 0 0 := by
  unfold B_X11_years_43 at h
  refine g_iload_n f 2 dX11_years_43 rfl rfl ?_
  refine g_iload_n f 1 dX11_years_44 rfl rfl ?_
  refine g_ic_ge f 73 dX11_years_45 rfl h (fun h => ?_) (fun h => ?_)
  · refine g_aload_n f 0 dX11_years_73 rfl rfl ?_
    obtain ⟨v14, h⟩ := h
    refine g_getR f fk_X11_7 v14 dX11_years_74 rfl h (fun t15 h => ?_)
    refine g_bipush f 6 dX11_years_77 kb_6 ?_
    obtain ⟨v16, h⟩ := h
    refine g_iald f v16 dX11_years_79 h (fun h => ?_)
    exact g_iret f hq (Nat.le_of_ble_eq_true rfl) (Nat.le_of_ble_eq_true rfl) dX11_years_80 h
  · refine g_aload_n f 0 dX11_years_48 rfl rfl ?_
    obtain ⟨v17, h⟩ := h
    refine g_getR f fk_X11_7 v17 dX11_years_49 rfl h (fun t18 h => ?_)
    refine g_bipush f 9 dX11_years_52 kb_9 ?_
    obtain ⟨v19, h⟩ := h
    refine g_iald f v19 dX11_years_54 h (fun h => ?_)
    refine h_istore f dX11_years_55 (by decide) ?_
    refine g_aload_n f 1 dX11_years_57 rfl rfl ?_
    refine g_callV f mk_X11_317 v17 (c_X11_anew h) dX11_years_58 rfl rfl (Nat.le_of_ble_eq_true rfl) (rm_ok (by decide) (by decide)) ⟨Nat.le_of_ble_eq_true rfl, Nat.le_of_ble_eq_true rfl⟩ (kV fun μ20 x21 h => ?_)
    refine g_aload_n f 1 dX11_years_61 rfl rfl ?_
    refine g_iload f 0 dX11_years_62 rfl ?_
    have v17 := mex_ok x21 v17
    refine g_callV f mk_X11_365 v17 (c_X11_happens h) dX11_years_64 rfl rfl (Nat.le_of_ble_eq_true rfl) (rm_ok (by decide) (by decide)) ⟨Nat.le_of_ble_eq_true rfl, Nat.le_of_ble_eq_true rfl⟩ (kV fun μ23 x24 h => ?_)
    refine h_iinc f 3 1 dX11_years_67 rfl kc_1 (by decide) ?_
    refine g_goto f 43 dX11_years_70 rfl ?_
    exact h_sub [2, 3, 0] rfl (hK43 _ _ h)
def L_X11_years_43 (o0 : Nat) (i2 : Int32) (i3 : Int32) (μ : Me) (Q : Int32 → Me → Prop) : Prop := ∃ I : Int32 → Me → Nat → Prop, (∃ n, I i3 μ n) ∧ ∀ (i3 : Int32) (μ : Me) (n : Nat), I i3 μ n → B_X11_years_43 o0 i2 i3 μ (fun a3 ν => ∃ n', n' < n ∧ I a3 ν n') Q
set_option maxHeartbeats 4000000 in
set_option maxRecDepth 100000 in
theorem tL_X11_years_43 {x : GX} (f : Fx x cX11_years RX11 5 (rmc 8 0 0)) {o0 : Nat} {i2 : Int32} {i3 : Int32} {μ : Me} {Q : Int32 → Me → Prop} (hq : Rt x (some .int) (qI Q)) (h : L_X11_years_43 o0 i2 i3 μ Q) : G x 5 43 [(0, .ref (gB x + o0)), (2, .int i2), (3, .int i3)] [] μ 0 0 := by
  obtain ⟨I, ⟨n, hI⟩, hs⟩ := h
  induction n using Nat.strongRecOn generalizing i3 μ with
  | ind n ih => exact tB_X11_years_43 f hq (fun a3 ν hk => by obtain ⟨n2, hn, hI2⟩ := hk; exact ih n2 hn hI2) (hs _ _ _ hI)
def S_X11_years (o0 : Nat) (i1 : Int32) (i2 : Int32) (μ : Me) (Q : Int32 → Me → Prop) : Prop := S_X11_isIn i1 0 9999 μ (fun r3 μ1 => ((r3 = 0 → Q (-1) μ1) ∧ (¬ r3 = 0 → S_X11_isIn i2 1 40 μ1 (fun r6 μ4 => ((¬ r6 = 0 → mok μ4 o0 11 ∧ S_X11_keep o0 μ4 (fun μ8 => ∃ t11, mgr μ8 o0 0 = some t11 ∧ mok μ8 t11 12 ∧ vp_in (9 : Int32) (mln μ8 t11) ∧ ∀ μ13, μ13 = msi μ8 t11 (9 : Int32).toNatClampNeg ((i1 * 2) + 229) → L_X11_years_43 o0 i2 0 μ13 Q)) ∧ (r6 = 0 → Q (-1) μ4))))))
set_option maxHeartbeats 4000000 in
set_option maxRecDepth 100000 in
theorem t_X11_years {x : GX} (f : Fx x cX11_years RX11 5 (rmc 8 0 0)) {o0 : Nat} {i1 : Int32} {i2 : Int32} {μ : Me} {Q : Int32 → Me → Prop} (hq : Rt x (some .int) (qI Q)) (h : S_X11_years o0 i1 i2 μ Q) : G x 5 0 [(0, .ref (gB x + o0)), (1, .int i1), (2, .int i2)] [] μ 0 0 := by
  unfold S_X11_years at h
  refine g_iload_n f 1 dX11_years_0 rfl rfl ?_
  refine g_iconst f 0 dX11_years_1 kc_0 ?_
  refine g_sipush f 9999 dX11_years_2 ks_9999 ?_
  refine g_callS f mk_X11_66 (c_X11_isIn h) dX11_years_5 rfl rfl (Nat.le_of_ble_eq_true rfl) (rm_ok (by decide) (by decide)) ⟨Nat.le_of_ble_eq_true rfl, Nat.le_of_ble_eq_true rfl⟩ (kI fun r3 μ1 x2 h => ?_)
  refine g_if_eq f 21 dX11_years_8 rfl h (fun h => ?_) (fun h => ?_)
  · refine g_iconst f (-1) dX11_years_21 kc_m1 ?_
    exact g_iret f hq (Nat.le_of_ble_eq_true rfl) (Nat.le_of_ble_eq_true rfl) dX11_years_22 h
  · refine g_iload_n f 2 dX11_years_11 rfl rfl ?_
    refine g_iconst f 1 dX11_years_12 kc_1 ?_
    refine g_bipush f 40 dX11_years_13 kb_40 ?_
    refine g_callS f mk_X11_66 (c_X11_isIn h) dX11_years_15 rfl rfl (Nat.le_of_ble_eq_true rfl) (rm_ok (by decide) (by decide)) ⟨Nat.le_of_ble_eq_true rfl, Nat.le_of_ble_eq_true rfl⟩ (kI fun r6 μ4 x5 h => ?_)
    refine g_if_ne f 23 dX11_years_18 rfl h (fun h => ?_) (fun h => ?_)
    · refine g_aload_n f 0 dX11_years_23 rfl rfl ?_
      obtain ⟨v7, h⟩ := h
      refine g_callV f mk_X11_332 v7 (c_X11_keep h) dX11_years_24 rfl rfl (Nat.le_of_ble_eq_true rfl) (rm_ok (by decide) (by decide)) ⟨Nat.le_of_ble_eq_true rfl, Nat.le_of_ble_eq_true rfl⟩ (kV fun μ8 x9 h => ?_)
      refine g_aload_n f 0 dX11_years_27 rfl rfl ?_
      have v7 := mex_ok x9 v7
      refine g_getR f fk_X11_7 v7 dX11_years_28 rfl h (fun t11 h => ?_)
      refine g_bipush f 9 dX11_years_31 kb_9 ?_
      refine g_iload_n f 1 dX11_years_33 rfl rfl ?_
      refine g_iconst f 2 dX11_years_34 kc_2 ?_
      refine g_imul f dX11_years_35 ?_
      refine g_sipush f 229 dX11_years_36 ks_229 ?_
      refine g_iadd f dX11_years_39 ?_
      obtain ⟨v12, h⟩ := h
      refine g_iast f v12 dX11_years_40 h (fun h => ?_)
      refine g_iconst f 0 dX11_years_41 kc_0 ?_
      refine h_istore_n f dX11_years_42 rfl (by decide) ?_
      exact h_sub [1, 3, 0] rfl (tL_X11_years_43 f hq h)
    · refine g_iconst f (-1) dX11_years_21 kc_m1 ?_
      exact g_iret f hq (Nat.le_of_ble_eq_true rfl) (Nat.le_of_ble_eq_true rfl) dX11_years_22 h
theorem c_X11_years {Ω : OM} {o0 : Nat} {i1 : Int32} {i2 : Int32} {μ : Me} {Q : Int32 → Me → Prop} (h : S_X11_years o0 i1 i2 μ Q) : CT Ω yX11_years cX11_years 5 (some .int) (rmc 8 0 0) [.ref (oB Ω + o0), .int i1, .int i2] μ (qI Q) := CT_of (by decide) rfl (by simp [lg_sl, Value.category]) (fun x hΩ f hq hi => by subst hΩ; exact t_X11_years f hq h)
theorem dX11_runningNow_0 : decode cX11_runningNow 0 = .ok (.aload_n 0, 1) := by decide +kernel
theorem dX11_runningNow_1 : decode cX11_runningNow 1 = .ok (.aload_n 0, 1) := by decide +kernel
theorem dX11_runningNow_2 : decode cX11_runningNow 2 = .ok (.getfield 7, 3) := by decide +kernel
theorem dX11_runningNow_5 : decode cX11_runningNow 5 = .ok (.iconst 2, 1) := by decide +kernel
theorem dX11_runningNow_6 : decode cX11_runningNow 6 = .ok (.iaload, 1) := by decide +kernel
theorem dX11_runningNow_7 : decode cX11_runningNow 7 = .ok (.aload_n 0, 1) := by decide +kernel
theorem dX11_runningNow_8 : decode cX11_runningNow 8 = .ok (.getfield 7, 3) := by decide +kernel
theorem dX11_runningNow_11 : decode cX11_runningNow 11 = .ok (.bipush 7, 2) := by decide +kernel
theorem dX11_runningNow_13 : decode cX11_runningNow 13 = .ok (.iaload, 1) := by decide +kernel
theorem dX11_runningNow_14 : decode cX11_runningNow 14 = .ok (.invokevirtual 305, 3) := by decide +kernel
theorem dX11_runningNow_17 : decode cX11_runningNow 17 = .ok (.ireturn, 1) := by decide +kernel
def S_X11_runningNow (o0 : Nat) (μ : Me) (Q : Int32 → Me → Prop) : Prop := mok μ o0 11 ∧ ∃ t2, mgr μ o0 0 = some t2 ∧ mok μ t2 12 ∧ vp_in (2 : Int32) (mln μ t2) ∧ ∃ t4, mgr μ o0 0 = some t4 ∧ mok μ t4 12 ∧ vp_in (7 : Int32) (mln μ t4) ∧ S_X11_runnersBy o0 (mgi μ t2 (2 : Int32).toNatClampNeg) (mgi μ t4 (7 : Int32).toNatClampNeg) μ (fun r8 μ6 => Q r8 μ6)
set_option maxHeartbeats 4000000 in
set_option maxRecDepth 100000 in
theorem t_X11_runningNow {x : GX} (f : Fx x cX11_runningNow RX11 1 (rmc 5 0 0)) {o0 : Nat} {μ : Me} {Q : Int32 → Me → Prop} (hq : Rt x (some .int) (qI Q)) (h : S_X11_runningNow o0 μ Q) : G x 1 0 [(0, .ref (gB x + o0))] [] μ 0 0 := by
  unfold S_X11_runningNow at h
  refine g_aload_n f 0 dX11_runningNow_0 rfl rfl ?_
  refine g_aload_n f 0 dX11_runningNow_1 rfl rfl ?_
  obtain ⟨v1, h⟩ := h
  refine g_getR f fk_X11_7 v1 dX11_runningNow_2 rfl h (fun t2 h => ?_)
  refine g_iconst f 2 dX11_runningNow_5 kc_2 ?_
  obtain ⟨v3, h⟩ := h
  refine g_iald f v3 dX11_runningNow_6 h (fun h => ?_)
  refine g_aload_n f 0 dX11_runningNow_7 rfl rfl ?_
  refine g_getR f fk_X11_7 v1 dX11_runningNow_8 rfl h (fun t4 h => ?_)
  refine g_bipush f 7 dX11_runningNow_11 kb_7 ?_
  obtain ⟨v5, h⟩ := h
  refine g_iald f v5 dX11_runningNow_13 h (fun h => ?_)
  refine g_callV f mk_X11_305 v1 (c_X11_runnersBy h) dX11_runningNow_14 rfl rfl (Nat.le_of_ble_eq_true rfl) (rm_ok (by decide) (by decide)) ⟨Nat.le_of_ble_eq_true rfl, Nat.le_of_ble_eq_true rfl⟩ (kI fun r8 μ6 x7 h => ?_)
  exact g_iret f hq (Nat.le_of_ble_eq_true rfl) (Nat.le_of_ble_eq_true rfl) dX11_runningNow_17 h
theorem c_X11_runningNow {Ω : OM} {o0 : Nat} {μ : Me} {Q : Int32 → Me → Prop} (h : S_X11_runningNow o0 μ Q) : CT Ω yX11_runningNow cX11_runningNow 1 (some .int) (rmc 5 0 0) [.ref (oB Ω + o0)] μ (qI Q) := CT_of (by decide) rfl (by simp [lg_sl, Value.category]) (fun x hΩ f hq hi => by subst hΩ; exact t_X11_runningNow f hq h)
theorem dX11_takesNow_0 : decode cX11_takesNow 0 = .ok (.aload_n 0, 1) := by decide +kernel
theorem dX11_takesNow_1 : decode cX11_takesNow 1 = .ok (.aload_n 0, 1) := by decide +kernel
theorem dX11_takesNow_2 : decode cX11_takesNow 2 = .ok (.getfield 7, 3) := by decide +kernel
theorem dX11_takesNow_5 : decode cX11_takesNow 5 = .ok (.iconst 2, 1) := by decide +kernel
theorem dX11_takesNow_6 : decode cX11_takesNow 6 = .ok (.iaload, 1) := by decide +kernel
theorem dX11_takesNow_7 : decode cX11_takesNow 7 = .ok (.iload_n 1, 1) := by decide +kernel
theorem dX11_takesNow_8 : decode cX11_takesNow 8 = .ok (.aload_n 0, 1) := by decide +kernel
theorem dX11_takesNow_9 : decode cX11_takesNow 9 = .ok (.getfield 7, 3) := by decide +kernel
theorem dX11_takesNow_12 : decode cX11_takesNow 12 = .ok (.bipush 7, 2) := by decide +kernel
theorem dX11_takesNow_14 : decode cX11_takesNow 14 = .ok (.iaload, 1) := by decide +kernel
theorem dX11_takesNow_15 : decode cX11_takesNow 15 = .ok (.iload_n 2, 1) := by decide +kernel
theorem dX11_takesNow_16 : decode cX11_takesNow 16 = .ok (.invokevirtual 308, 3) := by decide +kernel
theorem dX11_takesNow_19 : decode cX11_takesNow 19 = .ok (.ireturn, 1) := by decide +kernel
def S_X11_takesNow (o0 : Nat) (i1 : Int32) (i2 : Int32) (μ : Me) (Q : Int32 → Me → Prop) : Prop := mok μ o0 11 ∧ ∃ t2, mgr μ o0 0 = some t2 ∧ mok μ t2 12 ∧ vp_in (2 : Int32) (mln μ t2) ∧ ∃ t4, mgr μ o0 0 = some t4 ∧ mok μ t4 12 ∧ vp_in (7 : Int32) (mln μ t4) ∧ S_X11_takesOf o0 (mgi μ t2 (2 : Int32).toNatClampNeg) i1 (mgi μ t4 (7 : Int32).toNatClampNeg) i2 μ (fun r8 μ6 => Q r8 μ6)
set_option maxHeartbeats 4000000 in
set_option maxRecDepth 100000 in
theorem t_X11_takesNow {x : GX} (f : Fx x cX11_takesNow RX11 3 (rmc 5 0 0)) {o0 : Nat} {i1 : Int32} {i2 : Int32} {μ : Me} {Q : Int32 → Me → Prop} (hq : Rt x (some .int) (qI Q)) (h : S_X11_takesNow o0 i1 i2 μ Q) : G x 3 0 [(0, .ref (gB x + o0)), (1, .int i1), (2, .int i2)] [] μ 0 0 := by
  unfold S_X11_takesNow at h
  refine g_aload_n f 0 dX11_takesNow_0 rfl rfl ?_
  refine g_aload_n f 0 dX11_takesNow_1 rfl rfl ?_
  obtain ⟨v1, h⟩ := h
  refine g_getR f fk_X11_7 v1 dX11_takesNow_2 rfl h (fun t2 h => ?_)
  refine g_iconst f 2 dX11_takesNow_5 kc_2 ?_
  obtain ⟨v3, h⟩ := h
  refine g_iald f v3 dX11_takesNow_6 h (fun h => ?_)
  refine g_iload_n f 1 dX11_takesNow_7 rfl rfl ?_
  refine g_aload_n f 0 dX11_takesNow_8 rfl rfl ?_
  refine g_getR f fk_X11_7 v1 dX11_takesNow_9 rfl h (fun t4 h => ?_)
  refine g_bipush f 7 dX11_takesNow_12 kb_7 ?_
  obtain ⟨v5, h⟩ := h
  refine g_iald f v5 dX11_takesNow_14 h (fun h => ?_)
  refine g_iload_n f 2 dX11_takesNow_15 rfl rfl ?_
  refine g_callV f mk_X11_308 v1 (c_X11_takesOf h) dX11_takesNow_16 rfl rfl (Nat.le_of_ble_eq_true rfl) (rm_ok (by decide) (by decide)) ⟨Nat.le_of_ble_eq_true rfl, Nat.le_of_ble_eq_true rfl⟩ (kI fun r8 μ6 x7 h => ?_)
  exact g_iret f hq (Nat.le_of_ble_eq_true rfl) (Nat.le_of_ble_eq_true rfl) dX11_takesNow_19 h
theorem c_X11_takesNow {Ω : OM} {o0 : Nat} {i1 : Int32} {i2 : Int32} {μ : Me} {Q : Int32 → Me → Prop} (h : S_X11_takesNow o0 i1 i2 μ Q) : CT Ω yX11_takesNow cX11_takesNow 3 (some .int) (rmc 5 0 0) [.ref (oB Ω + o0), .int i1, .int i2] μ (qI Q) := CT_of (by decide) rfl (by simp [lg_sl, Value.category]) (fun x hΩ f hq hi => by subst hΩ; exact t_X11_takesNow f hq h)
theorem dX11_of_0 : decode cX11_of 0 = .ok (.aload_n 0, 1) := by decide +kernel
theorem dX11_of_1 : decode cX11_of 1 = .ok (.iload_n 1, 1) := by decide +kernel
theorem dX11_of_2 : decode cX11_of 2 = .ok (.invokevirtual 335, 3) := by decide +kernel
theorem dX11_of_5 : decode cX11_of 5 = .ok (.ifCond .ne 5, 3) := by decide +kernel
theorem dX11_of_8 : decode cX11_of 8 = .ok (.iconst (-1), 1) := by decide +kernel
theorem dX11_of_9 : decode cX11_of 9 = .ok (.ireturn, 1) := by decide +kernel
theorem dX11_of_10 : decode cX11_of 10 = .ok (.iload_n 2, 1) := by decide +kernel
theorem dX11_of_11 : decode cX11_of 11 = .ok (.tableswitch 99 0 8 #[49, 56, 63, 99, 99, 99, 70, 79, 89], 49) := by decide +kernel
theorem dX11_of_60 : decode cX11_of 60 = .ok (.aload_n 0, 1) := by decide +kernel
theorem dX11_of_61 : decode cX11_of 61 = .ok (.iload_n 1, 1) := by decide +kernel
theorem dX11_of_62 : decode cX11_of 62 = .ok (.iconst 3, 1) := by decide +kernel
theorem dX11_of_63 : decode cX11_of 63 = .ok (.invokevirtual 74, 3) := by decide +kernel
theorem dX11_of_66 : decode cX11_of 66 = .ok (.ireturn, 1) := by decide +kernel
theorem dX11_of_67 : decode cX11_of 67 = .ok (.aload_n 0, 1) := by decide +kernel
theorem dX11_of_68 : decode cX11_of 68 = .ok (.iload_n 1, 1) := by decide +kernel
theorem dX11_of_69 : decode cX11_of 69 = .ok (.iconst 4, 1) := by decide +kernel
theorem dX11_of_70 : decode cX11_of 70 = .ok (.invokevirtual 74, 3) := by decide +kernel
theorem dX11_of_73 : decode cX11_of 73 = .ok (.ireturn, 1) := by decide +kernel
theorem dX11_of_74 : decode cX11_of 74 = .ok (.aload_n 0, 1) := by decide +kernel
theorem dX11_of_75 : decode cX11_of 75 = .ok (.iload_n 1, 1) := by decide +kernel
theorem dX11_of_76 : decode cX11_of 76 = .ok (.iconst 5, 1) := by decide +kernel
theorem dX11_of_77 : decode cX11_of 77 = .ok (.invokevirtual 74, 3) := by decide +kernel
theorem dX11_of_80 : decode cX11_of 80 = .ok (.ireturn, 1) := by decide +kernel
theorem dX11_of_81 : decode cX11_of 81 = .ok (.aload_n 0, 1) := by decide +kernel
theorem dX11_of_82 : decode cX11_of 82 = .ok (.invokevirtual 368, 3) := by decide +kernel
theorem dX11_of_85 : decode cX11_of 85 = .ok (.iload_n 1, 1) := by decide +kernel
theorem dX11_of_86 : decode cX11_of 86 = .ok (.ishr, 1) := by decide +kernel
theorem dX11_of_87 : decode cX11_of 87 = .ok (.iconst 1, 1) := by decide +kernel
theorem dX11_of_88 : decode cX11_of 88 = .ok (.iand, 1) := by decide +kernel
theorem dX11_of_89 : decode cX11_of 89 = .ok (.ireturn, 1) := by decide +kernel
theorem dX11_of_90 : decode cX11_of 90 = .ok (.aload_n 0, 1) := by decide +kernel
theorem dX11_of_91 : decode cX11_of 91 = .ok (.iload_n 1, 1) := by decide +kernel
theorem dX11_of_92 : decode cX11_of 92 = .ok (.aload_n 0, 1) := by decide +kernel
theorem dX11_of_93 : decode cX11_of 93 = .ok (.invokevirtual 368, 3) := by decide +kernel
theorem dX11_of_96 : decode cX11_of 96 = .ok (.invokevirtual 371, 3) := by decide +kernel
theorem dX11_of_99 : decode cX11_of 99 = .ok (.ireturn, 1) := by decide +kernel
theorem dX11_of_100 : decode cX11_of 100 = .ok (.aload_n 0, 1) := by decide +kernel
theorem dX11_of_101 : decode cX11_of 101 = .ok (.getfield 7, 3) := by decide +kernel
theorem dX11_of_104 : decode cX11_of 104 = .ok (.bipush 67, 2) := by decide +kernel
theorem dX11_of_106 : decode cX11_of 106 = .ok (.iload_n 1, 1) := by decide +kernel
theorem dX11_of_107 : decode cX11_of 107 = .ok (.iadd, 1) := by decide +kernel
theorem dX11_of_108 : decode cX11_of 108 = .ok (.iaload, 1) := by decide +kernel
theorem dX11_of_109 : decode cX11_of 109 = .ok (.ireturn, 1) := by decide +kernel
theorem dX11_of_110 : decode cX11_of 110 = .ok (.iload_n 2, 1) := by decide +kernel
theorem dX11_of_111 : decode cX11_of 111 = .ok (.iconst 3, 1) := by decide +kernel
theorem dX11_of_112 : decode cX11_of 112 = .ok (.iconst 5, 1) := by decide +kernel
theorem dX11_of_113 : decode cX11_of 113 = .ok (.invokestatic 66, 3) := by decide +kernel
theorem dX11_of_116 : decode cX11_of 116 = .ok (.ifCond .eq 14, 3) := by decide +kernel
theorem dX11_of_119 : decode cX11_of 119 = .ok (.aload_n 0, 1) := by decide +kernel
theorem dX11_of_120 : decode cX11_of 120 = .ok (.iload_n 1, 1) := by decide +kernel
theorem dX11_of_121 : decode cX11_of 121 = .ok (.iload_n 2, 1) := by decide +kernel
theorem dX11_of_122 : decode cX11_of 122 = .ok (.iconst 3, 1) := by decide +kernel
theorem dX11_of_123 : decode cX11_of 123 = .ok (.isub, 1) := by decide +kernel
theorem dX11_of_124 : decode cX11_of 124 = .ok (.invokevirtual 74, 3) := by decide +kernel
theorem dX11_of_127 : decode cX11_of 127 = .ok (.goto 4, 3) := by decide +kernel
theorem dX11_of_130 : decode cX11_of 130 = .ok (.iconst (-1), 1) := by decide +kernel
theorem dX11_of_131 : decode cX11_of 131 = .ok (.ireturn, 1) := by decide +kernel
def B_X11_of_110 (o0 : Nat) (i1 : Int32) (i2 : Int32) (μ : Me) (Q : Int32 → Me → Prop) : Prop := S_X11_isIn i2 3 5 μ (fun r20 μ18 => ((r20 = 0 → Q (-1) μ18) ∧ (¬ r20 = 0 → mok μ18 o0 11 ∧ S_X11_get o0 i1 (i2 - 3) μ18 (fun r24 μ22 => Q r24 μ22))))
set_option maxHeartbeats 4000000 in
set_option maxRecDepth 100000 in
theorem tB_X11_of_110 {x : GX} (f : Fx x cX11_of RX11 3 (rmc 6 0 0)) {o0 : Nat} {i1 : Int32} {i2 : Int32} {μ : Me} {Q : Int32 → Me → Prop} (hq : Rt x (some .int) (qI Q)) (h : B_X11_of_110 o0 i1 i2 μ Q) : G x 3 110 [(0, .ref (gB x + o0)), (1, .int i1), (2, .int i2)] [] μ 0 0 := by
  unfold B_X11_of_110 at h
  refine g_iload_n f 2 dX11_of_110 rfl rfl ?_
  refine g_iconst f 3 dX11_of_111 kc_3 ?_
  refine g_iconst f 5 dX11_of_112 kc_5 ?_
  refine g_callS f mk_X11_66 (c_X11_isIn h) dX11_of_113 rfl rfl (Nat.le_of_ble_eq_true rfl) (rm_ok (by decide) (by decide)) ⟨Nat.le_of_ble_eq_true rfl, Nat.le_of_ble_eq_true rfl⟩ (kI fun r20 μ18 x19 h => ?_)
  refine g_if_eq f 130 dX11_of_116 rfl h (fun h => ?_) (fun h => ?_)
  · refine g_iconst f (-1) dX11_of_130 kc_m1 ?_
    exact g_iret f hq (Nat.le_of_ble_eq_true rfl) (Nat.le_of_ble_eq_true rfl) dX11_of_131 h
  · refine g_aload_n f 0 dX11_of_119 rfl rfl ?_
    refine g_iload_n f 1 dX11_of_120 rfl rfl ?_
    refine g_iload_n f 2 dX11_of_121 rfl rfl ?_
    refine g_iconst f 3 dX11_of_122 kc_3 ?_
    refine g_isub f dX11_of_123 ?_
    obtain ⟨v21, h⟩ := h
    refine g_callV f mk_X11_74 v21 (c_X11_get h) dX11_of_124 rfl rfl (Nat.le_of_ble_eq_true rfl) (rm_ok (by decide) (by decide)) ⟨Nat.le_of_ble_eq_true rfl, Nat.le_of_ble_eq_true rfl⟩ (kI fun r24 μ22 x23 h => ?_)
    refine g_goto f 131 dX11_of_127 rfl ?_
    exact g_iret f hq (Nat.le_of_ble_eq_true rfl) (Nat.le_of_ble_eq_true rfl) dX11_of_131 h
def S_X11_of (o0 : Nat) (i1 : Int32) (i2 : Int32) (μ : Me) (Q : Int32 → Me → Prop) : Prop := mok μ o0 11 ∧ S_X11_isPerson o0 i1 μ (fun r4 μ2 => ((¬ r4 = 0 → ((i2 = 0 → S_X11_get o0 i1 3 μ2 (fun r8 μ6 => Q r8 μ6)) ∧ (¬ i2 = 0 → (i2 = 1 → S_X11_get o0 i1 4 μ2 (fun r12 μ10 => Q r12 μ10)) ∧ (¬ i2 = 1 → (i2 = 2 → S_X11_get o0 i1 5 μ2 (fun r16 μ14 => Q r16 μ14)) ∧ (¬ i2 = 2 → (i2 = 3 → B_X11_of_110 o0 i1 i2 μ2 Q) ∧ (¬ i2 = 3 → (i2 = 4 → B_X11_of_110 o0 i1 i2 μ2 Q) ∧ (¬ i2 = 4 → (i2 = 5 → B_X11_of_110 o0 i1 i2 μ2 Q) ∧ (¬ i2 = 5 → (i2 = 6 → S_X11_runningNow o0 μ2 (fun r30 μ28 => Q ((r30 >>> (i1 &&& 31)) &&& 1) μ28)) ∧ (¬ i2 = 6 → (i2 = 7 → S_X11_runningNow o0 μ2 (fun r34 μ32 => S_X11_takesNow o0 i1 r34 μ32 (fun r37 μ35 => Q r37 μ35))) ∧ (¬ i2 = 7 → (i2 = 8 → ∃ t39, mgr μ2 o0 0 = some t39 ∧ mok μ2 t39 12 ∧ vp_in (67 + i1) (mln μ2 t39) ∧ Q (mgi μ2 t39 (67 + i1).toNatClampNeg) μ2) ∧ (¬ i2 = 8 → B_X11_of_110 o0 i1 i2 μ2 Q))))))))))) ∧ (r4 = 0 → Q (-1) μ2)))
set_option maxHeartbeats 4000000 in
set_option maxRecDepth 100000 in
theorem t_X11_of {x : GX} (f : Fx x cX11_of RX11 3 (rmc 6 0 0)) {o0 : Nat} {i1 : Int32} {i2 : Int32} {μ : Me} {Q : Int32 → Me → Prop} (hq : Rt x (some .int) (qI Q)) (h : S_X11_of o0 i1 i2 μ Q) : G x 3 0 [(0, .ref (gB x + o0)), (1, .int i1), (2, .int i2)] [] μ 0 0 := by
  unfold S_X11_of at h
  refine g_aload_n f 0 dX11_of_0 rfl rfl ?_
  refine g_iload_n f 1 dX11_of_1 rfl rfl ?_
  obtain ⟨v1, h⟩ := h
  refine g_callV f mk_X11_335 v1 (c_X11_isPerson h) dX11_of_2 rfl rfl (Nat.le_of_ble_eq_true rfl) (rm_ok (by decide) (by decide)) ⟨Nat.le_of_ble_eq_true rfl, Nat.le_of_ble_eq_true rfl⟩ (kI fun r4 μ2 x3 h => ?_)
  refine g_if_ne f 10 dX11_of_5 rfl h (fun h => ?_) (fun h => ?_)
  · refine g_iload_n f 2 dX11_of_10 rfl rfl ?_
    rcases dec_or h with ⟨e5, h⟩ | ⟨e5, h⟩
    · refine g_tableIn f 60 dX11_of_11 (by rw [e5] <;> decide) (by rw [e5] <;> decide) (by rw [e5] <;> rfl) rfl ?_
      refine g_aload_n f 0 dX11_of_60 rfl rfl ?_
      refine g_iload_n f 1 dX11_of_61 rfl rfl ?_
      refine g_iconst f 3 dX11_of_62 kc_3 ?_
      have v1 := mex_ok x3 v1
      refine g_callV f mk_X11_74 v1 (c_X11_get h) dX11_of_63 rfl rfl (Nat.le_of_ble_eq_true rfl) (rm_ok (by decide) (by decide)) ⟨Nat.le_of_ble_eq_true rfl, Nat.le_of_ble_eq_true rfl⟩ (kI fun r8 μ6 x7 h => ?_)
      exact g_iret f hq (Nat.le_of_ble_eq_true rfl) (Nat.le_of_ble_eq_true rfl) dX11_of_66 h
    · skip
      rcases dec_or h with ⟨e9, h⟩ | ⟨e9, h⟩
      · refine g_tableIn f 67 dX11_of_11 (by rw [e9] <;> decide) (by rw [e9] <;> decide) (by rw [e9] <;> rfl) rfl ?_
        refine g_aload_n f 0 dX11_of_67 rfl rfl ?_
        refine g_iload_n f 1 dX11_of_68 rfl rfl ?_
        refine g_iconst f 4 dX11_of_69 kc_4 ?_
        have v1 := mex_ok x3 v1
        refine g_callV f mk_X11_74 v1 (c_X11_get h) dX11_of_70 rfl rfl (Nat.le_of_ble_eq_true rfl) (rm_ok (by decide) (by decide)) ⟨Nat.le_of_ble_eq_true rfl, Nat.le_of_ble_eq_true rfl⟩ (kI fun r12 μ10 x11 h => ?_)
        exact g_iret f hq (Nat.le_of_ble_eq_true rfl) (Nat.le_of_ble_eq_true rfl) dX11_of_73 h
      · skip
        rcases dec_or h with ⟨e13, h⟩ | ⟨e13, h⟩
        · refine g_tableIn f 74 dX11_of_11 (by rw [e13] <;> decide) (by rw [e13] <;> decide) (by rw [e13] <;> rfl) rfl ?_
          refine g_aload_n f 0 dX11_of_74 rfl rfl ?_
          refine g_iload_n f 1 dX11_of_75 rfl rfl ?_
          refine g_iconst f 5 dX11_of_76 kc_5 ?_
          have v1 := mex_ok x3 v1
          refine g_callV f mk_X11_74 v1 (c_X11_get h) dX11_of_77 rfl rfl (Nat.le_of_ble_eq_true rfl) (rm_ok (by decide) (by decide)) ⟨Nat.le_of_ble_eq_true rfl, Nat.le_of_ble_eq_true rfl⟩ (kI fun r16 μ14 x15 h => ?_)
          exact g_iret f hq (Nat.le_of_ble_eq_true rfl) (Nat.le_of_ble_eq_true rfl) dX11_of_80 h
        · skip
          rcases dec_or h with ⟨e17, h⟩ | ⟨e17, h⟩
          · refine g_tableIn f 110 dX11_of_11 (by rw [e17] <;> decide) (by rw [e17] <;> decide) (by rw [e17] <;> rfl) rfl ?_
            exact h_sub [0, 1, 2] rfl (tB_X11_of_110 f hq h)
          · skip
            rcases dec_or h with ⟨e25, h⟩ | ⟨e25, h⟩
            · refine g_tableIn f 110 dX11_of_11 (by rw [e25] <;> decide) (by rw [e25] <;> decide) (by rw [e25] <;> rfl) rfl ?_
              exact h_sub [0, 1, 2] rfl (tB_X11_of_110 f hq h)
            · skip
              rcases dec_or h with ⟨e26, h⟩ | ⟨e26, h⟩
              · refine g_tableIn f 110 dX11_of_11 (by rw [e26] <;> decide) (by rw [e26] <;> decide) (by rw [e26] <;> rfl) rfl ?_
                exact h_sub [0, 1, 2] rfl (tB_X11_of_110 f hq h)
              · skip
                rcases dec_or h with ⟨e27, h⟩ | ⟨e27, h⟩
                · refine g_tableIn f 81 dX11_of_11 (by rw [e27] <;> decide) (by rw [e27] <;> decide) (by rw [e27] <;> rfl) rfl ?_
                  refine g_aload_n f 0 dX11_of_81 rfl rfl ?_
                  have v1 := mex_ok x3 v1
                  refine g_callV f mk_X11_368 v1 (c_X11_runningNow h) dX11_of_82 rfl rfl (Nat.le_of_ble_eq_true rfl) (rm_ok (by decide) (by decide)) ⟨Nat.le_of_ble_eq_true rfl, Nat.le_of_ble_eq_true rfl⟩ (kI fun r30 μ28 x29 h => ?_)
                  refine g_iload_n f 1 dX11_of_85 rfl rfl ?_
                  refine g_ishr f dX11_of_86 ?_
                  refine g_iconst f 1 dX11_of_87 kc_1 ?_
                  refine g_iand f dX11_of_88 ?_
                  exact g_iret f hq (Nat.le_of_ble_eq_true rfl) (Nat.le_of_ble_eq_true rfl) dX11_of_89 h
                · skip
                  rcases dec_or h with ⟨e31, h⟩ | ⟨e31, h⟩
                  · refine g_tableIn f 90 dX11_of_11 (by rw [e31] <;> decide) (by rw [e31] <;> decide) (by rw [e31] <;> rfl) rfl ?_
                    refine g_aload_n f 0 dX11_of_90 rfl rfl ?_
                    refine g_iload_n f 1 dX11_of_91 rfl rfl ?_
                    refine g_aload_n f 0 dX11_of_92 rfl rfl ?_
                    have v1 := mex_ok x3 v1
                    refine g_callV f mk_X11_368 v1 (c_X11_runningNow h) dX11_of_93 rfl rfl (Nat.le_of_ble_eq_true rfl) (rm_ok (by decide) (by decide)) ⟨Nat.le_of_ble_eq_true rfl, Nat.le_of_ble_eq_true rfl⟩ (kI fun r34 μ32 x33 h => ?_)
                    have v1 := mex_ok x33 v1
                    refine g_callV f mk_X11_371 v1 (c_X11_takesNow h) dX11_of_96 rfl rfl (Nat.le_of_ble_eq_true rfl) (rm_ok (by decide) (by decide)) ⟨Nat.le_of_ble_eq_true rfl, Nat.le_of_ble_eq_true rfl⟩ (kI fun r37 μ35 x36 h => ?_)
                    exact g_iret f hq (Nat.le_of_ble_eq_true rfl) (Nat.le_of_ble_eq_true rfl) dX11_of_99 h
                  · skip
                    rcases dec_or h with ⟨e38, h⟩ | ⟨e38, h⟩
                    · refine g_tableIn f 100 dX11_of_11 (by rw [e38] <;> decide) (by rw [e38] <;> decide) (by rw [e38] <;> rfl) rfl ?_
                      refine g_aload_n f 0 dX11_of_100 rfl rfl ?_
                      have v1 := mex_ok x3 v1
                      refine g_getR f fk_X11_7 v1 dX11_of_101 rfl h (fun t39 h => ?_)
                      refine g_bipush f 67 dX11_of_104 kb_67 ?_
                      refine g_iload_n f 1 dX11_of_106 rfl rfl ?_
                      refine g_iadd f dX11_of_107 ?_
                      obtain ⟨v40, h⟩ := h
                      refine g_iald f v40 dX11_of_108 h (fun h => ?_)
                      exact g_iret f hq (Nat.le_of_ble_eq_true rfl) (Nat.le_of_ble_eq_true rfl) dX11_of_109 h
                    · skip
                      have e5 := lv_neT (a := 0) e5 (by decide)
                      have e9 := lv_neT (a := 1) e9 (by decide)
                      have e13 := lv_neT (a := 2) e13 (by decide)
                      have e17 := lv_neT (a := 3) e17 (by decide)
                      have e25 := lv_neT (a := 4) e25 (by decide)
                      have e26 := lv_neT (a := 5) e26 (by decide)
                      have e27 := lv_neT (a := 6) e27 (by decide)
                      have e31 := lv_neT (a := 7) e31 (by decide)
                      have e38 := lv_neT (a := 8) e38 (by decide)
                      refine g_tableOut f 110 dX11_of_11 (by omega) rfl ?_
                      exact h_sub [0, 1, 2] rfl (tB_X11_of_110 f hq h)
  · refine g_iconst f (-1) dX11_of_8 kc_m1 ?_
    exact g_iret f hq (Nat.le_of_ble_eq_true rfl) (Nat.le_of_ble_eq_true rfl) dX11_of_9 h
theorem c_X11_of {Ω : OM} {o0 : Nat} {i1 : Int32} {i2 : Int32} {μ : Me} {Q : Int32 → Me → Prop} (h : S_X11_of o0 i1 i2 μ Q) : CT Ω yX11_of cX11_of 3 (some .int) (rmc 6 0 0) [.ref (oB Ω + o0), .int i1, .int i2] μ (qI Q) := CT_of (by decide) rfl (by simp [lg_sl, Value.category]) (fun x hΩ f hq hi => by subst hΩ; exact t_X11_of f hq h)
theorem dX11_is_0 : decode cX11_is 0 = .ok (.iload_n 1, 1) := by decide +kernel
theorem dX11_is_1 : decode cX11_is 1 = .ok (.iconst 0, 1) := by decide +kernel
theorem dX11_is_2 : decode cX11_is 2 = .ok (.iconst 3, 1) := by decide +kernel
theorem dX11_is_3 : decode cX11_is 3 = .ok (.invokestatic 66, 3) := by decide +kernel
theorem dX11_is_6 : decode cX11_is 6 = .ok (.ifCond .eq 15, 3) := by decide +kernel
theorem dX11_is_9 : decode cX11_is 9 = .ok (.aload_n 0, 1) := by decide +kernel
theorem dX11_is_10 : decode cX11_is 10 = .ok (.getfield 7, 3) := by decide +kernel
theorem dX11_is_13 : decode cX11_is 13 = .ok (.bipush 6, 2) := by decide +kernel
theorem dX11_is_15 : decode cX11_is 15 = .ok (.iload_n 1, 1) := by decide +kernel
theorem dX11_is_16 : decode cX11_is 16 = .ok (.iadd, 1) := by decide +kernel
theorem dX11_is_17 : decode cX11_is 17 = .ok (.iaload, 1) := by decide +kernel
theorem dX11_is_18 : decode cX11_is 18 = .ok (.goto 5, 3) := by decide +kernel
theorem dX11_is_21 : decode cX11_is 21 = .ok (.bipush (-2), 2) := by decide +kernel
theorem dX11_is_23 : decode cX11_is 23 = .ok (.ireturn, 1) := by decide +kernel
def S_X11_is (o0 : Nat) (i1 : Int32) (μ : Me) (Q : Int32 → Me → Prop) : Prop := S_X11_isIn i1 0 3 μ (fun r3 μ1 => ((r3 = 0 → Q (-2) μ1) ∧ (¬ r3 = 0 → mok μ1 o0 11 ∧ ∃ t5, mgr μ1 o0 0 = some t5 ∧ mok μ1 t5 12 ∧ vp_in (6 + i1) (mln μ1 t5) ∧ Q (mgi μ1 t5 (6 + i1).toNatClampNeg) μ1)))
set_option maxHeartbeats 4000000 in
set_option maxRecDepth 100000 in
theorem t_X11_is {x : GX} (f : Fx x cX11_is RX11 2 (rmc 1 0 0)) {o0 : Nat} {i1 : Int32} {μ : Me} {Q : Int32 → Me → Prop} (hq : Rt x (some .int) (qI Q)) (h : S_X11_is o0 i1 μ Q) : G x 2 0 [(0, .ref (gB x + o0)), (1, .int i1)] [] μ 0 0 := by
  unfold S_X11_is at h
  refine g_iload_n f 1 dX11_is_0 rfl rfl ?_
  refine g_iconst f 0 dX11_is_1 kc_0 ?_
  refine g_iconst f 3 dX11_is_2 kc_3 ?_
  refine g_callS f mk_X11_66 (c_X11_isIn h) dX11_is_3 rfl rfl (Nat.le_of_ble_eq_true rfl) (rm_ok (by decide) (by decide)) ⟨Nat.le_of_ble_eq_true rfl, Nat.le_of_ble_eq_true rfl⟩ (kI fun r3 μ1 x2 h => ?_)
  refine g_if_eq f 21 dX11_is_6 rfl h (fun h => ?_) (fun h => ?_)
  · refine g_bipush f (-2) dX11_is_21 kb_m2 ?_
    exact g_iret f hq (Nat.le_of_ble_eq_true rfl) (Nat.le_of_ble_eq_true rfl) dX11_is_23 h
  · refine g_aload_n f 0 dX11_is_9 rfl rfl ?_
    obtain ⟨v4, h⟩ := h
    refine g_getR f fk_X11_7 v4 dX11_is_10 rfl h (fun t5 h => ?_)
    refine g_bipush f 6 dX11_is_13 kb_6 ?_
    refine g_iload_n f 1 dX11_is_15 rfl rfl ?_
    refine g_iadd f dX11_is_16 ?_
    obtain ⟨v6, h⟩ := h
    refine g_iald f v6 dX11_is_17 h (fun h => ?_)
    refine g_goto f 23 dX11_is_18 rfl ?_
    exact g_iret f hq (Nat.le_of_ble_eq_true rfl) (Nat.le_of_ble_eq_true rfl) dX11_is_23 h
theorem c_X11_is {Ω : OM} {o0 : Nat} {i1 : Int32} {μ : Me} {Q : Int32 → Me → Prop} (h : S_X11_is o0 i1 μ Q) : CT Ω yX11_is cX11_is 2 (some .int) (rmc 1 0 0) [.ref (oB Ω + o0), .int i1] μ (qI Q) := CT_of (by decide) rfl (by simp [lg_sl, Value.category]) (fun x hΩ f hq hi => by subst hΩ; exact t_X11_is f hq h)
theorem dX11_book_0 : decode cX11_book 0 = .ok (.iload_n 1, 1) := by decide +kernel
theorem dX11_book_1 : decode cX11_book 1 = .ok (.iconst (-1), 1) := by decide +kernel
theorem dX11_book_2 : decode cX11_book 2 = .ok (.if_icmp .ne 11, 3) := by decide +kernel
theorem dX11_book_5 : decode cX11_book 5 = .ok (.aload_n 0, 1) := by decide +kernel
theorem dX11_book_6 : decode cX11_book 6 = .ok (.getfield 7, 3) := by decide +kernel
theorem dX11_book_9 : decode cX11_book 9 = .ok (.bipush 10, 2) := by decide +kernel
theorem dX11_book_11 : decode cX11_book 11 = .ok (.iaload, 1) := by decide +kernel
theorem dX11_book_12 : decode cX11_book 12 = .ok (.ireturn, 1) := by decide +kernel
theorem dX11_book_13 : decode cX11_book 13 = .ok (.iload_n 1, 1) := by decide +kernel
theorem dX11_book_14 : decode cX11_book 14 = .ok (.iconst 0, 1) := by decide +kernel
theorem dX11_book_15 : decode cX11_book 15 = .ok (.aload_n 0, 1) := by decide +kernel
theorem dX11_book_16 : decode cX11_book 16 = .ok (.getfield 7, 3) := by decide +kernel
theorem dX11_book_19 : decode cX11_book 19 = .ok (.bipush 10, 2) := by decide +kernel
theorem dX11_book_21 : decode cX11_book 21 = .ok (.iaload, 1) := by decide +kernel
theorem dX11_book_22 : decode cX11_book 22 = .ok (.iconst 1, 1) := by decide +kernel
theorem dX11_book_23 : decode cX11_book 23 = .ok (.isub, 1) := by decide +kernel
theorem dX11_book_24 : decode cX11_book 24 = .ok (.invokestatic 66, 3) := by decide +kernel
theorem dX11_book_27 : decode cX11_book 27 = .ok (.ifCond .ne 6, 3) := by decide +kernel
theorem dX11_book_30 : decode cX11_book 30 = .ok (.bipush (-2), 2) := by decide +kernel
theorem dX11_book_32 : decode cX11_book 32 = .ok (.ireturn, 1) := by decide +kernel
theorem dX11_book_33 : decode cX11_book 33 = .ok (.aload_n 0, 1) := by decide +kernel
theorem dX11_book_34 : decode cX11_book 34 = .ok (.getfield 7, 3) := by decide +kernel
theorem dX11_book_37 : decode cX11_book 37 = .ok (.sipush 2807, 3) := by decide +kernel
theorem dX11_book_40 : decode cX11_book 40 = .ok (.iconst 2, 1) := by decide +kernel
theorem dX11_book_41 : decode cX11_book 41 = .ok (.iload_n 1, 1) := by decide +kernel
theorem dX11_book_42 : decode cX11_book 42 = .ok (.imul, 1) := by decide +kernel
theorem dX11_book_43 : decode cX11_book 43 = .ok (.iadd, 1) := by decide +kernel
theorem dX11_book_44 : decode cX11_book 44 = .ok (.iaload, 1) := by decide +kernel
theorem dX11_book_45 : decode cX11_book 45 = .ok (.istore_n 3, 1) := by decide +kernel
theorem dX11_book_46 : decode cX11_book 46 = .ok (.aload_n 0, 1) := by decide +kernel
theorem dX11_book_47 : decode cX11_book 47 = .ok (.getfield 7, 3) := by decide +kernel
theorem dX11_book_50 : decode cX11_book 50 = .ok (.sipush 2807, 3) := by decide +kernel
theorem dX11_book_53 : decode cX11_book 53 = .ok (.iconst 2, 1) := by decide +kernel
theorem dX11_book_54 : decode cX11_book 54 = .ok (.iload_n 1, 1) := by decide +kernel
theorem dX11_book_55 : decode cX11_book 55 = .ok (.imul, 1) := by decide +kernel
theorem dX11_book_56 : decode cX11_book 56 = .ok (.iadd, 1) := by decide +kernel
theorem dX11_book_57 : decode cX11_book 57 = .ok (.iconst 1, 1) := by decide +kernel
theorem dX11_book_58 : decode cX11_book 58 = .ok (.iadd, 1) := by decide +kernel
theorem dX11_book_59 : decode cX11_book 59 = .ok (.iaload, 1) := by decide +kernel
theorem dX11_book_60 : decode cX11_book 60 = .ok (.istore 4, 2) := by decide +kernel
theorem dX11_book_62 : decode cX11_book 62 = .ok (.iload_n 2, 1) := by decide +kernel
theorem dX11_book_63 : decode cX11_book 63 = .ok (.ifCond .ne 10, 3) := by decide +kernel
theorem dX11_book_66 : decode cX11_book 66 = .ok (.iload_n 3, 1) := by decide +kernel
theorem dX11_book_67 : decode cX11_book 67 = .ok (.bipush 16, 2) := by decide +kernel
theorem dX11_book_69 : decode cX11_book 69 = .ok (.idiv, 1) := by decide +kernel
theorem dX11_book_70 : decode cX11_book 70 = .ok (.goto 45, 3) := by decide +kernel
theorem dX11_book_73 : decode cX11_book 73 = .ok (.iload_n 2, 1) := by decide +kernel
theorem dX11_book_74 : decode cX11_book 74 = .ok (.iconst 1, 1) := by decide +kernel
theorem dX11_book_75 : decode cX11_book 75 = .ok (.if_icmp .ne 12, 3) := by decide +kernel
theorem dX11_book_78 : decode cX11_book 78 = .ok (.iload 4, 2) := by decide +kernel
theorem dX11_book_80 : decode cX11_book 80 = .ok (.sipush 256, 3) := by decide +kernel
theorem dX11_book_83 : decode cX11_book 83 = .ok (.idiv, 1) := by decide +kernel
theorem dX11_book_84 : decode cX11_book 84 = .ok (.goto 31, 3) := by decide +kernel
theorem dX11_book_87 : decode cX11_book 87 = .ok (.iload_n 2, 1) := by decide +kernel
theorem dX11_book_88 : decode cX11_book 88 = .ok (.iconst 2, 1) := by decide +kernel
theorem dX11_book_89 : decode cX11_book 89 = .ok (.if_icmp .ne 12, 3) := by decide +kernel
theorem dX11_book_92 : decode cX11_book 92 = .ok (.iload 4, 2) := by decide +kernel
theorem dX11_book_94 : decode cX11_book 94 = .ok (.sipush 256, 3) := by decide +kernel
theorem dX11_book_97 : decode cX11_book 97 = .ok (.irem, 1) := by decide +kernel
theorem dX11_book_98 : decode cX11_book 98 = .ok (.goto 17, 3) := by decide +kernel
theorem dX11_book_101 : decode cX11_book 101 = .ok (.iload_n 2, 1) := by decide +kernel
theorem dX11_book_102 : decode cX11_book 102 = .ok (.iconst 3, 1) := by decide +kernel
theorem dX11_book_103 : decode cX11_book 103 = .ok (.if_icmp .ne 10, 3) := by decide +kernel
theorem dX11_book_106 : decode cX11_book 106 = .ok (.iload_n 3, 1) := by decide +kernel
theorem dX11_book_107 : decode cX11_book 107 = .ok (.bipush 16, 2) := by decide +kernel
theorem dX11_book_109 : decode cX11_book 109 = .ok (.irem, 1) := by decide +kernel
theorem dX11_book_110 : decode cX11_book 110 = .ok (.goto 5, 3) := by decide +kernel
theorem dX11_book_113 : decode cX11_book 113 = .ok (.bipush (-2), 2) := by decide +kernel
theorem dX11_book_115 : decode cX11_book 115 = .ok (.ireturn, 1) := by decide +kernel
def S_X11_book (o0 : Nat) (i1 : Int32) (i2 : Int32) (μ : Me) (Q : Int32 → Me → Prop) : Prop := ((¬ i1 = (-1) → mok μ o0 11 ∧ ∃ t2, mgr μ o0 0 = some t2 ∧ mok μ t2 12 ∧ vp_in (10 : Int32) (mln μ t2) ∧ S_X11_isIn i1 0 ((mgi μ t2 (10 : Int32).toNatClampNeg) - 1) μ (fun r6 μ4 => ((¬ r6 = 0 → ∃ t7, mgr μ4 o0 0 = some t7 ∧ mok μ4 t7 12 ∧ vp_in (2807 + (2 * i1)) (mln μ4 t7) ∧ ∃ t9, mgr μ4 o0 0 = some t9 ∧ mok μ4 t9 12 ∧ vp_in ((2807 + (2 * i1)) + 1) (mln μ4 t9) ∧ ((¬ i2 = 0 → ((¬ i2 = 1 → ((¬ i2 = 2 → ((¬ i2 = 3 → Q (-2) μ4) ∧ (i2 = 3 → Q ((mgi μ4 t7 (2807 + (2 * i1)).toNatClampNeg) - (mgi μ4 t7 (2807 + (2 * i1)).toNatClampNeg) / 16 * 16) μ4))) ∧ (i2 = 2 → Q ((mgi μ4 t9 ((2807 + (2 * i1)) + 1).toNatClampNeg) - (mgi μ4 t9 ((2807 + (2 * i1)) + 1).toNatClampNeg) / 256 * 256) μ4))) ∧ (i2 = 1 → Q ((mgi μ4 t9 ((2807 + (2 * i1)) + 1).toNatClampNeg) / 256) μ4))) ∧ (i2 = 0 → Q ((mgi μ4 t7 (2807 + (2 * i1)).toNatClampNeg) / 16) μ4))) ∧ (r6 = 0 → Q (-2) μ4)))) ∧ (i1 = (-1) → mok μ o0 11 ∧ ∃ t12, mgr μ o0 0 = some t12 ∧ mok μ t12 12 ∧ vp_in (10 : Int32) (mln μ t12) ∧ Q (mgi μ t12 (10 : Int32).toNatClampNeg) μ))
set_option maxHeartbeats 4000000 in
set_option maxRecDepth 100000 in
theorem t_X11_book {x : GX} (f : Fx x cX11_book RX11 5 (rmc 1 0 0)) {o0 : Nat} {i1 : Int32} {i2 : Int32} {μ : Me} {Q : Int32 → Me → Prop} (hq : Rt x (some .int) (qI Q)) (h : S_X11_book o0 i1 i2 μ Q) : G x 5 0 [(0, .ref (gB x + o0)), (1, .int i1), (2, .int i2)] [] μ 0 0 := by
  unfold S_X11_book at h
  refine g_iload_n f 1 dX11_book_0 rfl rfl ?_
  refine g_iconst f (-1) dX11_book_1 kc_m1 ?_
  refine g_ic_ne f 13 dX11_book_2 rfl h (fun h => ?_) (fun h => ?_)
  · refine g_iload_n f 1 dX11_book_13 rfl rfl ?_
    refine g_iconst f 0 dX11_book_14 kc_0 ?_
    refine g_aload_n f 0 dX11_book_15 rfl rfl ?_
    obtain ⟨v1, h⟩ := h
    refine g_getR f fk_X11_7 v1 dX11_book_16 rfl h (fun t2 h => ?_)
    refine g_bipush f 10 dX11_book_19 kb_10 ?_
    obtain ⟨v3, h⟩ := h
    refine g_iald f v3 dX11_book_21 h (fun h => ?_)
    refine g_iconst f 1 dX11_book_22 kc_1 ?_
    refine g_isub f dX11_book_23 ?_
    refine g_callS f mk_X11_66 (c_X11_isIn h) dX11_book_24 rfl rfl (Nat.le_of_ble_eq_true rfl) (rm_ok (by decide) (by decide)) ⟨Nat.le_of_ble_eq_true rfl, Nat.le_of_ble_eq_true rfl⟩ (kI fun r6 μ4 x5 h => ?_)
    refine g_if_ne f 33 dX11_book_27 rfl h (fun h => ?_) (fun h => ?_)
    · refine g_aload_n f 0 dX11_book_33 rfl rfl ?_
      have v1 := mex_ok x5 v1
      refine g_getR f fk_X11_7 v1 dX11_book_34 rfl h (fun t7 h => ?_)
      refine g_sipush f 2807 dX11_book_37 ks_2807 ?_
      refine g_iconst f 2 dX11_book_40 kc_2 ?_
      refine g_iload_n f 1 dX11_book_41 rfl rfl ?_
      refine g_imul f dX11_book_42 ?_
      refine g_iadd f dX11_book_43 ?_
      obtain ⟨v8, h⟩ := h
      refine g_iald f v8 dX11_book_44 h (fun h => ?_)
      refine h_istore_n f dX11_book_45 rfl (by decide) ?_
      refine g_aload_n f 1 dX11_book_46 rfl rfl ?_
      refine g_getR f fk_X11_7 v1 dX11_book_47 rfl h (fun t9 h => ?_)
      refine g_sipush f 2807 dX11_book_50 ks_2807 ?_
      refine g_iconst f 2 dX11_book_53 kc_2 ?_
      refine g_iload_n f 2 dX11_book_54 rfl rfl ?_
      refine g_imul f dX11_book_55 ?_
      refine g_iadd f dX11_book_56 ?_
      refine g_iconst f 1 dX11_book_57 kc_1 ?_
      refine g_iadd f dX11_book_58 ?_
      obtain ⟨v10, h⟩ := h
      refine g_iald f v10 dX11_book_59 h (fun h => ?_)
      refine h_istore f dX11_book_60 (by decide) ?_
      refine g_iload_n f 4 dX11_book_62 rfl rfl ?_
      refine g_if_ne f 73 dX11_book_63 rfl h (fun h => ?_) (fun h => ?_)
      · refine g_iload_n f 4 dX11_book_73 rfl rfl ?_
        refine g_iconst f 1 dX11_book_74 kc_1 ?_
        refine g_ic_ne f 87 dX11_book_75 rfl h (fun h => ?_) (fun h => ?_)
        · refine g_iload_n f 4 dX11_book_87 rfl rfl ?_
          refine g_iconst f 2 dX11_book_88 kc_2 ?_
          refine g_ic_ne f 101 dX11_book_89 rfl h (fun h => ?_) (fun h => ?_)
          · refine g_iload_n f 4 dX11_book_101 rfl rfl ?_
            refine g_iconst f 3 dX11_book_102 kc_3 ?_
            refine g_ic_ne f 113 dX11_book_103 rfl h (fun h => ?_) (fun h => ?_)
            · refine g_bipush f (-2) dX11_book_113 kb_m2 ?_
              exact g_iret f hq (Nat.le_of_ble_eq_true rfl) (Nat.le_of_ble_eq_true rfl) dX11_book_115 h
            · refine g_iload_n f 1 dX11_book_106 rfl rfl ?_
              refine g_bipush f 16 dX11_book_107 kb_16 ?_
              refine g_irem f dX11_book_109 (by decide) ?_
              refine g_goto f 115 dX11_book_110 rfl ?_
              exact g_iret f hq (Nat.le_of_ble_eq_true rfl) (Nat.le_of_ble_eq_true rfl) dX11_book_115 h
          · refine g_iload f 0 dX11_book_92 rfl ?_
            refine g_sipush f 256 dX11_book_94 ks_256 ?_
            refine g_irem f dX11_book_97 (by decide) ?_
            refine g_goto f 115 dX11_book_98 rfl ?_
            exact g_iret f hq (Nat.le_of_ble_eq_true rfl) (Nat.le_of_ble_eq_true rfl) dX11_book_115 h
        · refine g_iload f 0 dX11_book_78 rfl ?_
          refine g_sipush f 256 dX11_book_80 ks_256 ?_
          refine g_idiv f dX11_book_83 (by decide) ?_
          refine g_goto f 115 dX11_book_84 rfl ?_
          exact g_iret f hq (Nat.le_of_ble_eq_true rfl) (Nat.le_of_ble_eq_true rfl) dX11_book_115 h
      · refine g_iload_n f 1 dX11_book_66 rfl rfl ?_
        refine g_bipush f 16 dX11_book_67 kb_16 ?_
        refine g_idiv f dX11_book_69 (by decide) ?_
        refine g_goto f 115 dX11_book_70 rfl ?_
        exact g_iret f hq (Nat.le_of_ble_eq_true rfl) (Nat.le_of_ble_eq_true rfl) dX11_book_115 h
    · refine g_bipush f (-2) dX11_book_30 kb_m2 ?_
      exact g_iret f hq (Nat.le_of_ble_eq_true rfl) (Nat.le_of_ble_eq_true rfl) dX11_book_32 h
  · refine g_aload_n f 0 dX11_book_5 rfl rfl ?_
    obtain ⟨v11, h⟩ := h
    refine g_getR f fk_X11_7 v11 dX11_book_6 rfl h (fun t12 h => ?_)
    refine g_bipush f 10 dX11_book_9 kb_10 ?_
    obtain ⟨v13, h⟩ := h
    refine g_iald f v13 dX11_book_11 h (fun h => ?_)
    exact g_iret f hq (Nat.le_of_ble_eq_true rfl) (Nat.le_of_ble_eq_true rfl) dX11_book_12 h
theorem c_X11_book {Ω : OM} {o0 : Nat} {i1 : Int32} {i2 : Int32} {μ : Me} {Q : Int32 → Me → Prop} (h : S_X11_book o0 i1 i2 μ Q) : CT Ω yX11_book cX11_book 5 (some .int) (rmc 1 0 0) [.ref (oB Ω + o0), .int i1, .int i2] μ (qI Q) := CT_of (by decide) rfl (by simp [lg_sl, Value.category]) (fun x hΩ f hq hi => by subst hΩ; exact t_X11_book f hq h)
theorem dX11_ledger_0 : decode cX11_ledger 0 = .ok (.iload_n 1, 1) := by decide +kernel
theorem dX11_ledger_1 : decode cX11_ledger 1 = .ok (.iconst (-1), 1) := by decide +kernel
theorem dX11_ledger_2 : decode cX11_ledger 2 = .ok (.if_icmp .eq 14, 3) := by decide +kernel
theorem dX11_ledger_5 : decode cX11_ledger 5 = .ok (.aload_n 0, 1) := by decide +kernel
theorem dX11_ledger_6 : decode cX11_ledger 6 = .ok (.iload_n 1, 1) := by decide +kernel
theorem dX11_ledger_7 : decode cX11_ledger 7 = .ok (.invokevirtual 335, 3) := by decide +kernel
theorem dX11_ledger_10 : decode cX11_ledger 10 = .ok (.ifCond .ne 6, 3) := by decide +kernel
theorem dX11_ledger_13 : decode cX11_ledger 13 = .ok (.bipush (-2), 2) := by decide +kernel
theorem dX11_ledger_15 : decode cX11_ledger 15 = .ok (.ireturn, 1) := by decide +kernel
theorem dX11_ledger_16 : decode cX11_ledger 16 = .ok (.iconst 0, 1) := by decide +kernel
theorem dX11_ledger_17 : decode cX11_ledger 17 = .ok (.istore_n 2, 1) := by decide +kernel
theorem dX11_ledger_18 : decode cX11_ledger 18 = .ok (.iconst 0, 1) := by decide +kernel
theorem dX11_ledger_19 : decode cX11_ledger 19 = .ok (.istore_n 3, 1) := by decide +kernel
theorem dX11_ledger_20 : decode cX11_ledger 20 = .ok (.iload_n 3, 1) := by decide +kernel
theorem dX11_ledger_21 : decode cX11_ledger 21 = .ok (.aload_n 0, 1) := by decide +kernel
theorem dX11_ledger_22 : decode cX11_ledger 22 = .ok (.getfield 7, 3) := by decide +kernel
theorem dX11_ledger_25 : decode cX11_ledger 25 = .ok (.bipush 10, 2) := by decide +kernel
theorem dX11_ledger_27 : decode cX11_ledger 27 = .ok (.iaload, 1) := by decide +kernel
theorem dX11_ledger_28 : decode cX11_ledger 28 = .ok (.if_icmp .ge 39, 3) := by decide +kernel
theorem dX11_ledger_31 : decode cX11_ledger 31 = .ok (.iload_n 2, 1) := by decide +kernel
theorem dX11_ledger_32 : decode cX11_ledger 32 = .ok (.iload_n 1, 1) := by decide +kernel
theorem dX11_ledger_33 : decode cX11_ledger 33 = .ok (.iconst (-1), 1) := by decide +kernel
theorem dX11_ledger_34 : decode cX11_ledger 34 = .ok (.if_icmp .ne 15, 3) := by decide +kernel
theorem dX11_ledger_37 : decode cX11_ledger 37 = .ok (.aload_n 0, 1) := by decide +kernel
theorem dX11_ledger_38 : decode cX11_ledger 38 = .ok (.iload_n 3, 1) := by decide +kernel
theorem dX11_ledger_39 : decode cX11_ledger 39 = .ok (.iconst 2, 1) := by decide +kernel
theorem dX11_ledger_40 : decode cX11_ledger 40 = .ok (.invokevirtual 374, 3) := by decide +kernel
theorem dX11_ledger_43 : decode cX11_ledger 43 = .ok (.invokestatic 298, 3) := by decide +kernel
theorem dX11_ledger_46 : decode cX11_ledger 46 = .ok (.goto 13, 3) := by decide +kernel
theorem dX11_ledger_49 : decode cX11_ledger 49 = .ok (.aload_n 0, 1) := by decide +kernel
theorem dX11_ledger_50 : decode cX11_ledger 50 = .ok (.iload_n 3, 1) := by decide +kernel
theorem dX11_ledger_51 : decode cX11_ledger 51 = .ok (.iconst 2, 1) := by decide +kernel
theorem dX11_ledger_52 : decode cX11_ledger 52 = .ok (.invokevirtual 374, 3) := by decide +kernel
theorem dX11_ledger_55 : decode cX11_ledger 55 = .ok (.iload_n 1, 1) := by decide +kernel
theorem dX11_ledger_56 : decode cX11_ledger 56 = .ok (.ishr, 1) := by decide +kernel
theorem dX11_ledger_57 : decode cX11_ledger 57 = .ok (.iconst 1, 1) := by decide +kernel
theorem dX11_ledger_58 : decode cX11_ledger 58 = .ok (.iand, 1) := by decide +kernel
theorem dX11_ledger_59 : decode cX11_ledger 59 = .ok (.iadd, 1) := by decide +kernel
theorem dX11_ledger_60 : decode cX11_ledger 60 = .ok (.istore_n 2, 1) := by decide +kernel
theorem dX11_ledger_61 : decode cX11_ledger 61 = .ok (.iinc 3 1, 3) := by decide +kernel
theorem dX11_ledger_64 : decode cX11_ledger 64 = .ok (.goto (-44), 3) := by decide +kernel
theorem dX11_ledger_67 : decode cX11_ledger 67 = .ok (.iload_n 2, 1) := by decide +kernel
theorem dX11_ledger_68 : decode cX11_ledger 68 = .ok (.ireturn, 1) := by decide +kernel
def B_X11_ledger_59 (o0 : Nat) (i1 : Int32) (i3 : Int32) (s0 : Int32) (s1 : Int32) (μ : Me) (K20 : Int32 → Int32 → Me → Prop) (Q : Int32 → Me → Prop) : Prop := K20 (s1 + s0) (i3 + 1) μ
set_option maxHeartbeats 4000000 in
set_option maxRecDepth 100000 in
theorem tB_X11_ledger_59 {x : GX} (f : Fx x cX11_ledger RX11 4 (rmc 2 0 0)) {o0 : Nat} {i1 : Int32} {i3 : Int32} {s0 : Int32} {s1 : Int32} {μ : Me} {Q : Int32 → Me → Prop} (hq : Rt x (some .int) (qI Q)) {K20 : Int32 → Int32 → Me → Prop} (hK20 : ∀ (a2 : Int32) (a3 : Int32) (ν : Me), K20 a2 a3 ν → G x 4 20 [(0, .ref (gB x + o0)), (1, .int i1), (2, .int a2), (3, .int a3)] [] ν 0 0) (h : B_X11_ledger_59 o0 i1 i3 s0 s1 μ K20 Q) : G x 4 59 [(0, .ref (gB x + o0)), (1, .int i1), (3, .int i3)] [.int s0, .int s1] μ 0 0 := by
  unfold B_X11_ledger_59 at h
  refine g_iadd f dX11_ledger_59 ?_
  refine h_istore_n f dX11_ledger_60 rfl (by decide) ?_
  refine h_iinc f 3 1 dX11_ledger_61 rfl kc_1 (by decide) ?_
  refine g_goto f 20 dX11_ledger_64 rfl ?_
  exact h_sub [2, 3, 1, 0] rfl (hK20 _ _ _ h)
def B_X11_ledger_20 (o0 : Nat) (i1 : Int32) (i2 : Int32) (i3 : Int32) (μ : Me) (K20 : Int32 → Int32 → Me → Prop) (Q : Int32 → Me → Prop) : Prop := mok μ o0 11 ∧ ∃ t2, mgr μ o0 0 = some t2 ∧ mok μ t2 12 ∧ vp_in (10 : Int32) (mln μ t2) ∧ (((mgi μ t2 (10 : Int32).toNatClampNeg) ≤ i3 → Q i2 μ) ∧ (¬ (mgi μ t2 (10 : Int32).toNatClampNeg) ≤ i3 → ((¬ i1 = (-1) → S_X11_book o0 i3 2 μ (fun r6 μ4 => B_X11_ledger_59 o0 i1 i3 ((r6 >>> (i1 &&& 31)) &&& 1) i2 μ4 K20 Q)) ∧ (i1 = (-1) → S_X11_book o0 i3 2 μ (fun r9 μ7 => S_X11_bits r9 μ7 (fun r12 μ10 => B_X11_ledger_59 o0 i1 i3 r12 i2 μ10 K20 Q))))))
set_option maxHeartbeats 4000000 in
set_option maxRecDepth 100000 in
theorem tB_X11_ledger_20 {x : GX} (f : Fx x cX11_ledger RX11 4 (rmc 2 0 0)) {o0 : Nat} {i1 : Int32} {i2 : Int32} {i3 : Int32} {μ : Me} {Q : Int32 → Me → Prop} (hq : Rt x (some .int) (qI Q)) {K20 : Int32 → Int32 → Me → Prop} (hK20 : ∀ (a2 : Int32) (a3 : Int32) (ν : Me), K20 a2 a3 ν → G x 4 20 [(0, .ref (gB x + o0)), (1, .int i1), (2, .int a2), (3, .int a3)] [] ν 0 0) (h : B_X11_ledger_20 o0 i1 i2 i3 μ K20 Q) : G x 4 20 [(0, .ref (gB x + o0)), (1, .int i1), (2, .int i2), (3, .int i3)] [] μ 0 0 := by
  unfold B_X11_ledger_20 at h
  refine g_iload_n f 3 dX11_ledger_20 rfl rfl ?_
  refine g_aload_n f 0 dX11_ledger_21 rfl rfl ?_
  obtain ⟨v1, h⟩ := h
  refine g_getR f fk_X11_7 v1 dX11_ledger_22 rfl h (fun t2 h => ?_)
  refine g_bipush f 10 dX11_ledger_25 kb_10 ?_
  obtain ⟨v3, h⟩ := h
  refine g_iald f v3 dX11_ledger_27 h (fun h => ?_)
  refine g_ic_ge f 67 dX11_ledger_28 rfl h (fun h => ?_) (fun h => ?_)
  · refine g_iload_n f 2 dX11_ledger_67 rfl rfl ?_
    exact g_iret f hq (Nat.le_of_ble_eq_true rfl) (Nat.le_of_ble_eq_true rfl) dX11_ledger_68 h
  · refine g_iload_n f 2 dX11_ledger_31 rfl rfl ?_
    refine g_iload_n f 1 dX11_ledger_32 rfl rfl ?_
    refine g_iconst f (-1) dX11_ledger_33 kc_m1 ?_
    refine g_ic_ne f 49 dX11_ledger_34 rfl h (fun h => ?_) (fun h => ?_)
    · refine g_aload_n f 0 dX11_ledger_49 rfl rfl ?_
      refine g_iload_n f 3 dX11_ledger_50 rfl rfl ?_
      refine g_iconst f 2 dX11_ledger_51 kc_2 ?_
      refine g_callV f mk_X11_374 v1 (c_X11_book h) dX11_ledger_52 rfl rfl (Nat.le_of_ble_eq_true rfl) (rm_ok (by decide) (by decide)) ⟨Nat.le_of_ble_eq_true rfl, Nat.le_of_ble_eq_true rfl⟩ (kI fun r6 μ4 x5 h => ?_)
      refine g_iload_n f 1 dX11_ledger_55 rfl rfl ?_
      refine g_ishr f dX11_ledger_56 ?_
      refine g_iconst f 1 dX11_ledger_57 kc_1 ?_
      refine g_iand f dX11_ledger_58 ?_
      exact h_sub [0, 1, 3] rfl (tB_X11_ledger_59 f hq hK20 h)
    · refine g_aload_n f 0 dX11_ledger_37 rfl rfl ?_
      refine g_iload_n f 3 dX11_ledger_38 rfl rfl ?_
      refine g_iconst f 2 dX11_ledger_39 kc_2 ?_
      refine g_callV f mk_X11_374 v1 (c_X11_book h) dX11_ledger_40 rfl rfl (Nat.le_of_ble_eq_true rfl) (rm_ok (by decide) (by decide)) ⟨Nat.le_of_ble_eq_true rfl, Nat.le_of_ble_eq_true rfl⟩ (kI fun r9 μ7 x8 h => ?_)
      refine g_callS f mk_X11_298 (c_X11_bits h) dX11_ledger_43 rfl rfl (Nat.le_of_ble_eq_true rfl) (rm_ok (by decide) (by decide)) ⟨Nat.le_of_ble_eq_true rfl, Nat.le_of_ble_eq_true rfl⟩ (kI fun r12 μ10 x11 h => ?_)
      refine g_goto f 59 dX11_ledger_46 rfl ?_
      exact h_sub [0, 1, 3] rfl (tB_X11_ledger_59 f hq hK20 h)
def L_X11_ledger_20 (o0 : Nat) (i1 : Int32) (i2 : Int32) (i3 : Int32) (μ : Me) (Q : Int32 → Me → Prop) : Prop := ∃ I : Int32 → Int32 → Me → Nat → Prop, (∃ n, I i2 i3 μ n) ∧ ∀ (i2 : Int32) (i3 : Int32) (μ : Me) (n : Nat), I i2 i3 μ n → B_X11_ledger_20 o0 i1 i2 i3 μ (fun a2 a3 ν => ∃ n', n' < n ∧ I a2 a3 ν n') Q
set_option maxHeartbeats 4000000 in
set_option maxRecDepth 100000 in
theorem tL_X11_ledger_20 {x : GX} (f : Fx x cX11_ledger RX11 4 (rmc 2 0 0)) {o0 : Nat} {i1 : Int32} {i2 : Int32} {i3 : Int32} {μ : Me} {Q : Int32 → Me → Prop} (hq : Rt x (some .int) (qI Q)) (h : L_X11_ledger_20 o0 i1 i2 i3 μ Q) : G x 4 20 [(0, .ref (gB x + o0)), (1, .int i1), (2, .int i2), (3, .int i3)] [] μ 0 0 := by
  obtain ⟨I, ⟨n, hI⟩, hs⟩ := h
  induction n using Nat.strongRecOn generalizing i2 i3 μ with
  | ind n ih => exact tB_X11_ledger_20 f hq (fun a2 a3 ν hk => by obtain ⟨n2, hn, hI2⟩ := hk; exact ih n2 hn hI2) (hs _ _ _ _ hI)
def B_X11_ledger_16 (o0 : Nat) (i1 : Int32) (μ : Me) (Q : Int32 → Me → Prop) : Prop := L_X11_ledger_20 o0 i1 0 0 μ Q
set_option maxHeartbeats 4000000 in
set_option maxRecDepth 100000 in
theorem tB_X11_ledger_16 {x : GX} (f : Fx x cX11_ledger RX11 4 (rmc 2 0 0)) {o0 : Nat} {i1 : Int32} {μ : Me} {Q : Int32 → Me → Prop} (hq : Rt x (some .int) (qI Q)) (h : B_X11_ledger_16 o0 i1 μ Q) : G x 4 16 [(0, .ref (gB x + o0)), (1, .int i1)] [] μ 0 0 := by
  unfold B_X11_ledger_16 at h
  refine g_iconst f 0 dX11_ledger_16 kc_0 ?_
  refine h_istore_n f dX11_ledger_17 rfl (by decide) ?_
  refine g_iconst f 0 dX11_ledger_18 kc_0 ?_
  refine h_istore_n f dX11_ledger_19 rfl (by decide) ?_
  exact h_sub [2, 3, 1, 0] rfl (tL_X11_ledger_20 f hq h)
def S_X11_ledger (o0 : Nat) (i1 : Int32) (μ : Me) (Q : Int32 → Me → Prop) : Prop := ((i1 = (-1) → B_X11_ledger_16 o0 i1 μ Q) ∧ (¬ i1 = (-1) → mok μ o0 11 ∧ S_X11_isPerson o0 i1 μ (fun r16 μ14 => ((¬ r16 = 0 → B_X11_ledger_16 o0 i1 μ14 Q) ∧ (r16 = 0 → Q (-2) μ14)))))
set_option maxHeartbeats 4000000 in
set_option maxRecDepth 100000 in
theorem t_X11_ledger {x : GX} (f : Fx x cX11_ledger RX11 4 (rmc 2 0 0)) {o0 : Nat} {i1 : Int32} {μ : Me} {Q : Int32 → Me → Prop} (hq : Rt x (some .int) (qI Q)) (h : S_X11_ledger o0 i1 μ Q) : G x 4 0 [(0, .ref (gB x + o0)), (1, .int i1)] [] μ 0 0 := by
  unfold S_X11_ledger at h
  refine g_iload_n f 1 dX11_ledger_0 rfl rfl ?_
  refine g_iconst f (-1) dX11_ledger_1 kc_m1 ?_
  refine g_ic_eq f 16 dX11_ledger_2 rfl h (fun h => ?_) (fun h => ?_)
  · exact h_sub [0, 1] rfl (tB_X11_ledger_16 f hq h)
  · refine g_aload_n f 0 dX11_ledger_5 rfl rfl ?_
    refine g_iload_n f 1 dX11_ledger_6 rfl rfl ?_
    obtain ⟨v13, h⟩ := h
    refine g_callV f mk_X11_335 v13 (c_X11_isPerson h) dX11_ledger_7 rfl rfl (Nat.le_of_ble_eq_true rfl) (rm_ok (by decide) (by decide)) ⟨Nat.le_of_ble_eq_true rfl, Nat.le_of_ble_eq_true rfl⟩ (kI fun r16 μ14 x15 h => ?_)
    refine g_if_ne f 16 dX11_ledger_10 rfl h (fun h => ?_) (fun h => ?_)
    · exact h_sub [0, 1] rfl (tB_X11_ledger_16 f hq h)
    · refine g_bipush f (-2) dX11_ledger_13 kb_m2 ?_
      exact g_iret f hq (Nat.le_of_ble_eq_true rfl) (Nat.le_of_ble_eq_true rfl) dX11_ledger_15 h
theorem c_X11_ledger {Ω : OM} {o0 : Nat} {i1 : Int32} {μ : Me} {Q : Int32 → Me → Prop} (h : S_X11_ledger o0 i1 μ Q) : CT Ω yX11_ledger cX11_ledger 4 (some .int) (rmc 2 0 0) [.ref (oB Ω + o0), .int i1] μ (qI Q) := CT_of (by decide) rfl (by simp [lg_sl, Value.category]) (fun x hΩ f hq hi => by subst hΩ; exact t_X11_ledger f hq h)
theorem dX11_latest_0 : decode cX11_latest 0 = .ok (.iconst (-1), 1) := by decide +kernel
theorem dX11_latest_1 : decode cX11_latest 1 = .ok (.istore_n 1, 1) := by decide +kernel
theorem dX11_latest_2 : decode cX11_latest 2 = .ok (.iconst 0, 1) := by decide +kernel
theorem dX11_latest_3 : decode cX11_latest 3 = .ok (.istore_n 2, 1) := by decide +kernel
theorem dX11_latest_4 : decode cX11_latest 4 = .ok (.iload_n 2, 1) := by decide +kernel
theorem dX11_latest_5 : decode cX11_latest 5 = .ok (.aload_n 0, 1) := by decide +kernel
theorem dX11_latest_6 : decode cX11_latest 6 = .ok (.getfield 7, 3) := by decide +kernel
theorem dX11_latest_9 : decode cX11_latest 9 = .ok (.iconst 0, 1) := by decide +kernel
theorem dX11_latest_10 : decode cX11_latest 10 = .ok (.iaload, 1) := by decide +kernel
theorem dX11_latest_11 : decode cX11_latest 11 = .ok (.if_icmp .ge 35, 3) := by decide +kernel
theorem dX11_latest_14 : decode cX11_latest 14 = .ok (.aload_n 0, 1) := by decide +kernel
theorem dX11_latest_15 : decode cX11_latest 15 = .ok (.iload_n 2, 1) := by decide +kernel
theorem dX11_latest_16 : decode cX11_latest 16 = .ok (.iconst 2, 1) := by decide +kernel
theorem dX11_latest_17 : decode cX11_latest 17 = .ok (.invokevirtual 74, 3) := by decide +kernel
theorem dX11_latest_20 : decode cX11_latest 20 = .ok (.iload_n 1, 1) := by decide +kernel
theorem dX11_latest_21 : decode cX11_latest 21 = .ok (.iconst (-1), 1) := by decide +kernel
theorem dX11_latest_22 : decode cX11_latest 22 = .ok (.if_icmp .ne 7, 3) := by decide +kernel
theorem dX11_latest_25 : decode cX11_latest 25 = .ok (.iconst 0, 1) := by decide +kernel
theorem dX11_latest_26 : decode cX11_latest 26 = .ok (.goto 9, 3) := by decide +kernel
theorem dX11_latest_29 : decode cX11_latest 29 = .ok (.aload_n 0, 1) := by decide +kernel
theorem dX11_latest_30 : decode cX11_latest 30 = .ok (.iload_n 1, 1) := by decide +kernel
theorem dX11_latest_31 : decode cX11_latest 31 = .ok (.iconst 2, 1) := by decide +kernel
theorem dX11_latest_32 : decode cX11_latest 32 = .ok (.invokevirtual 74, 3) := by decide +kernel
theorem dX11_latest_35 : decode cX11_latest 35 = .ok (.if_icmp .le 5, 3) := by decide +kernel
theorem dX11_latest_38 : decode cX11_latest 38 = .ok (.iload_n 2, 1) := by decide +kernel
theorem dX11_latest_39 : decode cX11_latest 39 = .ok (.istore_n 1, 1) := by decide +kernel
theorem dX11_latest_40 : decode cX11_latest 40 = .ok (.iinc 2 1, 3) := by decide +kernel
theorem dX11_latest_43 : decode cX11_latest 43 = .ok (.goto (-39), 3) := by decide +kernel
theorem dX11_latest_46 : decode cX11_latest 46 = .ok (.iload_n 1, 1) := by decide +kernel
theorem dX11_latest_47 : decode cX11_latest 47 = .ok (.ireturn, 1) := by decide +kernel
def B_X11_latest_40 (o0 : Nat) (i1 : Int32) (i2 : Int32) (μ : Me) (K4 : Int32 → Int32 → Me → Prop) (Q : Int32 → Me → Prop) : Prop := K4 i1 (i2 + 1) μ
set_option maxHeartbeats 4000000 in
set_option maxRecDepth 100000 in
theorem tB_X11_latest_40 {x : GX} (f : Fx x cX11_latest RX11 3 (rmc 1 0 0)) {o0 : Nat} {i1 : Int32} {i2 : Int32} {μ : Me} {Q : Int32 → Me → Prop} (hq : Rt x (some .int) (qI Q)) {K4 : Int32 → Int32 → Me → Prop} (hK4 : ∀ (a1 : Int32) (a2 : Int32) (ν : Me), K4 a1 a2 ν → G x 3 4 [(0, .ref (gB x + o0)), (1, .int a1), (2, .int a2)] [] ν 0 0) (h : B_X11_latest_40 o0 i1 i2 μ K4 Q) : G x 3 40 [(0, .ref (gB x + o0)), (1, .int i1), (2, .int i2)] [] μ 0 0 := by
  unfold B_X11_latest_40 at h
  refine h_iinc f 2 1 dX11_latest_40 rfl kc_1 (by decide) ?_
  refine g_goto f 4 dX11_latest_43 rfl ?_
  exact h_sub [1, 2, 0] rfl (hK4 _ _ _ h)
def B_X11_latest_35 (o0 : Nat) (i1 : Int32) (i2 : Int32) (s0 : Int32) (s1 : Int32) (μ : Me) (K4 : Int32 → Int32 → Me → Prop) (Q : Int32 → Me → Prop) : Prop := ((s1 ≤ s0 → B_X11_latest_40 o0 i1 i2 μ K4 Q) ∧ (¬ s1 ≤ s0 → B_X11_latest_40 o0 i2 i2 μ K4 Q))
set_option maxHeartbeats 4000000 in
set_option maxRecDepth 100000 in
theorem tB_X11_latest_35 {x : GX} (f : Fx x cX11_latest RX11 3 (rmc 1 0 0)) {o0 : Nat} {i1 : Int32} {i2 : Int32} {s0 : Int32} {s1 : Int32} {μ : Me} {Q : Int32 → Me → Prop} (hq : Rt x (some .int) (qI Q)) {K4 : Int32 → Int32 → Me → Prop} (hK4 : ∀ (a1 : Int32) (a2 : Int32) (ν : Me), K4 a1 a2 ν → G x 3 4 [(0, .ref (gB x + o0)), (1, .int a1), (2, .int a2)] [] ν 0 0) (h : B_X11_latest_35 o0 i1 i2 s0 s1 μ K4 Q) : G x 3 35 [(0, .ref (gB x + o0)), (1, .int i1), (2, .int i2)] [.int s0, .int s1] μ 0 0 := by
  unfold B_X11_latest_35 at h
  refine g_ic_le f 40 dX11_latest_35 rfl h (fun h => ?_) (fun h => ?_)
  · exact h_sub [0, 1, 2] rfl (tB_X11_latest_40 f hq hK4 h)
  · refine g_iload_n f 2 dX11_latest_38 rfl rfl ?_
    refine h_istore_n f dX11_latest_39 rfl (by decide) ?_
    exact h_sub [1, 0, 2] rfl (tB_X11_latest_40 f hq hK4 h)
def B_X11_latest_4 (o0 : Nat) (i1 : Int32) (i2 : Int32) (μ : Me) (K4 : Int32 → Int32 → Me → Prop) (Q : Int32 → Me → Prop) : Prop := mok μ o0 11 ∧ ∃ t2, mgr μ o0 0 = some t2 ∧ mok μ t2 12 ∧ vp_in (0 : Int32) (mln μ t2) ∧ (((mgi μ t2 (0 : Int32).toNatClampNeg) ≤ i2 → Q i1 μ) ∧ (¬ (mgi μ t2 (0 : Int32).toNatClampNeg) ≤ i2 → S_X11_get o0 i2 2 μ (fun r6 μ4 => ((¬ i1 = (-1) → S_X11_get o0 i1 2 μ4 (fun r9 μ7 => B_X11_latest_35 o0 i1 i2 r9 r6 μ7 K4 Q)) ∧ (i1 = (-1) → B_X11_latest_35 o0 i1 i2 0 r6 μ4 K4 Q)))))
set_option maxHeartbeats 4000000 in
set_option maxRecDepth 100000 in
theorem tB_X11_latest_4 {x : GX} (f : Fx x cX11_latest RX11 3 (rmc 1 0 0)) {o0 : Nat} {i1 : Int32} {i2 : Int32} {μ : Me} {Q : Int32 → Me → Prop} (hq : Rt x (some .int) (qI Q)) {K4 : Int32 → Int32 → Me → Prop} (hK4 : ∀ (a1 : Int32) (a2 : Int32) (ν : Me), K4 a1 a2 ν → G x 3 4 [(0, .ref (gB x + o0)), (1, .int a1), (2, .int a2)] [] ν 0 0) (h : B_X11_latest_4 o0 i1 i2 μ K4 Q) : G x 3 4 [(0, .ref (gB x + o0)), (1, .int i1), (2, .int i2)] [] μ 0 0 := by
  unfold B_X11_latest_4 at h
  refine g_iload_n f 2 dX11_latest_4 rfl rfl ?_
  refine g_aload_n f 0 dX11_latest_5 rfl rfl ?_
  obtain ⟨v1, h⟩ := h
  refine g_getR f fk_X11_7 v1 dX11_latest_6 rfl h (fun t2 h => ?_)
  refine g_iconst f 0 dX11_latest_9 kc_0 ?_
  obtain ⟨v3, h⟩ := h
  refine g_iald f v3 dX11_latest_10 h (fun h => ?_)
  refine g_ic_ge f 46 dX11_latest_11 rfl h (fun h => ?_) (fun h => ?_)
  · refine g_iload_n f 1 dX11_latest_46 rfl rfl ?_
    exact g_iret f hq (Nat.le_of_ble_eq_true rfl) (Nat.le_of_ble_eq_true rfl) dX11_latest_47 h
  · refine g_aload_n f 0 dX11_latest_14 rfl rfl ?_
    refine g_iload_n f 2 dX11_latest_15 rfl rfl ?_
    refine g_iconst f 2 dX11_latest_16 kc_2 ?_
    refine g_callV f mk_X11_74 v1 (c_X11_get h) dX11_latest_17 rfl rfl (Nat.le_of_ble_eq_true rfl) (rm_ok (by decide) (by decide)) ⟨Nat.le_of_ble_eq_true rfl, Nat.le_of_ble_eq_true rfl⟩ (kI fun r6 μ4 x5 h => ?_)
    refine g_iload_n f 1 dX11_latest_20 rfl rfl ?_
    refine g_iconst f (-1) dX11_latest_21 kc_m1 ?_
    refine g_ic_ne f 29 dX11_latest_22 rfl h (fun h => ?_) (fun h => ?_)
    · refine g_aload_n f 0 dX11_latest_29 rfl rfl ?_
      refine g_iload_n f 1 dX11_latest_30 rfl rfl ?_
      refine g_iconst f 2 dX11_latest_31 kc_2 ?_
      have v1 := mex_ok x5 v1
      refine g_callV f mk_X11_74 v1 (c_X11_get h) dX11_latest_32 rfl rfl (Nat.le_of_ble_eq_true rfl) (rm_ok (by decide) (by decide)) ⟨Nat.le_of_ble_eq_true rfl, Nat.le_of_ble_eq_true rfl⟩ (kI fun r9 μ7 x8 h => ?_)
      exact h_sub [0, 1, 2] rfl (tB_X11_latest_35 f hq hK4 h)
    · refine g_iconst f 0 dX11_latest_25 kc_0 ?_
      refine g_goto f 35 dX11_latest_26 rfl ?_
      exact h_sub [0, 1, 2] rfl (tB_X11_latest_35 f hq hK4 h)
def L_X11_latest_4 (o0 : Nat) (i1 : Int32) (i2 : Int32) (μ : Me) (Q : Int32 → Me → Prop) : Prop := ∃ I : Int32 → Int32 → Me → Nat → Prop, (∃ n, I i1 i2 μ n) ∧ ∀ (i1 : Int32) (i2 : Int32) (μ : Me) (n : Nat), I i1 i2 μ n → B_X11_latest_4 o0 i1 i2 μ (fun a1 a2 ν => ∃ n', n' < n ∧ I a1 a2 ν n') Q
set_option maxHeartbeats 4000000 in
set_option maxRecDepth 100000 in
theorem tL_X11_latest_4 {x : GX} (f : Fx x cX11_latest RX11 3 (rmc 1 0 0)) {o0 : Nat} {i1 : Int32} {i2 : Int32} {μ : Me} {Q : Int32 → Me → Prop} (hq : Rt x (some .int) (qI Q)) (h : L_X11_latest_4 o0 i1 i2 μ Q) : G x 3 4 [(0, .ref (gB x + o0)), (1, .int i1), (2, .int i2)] [] μ 0 0 := by
  obtain ⟨I, ⟨n, hI⟩, hs⟩ := h
  induction n using Nat.strongRecOn generalizing i1 i2 μ with
  | ind n ih => exact tB_X11_latest_4 f hq (fun a1 a2 ν hk => by obtain ⟨n2, hn, hI2⟩ := hk; exact ih n2 hn hI2) (hs _ _ _ _ hI)
def S_X11_latest (o0 : Nat) (μ : Me) (Q : Int32 → Me → Prop) : Prop := L_X11_latest_4 o0 (-1) 0 μ Q
set_option maxHeartbeats 4000000 in
set_option maxRecDepth 100000 in
theorem t_X11_latest {x : GX} (f : Fx x cX11_latest RX11 3 (rmc 1 0 0)) {o0 : Nat} {μ : Me} {Q : Int32 → Me → Prop} (hq : Rt x (some .int) (qI Q)) (h : S_X11_latest o0 μ Q) : G x 3 0 [(0, .ref (gB x + o0))] [] μ 0 0 := by
  unfold S_X11_latest at h
  refine g_iconst f (-1) dX11_latest_0 kc_m1 ?_
  refine h_istore_n f dX11_latest_1 rfl (by decide) ?_
  refine g_iconst f 0 dX11_latest_2 kc_0 ?_
  refine h_istore_n f dX11_latest_3 rfl (by decide) ?_
  exact h_sub [2, 1, 0] rfl (tL_X11_latest_4 f hq h)
theorem c_X11_latest {Ω : OM} {o0 : Nat} {μ : Me} {Q : Int32 → Me → Prop} (h : S_X11_latest o0 μ Q) : CT Ω yX11_latest cX11_latest 3 (some .int) (rmc 1 0 0) [.ref (oB Ω + o0)] μ (qI Q) := CT_of (by decide) rfl (by simp [lg_sl, Value.category]) (fun x hΩ f hq hi => by subst hΩ; exact t_X11_latest f hq h)
theorem dX11_crowded_0 : decode cX11_crowded 0 = .ok (.iconst 0, 1) := by decide +kernel
theorem dX11_crowded_1 : decode cX11_crowded 1 = .ok (.istore_n 1, 1) := by decide +kernel
theorem dX11_crowded_2 : decode cX11_crowded 2 = .ok (.iconst 0, 1) := by decide +kernel
theorem dX11_crowded_3 : decode cX11_crowded 3 = .ok (.istore_n 2, 1) := by decide +kernel
theorem dX11_crowded_4 : decode cX11_crowded 4 = .ok (.iconst 0, 1) := by decide +kernel
theorem dX11_crowded_5 : decode cX11_crowded 5 = .ok (.istore_n 3, 1) := by decide +kernel
theorem dX11_crowded_6 : decode cX11_crowded 6 = .ok (.iload_n 3, 1) := by decide +kernel
theorem dX11_crowded_7 : decode cX11_crowded 7 = .ok (.iconst 4, 1) := by decide +kernel
theorem dX11_crowded_8 : decode cX11_crowded 8 = .ok (.if_icmp .ge 79, 3) := by decide +kernel
theorem dX11_crowded_11 : decode cX11_crowded 11 = .ok (.iconst 0, 1) := by decide +kernel
theorem dX11_crowded_12 : decode cX11_crowded 12 = .ok (.istore 4, 2) := by decide +kernel
theorem dX11_crowded_14 : decode cX11_crowded 14 = .ok (.iconst 0, 1) := by decide +kernel
theorem dX11_crowded_15 : decode cX11_crowded 15 = .ok (.istore 5, 2) := by decide +kernel
theorem dX11_crowded_17 : decode cX11_crowded 17 = .ok (.iload 5, 2) := by decide +kernel
theorem dX11_crowded_19 : decode cX11_crowded 19 = .ok (.aload_n 0, 1) := by decide +kernel
theorem dX11_crowded_20 : decode cX11_crowded 20 = .ok (.getfield 7, 3) := by decide +kernel
theorem dX11_crowded_23 : decode cX11_crowded 23 = .ok (.iconst 0, 1) := by decide +kernel
theorem dX11_crowded_24 : decode cX11_crowded 24 = .ok (.iaload, 1) := by decide +kernel
theorem dX11_crowded_25 : decode cX11_crowded 25 = .ok (.if_icmp .ge 42, 3) := by decide +kernel
theorem dX11_crowded_28 : decode cX11_crowded 28 = .ok (.iload 4, 2) := by decide +kernel
theorem dX11_crowded_30 : decode cX11_crowded 30 = .ok (.aload_n 0, 1) := by decide +kernel
theorem dX11_crowded_31 : decode cX11_crowded 31 = .ok (.iload 5, 2) := by decide +kernel
theorem dX11_crowded_33 : decode cX11_crowded 33 = .ok (.iconst 3, 1) := by decide +kernel
theorem dX11_crowded_34 : decode cX11_crowded 34 = .ok (.invokevirtual 74, 3) := by decide +kernel
theorem dX11_crowded_37 : decode cX11_crowded 37 = .ok (.iload_n 3, 1) := by decide +kernel
theorem dX11_crowded_38 : decode cX11_crowded 38 = .ok (.if_icmp .ne 19, 3) := by decide +kernel
theorem dX11_crowded_41 : decode cX11_crowded 41 = .ok (.aload_n 0, 1) := by decide +kernel
theorem dX11_crowded_42 : decode cX11_crowded 42 = .ok (.invokevirtual 368, 3) := by decide +kernel
theorem dX11_crowded_45 : decode cX11_crowded 45 = .ok (.iload 5, 2) := by decide +kernel
theorem dX11_crowded_47 : decode cX11_crowded 47 = .ok (.invokestatic 246, 3) := by decide +kernel
theorem dX11_crowded_50 : decode cX11_crowded 50 = .ok (.ifCond .eq 7, 3) := by decide +kernel
theorem dX11_crowded_53 : decode cX11_crowded 53 = .ok (.iconst 1, 1) := by decide +kernel
theorem dX11_crowded_54 : decode cX11_crowded 54 = .ok (.goto 4, 3) := by decide +kernel
theorem dX11_crowded_57 : decode cX11_crowded 57 = .ok (.iconst 0, 1) := by decide +kernel
theorem dX11_crowded_58 : decode cX11_crowded 58 = .ok (.iadd, 1) := by decide +kernel
theorem dX11_crowded_59 : decode cX11_crowded 59 = .ok (.istore 4, 2) := by decide +kernel
theorem dX11_crowded_61 : decode cX11_crowded 61 = .ok (.iinc 5 1, 3) := by decide +kernel
theorem dX11_crowded_64 : decode cX11_crowded 64 = .ok (.goto (-47), 3) := by decide +kernel
theorem dX11_crowded_67 : decode cX11_crowded 67 = .ok (.iload 4, 2) := by decide +kernel
theorem dX11_crowded_69 : decode cX11_crowded 69 = .ok (.iload_n 2, 1) := by decide +kernel
theorem dX11_crowded_70 : decode cX11_crowded 70 = .ok (.if_icmp .gt 6, 3) := by decide +kernel
theorem dX11_crowded_73 : decode cX11_crowded 73 = .ok (.goto 8, 3) := by decide +kernel
theorem dX11_crowded_76 : decode cX11_crowded 76 = .ok (.iload 4, 2) := by decide +kernel
theorem dX11_crowded_78 : decode cX11_crowded 78 = .ok (.istore_n 2, 1) := by decide +kernel
theorem dX11_crowded_79 : decode cX11_crowded 79 = .ok (.iload_n 3, 1) := by decide +kernel
theorem dX11_crowded_80 : decode cX11_crowded 80 = .ok (.istore_n 1, 1) := by decide +kernel
theorem dX11_crowded_81 : decode cX11_crowded 81 = .ok (.iinc 3 1, 3) := by decide +kernel
theorem dX11_crowded_84 : decode cX11_crowded 84 = .ok (.goto (-78), 3) := by decide +kernel
theorem dX11_crowded_87 : decode cX11_crowded 87 = .ok (.iload_n 1, 1) := by decide +kernel
theorem dX11_crowded_88 : decode cX11_crowded 88 = .ok (.ireturn, 1) := by decide +kernel
def B_X11_crowded_81 (o0 : Nat) (i1 : Int32) (i2 : Int32) (i3 : Int32) (μ : Me) (K6 : Int32 → Int32 → Int32 → Me → Prop) (Q : Int32 → Me → Prop) : Prop := K6 i1 i2 (i3 + 1) μ
set_option maxHeartbeats 4000000 in
set_option maxRecDepth 100000 in
theorem tB_X11_crowded_81 {x : GX} (f : Fx x cX11_crowded RX11 6 (rmc 6 0 0)) {o0 : Nat} {i1 : Int32} {i2 : Int32} {i3 : Int32} {μ : Me} {Q : Int32 → Me → Prop} (hq : Rt x (some .int) (qI Q)) {K6 : Int32 → Int32 → Int32 → Me → Prop} (hK6 : ∀ (a1 : Int32) (a2 : Int32) (a3 : Int32) (ν : Me), K6 a1 a2 a3 ν → G x 6 6 [(0, .ref (gB x + o0)), (1, .int a1), (2, .int a2), (3, .int a3)] [] ν 0 0) (h : B_X11_crowded_81 o0 i1 i2 i3 μ K6 Q) : G x 6 81 [(0, .ref (gB x + o0)), (1, .int i1), (2, .int i2), (3, .int i3)] [] μ 0 0 := by
  unfold B_X11_crowded_81 at h
  refine h_iinc f 3 1 dX11_crowded_81 rfl kc_1 (by decide) ?_
  refine g_goto f 6 dX11_crowded_84 rfl ?_
  exact h_sub [1, 2, 3, 0] rfl (hK6 _ _ _ _ h)
def B_X11_crowded_58 (o0 : Nat) (i1 : Int32) (i2 : Int32) (i3 : Int32) (i5 : Int32) (s0 : Int32) (s1 : Int32) (μ : Me) (K6 : Int32 → Int32 → Int32 → Me → Prop) (K17 : Int32 → Int32 → Me → Prop) (Q : Int32 → Me → Prop) : Prop := K17 (s1 + s0) (i5 + 1) μ
set_option maxHeartbeats 4000000 in
set_option maxRecDepth 100000 in
theorem tB_X11_crowded_58 {x : GX} (f : Fx x cX11_crowded RX11 6 (rmc 6 0 0)) {o0 : Nat} {i1 : Int32} {i2 : Int32} {i3 : Int32} {i5 : Int32} {s0 : Int32} {s1 : Int32} {μ : Me} {Q : Int32 → Me → Prop} (hq : Rt x (some .int) (qI Q)) {K6 : Int32 → Int32 → Int32 → Me → Prop} {K17 : Int32 → Int32 → Me → Prop} (hK6 : ∀ (a1 : Int32) (a2 : Int32) (a3 : Int32) (ν : Me), K6 a1 a2 a3 ν → G x 6 6 [(0, .ref (gB x + o0)), (1, .int a1), (2, .int a2), (3, .int a3)] [] ν 0 0) (hK17 : ∀ (a4 : Int32) (a5 : Int32) (ν : Me), K17 a4 a5 ν → G x 6 17 [(0, .ref (gB x + o0)), (1, .int i1), (2, .int i2), (3, .int i3), (4, .int a4), (5, .int a5)] [] ν 0 0) (h : B_X11_crowded_58 o0 i1 i2 i3 i5 s0 s1 μ K6 K17 Q) : G x 6 58 [(0, .ref (gB x + o0)), (1, .int i1), (2, .int i2), (3, .int i3), (5, .int i5)] [.int s0, .int s1] μ 0 0 := by
  unfold B_X11_crowded_58 at h
  refine g_iadd f dX11_crowded_58 ?_
  refine h_istore f dX11_crowded_59 (by decide) ?_
  refine h_iinc f 5 1 dX11_crowded_61 rfl kc_1 (by decide) ?_
  refine g_goto f 17 dX11_crowded_64 rfl ?_
  exact h_sub [2, 3, 4, 5, 1, 0] rfl (hK17 _ _ _ h)
def B_X11_crowded_17 (o0 : Nat) (i1 : Int32) (i2 : Int32) (i3 : Int32) (i4 : Int32) (i5 : Int32) (μ : Me) (K6 : Int32 → Int32 → Int32 → Me → Prop) (K17 : Int32 → Int32 → Me → Prop) (Q : Int32 → Me → Prop) : Prop := mok μ o0 11 ∧ ∃ t2, mgr μ o0 0 = some t2 ∧ mok μ t2 12 ∧ vp_in (0 : Int32) (mln μ t2) ∧ (((mgi μ t2 (0 : Int32).toNatClampNeg) ≤ i5 → ((i2 < i4 → B_X11_crowded_81 o0 i3 i4 i3 μ K6 Q) ∧ (¬ i2 < i4 → B_X11_crowded_81 o0 i1 i2 i3 μ K6 Q))) ∧ (¬ (mgi μ t2 (0 : Int32).toNatClampNeg) ≤ i5 → S_X11_get o0 i5 3 μ (fun r6 μ4 => ((¬ r6 = i3 → B_X11_crowded_58 o0 i1 i2 i3 i5 0 i4 μ4 K6 K17 Q) ∧ (r6 = i3 → S_X11_runningNow o0 μ4 (fun r9 μ7 => S_X11_has r9 i5 μ7 (fun r12 μ10 => ((r12 = 0 → B_X11_crowded_58 o0 i1 i2 i3 i5 0 i4 μ10 K6 K17 Q) ∧ (¬ r12 = 0 → B_X11_crowded_58 o0 i1 i2 i3 i5 1 i4 μ10 K6 K17 Q)))))))))
set_option maxHeartbeats 4000000 in
set_option maxRecDepth 100000 in
theorem tB_X11_crowded_17 {x : GX} (f : Fx x cX11_crowded RX11 6 (rmc 6 0 0)) {o0 : Nat} {i1 : Int32} {i2 : Int32} {i3 : Int32} {i4 : Int32} {i5 : Int32} {μ : Me} {Q : Int32 → Me → Prop} (hq : Rt x (some .int) (qI Q)) {K6 : Int32 → Int32 → Int32 → Me → Prop} {K17 : Int32 → Int32 → Me → Prop} (hK6 : ∀ (a1 : Int32) (a2 : Int32) (a3 : Int32) (ν : Me), K6 a1 a2 a3 ν → G x 6 6 [(0, .ref (gB x + o0)), (1, .int a1), (2, .int a2), (3, .int a3)] [] ν 0 0) (hK17 : ∀ (a4 : Int32) (a5 : Int32) (ν : Me), K17 a4 a5 ν → G x 6 17 [(0, .ref (gB x + o0)), (1, .int i1), (2, .int i2), (3, .int i3), (4, .int a4), (5, .int a5)] [] ν 0 0) (h : B_X11_crowded_17 o0 i1 i2 i3 i4 i5 μ K6 K17 Q) : G x 6 17 [(0, .ref (gB x + o0)), (1, .int i1), (2, .int i2), (3, .int i3), (4, .int i4), (5, .int i5)] [] μ 0 0 := by
  unfold B_X11_crowded_17 at h
  refine g_iload f 5 dX11_crowded_17 rfl ?_
  refine g_aload_n f 0 dX11_crowded_19 rfl rfl ?_
  obtain ⟨v1, h⟩ := h
  refine g_getR f fk_X11_7 v1 dX11_crowded_20 rfl h (fun t2 h => ?_)
  refine g_iconst f 0 dX11_crowded_23 kc_0 ?_
  obtain ⟨v3, h⟩ := h
  refine g_iald f v3 dX11_crowded_24 h (fun h => ?_)
  refine g_ic_ge f 67 dX11_crowded_25 rfl h (fun h => ?_) (fun h => ?_)
  · refine g_iload f 4 dX11_crowded_67 rfl ?_
    refine g_iload_n f 2 dX11_crowded_69 rfl rfl ?_
    refine g_ic_gt f 76 dX11_crowded_70 rfl h (fun h => ?_) (fun h => ?_)
    · refine g_iload f 4 dX11_crowded_76 rfl ?_
      refine h_istore_n f dX11_crowded_78 rfl (by decide) ?_
      refine g_iload_n f 3 dX11_crowded_79 rfl rfl ?_
      refine h_istore_n f dX11_crowded_80 rfl (by decide) ?_
      exact h_sub [2, 0, 1, 3] rfl (tB_X11_crowded_81 f hq hK6 h)
    · refine g_goto f 81 dX11_crowded_73 rfl ?_
      exact h_sub [0, 1, 2, 3] rfl (tB_X11_crowded_81 f hq hK6 h)
  · refine g_iload f 4 dX11_crowded_28 rfl ?_
    refine g_aload_n f 0 dX11_crowded_30 rfl rfl ?_
    refine g_iload f 5 dX11_crowded_31 rfl ?_
    refine g_iconst f 3 dX11_crowded_33 kc_3 ?_
    refine g_callV f mk_X11_74 v1 (c_X11_get h) dX11_crowded_34 rfl rfl (Nat.le_of_ble_eq_true rfl) (rm_ok (by decide) (by decide)) ⟨Nat.le_of_ble_eq_true rfl, Nat.le_of_ble_eq_true rfl⟩ (kI fun r6 μ4 x5 h => ?_)
    refine g_iload_n f 3 dX11_crowded_37 rfl rfl ?_
    refine g_ic_ne f 57 dX11_crowded_38 rfl h (fun h => ?_) (fun h => ?_)
    · refine g_iconst f 0 dX11_crowded_57 kc_0 ?_
      exact h_sub [0, 1, 2, 3, 5] rfl (tB_X11_crowded_58 f hq hK6 hK17 h)
    · refine g_aload_n f 0 dX11_crowded_41 rfl rfl ?_
      have v1 := mex_ok x5 v1
      refine g_callV f mk_X11_368 v1 (c_X11_runningNow h) dX11_crowded_42 rfl rfl (Nat.le_of_ble_eq_true rfl) (rm_ok (by decide) (by decide)) ⟨Nat.le_of_ble_eq_true rfl, Nat.le_of_ble_eq_true rfl⟩ (kI fun r9 μ7 x8 h => ?_)
      refine g_iload f 5 dX11_crowded_45 rfl ?_
      refine g_callS f mk_X11_246 (c_X11_has h) dX11_crowded_47 rfl rfl (Nat.le_of_ble_eq_true rfl) (rm_ok (by decide) (by decide)) ⟨Nat.le_of_ble_eq_true rfl, Nat.le_of_ble_eq_true rfl⟩ (kI fun r12 μ10 x11 h => ?_)
      refine g_if_eq f 57 dX11_crowded_50 rfl h (fun h => ?_) (fun h => ?_)
      · refine g_iconst f 0 dX11_crowded_57 kc_0 ?_
        exact h_sub [0, 1, 2, 3, 5] rfl (tB_X11_crowded_58 f hq hK6 hK17 h)
      · refine g_iconst f 1 dX11_crowded_53 kc_1 ?_
        refine g_goto f 58 dX11_crowded_54 rfl ?_
        exact h_sub [0, 1, 2, 3, 5] rfl (tB_X11_crowded_58 f hq hK6 hK17 h)
def L_X11_crowded_17 (o0 : Nat) (i1 : Int32) (i2 : Int32) (i3 : Int32) (i4 : Int32) (i5 : Int32) (μ : Me) (K6 : Int32 → Int32 → Int32 → Me → Prop) (Q : Int32 → Me → Prop) : Prop := ∃ I : Int32 → Int32 → Me → Nat → Prop, (∃ n, I i4 i5 μ n) ∧ ∀ (i4 : Int32) (i5 : Int32) (μ : Me) (n : Nat), I i4 i5 μ n → B_X11_crowded_17 o0 i1 i2 i3 i4 i5 μ K6 (fun a4 a5 ν => ∃ n', n' < n ∧ I a4 a5 ν n') Q
set_option maxHeartbeats 4000000 in
set_option maxRecDepth 100000 in
theorem tL_X11_crowded_17 {x : GX} (f : Fx x cX11_crowded RX11 6 (rmc 6 0 0)) {o0 : Nat} {i1 : Int32} {i2 : Int32} {i3 : Int32} {i4 : Int32} {i5 : Int32} {μ : Me} {Q : Int32 → Me → Prop} (hq : Rt x (some .int) (qI Q)) {K6 : Int32 → Int32 → Int32 → Me → Prop} (hK6 : ∀ (a1 : Int32) (a2 : Int32) (a3 : Int32) (ν : Me), K6 a1 a2 a3 ν → G x 6 6 [(0, .ref (gB x + o0)), (1, .int a1), (2, .int a2), (3, .int a3)] [] ν 0 0) (h : L_X11_crowded_17 o0 i1 i2 i3 i4 i5 μ K6 Q) : G x 6 17 [(0, .ref (gB x + o0)), (1, .int i1), (2, .int i2), (3, .int i3), (4, .int i4), (5, .int i5)] [] μ 0 0 := by
  obtain ⟨I, ⟨n, hI⟩, hs⟩ := h
  induction n using Nat.strongRecOn generalizing i4 i5 μ with
  | ind n ih => exact tB_X11_crowded_17 f hq hK6 (fun a4 a5 ν hk => by obtain ⟨n2, hn, hI2⟩ := hk; exact ih n2 hn hI2) (hs _ _ _ _ hI)
def B_X11_crowded_6 (o0 : Nat) (i1 : Int32) (i2 : Int32) (i3 : Int32) (μ : Me) (K6 : Int32 → Int32 → Int32 → Me → Prop) (Q : Int32 → Me → Prop) : Prop := ((4 ≤ i3 → Q i1 μ) ∧ (¬ 4 ≤ i3 → L_X11_crowded_17 o0 i1 i2 i3 0 0 μ K6 Q))
set_option maxHeartbeats 4000000 in
set_option maxRecDepth 100000 in
theorem tB_X11_crowded_6 {x : GX} (f : Fx x cX11_crowded RX11 6 (rmc 6 0 0)) {o0 : Nat} {i1 : Int32} {i2 : Int32} {i3 : Int32} {μ : Me} {Q : Int32 → Me → Prop} (hq : Rt x (some .int) (qI Q)) {K6 : Int32 → Int32 → Int32 → Me → Prop} (hK6 : ∀ (a1 : Int32) (a2 : Int32) (a3 : Int32) (ν : Me), K6 a1 a2 a3 ν → G x 6 6 [(0, .ref (gB x + o0)), (1, .int a1), (2, .int a2), (3, .int a3)] [] ν 0 0) (h : B_X11_crowded_6 o0 i1 i2 i3 μ K6 Q) : G x 6 6 [(0, .ref (gB x + o0)), (1, .int i1), (2, .int i2), (3, .int i3)] [] μ 0 0 := by
  unfold B_X11_crowded_6 at h
  refine g_iload_n f 3 dX11_crowded_6 rfl rfl ?_
  refine g_iconst f 4 dX11_crowded_7 kc_4 ?_
  refine g_ic_ge f 87 dX11_crowded_8 rfl h (fun h => ?_) (fun h => ?_)
  · refine g_iload_n f 1 dX11_crowded_87 rfl rfl ?_
    exact g_iret f hq (Nat.le_of_ble_eq_true rfl) (Nat.le_of_ble_eq_true rfl) dX11_crowded_88 h
  · refine g_iconst f 0 dX11_crowded_11 kc_0 ?_
    refine h_istore f dX11_crowded_12 (by decide) ?_
    refine g_iconst f 0 dX11_crowded_14 kc_0 ?_
    refine h_istore f dX11_crowded_15 (by decide) ?_
    exact h_sub [2, 3, 4, 5, 1, 0] rfl (tL_X11_crowded_17 f hq hK6 h)
def L_X11_crowded_6 (o0 : Nat) (i1 : Int32) (i2 : Int32) (i3 : Int32) (μ : Me) (Q : Int32 → Me → Prop) : Prop := ∃ I : Int32 → Int32 → Int32 → Me → Nat → Prop, (∃ n, I i1 i2 i3 μ n) ∧ ∀ (i1 : Int32) (i2 : Int32) (i3 : Int32) (μ : Me) (n : Nat), I i1 i2 i3 μ n → B_X11_crowded_6 o0 i1 i2 i3 μ (fun a1 a2 a3 ν => ∃ n', n' < n ∧ I a1 a2 a3 ν n') Q
set_option maxHeartbeats 4000000 in
set_option maxRecDepth 100000 in
theorem tL_X11_crowded_6 {x : GX} (f : Fx x cX11_crowded RX11 6 (rmc 6 0 0)) {o0 : Nat} {i1 : Int32} {i2 : Int32} {i3 : Int32} {μ : Me} {Q : Int32 → Me → Prop} (hq : Rt x (some .int) (qI Q)) (h : L_X11_crowded_6 o0 i1 i2 i3 μ Q) : G x 6 6 [(0, .ref (gB x + o0)), (1, .int i1), (2, .int i2), (3, .int i3)] [] μ 0 0 := by
  obtain ⟨I, ⟨n, hI⟩, hs⟩ := h
  induction n using Nat.strongRecOn generalizing i1 i2 i3 μ with
  | ind n ih => exact tB_X11_crowded_6 f hq (fun a1 a2 a3 ν hk => by obtain ⟨n2, hn, hI2⟩ := hk; exact ih n2 hn hI2) (hs _ _ _ _ _ hI)
def S_X11_crowded (o0 : Nat) (μ : Me) (Q : Int32 → Me → Prop) : Prop := L_X11_crowded_6 o0 0 0 0 μ Q
set_option maxHeartbeats 4000000 in
set_option maxRecDepth 100000 in
theorem t_X11_crowded {x : GX} (f : Fx x cX11_crowded RX11 6 (rmc 6 0 0)) {o0 : Nat} {μ : Me} {Q : Int32 → Me → Prop} (hq : Rt x (some .int) (qI Q)) (h : S_X11_crowded o0 μ Q) : G x 6 0 [(0, .ref (gB x + o0))] [] μ 0 0 := by
  unfold S_X11_crowded at h
  refine g_iconst f 0 dX11_crowded_0 kc_0 ?_
  refine h_istore_n f dX11_crowded_1 rfl (by decide) ?_
  refine g_iconst f 0 dX11_crowded_2 kc_0 ?_
  refine h_istore_n f dX11_crowded_3 rfl (by decide) ?_
  refine g_iconst f 0 dX11_crowded_4 kc_0 ?_
  refine h_istore_n f dX11_crowded_5 rfl (by decide) ?_
  exact h_sub [3, 2, 1, 0] rfl (tL_X11_crowded_6 f hq h)
theorem c_X11_crowded {Ω : OM} {o0 : Nat} {μ : Me} {Q : Int32 → Me → Prop} (h : S_X11_crowded o0 μ Q) : CT Ω yX11_crowded cX11_crowded 6 (some .int) (rmc 6 0 0) [.ref (oB Ω + o0)] μ (qI Q) := CT_of (by decide) rfl (by simp [lg_sl, Value.category]) (fun x hΩ f hq hi => by subst hΩ; exact t_X11_crowded f hq h)
theorem dX11_deaf_0 : decode cX11_deaf 0 = .ok (.iconst 0, 1) := by decide +kernel
theorem dX11_deaf_1 : decode cX11_deaf 1 = .ok (.istore_n 1, 1) := by decide +kernel
theorem dX11_deaf_2 : decode cX11_deaf 2 = .ok (.iconst 0, 1) := by decide +kernel
theorem dX11_deaf_3 : decode cX11_deaf 3 = .ok (.istore_n 2, 1) := by decide +kernel
theorem dX11_deaf_4 : decode cX11_deaf 4 = .ok (.iload_n 2, 1) := by decide +kernel
theorem dX11_deaf_5 : decode cX11_deaf 5 = .ok (.aload_n 0, 1) := by decide +kernel
theorem dX11_deaf_6 : decode cX11_deaf 6 = .ok (.getfield 7, 3) := by decide +kernel
theorem dX11_deaf_9 : decode cX11_deaf 9 = .ok (.iconst 0, 1) := by decide +kernel
theorem dX11_deaf_10 : decode cX11_deaf 10 = .ok (.iaload, 1) := by decide +kernel
theorem dX11_deaf_11 : decode cX11_deaf 11 = .ok (.if_icmp .ge 36, 3) := by decide +kernel
theorem dX11_deaf_14 : decode cX11_deaf 14 = .ok (.iload_n 1, 1) := by decide +kernel
theorem dX11_deaf_15 : decode cX11_deaf 15 = .ok (.aload_n 0, 1) := by decide +kernel
theorem dX11_deaf_16 : decode cX11_deaf 16 = .ok (.getfield 7, 3) := by decide +kernel
theorem dX11_deaf_19 : decode cX11_deaf 19 = .ok (.bipush 67, 2) := by decide +kernel
theorem dX11_deaf_21 : decode cX11_deaf 21 = .ok (.iload_n 2, 1) := by decide +kernel
theorem dX11_deaf_22 : decode cX11_deaf 22 = .ok (.iadd, 1) := by decide +kernel
theorem dX11_deaf_23 : decode cX11_deaf 23 = .ok (.iaload, 1) := by decide +kernel
theorem dX11_deaf_24 : decode cX11_deaf 24 = .ok (.aload_n 0, 1) := by decide +kernel
theorem dX11_deaf_25 : decode cX11_deaf 25 = .ok (.invokevirtual 70, 3) := by decide +kernel
theorem dX11_deaf_28 : decode cX11_deaf 28 = .ok (.iand, 1) := by decide +kernel
theorem dX11_deaf_29 : decode cX11_deaf 29 = .ok (.ifCond .ne 9, 3) := by decide +kernel
theorem dX11_deaf_32 : decode cX11_deaf 32 = .ok (.iconst 1, 1) := by decide +kernel
theorem dX11_deaf_33 : decode cX11_deaf 33 = .ok (.iload_n 2, 1) := by decide +kernel
theorem dX11_deaf_34 : decode cX11_deaf 34 = .ok (.ishl, 1) := by decide +kernel
theorem dX11_deaf_35 : decode cX11_deaf 35 = .ok (.goto 4, 3) := by decide +kernel
theorem dX11_deaf_38 : decode cX11_deaf 38 = .ok (.iconst 0, 1) := by decide +kernel
theorem dX11_deaf_39 : decode cX11_deaf 39 = .ok (.ior, 1) := by decide +kernel
theorem dX11_deaf_40 : decode cX11_deaf 40 = .ok (.istore_n 1, 1) := by decide +kernel
theorem dX11_deaf_41 : decode cX11_deaf 41 = .ok (.iinc 2 1, 3) := by decide +kernel
theorem dX11_deaf_44 : decode cX11_deaf 44 = .ok (.goto (-40), 3) := by decide +kernel
theorem dX11_deaf_47 : decode cX11_deaf 47 = .ok (.iload_n 1, 1) := by decide +kernel
theorem dX11_deaf_48 : decode cX11_deaf 48 = .ok (.ireturn, 1) := by decide +kernel
def B_X11_deaf_39 (o0 : Nat) (i2 : Int32) (s0 : Int32) (s1 : Int32) (μ : Me) (K4 : Int32 → Int32 → Me → Prop) (Q : Int32 → Me → Prop) : Prop := K4 (s1 ||| s0) (i2 + 1) μ
set_option maxHeartbeats 4000000 in
set_option maxRecDepth 100000 in
theorem tB_X11_deaf_39 {x : GX} (f : Fx x cX11_deaf RX11 3 (rmc 1 0 0)) {o0 : Nat} {i2 : Int32} {s0 : Int32} {s1 : Int32} {μ : Me} {Q : Int32 → Me → Prop} (hq : Rt x (some .int) (qI Q)) {K4 : Int32 → Int32 → Me → Prop} (hK4 : ∀ (a1 : Int32) (a2 : Int32) (ν : Me), K4 a1 a2 ν → G x 3 4 [(0, .ref (gB x + o0)), (1, .int a1), (2, .int a2)] [] ν 0 0) (h : B_X11_deaf_39 o0 i2 s0 s1 μ K4 Q) : G x 3 39 [(0, .ref (gB x + o0)), (2, .int i2)] [.int s0, .int s1] μ 0 0 := by
  unfold B_X11_deaf_39 at h
  refine g_ior f dX11_deaf_39 ?_
  refine h_istore_n f dX11_deaf_40 rfl (by decide) ?_
  refine h_iinc f 2 1 dX11_deaf_41 rfl kc_1 (by decide) ?_
  refine g_goto f 4 dX11_deaf_44 rfl ?_
  exact h_sub [2, 1, 0] rfl (hK4 _ _ _ h)
def B_X11_deaf_4 (o0 : Nat) (i1 : Int32) (i2 : Int32) (μ : Me) (K4 : Int32 → Int32 → Me → Prop) (Q : Int32 → Me → Prop) : Prop := mok μ o0 11 ∧ ∃ t2, mgr μ o0 0 = some t2 ∧ mok μ t2 12 ∧ vp_in (0 : Int32) (mln μ t2) ∧ (((mgi μ t2 (0 : Int32).toNatClampNeg) ≤ i2 → Q i1 μ) ∧ (¬ (mgi μ t2 (0 : Int32).toNatClampNeg) ≤ i2 → ∃ t4, mgr μ o0 0 = some t4 ∧ mok μ t4 12 ∧ vp_in (67 + i2) (mln μ t4) ∧ S_X11_all o0 μ (fun r8 μ6 => ((¬ ((mgi μ t4 (67 + i2).toNatClampNeg) &&& r8) = 0 → B_X11_deaf_39 o0 i2 0 i1 μ6 K4 Q) ∧ (((mgi μ t4 (67 + i2).toNatClampNeg) &&& r8) = 0 → B_X11_deaf_39 o0 i2 (1 <<< (i2 &&& 31)) i1 μ6 K4 Q)))))
set_option maxHeartbeats 4000000 in
set_option maxRecDepth 100000 in
theorem tB_X11_deaf_4 {x : GX} (f : Fx x cX11_deaf RX11 3 (rmc 1 0 0)) {o0 : Nat} {i1 : Int32} {i2 : Int32} {μ : Me} {Q : Int32 → Me → Prop} (hq : Rt x (some .int) (qI Q)) {K4 : Int32 → Int32 → Me → Prop} (hK4 : ∀ (a1 : Int32) (a2 : Int32) (ν : Me), K4 a1 a2 ν → G x 3 4 [(0, .ref (gB x + o0)), (1, .int a1), (2, .int a2)] [] ν 0 0) (h : B_X11_deaf_4 o0 i1 i2 μ K4 Q) : G x 3 4 [(0, .ref (gB x + o0)), (1, .int i1), (2, .int i2)] [] μ 0 0 := by
  unfold B_X11_deaf_4 at h
  refine g_iload_n f 2 dX11_deaf_4 rfl rfl ?_
  refine g_aload_n f 0 dX11_deaf_5 rfl rfl ?_
  obtain ⟨v1, h⟩ := h
  refine g_getR f fk_X11_7 v1 dX11_deaf_6 rfl h (fun t2 h => ?_)
  refine g_iconst f 0 dX11_deaf_9 kc_0 ?_
  obtain ⟨v3, h⟩ := h
  refine g_iald f v3 dX11_deaf_10 h (fun h => ?_)
  refine g_ic_ge f 47 dX11_deaf_11 rfl h (fun h => ?_) (fun h => ?_)
  · refine g_iload_n f 1 dX11_deaf_47 rfl rfl ?_
    exact g_iret f hq (Nat.le_of_ble_eq_true rfl) (Nat.le_of_ble_eq_true rfl) dX11_deaf_48 h
  · refine g_iload_n f 1 dX11_deaf_14 rfl rfl ?_
    refine g_aload_n f 0 dX11_deaf_15 rfl rfl ?_
    refine g_getR f fk_X11_7 v1 dX11_deaf_16 rfl h (fun t4 h => ?_)
    refine g_bipush f 67 dX11_deaf_19 kb_67 ?_
    refine g_iload_n f 2 dX11_deaf_21 rfl rfl ?_
    refine g_iadd f dX11_deaf_22 ?_
    obtain ⟨v5, h⟩ := h
    refine g_iald f v5 dX11_deaf_23 h (fun h => ?_)
    refine g_aload_n f 0 dX11_deaf_24 rfl rfl ?_
    refine g_callV f mk_X11_70 v1 (c_X11_all h) dX11_deaf_25 rfl rfl (Nat.le_of_ble_eq_true rfl) (rm_ok (by decide) (by decide)) ⟨Nat.le_of_ble_eq_true rfl, Nat.le_of_ble_eq_true rfl⟩ (kI fun r8 μ6 x7 h => ?_)
    refine g_iand f dX11_deaf_28 ?_
    refine g_if_ne f 38 dX11_deaf_29 rfl h (fun h => ?_) (fun h => ?_)
    · refine g_iconst f 0 dX11_deaf_38 kc_0 ?_
      exact h_sub [0, 2] rfl (tB_X11_deaf_39 f hq hK4 h)
    · refine g_iconst f 1 dX11_deaf_32 kc_1 ?_
      refine g_iload_n f 2 dX11_deaf_33 rfl rfl ?_
      refine g_ishl f dX11_deaf_34 ?_
      refine g_goto f 39 dX11_deaf_35 rfl ?_
      exact h_sub [0, 2] rfl (tB_X11_deaf_39 f hq hK4 h)
def L_X11_deaf_4 (o0 : Nat) (i1 : Int32) (i2 : Int32) (μ : Me) (Q : Int32 → Me → Prop) : Prop := ∃ I : Int32 → Int32 → Me → Nat → Prop, (∃ n, I i1 i2 μ n) ∧ ∀ (i1 : Int32) (i2 : Int32) (μ : Me) (n : Nat), I i1 i2 μ n → B_X11_deaf_4 o0 i1 i2 μ (fun a1 a2 ν => ∃ n', n' < n ∧ I a1 a2 ν n') Q
set_option maxHeartbeats 4000000 in
set_option maxRecDepth 100000 in
theorem tL_X11_deaf_4 {x : GX} (f : Fx x cX11_deaf RX11 3 (rmc 1 0 0)) {o0 : Nat} {i1 : Int32} {i2 : Int32} {μ : Me} {Q : Int32 → Me → Prop} (hq : Rt x (some .int) (qI Q)) (h : L_X11_deaf_4 o0 i1 i2 μ Q) : G x 3 4 [(0, .ref (gB x + o0)), (1, .int i1), (2, .int i2)] [] μ 0 0 := by
  obtain ⟨I, ⟨n, hI⟩, hs⟩ := h
  induction n using Nat.strongRecOn generalizing i1 i2 μ with
  | ind n ih => exact tB_X11_deaf_4 f hq (fun a1 a2 ν hk => by obtain ⟨n2, hn, hI2⟩ := hk; exact ih n2 hn hI2) (hs _ _ _ _ hI)
def S_X11_deaf (o0 : Nat) (μ : Me) (Q : Int32 → Me → Prop) : Prop := L_X11_deaf_4 o0 0 0 μ Q
set_option maxHeartbeats 4000000 in
set_option maxRecDepth 100000 in
theorem t_X11_deaf {x : GX} (f : Fx x cX11_deaf RX11 3 (rmc 1 0 0)) {o0 : Nat} {μ : Me} {Q : Int32 → Me → Prop} (hq : Rt x (some .int) (qI Q)) (h : S_X11_deaf o0 μ Q) : G x 3 0 [(0, .ref (gB x + o0))] [] μ 0 0 := by
  unfold S_X11_deaf at h
  refine g_iconst f 0 dX11_deaf_0 kc_0 ?_
  refine h_istore_n f dX11_deaf_1 rfl (by decide) ?_
  refine g_iconst f 0 dX11_deaf_2 kc_0 ?_
  refine h_istore_n f dX11_deaf_3 rfl (by decide) ?_
  exact h_sub [2, 1, 0] rfl (tL_X11_deaf_4 f hq h)
theorem c_X11_deaf {Ω : OM} {o0 : Nat} {μ : Me} {Q : Int32 → Me → Prop} (h : S_X11_deaf o0 μ Q) : CT Ω yX11_deaf cX11_deaf 3 (some .int) (rmc 1 0 0) [.ref (oB Ω + o0)] μ (qI Q) := CT_of (by decide) rfl (by simp [lg_sl, Value.category]) (fun x hΩ f hq hi => by subst hΩ; exact t_X11_deaf f hq h)
theorem dX11_foretold_0 : decode cX11_foretold 0 = .ok (.iload_n 1, 1) := by decide +kernel
theorem dX11_foretold_1 : decode cX11_foretold 1 = .ok (.iconst 1, 1) := by decide +kernel
theorem dX11_foretold_2 : decode cX11_foretold 2 = .ok (.bipush 60, 2) := by decide +kernel
theorem dX11_foretold_4 : decode cX11_foretold 4 = .ok (.invokestatic 66, 3) := by decide +kernel
theorem dX11_foretold_7 : decode cX11_foretold 7 = .ok (.ifCond .eq 12, 3) := by decide +kernel
theorem dX11_foretold_10 : decode cX11_foretold 10 = .ok (.iload_n 2, 1) := by decide +kernel
theorem dX11_foretold_11 : decode cX11_foretold 11 = .ok (.iconst 0, 1) := by decide +kernel
theorem dX11_foretold_12 : decode cX11_foretold 12 = .ok (.iconst 2, 1) := by decide +kernel
theorem dX11_foretold_13 : decode cX11_foretold 13 = .ok (.invokestatic 66, 3) := by decide +kernel
theorem dX11_foretold_16 : decode cX11_foretold 16 = .ok (.ifCond .ne 5, 3) := by decide +kernel
theorem dX11_foretold_19 : decode cX11_foretold 19 = .ok (.iconst (-1), 1) := by decide +kernel
theorem dX11_foretold_20 : decode cX11_foretold 20 = .ok (.ireturn, 1) := by decide +kernel
theorem dX11_foretold_21 : decode cX11_foretold 21 = .ok (.bipush 6, 2) := by decide +kernel
theorem dX11_foretold_23 : decode cX11_foretold 23 = .ok (.istore_n 3, 1) := by decide +kernel
theorem dX11_foretold_24 : decode cX11_foretold 24 = .ok (.iload_n 3, 1) := by decide +kernel
theorem dX11_foretold_25 : decode cX11_foretold 25 = .ok (.bipush 67, 2) := by decide +kernel
theorem dX11_foretold_27 : decode cX11_foretold 27 = .ok (.if_icmp .ge 21, 3) := by decide +kernel
theorem dX11_foretold_30 : decode cX11_foretold 30 = .ok (.aload_n 0, 1) := by decide +kernel
theorem dX11_foretold_31 : decode cX11_foretold 31 = .ok (.getfield 47, 3) := by decide +kernel
theorem dX11_foretold_34 : decode cX11_foretold 34 = .ok (.iload_n 3, 1) := by decide +kernel
theorem dX11_foretold_35 : decode cX11_foretold 35 = .ok (.aload_n 0, 1) := by decide +kernel
theorem dX11_foretold_36 : decode cX11_foretold 36 = .ok (.getfield 7, 3) := by decide +kernel
theorem dX11_foretold_39 : decode cX11_foretold 39 = .ok (.iload_n 3, 1) := by decide +kernel
theorem dX11_foretold_40 : decode cX11_foretold 40 = .ok (.iaload, 1) := by decide +kernel
theorem dX11_foretold_41 : decode cX11_foretold 41 = .ok (.iastore, 1) := by decide +kernel
theorem dX11_foretold_42 : decode cX11_foretold 42 = .ok (.iinc 3 1, 3) := by decide +kernel
theorem dX11_foretold_45 : decode cX11_foretold 45 = .ok (.goto (-21), 3) := by decide +kernel
theorem dX11_foretold_48 : decode cX11_foretold 48 = .ok (.aload_n 0, 1) := by decide +kernel
theorem dX11_foretold_49 : decode cX11_foretold 49 = .ok (.iconst 0, 1) := by decide +kernel
theorem dX11_foretold_50 : decode cX11_foretold 50 = .ok (.putfield 43, 3) := by decide +kernel
theorem dX11_foretold_53 : decode cX11_foretold 53 = .ok (.aload_n 0, 1) := by decide +kernel
theorem dX11_foretold_54 : decode cX11_foretold 54 = .ok (.iconst 0, 1) := by decide +kernel
theorem dX11_foretold_55 : decode cX11_foretold 55 = .ok (.putfield 323, 3) := by decide +kernel
theorem dX11_foretold_58 : decode cX11_foretold 58 = .ok (.iconst 0, 1) := by decide +kernel
theorem dX11_foretold_59 : decode cX11_foretold 59 = .ok (.istore_n 3, 1) := by decide +kernel
theorem dX11_foretold_60 : decode cX11_foretold 60 = .ok (.iload_n 3, 1) := by decide +kernel
theorem dX11_foretold_61 : decode cX11_foretold 61 = .ok (.iload_n 1, 1) := by decide +kernel
theorem dX11_foretold_62 : decode cX11_foretold 62 = .ok (.if_icmp .ge 26, 3) := by decide +kernel
theorem dX11_foretold_65 : decode cX11_foretold 65 = .ok (.aload_n 0, 1) := by decide +kernel
theorem dX11_foretold_66 : decode cX11_foretold 66 = .ok (.getfield 7, 3) := by decide +kernel
theorem dX11_foretold_69 : decode cX11_foretold 69 = .ok (.bipush 6, 2) := by decide +kernel
theorem dX11_foretold_71 : decode cX11_foretold 71 = .ok (.iaload, 1) := by decide +kernel
theorem dX11_foretold_72 : decode cX11_foretold 72 = .ok (.sipush 9999, 3) := by decide +kernel
theorem dX11_foretold_75 : decode cX11_foretold 75 = .ok (.if_icmp .ge 7, 3) := by decide +kernel
theorem dX11_foretold_78 : decode cX11_foretold 78 = .ok (.aload_n 0, 1) := by decide +kernel
theorem dX11_foretold_79 : decode cX11_foretold 79 = .ok (.invokevirtual 341, 3) := by decide +kernel
theorem dX11_foretold_82 : decode cX11_foretold 82 = .ok (.iinc 3 1, 3) := by decide +kernel
theorem dX11_foretold_85 : decode cX11_foretold 85 = .ok (.goto (-25), 3) := by decide +kernel
theorem dX11_foretold_88 : decode cX11_foretold 88 = .ok (.iload_n 2, 1) := by decide +kernel
theorem dX11_foretold_89 : decode cX11_foretold 89 = .ok (.ifCond .ne 13, 3) := by decide +kernel
theorem dX11_foretold_92 : decode cX11_foretold 92 = .ok (.aload_n 0, 1) := by decide +kernel
theorem dX11_foretold_93 : decode cX11_foretold 93 = .ok (.getfield 7, 3) := by decide +kernel
theorem dX11_foretold_96 : decode cX11_foretold 96 = .ok (.bipush 7, 2) := by decide +kernel
theorem dX11_foretold_98 : decode cX11_foretold 98 = .ok (.iaload, 1) := by decide +kernel
theorem dX11_foretold_99 : decode cX11_foretold 99 = .ok (.goto 22, 3) := by decide +kernel
theorem dX11_foretold_102 : decode cX11_foretold 102 = .ok (.iload_n 2, 1) := by decide +kernel
theorem dX11_foretold_103 : decode cX11_foretold 103 = .ok (.iconst 1, 1) := by decide +kernel
theorem dX11_foretold_104 : decode cX11_foretold 104 = .ok (.if_icmp .ne 10, 3) := by decide +kernel
theorem dX11_foretold_107 : decode cX11_foretold 107 = .ok (.aload_n 0, 1) := by decide +kernel
theorem dX11_foretold_108 : decode cX11_foretold 108 = .ok (.getfield 323, 3) := by decide +kernel
theorem dX11_foretold_111 : decode cX11_foretold 111 = .ok (.goto 10, 3) := by decide +kernel
theorem dX11_foretold_114 : decode cX11_foretold 114 = .ok (.aload_n 0, 1) := by decide +kernel
theorem dX11_foretold_115 : decode cX11_foretold 115 = .ok (.getfield 7, 3) := by decide +kernel
theorem dX11_foretold_118 : decode cX11_foretold 118 = .ok (.bipush 8, 2) := by decide +kernel
theorem dX11_foretold_120 : decode cX11_foretold 120 = .ok (.iaload, 1) := by decide +kernel
theorem dX11_foretold_121 : decode cX11_foretold 121 = .ok (.istore_n 3, 1) := by decide +kernel
theorem dX11_foretold_122 : decode cX11_foretold 122 = .ok (.bipush 6, 2) := by decide +kernel
theorem dX11_foretold_124 : decode cX11_foretold 124 = .ok (.istore 4, 2) := by decide +kernel
theorem dX11_foretold_126 : decode cX11_foretold 126 = .ok (.iload 4, 2) := by decide +kernel
theorem dX11_foretold_128 : decode cX11_foretold 128 = .ok (.bipush 67, 2) := by decide +kernel
theorem dX11_foretold_130 : decode cX11_foretold 130 = .ok (.if_icmp .ge 23, 3) := by decide +kernel
theorem dX11_foretold_133 : decode cX11_foretold 133 = .ok (.aload_n 0, 1) := by decide +kernel
theorem dX11_foretold_134 : decode cX11_foretold 134 = .ok (.getfield 7, 3) := by decide +kernel
theorem dX11_foretold_137 : decode cX11_foretold 137 = .ok (.iload 4, 2) := by decide +kernel
theorem dX11_foretold_139 : decode cX11_foretold 139 = .ok (.aload_n 0, 1) := by decide +kernel
theorem dX11_foretold_140 : decode cX11_foretold 140 = .ok (.getfield 47, 3) := by decide +kernel
theorem dX11_foretold_143 : decode cX11_foretold 143 = .ok (.iload 4, 2) := by decide +kernel
theorem dX11_foretold_145 : decode cX11_foretold 145 = .ok (.iaload, 1) := by decide +kernel
theorem dX11_foretold_146 : decode cX11_foretold 146 = .ok (.iastore, 1) := by decide +kernel
theorem dX11_foretold_147 : decode cX11_foretold 147 = .ok (.iinc 4 1, 3) := by decide +kernel
theorem dX11_foretold_150 : decode cX11_foretold 150 = .ok (.goto (-24), 3) := by decide +kernel
theorem dX11_foretold_153 : decode cX11_foretold 153 = .ok (.aload_n 0, 1) := by decide +kernel
theorem dX11_foretold_154 : decode cX11_foretold 154 = .ok (.iconst 1, 1) := by decide +kernel
theorem dX11_foretold_155 : decode cX11_foretold 155 = .ok (.putfield 43, 3) := by decide +kernel
theorem dX11_foretold_158 : decode cX11_foretold 158 = .ok (.iload_n 3, 1) := by decide +kernel
theorem dX11_foretold_159 : decode cX11_foretold 159 = .ok (.ireturn, 1) := by decide +kernel
def B_X11_foretold_126 (o0 : Nat) (i3 : Int32) (i4 : Int32) (μ : Me) (K126 : Int32 → Me → Prop) (Q : Int32 → Me → Prop) : Prop := ((67 ≤ i4 → mok μ o0 11 ∧ ∀ μ14, μ14 = msi μ o0 24 1 → Q i3 μ14) ∧ (¬ 67 ≤ i4 → mok μ o0 11 ∧ ∃ t16, mgr μ o0 0 = some t16 ∧ ∃ t17, mgr μ o0 26 = some t17 ∧ mok μ t17 12 ∧ vp_in i4 (mln μ t17) ∧ mok μ t16 12 ∧ vp_in i4 (mln μ t16) ∧ ∀ μ20, μ20 = msi μ t16 i4.toNatClampNeg (mgi μ t17 i4.toNatClampNeg) → K126 (i4 + 1) μ20))
set_option maxHeartbeats 4000000 in
set_option maxRecDepth 100000 in
theorem tB_X11_foretold_126 {x : GX} (f : Fx x cX11_foretold RX11 5 (rmc 7 0 0)) {o0 : Nat} {i3 : Int32} {i4 : Int32} {μ : Me} {Q : Int32 → Me → Prop} (hq : Rt x (some .int) (qI Q)) {K126 : Int32 → Me → Prop} (hK126 : ∀ (a4 : Int32) (ν : Me), K126 a4 ν → G x 5 126 [(0, .ref (gB x + o0)), (3, .int i3), (4, .int a4)] [] ν 0 0) (h : B_X11_foretold_126 o0 i3 i4 μ K126 Q) : G x 5 126 [(0, .ref (gB x + o0)), (3, .int i3), (4, .int i4)] [] μ 0 0 := by
  unfold B_X11_foretold_126 at h
  refine g_iload f 2 dX11_foretold_126 rfl ?_
  refine g_bipush f 67 dX11_foretold_128 kb_67 ?_
  refine g_ic_ge f 153 dX11_foretold_130 rfl h (fun h => ?_) (fun h => ?_)
  · refine g_aload_n f 0 dX11_foretold_153 rfl rfl ?_
    refine g_iconst f 1 dX11_foretold_154 kc_1 ?_
    obtain ⟨v13, h⟩ := h
    refine g_putZ f fk_X11_43 v13 dX11_foretold_155 rfl zb_1.1 zb_1.2 h (fun h => ?_)
    refine g_iload_n f 1 dX11_foretold_158 rfl rfl ?_
    exact g_iret f hq (Nat.le_of_ble_eq_true rfl) (Nat.le_of_ble_eq_true rfl) dX11_foretold_159 h
  · refine g_aload_n f 0 dX11_foretold_133 rfl rfl ?_
    obtain ⟨v15, h⟩ := h
    refine g_getR f fk_X11_7 v15 dX11_foretold_134 rfl h (fun t16 h => ?_)
    refine g_iload f 2 dX11_foretold_137 rfl ?_
    refine g_aload_n f 0 dX11_foretold_139 rfl rfl ?_
    refine g_getR f fk_X11_47 v15 dX11_foretold_140 rfl h (fun t17 h => ?_)
    refine g_iload f 2 dX11_foretold_143 rfl ?_
    obtain ⟨v18, h⟩ := h
    refine g_iald f v18 dX11_foretold_145 h (fun h => ?_)
    obtain ⟨v19, h⟩ := h
    refine g_iast f v19 dX11_foretold_146 h (fun h => ?_)
    refine h_iinc f 2 1 dX11_foretold_147 rfl kc_1 (by decide) ?_
    refine g_goto f 126 dX11_foretold_150 rfl ?_
    exact h_sub [1, 2, 0] rfl (hK126 _ _ h)
def L_X11_foretold_126 (o0 : Nat) (i3 : Int32) (i4 : Int32) (μ : Me) (Q : Int32 → Me → Prop) : Prop := ∃ I : Int32 → Me → Nat → Prop, (∃ n, I i4 μ n) ∧ ∀ (i4 : Int32) (μ : Me) (n : Nat), I i4 μ n → B_X11_foretold_126 o0 i3 i4 μ (fun a4 ν => ∃ n', n' < n ∧ I a4 ν n') Q
set_option maxHeartbeats 4000000 in
set_option maxRecDepth 100000 in
theorem tL_X11_foretold_126 {x : GX} (f : Fx x cX11_foretold RX11 5 (rmc 7 0 0)) {o0 : Nat} {i3 : Int32} {i4 : Int32} {μ : Me} {Q : Int32 → Me → Prop} (hq : Rt x (some .int) (qI Q)) (h : L_X11_foretold_126 o0 i3 i4 μ Q) : G x 5 126 [(0, .ref (gB x + o0)), (3, .int i3), (4, .int i4)] [] μ 0 0 := by
  obtain ⟨I, ⟨n, hI⟩, hs⟩ := h
  induction n using Nat.strongRecOn generalizing i4 μ with
  | ind n ih => exact tB_X11_foretold_126 f hq (fun a4 ν hk => by obtain ⟨n2, hn, hI2⟩ := hk; exact ih n2 hn hI2) (hs _ _ _ hI)
def B_X11_foretold_121 (o0 : Nat) (s0 : Int32) (μ : Me) (Q : Int32 → Me → Prop) : Prop := L_X11_foretold_126 o0 s0 6 μ Q
set_option maxHeartbeats 4000000 in
set_option maxRecDepth 100000 in
theorem tB_X11_foretold_121 {x : GX} (f : Fx x cX11_foretold RX11 5 (rmc 7 0 0)) {o0 : Nat} {s0 : Int32} {μ : Me} {Q : Int32 → Me → Prop} (hq : Rt x (some .int) (qI Q)) (h : B_X11_foretold_121 o0 s0 μ Q) : G x 5 121 [(0, .ref (gB x + o0))] [.int s0] μ 0 0 := by
  unfold B_X11_foretold_121 at h
  refine h_istore_n f dX11_foretold_121 rfl (by decide) ?_
  refine g_bipush f 6 dX11_foretold_122 kb_6 ?_
  refine h_istore f dX11_foretold_124 (by decide) ?_
  exact h_sub [2, 1, 0] rfl (tL_X11_foretold_126 f hq h)
def B_X11_foretold_82 (o0 : Nat) (i1 : Int32) (i2 : Int32) (i3 : Int32) (μ : Me) (K60 : Int32 → Me → Prop) (Q : Int32 → Me → Prop) : Prop := K60 (i3 + 1) μ
set_option maxHeartbeats 4000000 in
set_option maxRecDepth 100000 in
theorem tB_X11_foretold_82 {x : GX} (f : Fx x cX11_foretold RX11 5 (rmc 7 0 0)) {o0 : Nat} {i1 : Int32} {i2 : Int32} {i3 : Int32} {μ : Me} {Q : Int32 → Me → Prop} (hq : Rt x (some .int) (qI Q)) {K60 : Int32 → Me → Prop} (hK60 : ∀ (a3 : Int32) (ν : Me), K60 a3 ν → G x 5 60 [(0, .ref (gB x + o0)), (1, .int i1), (2, .int i2), (3, .int a3)] [] ν 0 0) (h : B_X11_foretold_82 o0 i1 i2 i3 μ K60 Q) : G x 5 82 [(0, .ref (gB x + o0)), (1, .int i1), (2, .int i2), (3, .int i3)] [] μ 0 0 := by
  unfold B_X11_foretold_82 at h
  refine h_iinc f 3 1 dX11_foretold_82 rfl kc_1 (by decide) ?_
  refine g_goto f 60 dX11_foretold_85 rfl ?_
  exact h_sub [1, 2, 3, 0] rfl (hK60 _ _ h)
def B_X11_foretold_60 (o0 : Nat) (i1 : Int32) (i2 : Int32) (i3 : Int32) (μ : Me) (K60 : Int32 → Me → Prop) (Q : Int32 → Me → Prop) : Prop := ((i1 ≤ i3 → ((¬ i2 = 0 → ((¬ i2 = 1 → mok μ o0 11 ∧ ∃ t11, mgr μ o0 0 = some t11 ∧ mok μ t11 12 ∧ vp_in (8 : Int32) (mln μ t11) ∧ B_X11_foretold_121 o0 (mgi μ t11 (8 : Int32).toNatClampNeg) μ Q) ∧ (i2 = 1 → mok μ o0 11 ∧ B_X11_foretold_121 o0 (mgi μ o0 25) μ Q))) ∧ (i2 = 0 → mok μ o0 11 ∧ ∃ t23, mgr μ o0 0 = some t23 ∧ mok μ t23 12 ∧ vp_in (7 : Int32) (mln μ t23) ∧ B_X11_foretold_121 o0 (mgi μ t23 (7 : Int32).toNatClampNeg) μ Q))) ∧ (¬ i1 ≤ i3 → mok μ o0 11 ∧ ∃ t26, mgr μ o0 0 = some t26 ∧ mok μ t26 12 ∧ vp_in (6 : Int32) (mln μ t26) ∧ ((9999 ≤ (mgi μ t26 (6 : Int32).toNatClampNeg) → B_X11_foretold_82 o0 i1 i2 i3 μ K60 Q) ∧ (¬ 9999 ≤ (mgi μ t26 (6 : Int32).toNatClampNeg) → S_X11_pass o0 μ (fun μ28 => B_X11_foretold_82 o0 i1 i2 i3 μ28 K60 Q)))))
set_option maxHeartbeats 4000000 in
set_option maxRecDepth 100000 in
theorem tB_X11_foretold_60 {x : GX} (f : Fx x cX11_foretold RX11 5 (rmc 7 0 0)) {o0 : Nat} {i1 : Int32} {i2 : Int32} {i3 : Int32} {μ : Me} {Q : Int32 → Me → Prop} (hq : Rt x (some .int) (qI Q)) {K60 : Int32 → Me → Prop} (hK60 : ∀ (a3 : Int32) (ν : Me), K60 a3 ν → G x 5 60 [(0, .ref (gB x + o0)), (1, .int i1), (2, .int i2), (3, .int a3)] [] ν 0 0) (h : B_X11_foretold_60 o0 i1 i2 i3 μ K60 Q) : G x 5 60 [(0, .ref (gB x + o0)), (1, .int i1), (2, .int i2), (3, .int i3)] [] μ 0 0 := by
  unfold B_X11_foretold_60 at h
  refine g_iload_n f 3 dX11_foretold_60 rfl rfl ?_
  refine g_iload_n f 1 dX11_foretold_61 rfl rfl ?_
  refine g_ic_ge f 88 dX11_foretold_62 rfl h (fun h => ?_) (fun h => ?_)
  · refine g_iload_n f 2 dX11_foretold_88 rfl rfl ?_
    refine g_if_ne f 102 dX11_foretold_89 rfl h (fun h => ?_) (fun h => ?_)
    · refine g_iload_n f 2 dX11_foretold_102 rfl rfl ?_
      refine g_iconst f 1 dX11_foretold_103 kc_1 ?_
      refine g_ic_ne f 114 dX11_foretold_104 rfl h (fun h => ?_) (fun h => ?_)
      · refine g_aload_n f 0 dX11_foretold_114 rfl rfl ?_
        obtain ⟨v10, h⟩ := h
        refine g_getR f fk_X11_7 v10 dX11_foretold_115 rfl h (fun t11 h => ?_)
        refine g_bipush f 8 dX11_foretold_118 kb_8 ?_
        obtain ⟨v12, h⟩ := h
        refine g_iald f v12 dX11_foretold_120 h (fun h => ?_)
        exact h_sub [0] rfl (tB_X11_foretold_121 f hq h)
      · refine g_aload_n f 0 dX11_foretold_107 rfl rfl ?_
        obtain ⟨v21, h⟩ := h
        refine g_getI f fk_X11_323 v21 dX11_foretold_108 rfl ?_
        refine g_goto f 121 dX11_foretold_111 rfl ?_
        exact h_sub [0] rfl (tB_X11_foretold_121 f hq h)
    · refine g_aload_n f 0 dX11_foretold_92 rfl rfl ?_
      obtain ⟨v22, h⟩ := h
      refine g_getR f fk_X11_7 v22 dX11_foretold_93 rfl h (fun t23 h => ?_)
      refine g_bipush f 7 dX11_foretold_96 kb_7 ?_
      obtain ⟨v24, h⟩ := h
      refine g_iald f v24 dX11_foretold_98 h (fun h => ?_)
      refine g_goto f 121 dX11_foretold_99 rfl ?_
      exact h_sub [0] rfl (tB_X11_foretold_121 f hq h)
  · refine g_aload_n f 0 dX11_foretold_65 rfl rfl ?_
    obtain ⟨v25, h⟩ := h
    refine g_getR f fk_X11_7 v25 dX11_foretold_66 rfl h (fun t26 h => ?_)
    refine g_bipush f 6 dX11_foretold_69 kb_6 ?_
    obtain ⟨v27, h⟩ := h
    refine g_iald f v27 dX11_foretold_71 h (fun h => ?_)
    refine g_sipush f 9999 dX11_foretold_72 ks_9999 ?_
    refine g_ic_ge f 82 dX11_foretold_75 rfl h (fun h => ?_) (fun h => ?_)
    · exact h_sub [0, 1, 2, 3] rfl (tB_X11_foretold_82 f hq hK60 h)
    · refine g_aload_n f 0 dX11_foretold_78 rfl rfl ?_
      refine g_callV f mk_X11_341 v25 (c_X11_pass h) dX11_foretold_79 rfl rfl (Nat.le_of_ble_eq_true rfl) (rm_ok (by decide) (by decide)) ⟨Nat.le_of_ble_eq_true rfl, Nat.le_of_ble_eq_true rfl⟩ (kV fun μ28 x29 h => ?_)
      exact h_sub [0, 1, 2, 3] rfl (tB_X11_foretold_82 f hq hK60 h)
def L_X11_foretold_60 (o0 : Nat) (i1 : Int32) (i2 : Int32) (i3 : Int32) (μ : Me) (Q : Int32 → Me → Prop) : Prop := ∃ I : Int32 → Me → Nat → Prop, (∃ n, I i3 μ n) ∧ ∀ (i3 : Int32) (μ : Me) (n : Nat), I i3 μ n → B_X11_foretold_60 o0 i1 i2 i3 μ (fun a3 ν => ∃ n', n' < n ∧ I a3 ν n') Q
set_option maxHeartbeats 4000000 in
set_option maxRecDepth 100000 in
theorem tL_X11_foretold_60 {x : GX} (f : Fx x cX11_foretold RX11 5 (rmc 7 0 0)) {o0 : Nat} {i1 : Int32} {i2 : Int32} {i3 : Int32} {μ : Me} {Q : Int32 → Me → Prop} (hq : Rt x (some .int) (qI Q)) (h : L_X11_foretold_60 o0 i1 i2 i3 μ Q) : G x 5 60 [(0, .ref (gB x + o0)), (1, .int i1), (2, .int i2), (3, .int i3)] [] μ 0 0 := by
  obtain ⟨I, ⟨n, hI⟩, hs⟩ := h
  induction n using Nat.strongRecOn generalizing i3 μ with
  | ind n ih => exact tB_X11_foretold_60 f hq (fun a3 ν hk => by obtain ⟨n2, hn, hI2⟩ := hk; exact ih n2 hn hI2) (hs _ _ _ hI)
def B_X11_foretold_24 (o0 : Nat) (i1 : Int32) (i2 : Int32) (i3 : Int32) (μ : Me) (K24 : Int32 → Me → Prop) (Q : Int32 → Me → Prop) : Prop := ((67 ≤ i3 → mok μ o0 11 ∧ ∀ μ8, μ8 = msi μ o0 24 0 → ∀ μ9, μ9 = msi μ8 o0 25 0 → L_X11_foretold_60 o0 i1 i2 0 μ9 Q) ∧ (¬ 67 ≤ i3 → mok μ o0 11 ∧ ∃ t32, mgr μ o0 26 = some t32 ∧ ∃ t33, mgr μ o0 0 = some t33 ∧ mok μ t33 12 ∧ vp_in i3 (mln μ t33) ∧ mok μ t32 12 ∧ vp_in i3 (mln μ t32) ∧ ∀ μ36, μ36 = msi μ t32 i3.toNatClampNeg (mgi μ t33 i3.toNatClampNeg) → K24 (i3 + 1) μ36))
set_option maxHeartbeats 4000000 in
set_option maxRecDepth 100000 in
theorem tB_X11_foretold_24 {x : GX} (f : Fx x cX11_foretold RX11 5 (rmc 7 0 0)) {o0 : Nat} {i1 : Int32} {i2 : Int32} {i3 : Int32} {μ : Me} {Q : Int32 → Me → Prop} (hq : Rt x (some .int) (qI Q)) {K24 : Int32 → Me → Prop} (hK24 : ∀ (a3 : Int32) (ν : Me), K24 a3 ν → G x 5 24 [(0, .ref (gB x + o0)), (1, .int i1), (2, .int i2), (3, .int a3)] [] ν 0 0) (h : B_X11_foretold_24 o0 i1 i2 i3 μ K24 Q) : G x 5 24 [(0, .ref (gB x + o0)), (1, .int i1), (2, .int i2), (3, .int i3)] [] μ 0 0 := by
  unfold B_X11_foretold_24 at h
  refine g_iload_n f 3 dX11_foretold_24 rfl rfl ?_
  refine g_bipush f 67 dX11_foretold_25 kb_67 ?_
  refine g_ic_ge f 48 dX11_foretold_27 rfl h (fun h => ?_) (fun h => ?_)
  · refine g_aload_n f 0 dX11_foretold_48 rfl rfl ?_
    refine g_iconst f 0 dX11_foretold_49 kc_0 ?_
    obtain ⟨v7, h⟩ := h
    refine g_putZ f fk_X11_43 v7 dX11_foretold_50 rfl zb_0.1 zb_0.2 h (fun h => ?_)
    refine g_aload_n f 0 dX11_foretold_53 rfl rfl ?_
    refine g_iconst f 0 dX11_foretold_54 kc_0 ?_
    refine g_putI f fk_X11_323 v7 dX11_foretold_55 rfl h (fun h => ?_)
    refine g_iconst f 0 dX11_foretold_58 kc_0 ?_
    refine h_istore_n f dX11_foretold_59 rfl (by decide) ?_
    exact h_sub [1, 2, 3, 0] rfl (tL_X11_foretold_60 f hq h)
  · refine g_aload_n f 0 dX11_foretold_30 rfl rfl ?_
    obtain ⟨v31, h⟩ := h
    refine g_getR f fk_X11_47 v31 dX11_foretold_31 rfl h (fun t32 h => ?_)
    refine g_iload_n f 3 dX11_foretold_34 rfl rfl ?_
    refine g_aload_n f 0 dX11_foretold_35 rfl rfl ?_
    refine g_getR f fk_X11_7 v31 dX11_foretold_36 rfl h (fun t33 h => ?_)
    refine g_iload_n f 3 dX11_foretold_39 rfl rfl ?_
    obtain ⟨v34, h⟩ := h
    refine g_iald f v34 dX11_foretold_40 h (fun h => ?_)
    obtain ⟨v35, h⟩ := h
    refine g_iast f v35 dX11_foretold_41 h (fun h => ?_)
    refine h_iinc f 3 1 dX11_foretold_42 rfl kc_1 (by decide) ?_
    refine g_goto f 24 dX11_foretold_45 rfl ?_
    exact h_sub [1, 2, 3, 0] rfl (hK24 _ _ h)
def L_X11_foretold_24 (o0 : Nat) (i1 : Int32) (i2 : Int32) (i3 : Int32) (μ : Me) (Q : Int32 → Me → Prop) : Prop := ∃ I : Int32 → Me → Nat → Prop, (∃ n, I i3 μ n) ∧ ∀ (i3 : Int32) (μ : Me) (n : Nat), I i3 μ n → B_X11_foretold_24 o0 i1 i2 i3 μ (fun a3 ν => ∃ n', n' < n ∧ I a3 ν n') Q
set_option maxHeartbeats 4000000 in
set_option maxRecDepth 100000 in
theorem tL_X11_foretold_24 {x : GX} (f : Fx x cX11_foretold RX11 5 (rmc 7 0 0)) {o0 : Nat} {i1 : Int32} {i2 : Int32} {i3 : Int32} {μ : Me} {Q : Int32 → Me → Prop} (hq : Rt x (some .int) (qI Q)) (h : L_X11_foretold_24 o0 i1 i2 i3 μ Q) : G x 5 24 [(0, .ref (gB x + o0)), (1, .int i1), (2, .int i2), (3, .int i3)] [] μ 0 0 := by
  obtain ⟨I, ⟨n, hI⟩, hs⟩ := h
  induction n using Nat.strongRecOn generalizing i3 μ with
  | ind n ih => exact tB_X11_foretold_24 f hq (fun a3 ν hk => by obtain ⟨n2, hn, hI2⟩ := hk; exact ih n2 hn hI2) (hs _ _ _ hI)
def S_X11_foretold (o0 : Nat) (i1 : Int32) (i2 : Int32) (μ : Me) (Q : Int32 → Me → Prop) : Prop := S_X11_isIn i1 1 60 μ (fun r3 μ1 => ((r3 = 0 → Q (-1) μ1) ∧ (¬ r3 = 0 → S_X11_isIn i2 0 2 μ1 (fun r6 μ4 => ((¬ r6 = 0 → L_X11_foretold_24 o0 i1 i2 6 μ4 Q) ∧ (r6 = 0 → Q (-1) μ4))))))
set_option maxHeartbeats 4000000 in
set_option maxRecDepth 100000 in
theorem t_X11_foretold {x : GX} (f : Fx x cX11_foretold RX11 5 (rmc 7 0 0)) {o0 : Nat} {i1 : Int32} {i2 : Int32} {μ : Me} {Q : Int32 → Me → Prop} (hq : Rt x (some .int) (qI Q)) (h : S_X11_foretold o0 i1 i2 μ Q) : G x 5 0 [(0, .ref (gB x + o0)), (1, .int i1), (2, .int i2)] [] μ 0 0 := by
  unfold S_X11_foretold at h
  refine g_iload_n f 1 dX11_foretold_0 rfl rfl ?_
  refine g_iconst f 1 dX11_foretold_1 kc_1 ?_
  refine g_bipush f 60 dX11_foretold_2 kb_60 ?_
  refine g_callS f mk_X11_66 (c_X11_isIn h) dX11_foretold_4 rfl rfl (Nat.le_of_ble_eq_true rfl) (rm_ok (by decide) (by decide)) ⟨Nat.le_of_ble_eq_true rfl, Nat.le_of_ble_eq_true rfl⟩ (kI fun r3 μ1 x2 h => ?_)
  refine g_if_eq f 19 dX11_foretold_7 rfl h (fun h => ?_) (fun h => ?_)
  · refine g_iconst f (-1) dX11_foretold_19 kc_m1 ?_
    exact g_iret f hq (Nat.le_of_ble_eq_true rfl) (Nat.le_of_ble_eq_true rfl) dX11_foretold_20 h
  · refine g_iload_n f 2 dX11_foretold_10 rfl rfl ?_
    refine g_iconst f 0 dX11_foretold_11 kc_0 ?_
    refine g_iconst f 2 dX11_foretold_12 kc_2 ?_
    refine g_callS f mk_X11_66 (c_X11_isIn h) dX11_foretold_13 rfl rfl (Nat.le_of_ble_eq_true rfl) (rm_ok (by decide) (by decide)) ⟨Nat.le_of_ble_eq_true rfl, Nat.le_of_ble_eq_true rfl⟩ (kI fun r6 μ4 x5 h => ?_)
    refine g_if_ne f 21 dX11_foretold_16 rfl h (fun h => ?_) (fun h => ?_)
    · refine g_bipush f 6 dX11_foretold_21 kb_6 ?_
      refine h_istore_n f dX11_foretold_23 rfl (by decide) ?_
      exact h_sub [1, 2, 3, 0] rfl (tL_X11_foretold_24 f hq h)
    · refine g_iconst f (-1) dX11_foretold_19 kc_m1 ?_
      exact g_iret f hq (Nat.le_of_ble_eq_true rfl) (Nat.le_of_ble_eq_true rfl) dX11_foretold_20 h
theorem c_X11_foretold {Ω : OM} {o0 : Nat} {i1 : Int32} {i2 : Int32} {μ : Me} {Q : Int32 → Me → Prop} (h : S_X11_foretold o0 i1 i2 μ Q) : CT Ω yX11_foretold cX11_foretold 5 (some .int) (rmc 7 0 0) [.ref (oB Ω + o0), .int i1, .int i2] μ (qI Q) := CT_of (by decide) rfl (by simp [lg_sl, Value.category]) (fun x hΩ f hq hi => by subst hΩ; exact t_X11_foretold f hq h)
theorem dX11_late_0 : decode cX11_late 0 = .ok (.aload_n 0, 1) := by decide +kernel
theorem dX11_late_1 : decode cX11_late 1 = .ok (.iload_n 1, 1) := by decide +kernel
theorem dX11_late_2 : decode cX11_late 2 = .ok (.invokevirtual 329, 3) := by decide +kernel
theorem dX11_late_5 : decode cX11_late 5 = .ok (.ifCond .eq 11, 3) := by decide +kernel
theorem dX11_late_8 : decode cX11_late 8 = .ok (.aload_n 0, 1) := by decide +kernel
theorem dX11_late_9 : decode cX11_late 9 = .ok (.iload_n 1, 1) := by decide +kernel
theorem dX11_late_10 : decode cX11_late 10 = .ok (.invokevirtual 320, 3) := by decide +kernel
theorem dX11_late_13 : decode cX11_late 13 = .ok (.goto 4, 3) := by decide +kernel
theorem dX11_late_16 : decode cX11_late 16 = .ok (.iconst (-1), 1) := by decide +kernel
theorem dX11_late_17 : decode cX11_late 17 = .ok (.ireturn, 1) := by decide +kernel
def S_X11_late (o0 : Nat) (i1 : Int32) (μ : Me) (Q : Int32 → Me → Prop) : Prop := mok μ o0 11 ∧ S_X11_areRings o0 i1 μ (fun r4 μ2 => ((r4 = 0 → Q (-1) μ2) ∧ (¬ r4 = 0 → S_X11_lateBy o0 i1 μ2 (fun r7 μ5 => Q r7 μ5))))
set_option maxHeartbeats 4000000 in
set_option maxRecDepth 100000 in
theorem t_X11_late {x : GX} (f : Fx x cX11_late RX11 2 (rmc 6 0 0)) {o0 : Nat} {i1 : Int32} {μ : Me} {Q : Int32 → Me → Prop} (hq : Rt x (some .int) (qI Q)) (h : S_X11_late o0 i1 μ Q) : G x 2 0 [(0, .ref (gB x + o0)), (1, .int i1)] [] μ 0 0 := by
  unfold S_X11_late at h
  refine g_aload_n f 0 dX11_late_0 rfl rfl ?_
  refine g_iload_n f 1 dX11_late_1 rfl rfl ?_
  obtain ⟨v1, h⟩ := h
  refine g_callV f mk_X11_329 v1 (c_X11_areRings h) dX11_late_2 rfl rfl (Nat.le_of_ble_eq_true rfl) (rm_ok (by decide) (by decide)) ⟨Nat.le_of_ble_eq_true rfl, Nat.le_of_ble_eq_true rfl⟩ (kI fun r4 μ2 x3 h => ?_)
  refine g_if_eq f 16 dX11_late_5 rfl h (fun h => ?_) (fun h => ?_)
  · refine g_iconst f (-1) dX11_late_16 kc_m1 ?_
    exact g_iret f hq (Nat.le_of_ble_eq_true rfl) (Nat.le_of_ble_eq_true rfl) dX11_late_17 h
  · refine g_aload_n f 0 dX11_late_8 rfl rfl ?_
    refine g_iload_n f 1 dX11_late_9 rfl rfl ?_
    have v1 := mex_ok x3 v1
    refine g_callV f mk_X11_320 v1 (c_X11_lateBy h) dX11_late_10 rfl rfl (Nat.le_of_ble_eq_true rfl) (rm_ok (by decide) (by decide)) ⟨Nat.le_of_ble_eq_true rfl, Nat.le_of_ble_eq_true rfl⟩ (kI fun r7 μ5 x6 h => ?_)
    refine g_goto f 17 dX11_late_13 rfl ?_
    exact g_iret f hq (Nat.le_of_ble_eq_true rfl) (Nat.le_of_ble_eq_true rfl) dX11_late_17 h
theorem c_X11_late {Ω : OM} {o0 : Nat} {i1 : Int32} {μ : Me} {Q : Int32 → Me → Prop} (h : S_X11_late o0 i1 μ Q) : CT Ω yX11_late cX11_late 2 (some .int) (rmc 6 0 0) [.ref (oB Ω + o0), .int i1] μ (qI Q) := CT_of (by decide) rfl (by simp [lg_sl, Value.category]) (fun x hΩ f hq hi => by subst hΩ; exact t_X11_late f hq h)
theorem dX11_runners_0 : decode cX11_runners 0 = .ok (.aload_n 0, 1) := by decide +kernel
theorem dX11_runners_1 : decode cX11_runners 1 = .ok (.iload_n 1, 1) := by decide +kernel
theorem dX11_runners_2 : decode cX11_runners 2 = .ok (.invokevirtual 329, 3) := by decide +kernel
theorem dX11_runners_5 : decode cX11_runners 5 = .ok (.ifCond .eq 17, 3) := by decide +kernel
theorem dX11_runners_8 : decode cX11_runners 8 = .ok (.aload_n 0, 1) := by decide +kernel
theorem dX11_runners_9 : decode cX11_runners 9 = .ok (.aload_n 0, 1) := by decide +kernel
theorem dX11_runners_10 : decode cX11_runners 10 = .ok (.getfield 7, 3) := by decide +kernel
theorem dX11_runners_13 : decode cX11_runners 13 = .ok (.iconst 2, 1) := by decide +kernel
theorem dX11_runners_14 : decode cX11_runners 14 = .ok (.iaload, 1) := by decide +kernel
theorem dX11_runners_15 : decode cX11_runners 15 = .ok (.iload_n 1, 1) := by decide +kernel
theorem dX11_runners_16 : decode cX11_runners 16 = .ok (.invokevirtual 305, 3) := by decide +kernel
theorem dX11_runners_19 : decode cX11_runners 19 = .ok (.goto 4, 3) := by decide +kernel
theorem dX11_runners_22 : decode cX11_runners 22 = .ok (.iconst (-1), 1) := by decide +kernel
theorem dX11_runners_23 : decode cX11_runners 23 = .ok (.ireturn, 1) := by decide +kernel
def S_X11_runners (o0 : Nat) (i1 : Int32) (μ : Me) (Q : Int32 → Me → Prop) : Prop := mok μ o0 11 ∧ S_X11_areRings o0 i1 μ (fun r4 μ2 => ((r4 = 0 → Q (-1) μ2) ∧ (¬ r4 = 0 → ∃ t5, mgr μ2 o0 0 = some t5 ∧ mok μ2 t5 12 ∧ vp_in (2 : Int32) (mln μ2 t5) ∧ S_X11_runnersBy o0 (mgi μ2 t5 (2 : Int32).toNatClampNeg) i1 μ2 (fun r9 μ7 => Q r9 μ7))))
set_option maxHeartbeats 4000000 in
set_option maxRecDepth 100000 in
theorem t_X11_runners {x : GX} (f : Fx x cX11_runners RX11 2 (rmc 5 0 0)) {o0 : Nat} {i1 : Int32} {μ : Me} {Q : Int32 → Me → Prop} (hq : Rt x (some .int) (qI Q)) (h : S_X11_runners o0 i1 μ Q) : G x 2 0 [(0, .ref (gB x + o0)), (1, .int i1)] [] μ 0 0 := by
  unfold S_X11_runners at h
  refine g_aload_n f 0 dX11_runners_0 rfl rfl ?_
  refine g_iload_n f 1 dX11_runners_1 rfl rfl ?_
  obtain ⟨v1, h⟩ := h
  refine g_callV f mk_X11_329 v1 (c_X11_areRings h) dX11_runners_2 rfl rfl (Nat.le_of_ble_eq_true rfl) (rm_ok (by decide) (by decide)) ⟨Nat.le_of_ble_eq_true rfl, Nat.le_of_ble_eq_true rfl⟩ (kI fun r4 μ2 x3 h => ?_)
  refine g_if_eq f 22 dX11_runners_5 rfl h (fun h => ?_) (fun h => ?_)
  · refine g_iconst f (-1) dX11_runners_22 kc_m1 ?_
    exact g_iret f hq (Nat.le_of_ble_eq_true rfl) (Nat.le_of_ble_eq_true rfl) dX11_runners_23 h
  · refine g_aload_n f 0 dX11_runners_8 rfl rfl ?_
    refine g_aload_n f 0 dX11_runners_9 rfl rfl ?_
    have v1 := mex_ok x3 v1
    refine g_getR f fk_X11_7 v1 dX11_runners_10 rfl h (fun t5 h => ?_)
    refine g_iconst f 2 dX11_runners_13 kc_2 ?_
    obtain ⟨v6, h⟩ := h
    refine g_iald f v6 dX11_runners_14 h (fun h => ?_)
    refine g_iload_n f 1 dX11_runners_15 rfl rfl ?_
    refine g_callV f mk_X11_305 v1 (c_X11_runnersBy h) dX11_runners_16 rfl rfl (Nat.le_of_ble_eq_true rfl) (rm_ok (by decide) (by decide)) ⟨Nat.le_of_ble_eq_true rfl, Nat.le_of_ble_eq_true rfl⟩ (kI fun r9 μ7 x8 h => ?_)
    refine g_goto f 23 dX11_runners_19 rfl ?_
    exact g_iret f hq (Nat.le_of_ble_eq_true rfl) (Nat.le_of_ble_eq_true rfl) dX11_runners_23 h
theorem c_X11_runners {Ω : OM} {o0 : Nat} {i1 : Int32} {μ : Me} {Q : Int32 → Me → Prop} (h : S_X11_runners o0 i1 μ Q) : CT Ω yX11_runners cX11_runners 2 (some .int) (rmc 5 0 0) [.ref (oB Ω + o0), .int i1] μ (qI Q) := CT_of (by decide) rfl (by simp [lg_sl, Value.category]) (fun x hΩ f hq hi => by subst hΩ; exact t_X11_runners f hq h)
theorem dX11_layLeads_0 : decode cX11_layLeads 0 = .ok (.iconst 0, 1) := by decide +kernel
theorem dX11_layLeads_1 : decode cX11_layLeads 1 = .ok (.istore_n 1, 1) := by decide +kernel
theorem dX11_layLeads_2 : decode cX11_layLeads 2 = .ok (.iload_n 1, 1) := by decide +kernel
theorem dX11_layLeads_3 : decode cX11_layLeads 3 = .ok (.aload_n 0, 1) := by decide +kernel
theorem dX11_layLeads_4 : decode cX11_layLeads 4 = .ok (.invokevirtual 70, 3) := by decide +kernel
theorem dX11_layLeads_7 : decode cX11_layLeads 7 = .ok (.if_icmp .gt 20, 3) := by decide +kernel
theorem dX11_layLeads_10 : decode cX11_layLeads 10 = .ok (.aload_n 0, 1) := by decide +kernel
theorem dX11_layLeads_11 : decode cX11_layLeads 11 = .ok (.getfield 50, 3) := by decide +kernel
theorem dX11_layLeads_14 : decode cX11_layLeads 14 = .ok (.iload_n 1, 1) := by decide +kernel
theorem dX11_layLeads_15 : decode cX11_layLeads 15 = .ok (.aload_n 0, 1) := by decide +kernel
theorem dX11_layLeads_16 : decode cX11_layLeads 16 = .ok (.iload_n 1, 1) := by decide +kernel
theorem dX11_layLeads_17 : decode cX11_layLeads 17 = .ok (.invokevirtual 320, 3) := by decide +kernel
theorem dX11_layLeads_20 : decode cX11_layLeads 20 = .ok (.iastore, 1) := by decide +kernel
theorem dX11_layLeads_21 : decode cX11_layLeads 21 = .ok (.iinc 1 1, 3) := by decide +kernel
theorem dX11_layLeads_24 : decode cX11_layLeads 24 = .ok (.goto (-22), 3) := by decide +kernel
theorem dX11_layLeads_27 : decode cX11_layLeads 27 = .ok (.return_, 1) := by decide +kernel
def B_X11_layLeads_2 (o0 : Nat) (i1 : Int32) (μ : Me) (K2 : Int32 → Me → Prop) (Q : Me → Prop) : Prop := mok μ o0 11 ∧ S_X11_all o0 μ (fun r4 μ2 => ((r4 < i1 → Q μ2) ∧ (¬ r4 < i1 → ∃ t5, mgr μ2 o0 27 = some t5 ∧ S_X11_lateBy o0 i1 μ2 (fun r8 μ6 => mok μ6 t5 12 ∧ vp_in i1 (mln μ6 t5) ∧ ∀ μ10, μ10 = msi μ6 t5 i1.toNatClampNeg r8 → K2 (i1 + 1) μ10))))
set_option maxHeartbeats 4000000 in
set_option maxRecDepth 100000 in
theorem tB_X11_layLeads_2 {x : GX} (f : Fx x cX11_layLeads RX11 2 (rmc 6 0 0)) {o0 : Nat} {i1 : Int32} {μ : Me} {Q : Me → Prop} (hq : Rt x none (qV Q)) {K2 : Int32 → Me → Prop} (hK2 : ∀ (a1 : Int32) (ν : Me), K2 a1 ν → G x 2 2 [(0, .ref (gB x + o0)), (1, .int a1)] [] ν 0 0) (h : B_X11_layLeads_2 o0 i1 μ K2 Q) : G x 2 2 [(0, .ref (gB x + o0)), (1, .int i1)] [] μ 0 0 := by
  unfold B_X11_layLeads_2 at h
  refine g_iload_n f 1 dX11_layLeads_2 rfl rfl ?_
  refine g_aload_n f 0 dX11_layLeads_3 rfl rfl ?_
  obtain ⟨v1, h⟩ := h
  refine g_callV f mk_X11_70 v1 (c_X11_all h) dX11_layLeads_4 rfl rfl (Nat.le_of_ble_eq_true rfl) (rm_ok (by decide) (by decide)) ⟨Nat.le_of_ble_eq_true rfl, Nat.le_of_ble_eq_true rfl⟩ (kI fun r4 μ2 x3 h => ?_)
  refine g_ic_gt f 27 dX11_layLeads_7 rfl h (fun h => ?_) (fun h => ?_)
  · exact g_vret f hq (Nat.le_of_ble_eq_true rfl) (Nat.le_of_ble_eq_true rfl) dX11_layLeads_27 h
  · refine g_aload_n f 0 dX11_layLeads_10 rfl rfl ?_
    have v1 := mex_ok x3 v1
    refine g_getR f fk_X11_50 v1 dX11_layLeads_11 rfl h (fun t5 h => ?_)
    refine g_iload_n f 1 dX11_layLeads_14 rfl rfl ?_
    refine g_aload_n f 0 dX11_layLeads_15 rfl rfl ?_
    refine g_iload_n f 1 dX11_layLeads_16 rfl rfl ?_
    refine g_callV f mk_X11_320 v1 (c_X11_lateBy h) dX11_layLeads_17 rfl rfl (Nat.le_of_ble_eq_true rfl) (rm_ok (by decide) (by decide)) ⟨Nat.le_of_ble_eq_true rfl, Nat.le_of_ble_eq_true rfl⟩ (kI fun r8 μ6 x7 h => ?_)
    obtain ⟨v9, h⟩ := h
    refine g_iast f v9 dX11_layLeads_20 h (fun h => ?_)
    refine h_iinc f 1 1 dX11_layLeads_21 rfl kc_1 (by decide) ?_
    refine g_goto f 2 dX11_layLeads_24 rfl ?_
    exact h_sub [1, 0] rfl (hK2 _ _ h)
def L_X11_layLeads_2 (o0 : Nat) (i1 : Int32) (μ : Me) (Q : Me → Prop) : Prop := ∃ I : Int32 → Me → Nat → Prop, (∃ n, I i1 μ n) ∧ ∀ (i1 : Int32) (μ : Me) (n : Nat), I i1 μ n → B_X11_layLeads_2 o0 i1 μ (fun a1 ν => ∃ n', n' < n ∧ I a1 ν n') Q
set_option maxHeartbeats 4000000 in
set_option maxRecDepth 100000 in
theorem tL_X11_layLeads_2 {x : GX} (f : Fx x cX11_layLeads RX11 2 (rmc 6 0 0)) {o0 : Nat} {i1 : Int32} {μ : Me} {Q : Me → Prop} (hq : Rt x none (qV Q)) (h : L_X11_layLeads_2 o0 i1 μ Q) : G x 2 2 [(0, .ref (gB x + o0)), (1, .int i1)] [] μ 0 0 := by
  obtain ⟨I, ⟨n, hI⟩, hs⟩ := h
  induction n using Nat.strongRecOn generalizing i1 μ with
  | ind n ih => exact tB_X11_layLeads_2 f hq (fun a1 ν hk => by obtain ⟨n2, hn, hI2⟩ := hk; exact ih n2 hn hI2) (hs _ _ _ hI)
def S_X11_layLeads (o0 : Nat) (μ : Me) (Q : Me → Prop) : Prop := L_X11_layLeads_2 o0 0 μ Q
set_option maxHeartbeats 4000000 in
set_option maxRecDepth 100000 in
theorem t_X11_layLeads {x : GX} (f : Fx x cX11_layLeads RX11 2 (rmc 6 0 0)) {o0 : Nat} {μ : Me} {Q : Me → Prop} (hq : Rt x none (qV Q)) (h : S_X11_layLeads o0 μ Q) : G x 2 0 [(0, .ref (gB x + o0))] [] μ 0 0 := by
  unfold S_X11_layLeads at h
  refine g_iconst f 0 dX11_layLeads_0 kc_0 ?_
  refine h_istore_n f dX11_layLeads_1 rfl (by decide) ?_
  exact h_sub [1, 0] rfl (tL_X11_layLeads_2 f hq h)
theorem c_X11_layLeads {Ω : OM} {o0 : Nat} {μ : Me} {Q : Me → Prop} (h : S_X11_layLeads o0 μ Q) : CT Ω yX11_layLeads cX11_layLeads 2 none (rmc 6 0 0) [.ref (oB Ω + o0)] μ (qV Q) := CT_of (by decide) rfl (by simp [lg_sl, Value.category]) (fun x hΩ f hq hi => by subst hΩ; exact t_X11_layLeads f hq h)
theorem dX11_settled_0 : decode cX11_settled 0 = .ok (.aload_n 0, 1) := by decide +kernel
theorem dX11_settled_1 : decode cX11_settled 1 = .ok (.invokevirtual 377, 3) := by decide +kernel
theorem dX11_settled_4 : decode cX11_settled 4 = .ok (.iconst 0, 1) := by decide +kernel
theorem dX11_settled_5 : decode cX11_settled 5 = .ok (.istore_n 2, 1) := by decide +kernel
theorem dX11_settled_6 : decode cX11_settled 6 = .ok (.iconst 0, 1) := by decide +kernel
theorem dX11_settled_7 : decode cX11_settled 7 = .ok (.istore_n 3, 1) := by decide +kernel
theorem dX11_settled_8 : decode cX11_settled 8 = .ok (.iload_n 3, 1) := by decide +kernel
theorem dX11_settled_9 : decode cX11_settled 9 = .ok (.aload_n 0, 1) := by decide +kernel
theorem dX11_settled_10 : decode cX11_settled 10 = .ok (.invokevirtual 70, 3) := by decide +kernel
theorem dX11_settled_13 : decode cX11_settled 13 = .ok (.if_icmp .gt 32, 3) := by decide +kernel
theorem dX11_settled_16 : decode cX11_settled 16 = .ok (.aload_n 0, 1) := by decide +kernel
theorem dX11_settled_17 : decode cX11_settled 17 = .ok (.getfield 50, 3) := by decide +kernel
theorem dX11_settled_20 : decode cX11_settled 20 = .ok (.iload_n 3, 1) := by decide +kernel
theorem dX11_settled_21 : decode cX11_settled 21 = .ok (.iaload, 1) := by decide +kernel
theorem dX11_settled_22 : decode cX11_settled 22 = .ok (.iload_n 3, 1) := by decide +kernel
theorem dX11_settled_23 : decode cX11_settled 23 = .ok (.if_icmp .eq 6, 3) := by decide +kernel
theorem dX11_settled_26 : decode cX11_settled 26 = .ok (.goto 13, 3) := by decide +kernel
theorem dX11_settled_29 : decode cX11_settled 29 = .ok (.iload_n 2, 1) := by decide +kernel
theorem dX11_settled_30 : decode cX11_settled 30 = .ok (.iload_n 1, 1) := by decide +kernel
theorem dX11_settled_31 : decode cX11_settled 31 = .ok (.if_icmp .ne 5, 3) := by decide +kernel
theorem dX11_settled_34 : decode cX11_settled 34 = .ok (.iload_n 3, 1) := by decide +kernel
theorem dX11_settled_35 : decode cX11_settled 35 = .ok (.ireturn, 1) := by decide +kernel
theorem dX11_settled_36 : decode cX11_settled 36 = .ok (.iinc 2 1, 3) := by decide +kernel
theorem dX11_settled_39 : decode cX11_settled 39 = .ok (.iinc 3 1, 3) := by decide +kernel
theorem dX11_settled_42 : decode cX11_settled 42 = .ok (.goto (-34), 3) := by decide +kernel
theorem dX11_settled_45 : decode cX11_settled 45 = .ok (.iload_n 1, 1) := by decide +kernel
theorem dX11_settled_46 : decode cX11_settled 46 = .ok (.iconst (-1), 1) := by decide +kernel
theorem dX11_settled_47 : decode cX11_settled 47 = .ok (.if_icmp .ne 7, 3) := by decide +kernel
theorem dX11_settled_50 : decode cX11_settled 50 = .ok (.iload_n 2, 1) := by decide +kernel
theorem dX11_settled_51 : decode cX11_settled 51 = .ok (.goto 5, 3) := by decide +kernel
theorem dX11_settled_54 : decode cX11_settled 54 = .ok (.bipush (-2), 2) := by decide +kernel
theorem dX11_settled_56 : decode cX11_settled 56 = .ok (.ireturn, 1) := by decide +kernel
def B_X11_settled_39 (o0 : Nat) (i1 : Int32) (i2 : Int32) (i3 : Int32) (μ : Me) (K8 : Int32 → Int32 → Me → Prop) (Q : Int32 → Me → Prop) : Prop := K8 i2 (i3 + 1) μ
set_option maxHeartbeats 4000000 in
set_option maxRecDepth 100000 in
theorem tB_X11_settled_39 {x : GX} (f : Fx x cX11_settled RX11 4 (rmc 7 0 0)) {o0 : Nat} {i1 : Int32} {i2 : Int32} {i3 : Int32} {μ : Me} {Q : Int32 → Me → Prop} (hq : Rt x (some .int) (qI Q)) {K8 : Int32 → Int32 → Me → Prop} (hK8 : ∀ (a2 : Int32) (a3 : Int32) (ν : Me), K8 a2 a3 ν → G x 4 8 [(0, .ref (gB x + o0)), (1, .int i1), (2, .int a2), (3, .int a3)] [] ν 0 0) (h : B_X11_settled_39 o0 i1 i2 i3 μ K8 Q) : G x 4 39 [(0, .ref (gB x + o0)), (1, .int i1), (2, .int i2), (3, .int i3)] [] μ 0 0 := by
  unfold B_X11_settled_39 at h
  refine h_iinc f 3 1 dX11_settled_39 rfl kc_1 (by decide) ?_
  refine g_goto f 8 dX11_settled_42 rfl ?_
  exact h_sub [1, 2, 3, 0] rfl (hK8 _ _ _ h)
def B_X11_settled_8 (o0 : Nat) (i1 : Int32) (i2 : Int32) (i3 : Int32) (μ : Me) (K8 : Int32 → Int32 → Me → Prop) (Q : Int32 → Me → Prop) : Prop := mok μ o0 11 ∧ S_X11_all o0 μ (fun r8 μ6 => ((r8 < i3 → ((¬ i1 = (-1) → Q (-2) μ6) ∧ (i1 = (-1) → Q i2 μ6))) ∧ (¬ r8 < i3 → ∃ t9, mgr μ6 o0 27 = some t9 ∧ mok μ6 t9 12 ∧ vp_in i3 (mln μ6 t9) ∧ (((mgi μ6 t9 i3.toNatClampNeg) = i3 → ((¬ i2 = i1 → B_X11_settled_39 o0 i1 (i2 + 1) i3 μ6 K8 Q) ∧ (i2 = i1 → Q i3 μ6))) ∧ (¬ (mgi μ6 t9 i3.toNatClampNeg) = i3 → B_X11_settled_39 o0 i1 i2 i3 μ6 K8 Q)))))
set_option maxHeartbeats 4000000 in
set_option maxRecDepth 100000 in
theorem tB_X11_settled_8 {x : GX} (f : Fx x cX11_settled RX11 4 (rmc 7 0 0)) {o0 : Nat} {i1 : Int32} {i2 : Int32} {i3 : Int32} {μ : Me} {Q : Int32 → Me → Prop} (hq : Rt x (some .int) (qI Q)) {K8 : Int32 → Int32 → Me → Prop} (hK8 : ∀ (a2 : Int32) (a3 : Int32) (ν : Me), K8 a2 a3 ν → G x 4 8 [(0, .ref (gB x + o0)), (1, .int i1), (2, .int a2), (3, .int a3)] [] ν 0 0) (h : B_X11_settled_8 o0 i1 i2 i3 μ K8 Q) : G x 4 8 [(0, .ref (gB x + o0)), (1, .int i1), (2, .int i2), (3, .int i3)] [] μ 0 0 := by
  unfold B_X11_settled_8 at h
  refine g_iload_n f 3 dX11_settled_8 rfl rfl ?_
  refine g_aload_n f 0 dX11_settled_9 rfl rfl ?_
  obtain ⟨v5, h⟩ := h
  refine g_callV f mk_X11_70 v5 (c_X11_all h) dX11_settled_10 rfl rfl (Nat.le_of_ble_eq_true rfl) (rm_ok (by decide) (by decide)) ⟨Nat.le_of_ble_eq_true rfl, Nat.le_of_ble_eq_true rfl⟩ (kI fun r8 μ6 x7 h => ?_)
  refine g_ic_gt f 45 dX11_settled_13 rfl h (fun h => ?_) (fun h => ?_)
  · refine g_iload_n f 1 dX11_settled_45 rfl rfl ?_
    refine g_iconst f (-1) dX11_settled_46 kc_m1 ?_
    refine g_ic_ne f 54 dX11_settled_47 rfl h (fun h => ?_) (fun h => ?_)
    · refine g_bipush f (-2) dX11_settled_54 kb_m2 ?_
      exact g_iret f hq (Nat.le_of_ble_eq_true rfl) (Nat.le_of_ble_eq_true rfl) dX11_settled_56 h
    · refine g_iload_n f 2 dX11_settled_50 rfl rfl ?_
      refine g_goto f 56 dX11_settled_51 rfl ?_
      exact g_iret f hq (Nat.le_of_ble_eq_true rfl) (Nat.le_of_ble_eq_true rfl) dX11_settled_56 h
  · refine g_aload_n f 0 dX11_settled_16 rfl rfl ?_
    have v5 := mex_ok x7 v5
    refine g_getR f fk_X11_50 v5 dX11_settled_17 rfl h (fun t9 h => ?_)
    refine g_iload_n f 3 dX11_settled_20 rfl rfl ?_
    obtain ⟨v10, h⟩ := h
    refine g_iald f v10 dX11_settled_21 h (fun h => ?_)
    refine g_iload_n f 3 dX11_settled_22 rfl rfl ?_
    refine g_ic_eq f 29 dX11_settled_23 rfl h (fun h => ?_) (fun h => ?_)
    · refine g_iload_n f 2 dX11_settled_29 rfl rfl ?_
      refine g_iload_n f 1 dX11_settled_30 rfl rfl ?_
      refine g_ic_ne f 36 dX11_settled_31 rfl h (fun h => ?_) (fun h => ?_)
      · refine h_iinc f 2 1 dX11_settled_36 rfl kc_1 (by decide) ?_
        exact h_sub [1, 2, 0, 3] rfl (tB_X11_settled_39 f hq hK8 h)
      · refine g_iload_n f 3 dX11_settled_34 rfl rfl ?_
        exact g_iret f hq (Nat.le_of_ble_eq_true rfl) (Nat.le_of_ble_eq_true rfl) dX11_settled_35 h
    · refine g_goto f 39 dX11_settled_26 rfl ?_
      exact h_sub [0, 1, 2, 3] rfl (tB_X11_settled_39 f hq hK8 h)
def L_X11_settled_8 (o0 : Nat) (i1 : Int32) (i2 : Int32) (i3 : Int32) (μ : Me) (Q : Int32 → Me → Prop) : Prop := ∃ I : Int32 → Int32 → Me → Nat → Prop, (∃ n, I i2 i3 μ n) ∧ ∀ (i2 : Int32) (i3 : Int32) (μ : Me) (n : Nat), I i2 i3 μ n → B_X11_settled_8 o0 i1 i2 i3 μ (fun a2 a3 ν => ∃ n', n' < n ∧ I a2 a3 ν n') Q
set_option maxHeartbeats 4000000 in
set_option maxRecDepth 100000 in
theorem tL_X11_settled_8 {x : GX} (f : Fx x cX11_settled RX11 4 (rmc 7 0 0)) {o0 : Nat} {i1 : Int32} {i2 : Int32} {i3 : Int32} {μ : Me} {Q : Int32 → Me → Prop} (hq : Rt x (some .int) (qI Q)) (h : L_X11_settled_8 o0 i1 i2 i3 μ Q) : G x 4 8 [(0, .ref (gB x + o0)), (1, .int i1), (2, .int i2), (3, .int i3)] [] μ 0 0 := by
  obtain ⟨I, ⟨n, hI⟩, hs⟩ := h
  induction n using Nat.strongRecOn generalizing i2 i3 μ with
  | ind n ih => exact tB_X11_settled_8 f hq (fun a2 a3 ν hk => by obtain ⟨n2, hn, hI2⟩ := hk; exact ih n2 hn hI2) (hs _ _ _ _ hI)
def S_X11_settled (o0 : Nat) (i1 : Int32) (μ : Me) (Q : Int32 → Me → Prop) : Prop := mok μ o0 11 ∧ S_X11_layLeads o0 μ (fun μ2 => L_X11_settled_8 o0 i1 0 0 μ2 Q)
set_option maxHeartbeats 4000000 in
set_option maxRecDepth 100000 in
theorem t_X11_settled {x : GX} (f : Fx x cX11_settled RX11 4 (rmc 7 0 0)) {o0 : Nat} {i1 : Int32} {μ : Me} {Q : Int32 → Me → Prop} (hq : Rt x (some .int) (qI Q)) (h : S_X11_settled o0 i1 μ Q) : G x 4 0 [(0, .ref (gB x + o0)), (1, .int i1)] [] μ 0 0 := by
  unfold S_X11_settled at h
  refine g_aload_n f 0 dX11_settled_0 rfl rfl ?_
  obtain ⟨v1, h⟩ := h
  refine g_callV f mk_X11_377 v1 (c_X11_layLeads h) dX11_settled_1 rfl rfl (Nat.le_of_ble_eq_true rfl) (rm_ok (by decide) (by decide)) ⟨Nat.le_of_ble_eq_true rfl, Nat.le_of_ble_eq_true rfl⟩ (kV fun μ2 x3 h => ?_)
  refine g_iconst f 0 dX11_settled_4 kc_0 ?_
  refine h_istore_n f dX11_settled_5 rfl (by decide) ?_
  refine g_iconst f 0 dX11_settled_6 kc_0 ?_
  refine h_istore_n f dX11_settled_7 rfl (by decide) ?_
  exact h_sub [2, 3, 1, 0] rfl (tL_X11_settled_8 f hq h)
theorem c_X11_settled {Ω : OM} {o0 : Nat} {i1 : Int32} {μ : Me} {Q : Int32 → Me → Prop} (h : S_X11_settled o0 i1 μ Q) : CT Ω yX11_settled cX11_settled 4 (some .int) (rmc 7 0 0) [.ref (oB Ω + o0), .int i1] μ (qI Q) := CT_of (by decide) rfl (by simp [lg_sl, Value.category]) (fun x hΩ f hq hi => by subst hΩ; exact t_X11_settled f hq h)
theorem dX11_fewest_0 : decode cX11_fewest 0 = .ok (.aload_n 0, 1) := by decide +kernel
theorem dX11_fewest_1 : decode cX11_fewest 1 = .ok (.invokevirtual 377, 3) := by decide +kernel
theorem dX11_fewest_4 : decode cX11_fewest 4 = .ok (.iconst (-1), 1) := by decide +kernel
theorem dX11_fewest_5 : decode cX11_fewest 5 = .ok (.istore_n 2, 1) := by decide +kernel
theorem dX11_fewest_6 : decode cX11_fewest 6 = .ok (.iconst 0, 1) := by decide +kernel
theorem dX11_fewest_7 : decode cX11_fewest 7 = .ok (.istore_n 3, 1) := by decide +kernel
theorem dX11_fewest_8 : decode cX11_fewest 8 = .ok (.iload_n 3, 1) := by decide +kernel
theorem dX11_fewest_9 : decode cX11_fewest 9 = .ok (.aload_n 0, 1) := by decide +kernel
theorem dX11_fewest_10 : decode cX11_fewest 10 = .ok (.invokevirtual 70, 3) := by decide +kernel
theorem dX11_fewest_13 : decode cX11_fewest 13 = .ok (.if_icmp .gt 58, 3) := by decide +kernel
theorem dX11_fewest_16 : decode cX11_fewest 16 = .ok (.aload_n 0, 1) := by decide +kernel
theorem dX11_fewest_17 : decode cX11_fewest 17 = .ok (.getfield 50, 3) := by decide +kernel
theorem dX11_fewest_20 : decode cX11_fewest 20 = .ok (.iload_n 3, 1) := by decide +kernel
theorem dX11_fewest_21 : decode cX11_fewest 21 = .ok (.iaload, 1) := by decide +kernel
theorem dX11_fewest_22 : decode cX11_fewest 22 = .ok (.iload_n 3, 1) := by decide +kernel
theorem dX11_fewest_23 : decode cX11_fewest 23 = .ok (.if_icmp .eq 6, 3) := by decide +kernel
theorem dX11_fewest_26 : decode cX11_fewest 26 = .ok (.goto 39, 3) := by decide +kernel
theorem dX11_fewest_29 : decode cX11_fewest 29 = .ok (.iload_n 2, 1) := by decide +kernel
theorem dX11_fewest_30 : decode cX11_fewest 30 = .ok (.iconst (-1), 1) := by decide +kernel
theorem dX11_fewest_31 : decode cX11_fewest 31 = .ok (.if_icmp .eq 32, 3) := by decide +kernel
theorem dX11_fewest_34 : decode cX11_fewest 34 = .ok (.iload_n 1, 1) := by decide +kernel
theorem dX11_fewest_35 : decode cX11_fewest 35 = .ok (.ifCond .eq 17, 3) := by decide +kernel
theorem dX11_fewest_38 : decode cX11_fewest 38 = .ok (.iload_n 3, 1) := by decide +kernel
theorem dX11_fewest_39 : decode cX11_fewest 39 = .ok (.invokestatic 298, 3) := by decide +kernel
theorem dX11_fewest_42 : decode cX11_fewest 42 = .ok (.iload_n 2, 1) := by decide +kernel
theorem dX11_fewest_43 : decode cX11_fewest 43 = .ok (.invokestatic 298, 3) := by decide +kernel
theorem dX11_fewest_46 : decode cX11_fewest 46 = .ok (.if_icmp .le 19, 3) := by decide +kernel
theorem dX11_fewest_49 : decode cX11_fewest 49 = .ok (.goto 14, 3) := by decide +kernel
theorem dX11_fewest_52 : decode cX11_fewest 52 = .ok (.iload_n 3, 1) := by decide +kernel
theorem dX11_fewest_53 : decode cX11_fewest 53 = .ok (.invokestatic 298, 3) := by decide +kernel
theorem dX11_fewest_56 : decode cX11_fewest 56 = .ok (.iload_n 2, 1) := by decide +kernel
theorem dX11_fewest_57 : decode cX11_fewest 57 = .ok (.invokestatic 298, 3) := by decide +kernel
theorem dX11_fewest_60 : decode cX11_fewest 60 = .ok (.if_icmp .ge 5, 3) := by decide +kernel
theorem dX11_fewest_63 : decode cX11_fewest 63 = .ok (.iload_n 3, 1) := by decide +kernel
theorem dX11_fewest_64 : decode cX11_fewest 64 = .ok (.istore_n 2, 1) := by decide +kernel
theorem dX11_fewest_65 : decode cX11_fewest 65 = .ok (.iinc 3 1, 3) := by decide +kernel
theorem dX11_fewest_68 : decode cX11_fewest 68 = .ok (.goto (-60), 3) := by decide +kernel
theorem dX11_fewest_71 : decode cX11_fewest 71 = .ok (.iload_n 2, 1) := by decide +kernel
theorem dX11_fewest_72 : decode cX11_fewest 72 = .ok (.ireturn, 1) := by decide +kernel
def B_X11_fewest_65 (o0 : Nat) (i1 : Int32) (i2 : Int32) (i3 : Int32) (μ : Me) (K8 : Int32 → Int32 → Me → Prop) (Q : Int32 → Me → Prop) : Prop := K8 i2 (i3 + 1) μ
set_option maxHeartbeats 4000000 in
set_option maxRecDepth 100000 in
theorem tB_X11_fewest_65 {x : GX} (f : Fx x cX11_fewest RX11 4 (rmc 7 0 0)) {o0 : Nat} {i1 : Int32} {i2 : Int32} {i3 : Int32} {μ : Me} {Q : Int32 → Me → Prop} (hq : Rt x (some .int) (qI Q)) {K8 : Int32 → Int32 → Me → Prop} (hK8 : ∀ (a2 : Int32) (a3 : Int32) (ν : Me), K8 a2 a3 ν → G x 4 8 [(0, .ref (gB x + o0)), (1, .int i1), (2, .int a2), (3, .int a3)] [] ν 0 0) (h : B_X11_fewest_65 o0 i1 i2 i3 μ K8 Q) : G x 4 65 [(0, .ref (gB x + o0)), (1, .int i1), (2, .int i2), (3, .int i3)] [] μ 0 0 := by
  unfold B_X11_fewest_65 at h
  refine h_iinc f 3 1 dX11_fewest_65 rfl kc_1 (by decide) ?_
  refine g_goto f 8 dX11_fewest_68 rfl ?_
  exact h_sub [1, 2, 3, 0] rfl (hK8 _ _ _ h)
def B_X11_fewest_63 (o0 : Nat) (i1 : Int32) (i3 : Int32) (μ : Me) (K8 : Int32 → Int32 → Me → Prop) (Q : Int32 → Me → Prop) : Prop := B_X11_fewest_65 o0 i1 i3 i3 μ K8 Q
set_option maxHeartbeats 4000000 in
set_option maxRecDepth 100000 in
theorem tB_X11_fewest_63 {x : GX} (f : Fx x cX11_fewest RX11 4 (rmc 7 0 0)) {o0 : Nat} {i1 : Int32} {i3 : Int32} {μ : Me} {Q : Int32 → Me → Prop} (hq : Rt x (some .int) (qI Q)) {K8 : Int32 → Int32 → Me → Prop} (hK8 : ∀ (a2 : Int32) (a3 : Int32) (ν : Me), K8 a2 a3 ν → G x 4 8 [(0, .ref (gB x + o0)), (1, .int i1), (2, .int a2), (3, .int a3)] [] ν 0 0) (h : B_X11_fewest_63 o0 i1 i3 μ K8 Q) : G x 4 63 [(0, .ref (gB x + o0)), (1, .int i1), (3, .int i3)] [] μ 0 0 := by
  unfold B_X11_fewest_63 at h
  refine g_iload_n f 2 dX11_fewest_63 rfl rfl ?_
  refine h_istore_n f dX11_fewest_64 rfl (by decide) ?_
  exact h_sub [1, 2, 0, 3] rfl (tB_X11_fewest_65 f hq hK8 h)
def B_X11_fewest_8 (o0 : Nat) (i1 : Int32) (i2 : Int32) (i3 : Int32) (μ : Me) (K8 : Int32 → Int32 → Me → Prop) (Q : Int32 → Me → Prop) : Prop := mok μ o0 11 ∧ S_X11_all o0 μ (fun r8 μ6 => ((r8 < i3 → Q i2 μ6) ∧ (¬ r8 < i3 → ∃ t9, mgr μ6 o0 27 = some t9 ∧ mok μ6 t9 12 ∧ vp_in i3 (mln μ6 t9) ∧ (((mgi μ6 t9 i3.toNatClampNeg) = i3 → ((i2 = (-1) → B_X11_fewest_63 o0 i1 i3 μ6 K8 Q) ∧ (¬ i2 = (-1) → ((i1 = 0 → S_X11_bits i3 μ6 (fun r13 μ11 => S_X11_bits i2 μ11 (fun r16 μ14 => ((r16 ≤ r13 → B_X11_fewest_65 o0 i1 i2 i3 μ14 K8 Q) ∧ (¬ r16 ≤ r13 → B_X11_fewest_63 o0 i1 i3 μ14 K8 Q))))) ∧ (¬ i1 = 0 → S_X11_bits i3 μ6 (fun r19 μ17 => S_X11_bits i2 μ17 (fun r22 μ20 => ((r19 ≤ r22 → B_X11_fewest_65 o0 i1 i2 i3 μ20 K8 Q) ∧ (¬ r19 ≤ r22 → B_X11_fewest_63 o0 i1 i3 μ20 K8 Q))))))))) ∧ (¬ (mgi μ6 t9 i3.toNatClampNeg) = i3 → B_X11_fewest_65 o0 i1 i2 i3 μ6 K8 Q)))))
set_option maxHeartbeats 4000000 in
set_option maxRecDepth 100000 in
theorem tB_X11_fewest_8 {x : GX} (f : Fx x cX11_fewest RX11 4 (rmc 7 0 0)) {o0 : Nat} {i1 : Int32} {i2 : Int32} {i3 : Int32} {μ : Me} {Q : Int32 → Me → Prop} (hq : Rt x (some .int) (qI Q)) {K8 : Int32 → Int32 → Me → Prop} (hK8 : ∀ (a2 : Int32) (a3 : Int32) (ν : Me), K8 a2 a3 ν → G x 4 8 [(0, .ref (gB x + o0)), (1, .int i1), (2, .int a2), (3, .int a3)] [] ν 0 0) (h : B_X11_fewest_8 o0 i1 i2 i3 μ K8 Q) : G x 4 8 [(0, .ref (gB x + o0)), (1, .int i1), (2, .int i2), (3, .int i3)] [] μ 0 0 := by
  unfold B_X11_fewest_8 at h
  refine g_iload_n f 3 dX11_fewest_8 rfl rfl ?_
  refine g_aload_n f 0 dX11_fewest_9 rfl rfl ?_
  obtain ⟨v5, h⟩ := h
  refine g_callV f mk_X11_70 v5 (c_X11_all h) dX11_fewest_10 rfl rfl (Nat.le_of_ble_eq_true rfl) (rm_ok (by decide) (by decide)) ⟨Nat.le_of_ble_eq_true rfl, Nat.le_of_ble_eq_true rfl⟩ (kI fun r8 μ6 x7 h => ?_)
  refine g_ic_gt f 71 dX11_fewest_13 rfl h (fun h => ?_) (fun h => ?_)
  · refine g_iload_n f 2 dX11_fewest_71 rfl rfl ?_
    exact g_iret f hq (Nat.le_of_ble_eq_true rfl) (Nat.le_of_ble_eq_true rfl) dX11_fewest_72 h
  · refine g_aload_n f 0 dX11_fewest_16 rfl rfl ?_
    have v5 := mex_ok x7 v5
    refine g_getR f fk_X11_50 v5 dX11_fewest_17 rfl h (fun t9 h => ?_)
    refine g_iload_n f 3 dX11_fewest_20 rfl rfl ?_
    obtain ⟨v10, h⟩ := h
    refine g_iald f v10 dX11_fewest_21 h (fun h => ?_)
    refine g_iload_n f 3 dX11_fewest_22 rfl rfl ?_
    refine g_ic_eq f 29 dX11_fewest_23 rfl h (fun h => ?_) (fun h => ?_)
    · refine g_iload_n f 2 dX11_fewest_29 rfl rfl ?_
      refine g_iconst f (-1) dX11_fewest_30 kc_m1 ?_
      refine g_ic_eq f 63 dX11_fewest_31 rfl h (fun h => ?_) (fun h => ?_)
      · exact h_sub [0, 1, 3] rfl (tB_X11_fewest_63 f hq hK8 h)
      · refine g_iload_n f 1 dX11_fewest_34 rfl rfl ?_
        refine g_if_eq f 52 dX11_fewest_35 rfl h (fun h => ?_) (fun h => ?_)
        · refine g_iload_n f 3 dX11_fewest_52 rfl rfl ?_
          refine g_callS f mk_X11_298 (c_X11_bits h) dX11_fewest_53 rfl rfl (Nat.le_of_ble_eq_true rfl) (rm_ok (by decide) (by decide)) ⟨Nat.le_of_ble_eq_true rfl, Nat.le_of_ble_eq_true rfl⟩ (kI fun r13 μ11 x12 h => ?_)
          refine g_iload_n f 2 dX11_fewest_56 rfl rfl ?_
          refine g_callS f mk_X11_298 (c_X11_bits h) dX11_fewest_57 rfl rfl (Nat.le_of_ble_eq_true rfl) (rm_ok (by decide) (by decide)) ⟨Nat.le_of_ble_eq_true rfl, Nat.le_of_ble_eq_true rfl⟩ (kI fun r16 μ14 x15 h => ?_)
          refine g_ic_ge f 65 dX11_fewest_60 rfl h (fun h => ?_) (fun h => ?_)
          · exact h_sub [0, 1, 2, 3] rfl (tB_X11_fewest_65 f hq hK8 h)
          · exact h_sub [0, 1, 3] rfl (tB_X11_fewest_63 f hq hK8 h)
        · refine g_iload_n f 3 dX11_fewest_38 rfl rfl ?_
          refine g_callS f mk_X11_298 (c_X11_bits h) dX11_fewest_39 rfl rfl (Nat.le_of_ble_eq_true rfl) (rm_ok (by decide) (by decide)) ⟨Nat.le_of_ble_eq_true rfl, Nat.le_of_ble_eq_true rfl⟩ (kI fun r19 μ17 x18 h => ?_)
          refine g_iload_n f 2 dX11_fewest_42 rfl rfl ?_
          refine g_callS f mk_X11_298 (c_X11_bits h) dX11_fewest_43 rfl rfl (Nat.le_of_ble_eq_true rfl) (rm_ok (by decide) (by decide)) ⟨Nat.le_of_ble_eq_true rfl, Nat.le_of_ble_eq_true rfl⟩ (kI fun r22 μ20 x21 h => ?_)
          refine g_ic_le f 65 dX11_fewest_46 rfl h (fun h => ?_) (fun h => ?_)
          · exact h_sub [0, 1, 2, 3] rfl (tB_X11_fewest_65 f hq hK8 h)
          · refine g_goto f 63 dX11_fewest_49 rfl ?_
            exact h_sub [0, 1, 3] rfl (tB_X11_fewest_63 f hq hK8 h)
    · refine g_goto f 65 dX11_fewest_26 rfl ?_
      exact h_sub [0, 1, 2, 3] rfl (tB_X11_fewest_65 f hq hK8 h)
def L_X11_fewest_8 (o0 : Nat) (i1 : Int32) (i2 : Int32) (i3 : Int32) (μ : Me) (Q : Int32 → Me → Prop) : Prop := ∃ I : Int32 → Int32 → Me → Nat → Prop, (∃ n, I i2 i3 μ n) ∧ ∀ (i2 : Int32) (i3 : Int32) (μ : Me) (n : Nat), I i2 i3 μ n → B_X11_fewest_8 o0 i1 i2 i3 μ (fun a2 a3 ν => ∃ n', n' < n ∧ I a2 a3 ν n') Q
set_option maxHeartbeats 4000000 in
set_option maxRecDepth 100000 in
theorem tL_X11_fewest_8 {x : GX} (f : Fx x cX11_fewest RX11 4 (rmc 7 0 0)) {o0 : Nat} {i1 : Int32} {i2 : Int32} {i3 : Int32} {μ : Me} {Q : Int32 → Me → Prop} (hq : Rt x (some .int) (qI Q)) (h : L_X11_fewest_8 o0 i1 i2 i3 μ Q) : G x 4 8 [(0, .ref (gB x + o0)), (1, .int i1), (2, .int i2), (3, .int i3)] [] μ 0 0 := by
  obtain ⟨I, ⟨n, hI⟩, hs⟩ := h
  induction n using Nat.strongRecOn generalizing i2 i3 μ with
  | ind n ih => exact tB_X11_fewest_8 f hq (fun a2 a3 ν hk => by obtain ⟨n2, hn, hI2⟩ := hk; exact ih n2 hn hI2) (hs _ _ _ _ hI)
def S_X11_fewest (o0 : Nat) (i1 : Int32) (μ : Me) (Q : Int32 → Me → Prop) : Prop := mok μ o0 11 ∧ S_X11_layLeads o0 μ (fun μ2 => L_X11_fewest_8 o0 i1 (-1) 0 μ2 Q)
set_option maxHeartbeats 4000000 in
set_option maxRecDepth 100000 in
theorem t_X11_fewest {x : GX} (f : Fx x cX11_fewest RX11 4 (rmc 7 0 0)) {o0 : Nat} {i1 : Int32} {μ : Me} {Q : Int32 → Me → Prop} (hq : Rt x (some .int) (qI Q)) (h : S_X11_fewest o0 i1 μ Q) : G x 4 0 [(0, .ref (gB x + o0)), (1, .int i1)] [] μ 0 0 := by
  unfold S_X11_fewest at h
  refine g_aload_n f 0 dX11_fewest_0 rfl rfl ?_
  obtain ⟨v1, h⟩ := h
  refine g_callV f mk_X11_377 v1 (c_X11_layLeads h) dX11_fewest_1 rfl rfl (Nat.le_of_ble_eq_true rfl) (rm_ok (by decide) (by decide)) ⟨Nat.le_of_ble_eq_true rfl, Nat.le_of_ble_eq_true rfl⟩ (kV fun μ2 x3 h => ?_)
  refine g_iconst f (-1) dX11_fewest_4 kc_m1 ?_
  refine h_istore_n f dX11_fewest_5 rfl (by decide) ?_
  refine g_iconst f 0 dX11_fewest_6 kc_0 ?_
  refine h_istore_n f dX11_fewest_7 rfl (by decide) ?_
  exact h_sub [2, 3, 1, 0] rfl (tL_X11_fewest_8 f hq h)
theorem c_X11_fewest {Ω : OM} {o0 : Nat} {i1 : Int32} {μ : Me} {Q : Int32 → Me → Prop} (h : S_X11_fewest o0 i1 μ Q) : CT Ω yX11_fewest cX11_fewest 4 (some .int) (rmc 7 0 0) [.ref (oB Ω + o0), .int i1] μ (qI Q) := CT_of (by decide) rfl (by simp [lg_sl, Value.category]) (fun x hΩ f hq hi => by subst hΩ; exact t_X11_fewest f hq h)
