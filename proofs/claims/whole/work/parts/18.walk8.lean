/-! contracts by program (wip/whole/gen.py) -/
theorem dX11_all_0 : decode cX11_all 0 = .ok (.iconst 1, 1) := by decide +kernel
theorem dX11_all_1 : decode cX11_all 1 = .ok (.aload_n 0, 1) := by decide +kernel
theorem dX11_all_2 : decode cX11_all 2 = .ok (.getfield 7, 3) := by decide +kernel
theorem dX11_all_5 : decode cX11_all 5 = .ok (.iconst 0, 1) := by decide +kernel
theorem dX11_all_6 : decode cX11_all 6 = .ok (.iaload, 1) := by decide +kernel
theorem dX11_all_7 : decode cX11_all 7 = .ok (.ishl, 1) := by decide +kernel
theorem dX11_all_8 : decode cX11_all 8 = .ok (.iconst 1, 1) := by decide +kernel
theorem dX11_all_9 : decode cX11_all 9 = .ok (.isub, 1) := by decide +kernel
theorem dX11_all_10 : decode cX11_all 10 = .ok (.ireturn, 1) := by decide +kernel
def S_X11_all (o0 : Nat) (μ : Me) (Q : Int32 → Me → Prop) : Prop := mok μ o0 11 ∧ ∃ t2, mgr μ o0 0 = some t2 ∧ mok μ t2 12 ∧ vp_in (0 : Int32) (mln μ t2) ∧ Q ((1 <<< ((mgi μ t2 (0 : Int32).toNatClampNeg) &&& 31)) - 1) μ
set_option maxHeartbeats 4000000 in
set_option maxRecDepth 100000 in
theorem t_X11_all {x : GX} (f : Fx x cX11_all RX11 1 (rmc 0 0 0)) {o0 : Nat} {μ : Me} {Q : Int32 → Me → Prop} (hq : Rt x (some .int) (qI Q)) (h : S_X11_all o0 μ Q) : G x 1 0 [(0, .ref (gB x + o0))] [] μ 0 0 := by
  unfold S_X11_all at h
  refine g_iconst f 1 dX11_all_0 kc_1 ?_
  refine g_aload_n f 0 dX11_all_1 rfl rfl ?_
  obtain ⟨v1, h⟩ := h
  refine g_getR f fk_X11_7 v1 dX11_all_2 rfl h (fun t2 h => ?_)
  refine g_iconst f 0 dX11_all_5 kc_0 ?_
  obtain ⟨v3, h⟩ := h
  refine g_iald f v3 dX11_all_6 h (fun h => ?_)
  refine g_ishl f dX11_all_7 ?_
  refine g_iconst f 1 dX11_all_8 kc_1 ?_
  refine g_isub f dX11_all_9 ?_
  exact g_iret f hq (Nat.le_of_ble_eq_true rfl) (Nat.le_of_ble_eq_true rfl) dX11_all_10 h
theorem c_X11_all {Ω : OM} {o0 : Nat} {μ : Me} {Q : Int32 → Me → Prop} (h : S_X11_all o0 μ Q) : CT Ω yX11_all cX11_all 1 (some .int) (rmc 0 0 0) [.ref (oB Ω + o0)] μ (qI Q) := CT_of (by decide) rfl (by simp [lg_sl, Value.category]) (fun x hΩ f hq hi => by subst hΩ; exact t_X11_all f hq h)
theorem dX11_areRings_0 : decode cX11_areRings 0 = .ok (.iload_n 1, 1) := by decide +kernel
theorem dX11_areRings_1 : decode cX11_areRings 1 = .ok (.iconst 0, 1) := by decide +kernel
theorem dX11_areRings_2 : decode cX11_areRings 2 = .ok (.aload_n 0, 1) := by decide +kernel
theorem dX11_areRings_3 : decode cX11_areRings 3 = .ok (.invokevirtual 70, 3) := by decide +kernel
theorem dX11_areRings_6 : decode cX11_areRings 6 = .ok (.invokestatic 66, 3) := by decide +kernel
theorem dX11_areRings_9 : decode cX11_areRings 9 = .ok (.ireturn, 1) := by decide +kernel
def S_X11_areRings (o0 : Nat) (i1 : Int32) (μ : Me) (Q : Int32 → Me → Prop) : Prop := mok μ o0 11 ∧ S_X11_all o0 μ (fun r4 μ2 => S_X11_isIn i1 0 r4 μ2 (fun r7 μ5 => zb r7 ∧ Q r7 μ5))
set_option maxHeartbeats 4000000 in
set_option maxRecDepth 100000 in
theorem t_X11_areRings {x : GX} (f : Fx x cX11_areRings RX11 2 (rmc 1 0 0)) {o0 : Nat} {i1 : Int32} {μ : Me} {Q : Int32 → Me → Prop} (hq : Rt x (some .boolean) (qI Q)) (h : S_X11_areRings o0 i1 μ Q) : G x 2 0 [(0, .ref (gB x + o0)), (1, .int i1)] [] μ 0 0 := by
  unfold S_X11_areRings at h
  refine g_iload_n f 1 dX11_areRings_0 rfl rfl ?_
  refine g_iconst f 0 dX11_areRings_1 kc_0 ?_
  refine g_aload_n f 0 dX11_areRings_2 rfl rfl ?_
  obtain ⟨v1, h⟩ := h
  refine g_callV f mk_X11_70 v1 (c_X11_all h) dX11_areRings_3 rfl rfl (Nat.le_of_ble_eq_true rfl) (rm_ok (by decide) (by decide)) ⟨Nat.le_of_ble_eq_true rfl, Nat.le_of_ble_eq_true rfl⟩ (kI fun r4 μ2 x3 h => ?_)
  refine g_callS f mk_X11_66 (c_X11_isIn h) dX11_areRings_6 rfl rfl (Nat.le_of_ble_eq_true rfl) (rm_ok (by decide) (by decide)) ⟨Nat.le_of_ble_eq_true rfl, Nat.le_of_ble_eq_true rfl⟩ (kI fun r7 μ5 x6 h => ?_)
  exact g_zret f hq (Nat.le_of_ble_eq_true rfl) (Nat.le_of_ble_eq_true rfl) dX11_areRings_9 h.1.1 h.2
theorem c_X11_areRings {Ω : OM} {o0 : Nat} {i1 : Int32} {μ : Me} {Q : Int32 → Me → Prop} (h : S_X11_areRings o0 i1 μ Q) : CT Ω yX11_areRings cX11_areRings 2 (some .boolean) (rmc 1 0 0) [.ref (oB Ω + o0), .int i1] μ (qI Q) := CT_of (by decide) rfl (by simp [lg_sl, Value.category]) (fun x hΩ f hq hi => by subst hΩ; exact t_X11_areRings f hq h)
theorem dX11_keep_0 : decode cX11_keep 0 = .ok (.aload_n 0, 1) := by decide +kernel
theorem dX11_keep_1 : decode cX11_keep 1 = .ok (.getfield 7, 3) := by decide +kernel
theorem dX11_keep_4 : decode cX11_keep 4 = .ok (.iconst 3, 1) := by decide +kernel
theorem dX11_keep_5 : decode cX11_keep 5 = .ok (.iaload, 1) := by decide +kernel
theorem dX11_keep_6 : decode cX11_keep 6 = .ok (.bipush 30, 2) := by decide +kernel
theorem dX11_keep_8 : decode cX11_keep 8 = .ok (.if_icmp .ne 47, 3) := by decide +kernel
theorem dX11_keep_11 : decode cX11_keep 11 = .ok (.iconst 0, 1) := by decide +kernel
theorem dX11_keep_12 : decode cX11_keep 12 = .ok (.istore_n 1, 1) := by decide +kernel
theorem dX11_keep_13 : decode cX11_keep 13 = .ok (.iload_n 1, 1) := by decide +kernel
theorem dX11_keep_14 : decode cX11_keep 14 = .ok (.sipush 2610, 3) := by decide +kernel
theorem dX11_keep_17 : decode cX11_keep 17 = .ok (.if_icmp .ge 28, 3) := by decide +kernel
theorem dX11_keep_20 : decode cX11_keep 20 = .ok (.aload_n 0, 1) := by decide +kernel
theorem dX11_keep_21 : decode cX11_keep 21 = .ok (.getfield 7, 3) := by decide +kernel
theorem dX11_keep_24 : decode cX11_keep 24 = .ok (.bipush 107, 2) := by decide +kernel
theorem dX11_keep_26 : decode cX11_keep 26 = .ok (.iload_n 1, 1) := by decide +kernel
theorem dX11_keep_27 : decode cX11_keep 27 = .ok (.iadd, 1) := by decide +kernel
theorem dX11_keep_28 : decode cX11_keep 28 = .ok (.aload_n 0, 1) := by decide +kernel
theorem dX11_keep_29 : decode cX11_keep 29 = .ok (.getfield 7, 3) := by decide +kernel
theorem dX11_keep_32 : decode cX11_keep 32 = .ok (.sipush 197, 3) := by decide +kernel
theorem dX11_keep_35 : decode cX11_keep 35 = .ok (.iload_n 1, 1) := by decide +kernel
theorem dX11_keep_36 : decode cX11_keep 36 = .ok (.iadd, 1) := by decide +kernel
theorem dX11_keep_37 : decode cX11_keep 37 = .ok (.iaload, 1) := by decide +kernel
theorem dX11_keep_38 : decode cX11_keep 38 = .ok (.iastore, 1) := by decide +kernel
theorem dX11_keep_39 : decode cX11_keep 39 = .ok (.iinc 1 1, 3) := by decide +kernel
theorem dX11_keep_42 : decode cX11_keep 42 = .ok (.goto (-29), 3) := by decide +kernel
theorem dX11_keep_45 : decode cX11_keep 45 = .ok (.aload_n 0, 1) := by decide +kernel
theorem dX11_keep_46 : decode cX11_keep 46 = .ok (.getfield 7, 3) := by decide +kernel
theorem dX11_keep_49 : decode cX11_keep 49 = .ok (.iconst 3, 1) := by decide +kernel
theorem dX11_keep_50 : decode cX11_keep 50 = .ok (.dup2, 1) := by decide +kernel
theorem dX11_keep_51 : decode cX11_keep 51 = .ok (.iaload, 1) := by decide +kernel
theorem dX11_keep_52 : decode cX11_keep 52 = .ok (.iconst 1, 1) := by decide +kernel
theorem dX11_keep_53 : decode cX11_keep 53 = .ok (.isub, 1) := by decide +kernel
theorem dX11_keep_54 : decode cX11_keep 54 = .ok (.iastore, 1) := by decide +kernel
theorem dX11_keep_55 : decode cX11_keep 55 = .ok (.bipush 107, 2) := by decide +kernel
theorem dX11_keep_57 : decode cX11_keep 57 = .ok (.bipush 90, 2) := by decide +kernel
theorem dX11_keep_59 : decode cX11_keep 59 = .ok (.aload_n 0, 1) := by decide +kernel
theorem dX11_keep_60 : decode cX11_keep 60 = .ok (.getfield 7, 3) := by decide +kernel
theorem dX11_keep_63 : decode cX11_keep 63 = .ok (.iconst 3, 1) := by decide +kernel
theorem dX11_keep_64 : decode cX11_keep 64 = .ok (.iaload, 1) := by decide +kernel
theorem dX11_keep_65 : decode cX11_keep 65 = .ok (.imul, 1) := by decide +kernel
theorem dX11_keep_66 : decode cX11_keep 66 = .ok (.iadd, 1) := by decide +kernel
theorem dX11_keep_67 : decode cX11_keep 67 = .ok (.istore_n 1, 1) := by decide +kernel
theorem dX11_keep_68 : decode cX11_keep 68 = .ok (.aload_n 0, 1) := by decide +kernel
theorem dX11_keep_69 : decode cX11_keep 69 = .ok (.getfield 7, 3) := by decide +kernel
theorem dX11_keep_72 : decode cX11_keep 72 = .ok (.iload_n 1, 1) := by decide +kernel
theorem dX11_keep_73 : decode cX11_keep 73 = .ok (.aload_n 0, 1) := by decide +kernel
theorem dX11_keep_74 : decode cX11_keep 74 = .ok (.getfield 7, 3) := by decide +kernel
theorem dX11_keep_77 : decode cX11_keep 77 = .ok (.iconst 0, 1) := by decide +kernel
theorem dX11_keep_78 : decode cX11_keep 78 = .ok (.iaload, 1) := by decide +kernel
theorem dX11_keep_79 : decode cX11_keep 79 = .ok (.iastore, 1) := by decide +kernel
theorem dX11_keep_80 : decode cX11_keep 80 = .ok (.iconst 0, 1) := by decide +kernel
theorem dX11_keep_81 : decode cX11_keep 81 = .ok (.istore_n 2, 1) := by decide +kernel
theorem dX11_keep_82 : decode cX11_keep 82 = .ok (.iload_n 2, 1) := by decide +kernel
theorem dX11_keep_83 : decode cX11_keep 83 = .ok (.iconst 5, 1) := by decide +kernel
theorem dX11_keep_84 : decode cX11_keep 84 = .ok (.if_icmp .ge 28, 3) := by decide +kernel
theorem dX11_keep_87 : decode cX11_keep 87 = .ok (.aload_n 0, 1) := by decide +kernel
theorem dX11_keep_88 : decode cX11_keep 88 = .ok (.getfield 7, 3) := by decide +kernel
theorem dX11_keep_91 : decode cX11_keep 91 = .ok (.iload_n 1, 1) := by decide +kernel
theorem dX11_keep_92 : decode cX11_keep 92 = .ok (.iconst 1, 1) := by decide +kernel
theorem dX11_keep_93 : decode cX11_keep 93 = .ok (.iadd, 1) := by decide +kernel
theorem dX11_keep_94 : decode cX11_keep 94 = .ok (.iload_n 2, 1) := by decide +kernel
theorem dX11_keep_95 : decode cX11_keep 95 = .ok (.iadd, 1) := by decide +kernel
theorem dX11_keep_96 : decode cX11_keep 96 = .ok (.aload_n 0, 1) := by decide +kernel
theorem dX11_keep_97 : decode cX11_keep 97 = .ok (.getfield 7, 3) := by decide +kernel
theorem dX11_keep_100 : decode cX11_keep 100 = .ok (.bipush 6, 2) := by decide +kernel
theorem dX11_keep_102 : decode cX11_keep 102 = .ok (.iload_n 2, 1) := by decide +kernel
theorem dX11_keep_103 : decode cX11_keep 103 = .ok (.iadd, 1) := by decide +kernel
theorem dX11_keep_104 : decode cX11_keep 104 = .ok (.iaload, 1) := by decide +kernel
theorem dX11_keep_105 : decode cX11_keep 105 = .ok (.iastore, 1) := by decide +kernel
theorem dX11_keep_106 : decode cX11_keep 106 = .ok (.iinc 2 1, 3) := by decide +kernel
theorem dX11_keep_109 : decode cX11_keep 109 = .ok (.goto (-27), 3) := by decide +kernel
theorem dX11_keep_112 : decode cX11_keep 112 = .ok (.iconst 0, 1) := by decide +kernel
theorem dX11_keep_113 : decode cX11_keep 113 = .ok (.istore_n 2, 1) := by decide +kernel
theorem dX11_keep_114 : decode cX11_keep 114 = .ok (.iload_n 2, 1) := by decide +kernel
theorem dX11_keep_115 : decode cX11_keep 115 = .ok (.bipush 8, 2) := by decide +kernel
theorem dX11_keep_117 : decode cX11_keep 117 = .ok (.if_icmp .ge 43, 3) := by decide +kernel
theorem dX11_keep_120 : decode cX11_keep 120 = .ok (.iconst 0, 1) := by decide +kernel
theorem dX11_keep_121 : decode cX11_keep 121 = .ok (.istore_n 3, 1) := by decide +kernel
theorem dX11_keep_122 : decode cX11_keep 122 = .ok (.iload_n 3, 1) := by decide +kernel
theorem dX11_keep_123 : decode cX11_keep 123 = .ok (.iconst 3, 1) := by decide +kernel
theorem dX11_keep_124 : decode cX11_keep 124 = .ok (.if_icmp .ge 30, 3) := by decide +kernel
theorem dX11_keep_127 : decode cX11_keep 127 = .ok (.aload_n 0, 1) := by decide +kernel
theorem dX11_keep_128 : decode cX11_keep 128 = .ok (.getfield 7, 3) := by decide +kernel
theorem dX11_keep_131 : decode cX11_keep 131 = .ok (.iload_n 1, 1) := by decide +kernel
theorem dX11_keep_132 : decode cX11_keep 132 = .ok (.bipush 6, 2) := by decide +kernel
theorem dX11_keep_134 : decode cX11_keep 134 = .ok (.iadd, 1) := by decide +kernel
theorem dX11_keep_135 : decode cX11_keep 135 = .ok (.iconst 3, 1) := by decide +kernel
theorem dX11_keep_136 : decode cX11_keep 136 = .ok (.iload_n 2, 1) := by decide +kernel
theorem dX11_keep_137 : decode cX11_keep 137 = .ok (.imul, 1) := by decide +kernel
theorem dX11_keep_138 : decode cX11_keep 138 = .ok (.iadd, 1) := by decide +kernel
theorem dX11_keep_139 : decode cX11_keep 139 = .ok (.iload_n 3, 1) := by decide +kernel
theorem dX11_keep_140 : decode cX11_keep 140 = .ok (.iadd, 1) := by decide +kernel
theorem dX11_keep_141 : decode cX11_keep 141 = .ok (.aload_n 0, 1) := by decide +kernel
theorem dX11_keep_142 : decode cX11_keep 142 = .ok (.iload_n 2, 1) := by decide +kernel
theorem dX11_keep_143 : decode cX11_keep 143 = .ok (.iload_n 3, 1) := by decide +kernel
theorem dX11_keep_144 : decode cX11_keep 144 = .ok (.invokevirtual 74, 3) := by decide +kernel
theorem dX11_keep_147 : decode cX11_keep 147 = .ok (.iastore, 1) := by decide +kernel
theorem dX11_keep_148 : decode cX11_keep 148 = .ok (.iinc 3 1, 3) := by decide +kernel
theorem dX11_keep_151 : decode cX11_keep 151 = .ok (.goto (-29), 3) := by decide +kernel
theorem dX11_keep_154 : decode cX11_keep 154 = .ok (.iinc 2 1, 3) := by decide +kernel
theorem dX11_keep_157 : decode cX11_keep 157 = .ok (.goto (-43), 3) := by decide +kernel
theorem dX11_keep_160 : decode cX11_keep 160 = .ok (.iconst 0, 1) := by decide +kernel
theorem dX11_keep_161 : decode cX11_keep 161 = .ok (.istore_n 2, 1) := by decide +kernel
theorem dX11_keep_162 : decode cX11_keep 162 = .ok (.iload_n 2, 1) := by decide +kernel
theorem dX11_keep_163 : decode cX11_keep 163 = .ok (.bipush 60, 2) := by decide +kernel
theorem dX11_keep_165 : decode cX11_keep 165 = .ok (.if_icmp .ge 30, 3) := by decide +kernel
theorem dX11_keep_168 : decode cX11_keep 168 = .ok (.aload_n 0, 1) := by decide +kernel
theorem dX11_keep_169 : decode cX11_keep 169 = .ok (.getfield 7, 3) := by decide +kernel
theorem dX11_keep_172 : decode cX11_keep 172 = .ok (.iload_n 1, 1) := by decide +kernel
theorem dX11_keep_173 : decode cX11_keep 173 = .ok (.bipush 30, 2) := by decide +kernel
theorem dX11_keep_175 : decode cX11_keep 175 = .ok (.iadd, 1) := by decide +kernel
theorem dX11_keep_176 : decode cX11_keep 176 = .ok (.iload_n 2, 1) := by decide +kernel
theorem dX11_keep_177 : decode cX11_keep 177 = .ok (.iadd, 1) := by decide +kernel
theorem dX11_keep_178 : decode cX11_keep 178 = .ok (.aload_n 0, 1) := by decide +kernel
theorem dX11_keep_179 : decode cX11_keep 179 = .ok (.getfield 7, 3) := by decide +kernel
theorem dX11_keep_182 : decode cX11_keep 182 = .ok (.sipush 2807, 3) := by decide +kernel
theorem dX11_keep_185 : decode cX11_keep 185 = .ok (.iload_n 2, 1) := by decide +kernel
theorem dX11_keep_186 : decode cX11_keep 186 = .ok (.iadd, 1) := by decide +kernel
theorem dX11_keep_187 : decode cX11_keep 187 = .ok (.iaload, 1) := by decide +kernel
theorem dX11_keep_188 : decode cX11_keep 188 = .ok (.iastore, 1) := by decide +kernel
theorem dX11_keep_189 : decode cX11_keep 189 = .ok (.iinc 2 1, 3) := by decide +kernel
theorem dX11_keep_192 : decode cX11_keep 192 = .ok (.goto (-30), 3) := by decide +kernel
theorem dX11_keep_195 : decode cX11_keep 195 = .ok (.aload_n 0, 1) := by decide +kernel
theorem dX11_keep_196 : decode cX11_keep 196 = .ok (.getfield 7, 3) := by decide +kernel
theorem dX11_keep_199 : decode cX11_keep 199 = .ok (.iconst 3, 1) := by decide +kernel
theorem dX11_keep_200 : decode cX11_keep 200 = .ok (.dup2, 1) := by decide +kernel
theorem dX11_keep_201 : decode cX11_keep 201 = .ok (.iaload, 1) := by decide +kernel
theorem dX11_keep_202 : decode cX11_keep 202 = .ok (.iconst 1, 1) := by decide +kernel
theorem dX11_keep_203 : decode cX11_keep 203 = .ok (.iadd, 1) := by decide +kernel
theorem dX11_keep_204 : decode cX11_keep 204 = .ok (.iastore, 1) := by decide +kernel
theorem dX11_keep_205 : decode cX11_keep 205 = .ok (.return_, 1) := by decide +kernel
def B_X11_keep_162 (o0 : Nat) (i1 : Int32) (i2 : Int32) (μ : Me) (K162 : Int32 → Me → Prop) (Q : Me → Prop) : Prop := ((60 ≤ i2 → mok μ o0 11 ∧ ∃ t13, mgr μ o0 0 = some t13 ∧ mok μ t13 12 ∧ vp_in (3 : Int32) (mln μ t13) ∧ vp_in (3 : Int32) (mln μ t13) ∧ ∀ μ15, μ15 = msi μ t13 (3 : Int32).toNatClampNeg ((mgi μ t13 (3 : Int32).toNatClampNeg) + 1) → Q μ15) ∧ (¬ 60 ≤ i2 → mok μ o0 11 ∧ ∃ t17, mgr μ o0 0 = some t17 ∧ ∃ t18, mgr μ o0 0 = some t18 ∧ mok μ t18 12 ∧ vp_in (2807 + i2) (mln μ t18) ∧ mok μ t17 12 ∧ vp_in ((i1 + 30) + i2) (mln μ t17) ∧ ∀ μ21, μ21 = msi μ t17 ((i1 + 30) + i2).toNatClampNeg (mgi μ t18 (2807 + i2).toNatClampNeg) → K162 (i2 + 1) μ21))
set_option maxHeartbeats 4000000 in
set_option maxRecDepth 100000 in
theorem tB_X11_keep_162 {x : GX} (f : Fx x cX11_keep RX11 4 (rmc 1 0 0)) {o0 : Nat} {i1 : Int32} {i2 : Int32} {μ : Me} {Q : Me → Prop} (hq : Rt x none (qV Q)) {K162 : Int32 → Me → Prop} (hK162 : ∀ (a2 : Int32) (ν : Me), K162 a2 ν → G x 4 162 [(0, .ref (gB x + o0)), (1, .int i1), (2, .int a2)] [] ν 0 0) (h : B_X11_keep_162 o0 i1 i2 μ K162 Q) : G x 4 162 [(0, .ref (gB x + o0)), (1, .int i1), (2, .int i2)] [] μ 0 0 := by
  unfold B_X11_keep_162 at h
  refine g_iload_n f 2 dX11_keep_162 rfl rfl ?_
  refine g_bipush f 60 dX11_keep_163 kb_60 ?_
  refine g_ic_ge f 195 dX11_keep_165 rfl h (fun h => ?_) (fun h => ?_)
  · refine g_aload_n f 0 dX11_keep_195 rfl rfl ?_
    obtain ⟨v12, h⟩ := h
    refine g_getR f fk_X11_7 v12 dX11_keep_196 rfl h (fun t13 h => ?_)
    refine g_iconst f 3 dX11_keep_199 kc_3 ?_
    refine g_dup2_11 f dX11_keep_200 rfl rfl ?_
    obtain ⟨v14, h⟩ := h
    refine g_iald f v14 dX11_keep_201 h (fun h => ?_)
    refine g_iconst f 1 dX11_keep_202 kc_1 ?_
    refine g_iadd f dX11_keep_203 ?_
    refine g_iast f v14 dX11_keep_204 h (fun h => ?_)
    exact g_vret f hq (Nat.le_of_ble_eq_true rfl) (Nat.le_of_ble_eq_true rfl) dX11_keep_205 h
  · refine g_aload_n f 0 dX11_keep_168 rfl rfl ?_
    obtain ⟨v16, h⟩ := h
    refine g_getR f fk_X11_7 v16 dX11_keep_169 rfl h (fun t17 h => ?_)
    refine g_iload_n f 1 dX11_keep_172 rfl rfl ?_
    refine g_bipush f 30 dX11_keep_173 kb_30 ?_
    refine g_iadd f dX11_keep_175 ?_
    refine g_iload_n f 2 dX11_keep_176 rfl rfl ?_
    refine g_iadd f dX11_keep_177 ?_
    refine g_aload_n f 0 dX11_keep_178 rfl rfl ?_
    refine g_getR f fk_X11_7 v16 dX11_keep_179 rfl h (fun t18 h => ?_)
    refine g_sipush f 2807 dX11_keep_182 ks_2807 ?_
    refine g_iload_n f 2 dX11_keep_185 rfl rfl ?_
    refine g_iadd f dX11_keep_186 ?_
    obtain ⟨v19, h⟩ := h
    refine g_iald f v19 dX11_keep_187 h (fun h => ?_)
    obtain ⟨v20, h⟩ := h
    refine g_iast f v20 dX11_keep_188 h (fun h => ?_)
    refine h_iinc f 2 1 dX11_keep_189 rfl kc_1 (by decide) ?_
    refine g_goto f 162 dX11_keep_192 rfl ?_
    exact h_sub [1, 2, 0] rfl (hK162 _ _ h)
def L_X11_keep_162 (o0 : Nat) (i1 : Int32) (i2 : Int32) (μ : Me) (Q : Me → Prop) : Prop := ∃ I : Int32 → Me → Nat → Prop, (∃ n, I i2 μ n) ∧ ∀ (i2 : Int32) (μ : Me) (n : Nat), I i2 μ n → B_X11_keep_162 o0 i1 i2 μ (fun a2 ν => ∃ n', n' < n ∧ I a2 ν n') Q
set_option maxHeartbeats 4000000 in
set_option maxRecDepth 100000 in
theorem tL_X11_keep_162 {x : GX} (f : Fx x cX11_keep RX11 4 (rmc 1 0 0)) {o0 : Nat} {i1 : Int32} {i2 : Int32} {μ : Me} {Q : Me → Prop} (hq : Rt x none (qV Q)) (h : L_X11_keep_162 o0 i1 i2 μ Q) : G x 4 162 [(0, .ref (gB x + o0)), (1, .int i1), (2, .int i2)] [] μ 0 0 := by
  obtain ⟨I, ⟨n, hI⟩, hs⟩ := h
  induction n using Nat.strongRecOn generalizing i2 μ with
  | ind n ih => exact tB_X11_keep_162 f hq (fun a2 ν hk => by obtain ⟨n2, hn, hI2⟩ := hk; exact ih n2 hn hI2) (hs _ _ _ hI)
def B_X11_keep_122 (o0 : Nat) (i1 : Int32) (i2 : Int32) (i3 : Int32) (μ : Me) (K114 : Int32 → Me → Prop) (K122 : Int32 → Me → Prop) (Q : Me → Prop) : Prop := ((3 ≤ i3 → K114 (i2 + 1) μ) ∧ (¬ 3 ≤ i3 → mok μ o0 11 ∧ ∃ t23, mgr μ o0 0 = some t23 ∧ S_X11_get o0 i2 i3 μ (fun r26 μ24 => mok μ24 t23 12 ∧ vp_in (((i1 + 6) + (3 * i2)) + i3) (mln μ24 t23) ∧ ∀ μ28, μ28 = msi μ24 t23 (((i1 + 6) + (3 * i2)) + i3).toNatClampNeg r26 → K122 (i3 + 1) μ28)))
set_option maxHeartbeats 4000000 in
set_option maxRecDepth 100000 in
theorem tB_X11_keep_122 {x : GX} (f : Fx x cX11_keep RX11 4 (rmc 1 0 0)) {o0 : Nat} {i1 : Int32} {i2 : Int32} {i3 : Int32} {μ : Me} {Q : Me → Prop} (hq : Rt x none (qV Q)) {K114 : Int32 → Me → Prop} {K122 : Int32 → Me → Prop} (hK114 : ∀ (a2 : Int32) (ν : Me), K114 a2 ν → G x 4 114 [(0, .ref (gB x + o0)), (1, .int i1), (2, .int a2)] [] ν 0 0) (hK122 : ∀ (a3 : Int32) (ν : Me), K122 a3 ν → G x 4 122 [(0, .ref (gB x + o0)), (1, .int i1), (2, .int i2), (3, .int a3)] [] ν 0 0) (h : B_X11_keep_122 o0 i1 i2 i3 μ K114 K122 Q) : G x 4 122 [(0, .ref (gB x + o0)), (1, .int i1), (2, .int i2), (3, .int i3)] [] μ 0 0 := by
  unfold B_X11_keep_122 at h
  refine g_iload_n f 3 dX11_keep_122 rfl rfl ?_
  refine g_iconst f 3 dX11_keep_123 kc_3 ?_
  refine g_ic_ge f 154 dX11_keep_124 rfl h (fun h => ?_) (fun h => ?_)
  · refine h_iinc f 2 1 dX11_keep_154 rfl kc_1 (by decide) ?_
    refine g_goto f 114 dX11_keep_157 rfl ?_
    exact h_sub [1, 2, 0] rfl (hK114 _ _ h)
  · refine g_aload_n f 0 dX11_keep_127 rfl rfl ?_
    obtain ⟨v22, h⟩ := h
    refine g_getR f fk_X11_7 v22 dX11_keep_128 rfl h (fun t23 h => ?_)
    refine g_iload_n f 1 dX11_keep_131 rfl rfl ?_
    refine g_bipush f 6 dX11_keep_132 kb_6 ?_
    refine g_iadd f dX11_keep_134 ?_
    refine g_iconst f 3 dX11_keep_135 kc_3 ?_
    refine g_iload_n f 2 dX11_keep_136 rfl rfl ?_
    refine g_imul f dX11_keep_137 ?_
    refine g_iadd f dX11_keep_138 ?_
    refine g_iload_n f 3 dX11_keep_139 rfl rfl ?_
    refine g_iadd f dX11_keep_140 ?_
    refine g_aload_n f 0 dX11_keep_141 rfl rfl ?_
    refine g_iload_n f 2 dX11_keep_142 rfl rfl ?_
    refine g_iload_n f 3 dX11_keep_143 rfl rfl ?_
    refine g_callV f mk_X11_74 v22 (c_X11_get h) dX11_keep_144 rfl rfl (Nat.le_of_ble_eq_true rfl) (rm_ok (by decide) (by decide)) ⟨Nat.le_of_ble_eq_true rfl, Nat.le_of_ble_eq_true rfl⟩ (kI fun r26 μ24 x25 h => ?_)
    obtain ⟨v27, h⟩ := h
    refine g_iast f v27 dX11_keep_147 h (fun h => ?_)
    refine h_iinc f 3 1 dX11_keep_148 rfl kc_1 (by decide) ?_
    refine g_goto f 122 dX11_keep_151 rfl ?_
    exact h_sub [1, 2, 3, 0] rfl (hK122 _ _ h)
def L_X11_keep_122 (o0 : Nat) (i1 : Int32) (i2 : Int32) (i3 : Int32) (μ : Me) (K114 : Int32 → Me → Prop) (Q : Me → Prop) : Prop := ∃ I : Int32 → Me → Nat → Prop, (∃ n, I i3 μ n) ∧ ∀ (i3 : Int32) (μ : Me) (n : Nat), I i3 μ n → B_X11_keep_122 o0 i1 i2 i3 μ K114 (fun a3 ν => ∃ n', n' < n ∧ I a3 ν n') Q
set_option maxHeartbeats 4000000 in
set_option maxRecDepth 100000 in
theorem tL_X11_keep_122 {x : GX} (f : Fx x cX11_keep RX11 4 (rmc 1 0 0)) {o0 : Nat} {i1 : Int32} {i2 : Int32} {i3 : Int32} {μ : Me} {Q : Me → Prop} (hq : Rt x none (qV Q)) {K114 : Int32 → Me → Prop} (hK114 : ∀ (a2 : Int32) (ν : Me), K114 a2 ν → G x 4 114 [(0, .ref (gB x + o0)), (1, .int i1), (2, .int a2)] [] ν 0 0) (h : L_X11_keep_122 o0 i1 i2 i3 μ K114 Q) : G x 4 122 [(0, .ref (gB x + o0)), (1, .int i1), (2, .int i2), (3, .int i3)] [] μ 0 0 := by
  obtain ⟨I, ⟨n, hI⟩, hs⟩ := h
  induction n using Nat.strongRecOn generalizing i3 μ with
  | ind n ih => exact tB_X11_keep_122 f hq hK114 (fun a3 ν hk => by obtain ⟨n2, hn, hI2⟩ := hk; exact ih n2 hn hI2) (hs _ _ _ hI)
def B_X11_keep_114 (o0 : Nat) (i1 : Int32) (i2 : Int32) (μ : Me) (K114 : Int32 → Me → Prop) (Q : Me → Prop) : Prop := ((8 ≤ i2 → L_X11_keep_162 o0 i1 0 μ Q) ∧ (¬ 8 ≤ i2 → L_X11_keep_122 o0 i1 i2 0 μ K114 Q))
set_option maxHeartbeats 4000000 in
set_option maxRecDepth 100000 in
theorem tB_X11_keep_114 {x : GX} (f : Fx x cX11_keep RX11 4 (rmc 1 0 0)) {o0 : Nat} {i1 : Int32} {i2 : Int32} {μ : Me} {Q : Me → Prop} (hq : Rt x none (qV Q)) {K114 : Int32 → Me → Prop} (hK114 : ∀ (a2 : Int32) (ν : Me), K114 a2 ν → G x 4 114 [(0, .ref (gB x + o0)), (1, .int i1), (2, .int a2)] [] ν 0 0) (h : B_X11_keep_114 o0 i1 i2 μ K114 Q) : G x 4 114 [(0, .ref (gB x + o0)), (1, .int i1), (2, .int i2)] [] μ 0 0 := by
  unfold B_X11_keep_114 at h
  refine g_iload_n f 2 dX11_keep_114 rfl rfl ?_
  refine g_bipush f 8 dX11_keep_115 kb_8 ?_
  refine g_ic_ge f 160 dX11_keep_117 rfl h (fun h => ?_) (fun h => ?_)
  · refine g_iconst f 0 dX11_keep_160 kc_0 ?_
    refine h_istore_n f dX11_keep_161 rfl (by decide) ?_
    exact h_sub [1, 2, 0] rfl (tL_X11_keep_162 f hq h)
  · refine g_iconst f 0 dX11_keep_120 kc_0 ?_
    refine h_istore_n f dX11_keep_121 rfl (by decide) ?_
    exact h_sub [1, 2, 3, 0] rfl (tL_X11_keep_122 f hq hK114 h)
def L_X11_keep_114 (o0 : Nat) (i1 : Int32) (i2 : Int32) (μ : Me) (Q : Me → Prop) : Prop := ∃ I : Int32 → Me → Nat → Prop, (∃ n, I i2 μ n) ∧ ∀ (i2 : Int32) (μ : Me) (n : Nat), I i2 μ n → B_X11_keep_114 o0 i1 i2 μ (fun a2 ν => ∃ n', n' < n ∧ I a2 ν n') Q
set_option maxHeartbeats 4000000 in
set_option maxRecDepth 100000 in
theorem tL_X11_keep_114 {x : GX} (f : Fx x cX11_keep RX11 4 (rmc 1 0 0)) {o0 : Nat} {i1 : Int32} {i2 : Int32} {μ : Me} {Q : Me → Prop} (hq : Rt x none (qV Q)) (h : L_X11_keep_114 o0 i1 i2 μ Q) : G x 4 114 [(0, .ref (gB x + o0)), (1, .int i1), (2, .int i2)] [] μ 0 0 := by
  obtain ⟨I, ⟨n, hI⟩, hs⟩ := h
  induction n using Nat.strongRecOn generalizing i2 μ with
  | ind n ih => exact tB_X11_keep_114 f hq (fun a2 ν hk => by obtain ⟨n2, hn, hI2⟩ := hk; exact ih n2 hn hI2) (hs _ _ _ hI)
def B_X11_keep_82 (o0 : Nat) (i1 : Int32) (i2 : Int32) (μ : Me) (K82 : Int32 → Me → Prop) (Q : Me → Prop) : Prop := ((5 ≤ i2 → L_X11_keep_114 o0 i1 0 μ Q) ∧ (¬ 5 ≤ i2 → mok μ o0 11 ∧ ∃ t30, mgr μ o0 0 = some t30 ∧ ∃ t31, mgr μ o0 0 = some t31 ∧ mok μ t31 12 ∧ vp_in (6 + i2) (mln μ t31) ∧ mok μ t30 12 ∧ vp_in ((i1 + 1) + i2) (mln μ t30) ∧ ∀ μ34, μ34 = msi μ t30 ((i1 + 1) + i2).toNatClampNeg (mgi μ t31 (6 + i2).toNatClampNeg) → K82 (i2 + 1) μ34))
set_option maxHeartbeats 4000000 in
set_option maxRecDepth 100000 in
theorem tB_X11_keep_82 {x : GX} (f : Fx x cX11_keep RX11 4 (rmc 1 0 0)) {o0 : Nat} {i1 : Int32} {i2 : Int32} {μ : Me} {Q : Me → Prop} (hq : Rt x none (qV Q)) {K82 : Int32 → Me → Prop} (hK82 : ∀ (a2 : Int32) (ν : Me), K82 a2 ν → G x 4 82 [(0, .ref (gB x + o0)), (1, .int i1), (2, .int a2)] [] ν 0 0) (h : B_X11_keep_82 o0 i1 i2 μ K82 Q) : G x 4 82 [(0, .ref (gB x + o0)), (1, .int i1), (2, .int i2)] [] μ 0 0 := by
  unfold B_X11_keep_82 at h
  refine g_iload_n f 2 dX11_keep_82 rfl rfl ?_
  refine g_iconst f 5 dX11_keep_83 kc_5 ?_
  refine g_ic_ge f 112 dX11_keep_84 rfl h (fun h => ?_) (fun h => ?_)
  · refine g_iconst f 0 dX11_keep_112 kc_0 ?_
    refine h_istore_n f dX11_keep_113 rfl (by decide) ?_
    exact h_sub [1, 2, 0] rfl (tL_X11_keep_114 f hq h)
  · refine g_aload_n f 0 dX11_keep_87 rfl rfl ?_
    obtain ⟨v29, h⟩ := h
    refine g_getR f fk_X11_7 v29 dX11_keep_88 rfl h (fun t30 h => ?_)
    refine g_iload_n f 1 dX11_keep_91 rfl rfl ?_
    refine g_iconst f 1 dX11_keep_92 kc_1 ?_
    refine g_iadd f dX11_keep_93 ?_
    refine g_iload_n f 2 dX11_keep_94 rfl rfl ?_
    refine g_iadd f dX11_keep_95 ?_
    refine g_aload_n f 0 dX11_keep_96 rfl rfl ?_
    refine g_getR f fk_X11_7 v29 dX11_keep_97 rfl h (fun t31 h => ?_)
    refine g_bipush f 6 dX11_keep_100 kb_6 ?_
    refine g_iload_n f 2 dX11_keep_102 rfl rfl ?_
    refine g_iadd f dX11_keep_103 ?_
    obtain ⟨v32, h⟩ := h
    refine g_iald f v32 dX11_keep_104 h (fun h => ?_)
    obtain ⟨v33, h⟩ := h
    refine g_iast f v33 dX11_keep_105 h (fun h => ?_)
    refine h_iinc f 2 1 dX11_keep_106 rfl kc_1 (by decide) ?_
    refine g_goto f 82 dX11_keep_109 rfl ?_
    exact h_sub [1, 2, 0] rfl (hK82 _ _ h)
def L_X11_keep_82 (o0 : Nat) (i1 : Int32) (i2 : Int32) (μ : Me) (Q : Me → Prop) : Prop := ∃ I : Int32 → Me → Nat → Prop, (∃ n, I i2 μ n) ∧ ∀ (i2 : Int32) (μ : Me) (n : Nat), I i2 μ n → B_X11_keep_82 o0 i1 i2 μ (fun a2 ν => ∃ n', n' < n ∧ I a2 ν n') Q
set_option maxHeartbeats 4000000 in
set_option maxRecDepth 100000 in
theorem tL_X11_keep_82 {x : GX} (f : Fx x cX11_keep RX11 4 (rmc 1 0 0)) {o0 : Nat} {i1 : Int32} {i2 : Int32} {μ : Me} {Q : Me → Prop} (hq : Rt x none (qV Q)) (h : L_X11_keep_82 o0 i1 i2 μ Q) : G x 4 82 [(0, .ref (gB x + o0)), (1, .int i1), (2, .int i2)] [] μ 0 0 := by
  obtain ⟨I, ⟨n, hI⟩, hs⟩ := h
  induction n using Nat.strongRecOn generalizing i2 μ with
  | ind n ih => exact tB_X11_keep_82 f hq (fun a2 ν hk => by obtain ⟨n2, hn, hI2⟩ := hk; exact ih n2 hn hI2) (hs _ _ _ hI)
def B_X11_keep_55 (o0 : Nat) (μ : Me) (Q : Me → Prop) : Prop := mok μ o0 11 ∧ ∃ t5, mgr μ o0 0 = some t5 ∧ mok μ t5 12 ∧ vp_in (3 : Int32) (mln μ t5) ∧ ∃ t7, mgr μ o0 0 = some t7 ∧ ∃ t8, mgr μ o0 0 = some t8 ∧ mok μ t8 12 ∧ vp_in (0 : Int32) (mln μ t8) ∧ mok μ t7 12 ∧ vp_in (107 + (90 * (mgi μ t5 (3 : Int32).toNatClampNeg))) (mln μ t7) ∧ ∀ μ11, μ11 = msi μ t7 (107 + (90 * (mgi μ t5 (3 : Int32).toNatClampNeg))).toNatClampNeg (mgi μ t8 (0 : Int32).toNatClampNeg) → L_X11_keep_82 o0 (107 + (90 * (mgi μ t5 (3 : Int32).toNatClampNeg))) 0 μ11 Q
set_option maxHeartbeats 4000000 in
set_option maxRecDepth 100000 in
theorem tB_X11_keep_55 {x : GX} (f : Fx x cX11_keep RX11 4 (rmc 1 0 0)) {o0 : Nat} {μ : Me} {Q : Me → Prop} (hq : Rt x none (qV Q)) (h : B_X11_keep_55 o0 μ Q) : G x 4 55 [(0, .ref (gB x + o0))] [] μ 0 0 := by
  unfold B_X11_keep_55 at h
  refine g_bipush f 107 dX11_keep_55 kb_107 ?_
  refine g_bipush f 90 dX11_keep_57 kb_90 ?_
  refine g_aload_n f 0 dX11_keep_59 rfl rfl ?_
  obtain ⟨v4, h⟩ := h
  refine g_getR f fk_X11_7 v4 dX11_keep_60 rfl h (fun t5 h => ?_)
  refine g_iconst f 3 dX11_keep_63 kc_3 ?_
  obtain ⟨v6, h⟩ := h
  refine g_iald f v6 dX11_keep_64 h (fun h => ?_)
  refine g_imul f dX11_keep_65 ?_
  refine g_iadd f dX11_keep_66 ?_
  refine h_istore_n f dX11_keep_67 rfl (by decide) ?_
  refine g_aload_n f 1 dX11_keep_68 rfl rfl ?_
  refine g_getR f fk_X11_7 v4 dX11_keep_69 rfl h (fun t7 h => ?_)
  refine g_iload_n f 0 dX11_keep_72 rfl rfl ?_
  refine g_aload_n f 1 dX11_keep_73 rfl rfl ?_
  refine g_getR f fk_X11_7 v4 dX11_keep_74 rfl h (fun t8 h => ?_)
  refine g_iconst f 0 dX11_keep_77 kc_0 ?_
  obtain ⟨v9, h⟩ := h
  refine g_iald f v9 dX11_keep_78 h (fun h => ?_)
  obtain ⟨v10, h⟩ := h
  refine g_iast f v10 dX11_keep_79 h (fun h => ?_)
  refine g_iconst f 0 dX11_keep_80 kc_0 ?_
  refine h_istore_n f dX11_keep_81 rfl (by decide) ?_
  exact h_sub [2, 1, 0] rfl (tL_X11_keep_82 f hq h)
def B_X11_keep_13 (o0 : Nat) (i1 : Int32) (μ : Me) (K13 : Int32 → Me → Prop) (Q : Me → Prop) : Prop := ((2610 ≤ i1 → mok μ o0 11 ∧ ∃ t36, mgr μ o0 0 = some t36 ∧ mok μ t36 12 ∧ vp_in (3 : Int32) (mln μ t36) ∧ vp_in (3 : Int32) (mln μ t36) ∧ ∀ μ38, μ38 = msi μ t36 (3 : Int32).toNatClampNeg ((mgi μ t36 (3 : Int32).toNatClampNeg) - 1) → B_X11_keep_55 o0 μ38 Q) ∧ (¬ 2610 ≤ i1 → mok μ o0 11 ∧ ∃ t40, mgr μ o0 0 = some t40 ∧ ∃ t41, mgr μ o0 0 = some t41 ∧ mok μ t41 12 ∧ vp_in (197 + i1) (mln μ t41) ∧ mok μ t40 12 ∧ vp_in (107 + i1) (mln μ t40) ∧ ∀ μ44, μ44 = msi μ t40 (107 + i1).toNatClampNeg (mgi μ t41 (197 + i1).toNatClampNeg) → K13 (i1 + 1) μ44))
set_option maxHeartbeats 4000000 in
set_option maxRecDepth 100000 in
theorem tB_X11_keep_13 {x : GX} (f : Fx x cX11_keep RX11 4 (rmc 1 0 0)) {o0 : Nat} {i1 : Int32} {μ : Me} {Q : Me → Prop} (hq : Rt x none (qV Q)) {K13 : Int32 → Me → Prop} (hK13 : ∀ (a1 : Int32) (ν : Me), K13 a1 ν → G x 4 13 [(0, .ref (gB x + o0)), (1, .int a1)] [] ν 0 0) (h : B_X11_keep_13 o0 i1 μ K13 Q) : G x 4 13 [(0, .ref (gB x + o0)), (1, .int i1)] [] μ 0 0 := by
  unfold B_X11_keep_13 at h
  refine g_iload_n f 1 dX11_keep_13 rfl rfl ?_
  refine g_sipush f 2610 dX11_keep_14 ks_2610 ?_
  refine g_ic_ge f 45 dX11_keep_17 rfl h (fun h => ?_) (fun h => ?_)
  · refine g_aload_n f 0 dX11_keep_45 rfl rfl ?_
    obtain ⟨v35, h⟩ := h
    refine g_getR f fk_X11_7 v35 dX11_keep_46 rfl h (fun t36 h => ?_)
    refine g_iconst f 3 dX11_keep_49 kc_3 ?_
    refine g_dup2_11 f dX11_keep_50 rfl rfl ?_
    obtain ⟨v37, h⟩ := h
    refine g_iald f v37 dX11_keep_51 h (fun h => ?_)
    refine g_iconst f 1 dX11_keep_52 kc_1 ?_
    refine g_isub f dX11_keep_53 ?_
    refine g_iast f v37 dX11_keep_54 h (fun h => ?_)
    exact h_sub [0] rfl (tB_X11_keep_55 f hq h)
  · refine g_aload_n f 0 dX11_keep_20 rfl rfl ?_
    obtain ⟨v39, h⟩ := h
    refine g_getR f fk_X11_7 v39 dX11_keep_21 rfl h (fun t40 h => ?_)
    refine g_bipush f 107 dX11_keep_24 kb_107 ?_
    refine g_iload_n f 1 dX11_keep_26 rfl rfl ?_
    refine g_iadd f dX11_keep_27 ?_
    refine g_aload_n f 0 dX11_keep_28 rfl rfl ?_
    refine g_getR f fk_X11_7 v39 dX11_keep_29 rfl h (fun t41 h => ?_)
    refine g_sipush f 197 dX11_keep_32 ks_197 ?_
    refine g_iload_n f 1 dX11_keep_35 rfl rfl ?_
    refine g_iadd f dX11_keep_36 ?_
    obtain ⟨v42, h⟩ := h
    refine g_iald f v42 dX11_keep_37 h (fun h => ?_)
    obtain ⟨v43, h⟩ := h
    refine g_iast f v43 dX11_keep_38 h (fun h => ?_)
    refine h_iinc f 1 1 dX11_keep_39 rfl kc_1 (by decide) ?_
    refine g_goto f 13 dX11_keep_42 rfl ?_
    exact h_sub [1, 0] rfl (hK13 _ _ h)
def L_X11_keep_13 (o0 : Nat) (i1 : Int32) (μ : Me) (Q : Me → Prop) : Prop := ∃ I : Int32 → Me → Nat → Prop, (∃ n, I i1 μ n) ∧ ∀ (i1 : Int32) (μ : Me) (n : Nat), I i1 μ n → B_X11_keep_13 o0 i1 μ (fun a1 ν => ∃ n', n' < n ∧ I a1 ν n') Q
set_option maxHeartbeats 4000000 in
set_option maxRecDepth 100000 in
theorem tL_X11_keep_13 {x : GX} (f : Fx x cX11_keep RX11 4 (rmc 1 0 0)) {o0 : Nat} {i1 : Int32} {μ : Me} {Q : Me → Prop} (hq : Rt x none (qV Q)) (h : L_X11_keep_13 o0 i1 μ Q) : G x 4 13 [(0, .ref (gB x + o0)), (1, .int i1)] [] μ 0 0 := by
  obtain ⟨I, ⟨n, hI⟩, hs⟩ := h
  induction n using Nat.strongRecOn generalizing i1 μ with
  | ind n ih => exact tB_X11_keep_13 f hq (fun a1 ν hk => by obtain ⟨n2, hn, hI2⟩ := hk; exact ih n2 hn hI2) (hs _ _ _ hI)
def S_X11_keep (o0 : Nat) (μ : Me) (Q : Me → Prop) : Prop := mok μ o0 11 ∧ ∃ t2, mgr μ o0 0 = some t2 ∧ mok μ t2 12 ∧ vp_in (3 : Int32) (mln μ t2) ∧ ((¬ (mgi μ t2 (3 : Int32).toNatClampNeg) = 30 → B_X11_keep_55 o0 μ Q) ∧ ((mgi μ t2 (3 : Int32).toNatClampNeg) = 30 → L_X11_keep_13 o0 0 μ Q))
set_option maxHeartbeats 4000000 in
set_option maxRecDepth 100000 in
theorem t_X11_keep {x : GX} (f : Fx x cX11_keep RX11 4 (rmc 1 0 0)) {o0 : Nat} {μ : Me} {Q : Me → Prop} (hq : Rt x none (qV Q)) (h : S_X11_keep o0 μ Q) : G x 4 0 [(0, .ref (gB x + o0))] [] μ 0 0 := by
  unfold S_X11_keep at h
  refine g_aload_n f 0 dX11_keep_0 rfl rfl ?_
  obtain ⟨v1, h⟩ := h
  refine g_getR f fk_X11_7 v1 dX11_keep_1 rfl h (fun t2 h => ?_)
  refine g_iconst f 3 dX11_keep_4 kc_3 ?_
  obtain ⟨v3, h⟩ := h
  refine g_iald f v3 dX11_keep_5 h (fun h => ?_)
  refine g_bipush f 30 dX11_keep_6 kb_30 ?_
  refine g_ic_ne f 55 dX11_keep_8 rfl h (fun h => ?_) (fun h => ?_)
  · exact h_sub [0] rfl (tB_X11_keep_55 f hq h)
  · refine g_iconst f 0 dX11_keep_11 kc_0 ?_
    refine h_istore_n f dX11_keep_12 rfl (by decide) ?_
    exact h_sub [1, 0] rfl (tL_X11_keep_13 f hq h)
theorem c_X11_keep {Ω : OM} {o0 : Nat} {μ : Me} {Q : Me → Prop} (h : S_X11_keep o0 μ Q) : CT Ω yX11_keep cX11_keep 4 none (rmc 1 0 0) [.ref (oB Ω + o0)] μ (qV Q) := CT_of (by decide) rfl (by simp [lg_sl, Value.category]) (fun x hΩ f hq hi => by subst hΩ; exact t_X11_keep f hq h)
theorem dX11_ring_0 : decode cX11_ring 0 = .ok (.aload_n 0, 1) := by decide +kernel
theorem dX11_ring_1 : decode cX11_ring 1 = .ok (.iload_n 1, 1) := by decide +kernel
theorem dX11_ring_2 : decode cX11_ring 2 = .ok (.invokevirtual 329, 3) := by decide +kernel
theorem dX11_ring_5 : decode cX11_ring 5 = .ok (.ifCond .ne 5, 3) := by decide +kernel
theorem dX11_ring_8 : decode cX11_ring 8 = .ok (.iconst 0, 1) := by decide +kernel
theorem dX11_ring_9 : decode cX11_ring 9 = .ok (.ireturn, 1) := by decide +kernel
theorem dX11_ring_10 : decode cX11_ring 10 = .ok (.aload_n 0, 1) := by decide +kernel
theorem dX11_ring_11 : decode cX11_ring 11 = .ok (.invokevirtual 332, 3) := by decide +kernel
theorem dX11_ring_14 : decode cX11_ring 14 = .ok (.aload_n 0, 1) := by decide +kernel
theorem dX11_ring_15 : decode cX11_ring 15 = .ok (.getfield 7, 3) := by decide +kernel
theorem dX11_ring_18 : decode cX11_ring 18 = .ok (.bipush 7, 2) := by decide +kernel
theorem dX11_ring_20 : decode cX11_ring 20 = .ok (.iload_n 1, 1) := by decide +kernel
theorem dX11_ring_21 : decode cX11_ring 21 = .ok (.iastore, 1) := by decide +kernel
theorem dX11_ring_22 : decode cX11_ring 22 = .ok (.iconst 1, 1) := by decide +kernel
theorem dX11_ring_23 : decode cX11_ring 23 = .ok (.ireturn, 1) := by decide +kernel
def S_X11_ring (o0 : Nat) (i1 : Int32) (μ : Me) (Q : Int32 → Me → Prop) : Prop := mok μ o0 11 ∧ S_X11_areRings o0 i1 μ (fun r4 μ2 => ((¬ r4 = 0 → S_X11_keep o0 μ2 (fun μ5 => ∃ t8, mgr μ5 o0 0 = some t8 ∧ mok μ5 t8 12 ∧ vp_in (7 : Int32) (mln μ5 t8) ∧ ∀ μ10, μ10 = msi μ5 t8 (7 : Int32).toNatClampNeg i1 → Q 1 μ10)) ∧ (r4 = 0 → Q 0 μ2)))
set_option maxHeartbeats 4000000 in
set_option maxRecDepth 100000 in
theorem t_X11_ring {x : GX} (f : Fx x cX11_ring RX11 2 (rmc 2 0 0)) {o0 : Nat} {i1 : Int32} {μ : Me} {Q : Int32 → Me → Prop} (hq : Rt x (some .boolean) (qI Q)) (h : S_X11_ring o0 i1 μ Q) : G x 2 0 [(0, .ref (gB x + o0)), (1, .int i1)] [] μ 0 0 := by
  unfold S_X11_ring at h
  refine g_aload_n f 0 dX11_ring_0 rfl rfl ?_
  refine g_iload_n f 1 dX11_ring_1 rfl rfl ?_
  obtain ⟨v1, h⟩ := h
  refine g_callV f mk_X11_329 v1 (c_X11_areRings h) dX11_ring_2 rfl rfl (Nat.le_of_ble_eq_true rfl) (rm_ok (by decide) (by decide)) ⟨Nat.le_of_ble_eq_true rfl, Nat.le_of_ble_eq_true rfl⟩ (kI fun r4 μ2 x3 h => ?_)
  refine g_if_ne f 10 dX11_ring_5 rfl h (fun h => ?_) (fun h => ?_)
  · refine g_aload_n f 0 dX11_ring_10 rfl rfl ?_
    have v1 := mex_ok x3 v1
    refine g_callV f mk_X11_332 v1 (c_X11_keep h) dX11_ring_11 rfl rfl (Nat.le_of_ble_eq_true rfl) (rm_ok (by decide) (by decide)) ⟨Nat.le_of_ble_eq_true rfl, Nat.le_of_ble_eq_true rfl⟩ (kV fun μ5 x6 h => ?_)
    refine g_aload_n f 0 dX11_ring_14 rfl rfl ?_
    have v1 := mex_ok x6 v1
    refine g_getR f fk_X11_7 v1 dX11_ring_15 rfl h (fun t8 h => ?_)
    refine g_bipush f 7 dX11_ring_18 kb_7 ?_
    refine g_iload_n f 1 dX11_ring_20 rfl rfl ?_
    obtain ⟨v9, h⟩ := h
    refine g_iast f v9 dX11_ring_21 h (fun h => ?_)
    refine g_iconst f 1 dX11_ring_22 kc_1 ?_
    exact g_zret f hq (Nat.le_of_ble_eq_true rfl) (Nat.le_of_ble_eq_true rfl) dX11_ring_23 zb_1.1 h
  · refine g_iconst f 0 dX11_ring_8 kc_0 ?_
    exact g_zret f hq (Nat.le_of_ble_eq_true rfl) (Nat.le_of_ble_eq_true rfl) dX11_ring_9 zb_0.1 h
theorem c_X11_ring {Ω : OM} {o0 : Nat} {i1 : Int32} {μ : Me} {Q : Int32 → Me → Prop} (h : S_X11_ring o0 i1 μ Q) : CT Ω yX11_ring cX11_ring 2 (some .boolean) (rmc 2 0 0) [.ref (oB Ω + o0), .int i1] μ (qI Q) := CT_of (by decide) rfl (by simp [lg_sl, Value.category]) (fun x hΩ f hq hi => by subst hΩ; exact t_X11_ring f hq h)
theorem dX11_isPerson_0 : decode cX11_isPerson 0 = .ok (.iload_n 1, 1) := by decide +kernel
theorem dX11_isPerson_1 : decode cX11_isPerson 1 = .ok (.iconst 0, 1) := by decide +kernel
theorem dX11_isPerson_2 : decode cX11_isPerson 2 = .ok (.aload_n 0, 1) := by decide +kernel
theorem dX11_isPerson_3 : decode cX11_isPerson 3 = .ok (.getfield 7, 3) := by decide +kernel
theorem dX11_isPerson_6 : decode cX11_isPerson 6 = .ok (.iconst 0, 1) := by decide +kernel
theorem dX11_isPerson_7 : decode cX11_isPerson 7 = .ok (.iaload, 1) := by decide +kernel
theorem dX11_isPerson_8 : decode cX11_isPerson 8 = .ok (.iconst 1, 1) := by decide +kernel
theorem dX11_isPerson_9 : decode cX11_isPerson 9 = .ok (.isub, 1) := by decide +kernel
theorem dX11_isPerson_10 : decode cX11_isPerson 10 = .ok (.invokestatic 66, 3) := by decide +kernel
theorem dX11_isPerson_13 : decode cX11_isPerson 13 = .ok (.ireturn, 1) := by decide +kernel
def S_X11_isPerson (o0 : Nat) (i1 : Int32) (μ : Me) (Q : Int32 → Me → Prop) : Prop := mok μ o0 11 ∧ ∃ t2, mgr μ o0 0 = some t2 ∧ mok μ t2 12 ∧ vp_in (0 : Int32) (mln μ t2) ∧ S_X11_isIn i1 0 ((mgi μ t2 (0 : Int32).toNatClampNeg) - 1) μ (fun r6 μ4 => zb r6 ∧ Q r6 μ4)
set_option maxHeartbeats 4000000 in
set_option maxRecDepth 100000 in
theorem t_X11_isPerson {x : GX} (f : Fx x cX11_isPerson RX11 2 (rmc 1 0 0)) {o0 : Nat} {i1 : Int32} {μ : Me} {Q : Int32 → Me → Prop} (hq : Rt x (some .boolean) (qI Q)) (h : S_X11_isPerson o0 i1 μ Q) : G x 2 0 [(0, .ref (gB x + o0)), (1, .int i1)] [] μ 0 0 := by
  unfold S_X11_isPerson at h
  refine g_iload_n f 1 dX11_isPerson_0 rfl rfl ?_
  refine g_iconst f 0 dX11_isPerson_1 kc_0 ?_
  refine g_aload_n f 0 dX11_isPerson_2 rfl rfl ?_
  obtain ⟨v1, h⟩ := h
  refine g_getR f fk_X11_7 v1 dX11_isPerson_3 rfl h (fun t2 h => ?_)
  refine g_iconst f 0 dX11_isPerson_6 kc_0 ?_
  obtain ⟨v3, h⟩ := h
  refine g_iald f v3 dX11_isPerson_7 h (fun h => ?_)
  refine g_iconst f 1 dX11_isPerson_8 kc_1 ?_
  refine g_isub f dX11_isPerson_9 ?_
  refine g_callS f mk_X11_66 (c_X11_isIn h) dX11_isPerson_10 rfl rfl (Nat.le_of_ble_eq_true rfl) (rm_ok (by decide) (by decide)) ⟨Nat.le_of_ble_eq_true rfl, Nat.le_of_ble_eq_true rfl⟩ (kI fun r6 μ4 x5 h => ?_)
  exact g_zret f hq (Nat.le_of_ble_eq_true rfl) (Nat.le_of_ble_eq_true rfl) dX11_isPerson_13 h.1.1 h.2
theorem c_X11_isPerson {Ω : OM} {o0 : Nat} {i1 : Int32} {μ : Me} {Q : Int32 → Me → Prop} (h : S_X11_isPerson o0 i1 μ Q) : CT Ω yX11_isPerson cX11_isPerson 2 (some .boolean) (rmc 1 0 0) [.ref (oB Ω + o0), .int i1] μ (qI Q) := CT_of (by decide) rfl (by simp [lg_sl, Value.category]) (fun x hΩ f hq hi => by subst hΩ; exact t_X11_isPerson f hq h)
theorem dX11_due_0 : decode cX11_due 0 = .ok (.aload_n 0, 1) := by decide +kernel
theorem dX11_due_1 : decode cX11_due 1 = .ok (.iload_n 1, 1) := by decide +kernel
theorem dX11_due_2 : decode cX11_due 2 = .ok (.invokevirtual 335, 3) := by decide +kernel
theorem dX11_due_5 : decode cX11_due 5 = .ok (.ifCond .eq 23, 3) := by decide +kernel
theorem dX11_due_8 : decode cX11_due 8 = .ok (.iload_n 2, 1) := by decide +kernel
theorem dX11_due_9 : decode cX11_due 9 = .ok (.iconst 0, 1) := by decide +kernel
theorem dX11_due_10 : decode cX11_due 10 = .ok (.bipush 99, 2) := by decide +kernel
theorem dX11_due_12 : decode cX11_due 12 = .ok (.invokestatic 66, 3) := by decide +kernel
theorem dX11_due_15 : decode cX11_due 15 = .ok (.ifCond .eq 13, 3) := by decide +kernel
theorem dX11_due_18 : decode cX11_due 18 = .ok (.aload_n 0, 1) := by decide +kernel
theorem dX11_due_19 : decode cX11_due 19 = .ok (.iload_n 1, 1) := by decide +kernel
theorem dX11_due_20 : decode cX11_due 20 = .ok (.iconst 0, 1) := by decide +kernel
theorem dX11_due_21 : decode cX11_due 21 = .ok (.invokevirtual 74, 3) := by decide +kernel
theorem dX11_due_24 : decode cX11_due 24 = .ok (.iload_n 2, 1) := by decide +kernel
theorem dX11_due_25 : decode cX11_due 25 = .ok (.if_icmp .ne 5, 3) := by decide +kernel
theorem dX11_due_28 : decode cX11_due 28 = .ok (.iconst 0, 1) := by decide +kernel
theorem dX11_due_29 : decode cX11_due 29 = .ok (.ireturn, 1) := by decide +kernel
theorem dX11_due_30 : decode cX11_due 30 = .ok (.aload_n 0, 1) := by decide +kernel
theorem dX11_due_31 : decode cX11_due 31 = .ok (.invokevirtual 332, 3) := by decide +kernel
theorem dX11_due_34 : decode cX11_due 34 = .ok (.aload_n 0, 1) := by decide +kernel
theorem dX11_due_35 : decode cX11_due 35 = .ok (.iload_n 1, 1) := by decide +kernel
theorem dX11_due_36 : decode cX11_due 36 = .ok (.iconst 0, 1) := by decide +kernel
theorem dX11_due_37 : decode cX11_due 37 = .ok (.iload_n 2, 1) := by decide +kernel
theorem dX11_due_38 : decode cX11_due 38 = .ok (.invokevirtual 78, 3) := by decide +kernel
theorem dX11_due_41 : decode cX11_due 41 = .ok (.iconst 1, 1) := by decide +kernel
theorem dX11_due_42 : decode cX11_due 42 = .ok (.ireturn, 1) := by decide +kernel
def S_X11_due (o0 : Nat) (i1 : Int32) (i2 : Int32) (μ : Me) (Q : Int32 → Me → Prop) : Prop := mok μ o0 11 ∧ S_X11_isPerson o0 i1 μ (fun r4 μ2 => ((r4 = 0 → Q 0 μ2) ∧ (¬ r4 = 0 → S_X11_isIn i2 0 99 μ2 (fun r7 μ5 => ((r7 = 0 → Q 0 μ5) ∧ (¬ r7 = 0 → S_X11_get o0 i1 0 μ5 (fun r10 μ8 => ((¬ r10 = i2 → S_X11_keep o0 μ8 (fun μ11 => S_X11_put o0 i1 0 i2 μ11 (fun μ14 => Q 1 μ14))) ∧ (r10 = i2 → Q 0 μ8)))))))))
set_option maxHeartbeats 4000000 in
set_option maxRecDepth 100000 in
theorem t_X11_due {x : GX} (f : Fx x cX11_due RX11 3 (rmc 2 0 0)) {o0 : Nat} {i1 : Int32} {i2 : Int32} {μ : Me} {Q : Int32 → Me → Prop} (hq : Rt x (some .boolean) (qI Q)) (h : S_X11_due o0 i1 i2 μ Q) : G x 3 0 [(0, .ref (gB x + o0)), (1, .int i1), (2, .int i2)] [] μ 0 0 := by
  unfold S_X11_due at h
  refine g_aload_n f 0 dX11_due_0 rfl rfl ?_
  refine g_iload_n f 1 dX11_due_1 rfl rfl ?_
  obtain ⟨v1, h⟩ := h
  refine g_callV f mk_X11_335 v1 (c_X11_isPerson h) dX11_due_2 rfl rfl (Nat.le_of_ble_eq_true rfl) (rm_ok (by decide) (by decide)) ⟨Nat.le_of_ble_eq_true rfl, Nat.le_of_ble_eq_true rfl⟩ (kI fun r4 μ2 x3 h => ?_)
  refine g_if_eq f 28 dX11_due_5 rfl h (fun h => ?_) (fun h => ?_)
  · refine g_iconst f 0 dX11_due_28 kc_0 ?_
    exact g_zret f hq (Nat.le_of_ble_eq_true rfl) (Nat.le_of_ble_eq_true rfl) dX11_due_29 zb_0.1 h
  · refine g_iload_n f 2 dX11_due_8 rfl rfl ?_
    refine g_iconst f 0 dX11_due_9 kc_0 ?_
    refine g_bipush f 99 dX11_due_10 kb_99 ?_
    refine g_callS f mk_X11_66 (c_X11_isIn h) dX11_due_12 rfl rfl (Nat.le_of_ble_eq_true rfl) (rm_ok (by decide) (by decide)) ⟨Nat.le_of_ble_eq_true rfl, Nat.le_of_ble_eq_true rfl⟩ (kI fun r7 μ5 x6 h => ?_)
    refine g_if_eq f 28 dX11_due_15 rfl h (fun h => ?_) (fun h => ?_)
    · refine g_iconst f 0 dX11_due_28 kc_0 ?_
      exact g_zret f hq (Nat.le_of_ble_eq_true rfl) (Nat.le_of_ble_eq_true rfl) dX11_due_29 zb_0.1 h
    · refine g_aload_n f 0 dX11_due_18 rfl rfl ?_
      refine g_iload_n f 1 dX11_due_19 rfl rfl ?_
      refine g_iconst f 0 dX11_due_20 kc_0 ?_
      have v1 := mex_ok x3 v1
      have v1 := mex_ok x6 v1
      refine g_callV f mk_X11_74 v1 (c_X11_get h) dX11_due_21 rfl rfl (Nat.le_of_ble_eq_true rfl) (rm_ok (by decide) (by decide)) ⟨Nat.le_of_ble_eq_true rfl, Nat.le_of_ble_eq_true rfl⟩ (kI fun r10 μ8 x9 h => ?_)
      refine g_iload_n f 2 dX11_due_24 rfl rfl ?_
      refine g_ic_ne f 30 dX11_due_25 rfl h (fun h => ?_) (fun h => ?_)
      · refine g_aload_n f 0 dX11_due_30 rfl rfl ?_
        have v1 := mex_ok x9 v1
        refine g_callV f mk_X11_332 v1 (c_X11_keep h) dX11_due_31 rfl rfl (Nat.le_of_ble_eq_true rfl) (rm_ok (by decide) (by decide)) ⟨Nat.le_of_ble_eq_true rfl, Nat.le_of_ble_eq_true rfl⟩ (kV fun μ11 x12 h => ?_)
        refine g_aload_n f 0 dX11_due_34 rfl rfl ?_
        refine g_iload_n f 1 dX11_due_35 rfl rfl ?_
        refine g_iconst f 0 dX11_due_36 kc_0 ?_
        refine g_iload_n f 2 dX11_due_37 rfl rfl ?_
        have v1 := mex_ok x12 v1
        refine g_callV f mk_X11_78 v1 (c_X11_put h) dX11_due_38 rfl rfl (Nat.le_of_ble_eq_true rfl) (rm_ok (by decide) (by decide)) ⟨Nat.le_of_ble_eq_true rfl, Nat.le_of_ble_eq_true rfl⟩ (kV fun μ14 x15 h => ?_)
        refine g_iconst f 1 dX11_due_41 kc_1 ?_
        exact g_zret f hq (Nat.le_of_ble_eq_true rfl) (Nat.le_of_ble_eq_true rfl) dX11_due_42 zb_1.1 h
      · refine g_iconst f 0 dX11_due_28 kc_0 ?_
        exact g_zret f hq (Nat.le_of_ble_eq_true rfl) (Nat.le_of_ble_eq_true rfl) dX11_due_29 zb_0.1 h
theorem c_X11_due {Ω : OM} {o0 : Nat} {i1 : Int32} {i2 : Int32} {μ : Me} {Q : Int32 → Me → Prop} (h : S_X11_due o0 i1 i2 μ Q) : CT Ω yX11_due cX11_due 3 (some .boolean) (rmc 2 0 0) [.ref (oB Ω + o0), .int i1, .int i2] μ (qI Q) := CT_of (by decide) rfl (by simp [lg_sl, Value.category]) (fun x hΩ f hq hi => by subst hΩ; exact t_X11_due f hq h)
theorem dX11_isLain_0 : decode cX11_isLain 0 = .ok (.aload_n 0, 1) := by decide +kernel
theorem dX11_isLain_1 : decode cX11_isLain 1 = .ok (.iload_n 1, 1) := by decide +kernel
theorem dX11_isLain_2 : decode cX11_isLain 2 = .ok (.invokevirtual 335, 3) := by decide +kernel
theorem dX11_isLain_5 : decode cX11_isLain 5 = .ok (.ifCond .eq 13, 3) := by decide +kernel
theorem dX11_isLain_8 : decode cX11_isLain 8 = .ok (.aload_n 0, 1) := by decide +kernel
theorem dX11_isLain_9 : decode cX11_isLain 9 = .ok (.iload_n 1, 1) := by decide +kernel
theorem dX11_isLain_10 : decode cX11_isLain 10 = .ok (.iconst 1, 1) := by decide +kernel
theorem dX11_isLain_11 : decode cX11_isLain 11 = .ok (.invokevirtual 74, 3) := by decide +kernel
theorem dX11_isLain_14 : decode cX11_isLain 14 = .ok (.iload_n 2, 1) := by decide +kernel
theorem dX11_isLain_15 : decode cX11_isLain 15 = .ok (.if_icmp .ne 5, 3) := by decide +kernel
theorem dX11_isLain_18 : decode cX11_isLain 18 = .ok (.iconst 0, 1) := by decide +kernel
theorem dX11_isLain_19 : decode cX11_isLain 19 = .ok (.ireturn, 1) := by decide +kernel
theorem dX11_isLain_20 : decode cX11_isLain 20 = .ok (.aload_n 0, 1) := by decide +kernel
theorem dX11_isLain_21 : decode cX11_isLain 21 = .ok (.invokevirtual 332, 3) := by decide +kernel
theorem dX11_isLain_24 : decode cX11_isLain 24 = .ok (.aload_n 0, 1) := by decide +kernel
theorem dX11_isLain_25 : decode cX11_isLain 25 = .ok (.iload_n 1, 1) := by decide +kernel
theorem dX11_isLain_26 : decode cX11_isLain 26 = .ok (.iconst 1, 1) := by decide +kernel
theorem dX11_isLain_27 : decode cX11_isLain 27 = .ok (.iload_n 2, 1) := by decide +kernel
theorem dX11_isLain_28 : decode cX11_isLain 28 = .ok (.invokevirtual 78, 3) := by decide +kernel
theorem dX11_isLain_31 : decode cX11_isLain 31 = .ok (.iconst 1, 1) := by decide +kernel
theorem dX11_isLain_32 : decode cX11_isLain 32 = .ok (.ireturn, 1) := by decide +kernel
def S_X11_isLain (o0 : Nat) (i1 : Int32) (i2 : Int32) (μ : Me) (Q : Int32 → Me → Prop) : Prop := mok μ o0 11 ∧ S_X11_isPerson o0 i1 μ (fun r4 μ2 => ((r4 = 0 → Q 0 μ2) ∧ (¬ r4 = 0 → S_X11_get o0 i1 1 μ2 (fun r7 μ5 => ((¬ r7 = i2 → S_X11_keep o0 μ5 (fun μ8 => S_X11_put o0 i1 1 i2 μ8 (fun μ11 => Q 1 μ11))) ∧ (r7 = i2 → Q 0 μ5))))))
set_option maxHeartbeats 4000000 in
set_option maxRecDepth 100000 in
theorem t_X11_isLain {x : GX} (f : Fx x cX11_isLain RX11 3 (rmc 2 0 0)) {o0 : Nat} {i1 : Int32} {i2 : Int32} {μ : Me} {Q : Int32 → Me → Prop} (hq : Rt x (some .boolean) (qI Q)) (h : S_X11_isLain o0 i1 i2 μ Q) : G x 3 0 [(0, .ref (gB x + o0)), (1, .int i1), (2, .int i2)] [] μ 0 0 := by
  unfold S_X11_isLain at h
  refine g_aload_n f 0 dX11_isLain_0 rfl rfl ?_
  refine g_iload_n f 1 dX11_isLain_1 rfl rfl ?_
  obtain ⟨v1, h⟩ := h
  refine g_callV f mk_X11_335 v1 (c_X11_isPerson h) dX11_isLain_2 rfl rfl (Nat.le_of_ble_eq_true rfl) (rm_ok (by decide) (by decide)) ⟨Nat.le_of_ble_eq_true rfl, Nat.le_of_ble_eq_true rfl⟩ (kI fun r4 μ2 x3 h => ?_)
  refine g_if_eq f 18 dX11_isLain_5 rfl h (fun h => ?_) (fun h => ?_)
  · refine g_iconst f 0 dX11_isLain_18 kc_0 ?_
    exact g_zret f hq (Nat.le_of_ble_eq_true rfl) (Nat.le_of_ble_eq_true rfl) dX11_isLain_19 zb_0.1 h
  · refine g_aload_n f 0 dX11_isLain_8 rfl rfl ?_
    refine g_iload_n f 1 dX11_isLain_9 rfl rfl ?_
    refine g_iconst f 1 dX11_isLain_10 kc_1 ?_
    have v1 := mex_ok x3 v1
    refine g_callV f mk_X11_74 v1 (c_X11_get h) dX11_isLain_11 rfl rfl (Nat.le_of_ble_eq_true rfl) (rm_ok (by decide) (by decide)) ⟨Nat.le_of_ble_eq_true rfl, Nat.le_of_ble_eq_true rfl⟩ (kI fun r7 μ5 x6 h => ?_)
    refine g_iload_n f 2 dX11_isLain_14 rfl rfl ?_
    refine g_ic_ne f 20 dX11_isLain_15 rfl h (fun h => ?_) (fun h => ?_)
    · refine g_aload_n f 0 dX11_isLain_20 rfl rfl ?_
      have v1 := mex_ok x6 v1
      refine g_callV f mk_X11_332 v1 (c_X11_keep h) dX11_isLain_21 rfl rfl (Nat.le_of_ble_eq_true rfl) (rm_ok (by decide) (by decide)) ⟨Nat.le_of_ble_eq_true rfl, Nat.le_of_ble_eq_true rfl⟩ (kV fun μ8 x9 h => ?_)
      refine g_aload_n f 0 dX11_isLain_24 rfl rfl ?_
      refine g_iload_n f 1 dX11_isLain_25 rfl rfl ?_
      refine g_iconst f 1 dX11_isLain_26 kc_1 ?_
      refine g_iload_n f 2 dX11_isLain_27 rfl rfl ?_
      have v1 := mex_ok x9 v1
      refine g_callV f mk_X11_78 v1 (c_X11_put h) dX11_isLain_28 rfl rfl (Nat.le_of_ble_eq_true rfl) (rm_ok (by decide) (by decide)) ⟨Nat.le_of_ble_eq_true rfl, Nat.le_of_ble_eq_true rfl⟩ (kV fun μ11 x12 h => ?_)
      refine g_iconst f 1 dX11_isLain_31 kc_1 ?_
      exact g_zret f hq (Nat.le_of_ble_eq_true rfl) (Nat.le_of_ble_eq_true rfl) dX11_isLain_32 zb_1.1 h
    · refine g_iconst f 0 dX11_isLain_18 kc_0 ?_
      exact g_zret f hq (Nat.le_of_ble_eq_true rfl) (Nat.le_of_ble_eq_true rfl) dX11_isLain_19 zb_0.1 h
theorem c_X11_isLain {Ω : OM} {o0 : Nat} {i1 : Int32} {i2 : Int32} {μ : Me} {Q : Int32 → Me → Prop} (h : S_X11_isLain o0 i1 i2 μ Q) : CT Ω yX11_isLain cX11_isLain 3 (some .boolean) (rmc 2 0 0) [.ref (oB Ω + o0), .int i1, .int i2] μ (qI Q) := CT_of (by decide) rfl (by simp [lg_sl, Value.category]) (fun x hΩ f hq hi => by subst hΩ; exact t_X11_isLain f hq h)
theorem dX11_bed_0 : decode cX11_bed 0 = .ok (.aload_n 0, 1) := by decide +kernel
theorem dX11_bed_1 : decode cX11_bed 1 = .ok (.iload_n 1, 1) := by decide +kernel
theorem dX11_bed_2 : decode cX11_bed 2 = .ok (.iconst 1, 1) := by decide +kernel
theorem dX11_bed_3 : decode cX11_bed 3 = .ok (.invokevirtual 338, 3) := by decide +kernel
theorem dX11_bed_6 : decode cX11_bed 6 = .ok (.ireturn, 1) := by decide +kernel
def S_X11_bed (o0 : Nat) (i1 : Int32) (μ : Me) (Q : Int32 → Me → Prop) : Prop := mok μ o0 11 ∧ S_X11_isLain o0 i1 1 μ (fun r4 μ2 => zb r4 ∧ Q r4 μ2)
set_option maxHeartbeats 4000000 in
set_option maxRecDepth 100000 in
theorem t_X11_bed {x : GX} (f : Fx x cX11_bed RX11 2 (rmc 3 0 0)) {o0 : Nat} {i1 : Int32} {μ : Me} {Q : Int32 → Me → Prop} (hq : Rt x (some .boolean) (qI Q)) (h : S_X11_bed o0 i1 μ Q) : G x 2 0 [(0, .ref (gB x + o0)), (1, .int i1)] [] μ 0 0 := by
  unfold S_X11_bed at h
  refine g_aload_n f 0 dX11_bed_0 rfl rfl ?_
  refine g_iload_n f 1 dX11_bed_1 rfl rfl ?_
  refine g_iconst f 1 dX11_bed_2 kc_1 ?_
  obtain ⟨v1, h⟩ := h
  refine g_callV f mk_X11_338 v1 (c_X11_isLain h) dX11_bed_3 rfl rfl (Nat.le_of_ble_eq_true rfl) (rm_ok (by decide) (by decide)) ⟨Nat.le_of_ble_eq_true rfl, Nat.le_of_ble_eq_true rfl⟩ (kI fun r4 μ2 x3 h => ?_)
  exact g_zret f hq (Nat.le_of_ble_eq_true rfl) (Nat.le_of_ble_eq_true rfl) dX11_bed_6 h.1.1 h.2
theorem c_X11_bed {Ω : OM} {o0 : Nat} {i1 : Int32} {μ : Me} {Q : Int32 → Me → Prop} (h : S_X11_bed o0 i1 μ Q) : CT Ω yX11_bed cX11_bed 2 (some .boolean) (rmc 3 0 0) [.ref (oB Ω + o0), .int i1] μ (qI Q) := CT_of (by decide) rfl (by simp [lg_sl, Value.category]) (fun x hΩ f hq hi => by subst hΩ; exact t_X11_bed f hq h)
theorem dX11_up_0 : decode cX11_up 0 = .ok (.aload_n 0, 1) := by decide +kernel
theorem dX11_up_1 : decode cX11_up 1 = .ok (.iload_n 1, 1) := by decide +kernel
theorem dX11_up_2 : decode cX11_up 2 = .ok (.iconst 0, 1) := by decide +kernel
theorem dX11_up_3 : decode cX11_up 3 = .ok (.invokevirtual 338, 3) := by decide +kernel
theorem dX11_up_6 : decode cX11_up 6 = .ok (.ireturn, 1) := by decide +kernel
def S_X11_up (o0 : Nat) (i1 : Int32) (μ : Me) (Q : Int32 → Me → Prop) : Prop := mok μ o0 11 ∧ S_X11_isLain o0 i1 0 μ (fun r4 μ2 => zb r4 ∧ Q r4 μ2)
set_option maxHeartbeats 4000000 in
set_option maxRecDepth 100000 in
theorem t_X11_up {x : GX} (f : Fx x cX11_up RX11 2 (rmc 3 0 0)) {o0 : Nat} {i1 : Int32} {μ : Me} {Q : Int32 → Me → Prop} (hq : Rt x (some .boolean) (qI Q)) (h : S_X11_up o0 i1 μ Q) : G x 2 0 [(0, .ref (gB x + o0)), (1, .int i1)] [] μ 0 0 := by
  unfold S_X11_up at h
  refine g_aload_n f 0 dX11_up_0 rfl rfl ?_
  refine g_iload_n f 1 dX11_up_1 rfl rfl ?_
  refine g_iconst f 0 dX11_up_2 kc_0 ?_
  obtain ⟨v1, h⟩ := h
  refine g_callV f mk_X11_338 v1 (c_X11_isLain h) dX11_up_3 rfl rfl (Nat.le_of_ble_eq_true rfl) (rm_ok (by decide) (by decide)) ⟨Nat.le_of_ble_eq_true rfl, Nat.le_of_ble_eq_true rfl⟩ (kI fun r4 μ2 x3 h => ?_)
  exact g_zret f hq (Nat.le_of_ble_eq_true rfl) (Nat.le_of_ble_eq_true rfl) dX11_up_6 h.1.1 h.2
theorem c_X11_up {Ω : OM} {o0 : Nat} {i1 : Int32} {μ : Me} {Q : Int32 → Me → Prop} (h : S_X11_up o0 i1 μ Q) : CT Ω yX11_up cX11_up 2 (some .boolean) (rmc 3 0 0) [.ref (oB Ω + o0), .int i1] μ (qI Q) := CT_of (by decide) rfl (by simp [lg_sl, Value.category]) (fun x hΩ f hq hi => by subst hΩ; exact t_X11_up f hq h)
theorem dX11_anew_0 : decode cX11_anew 0 = .ok (.aload_n 0, 1) := by decide +kernel
theorem dX11_anew_1 : decode cX11_anew 1 = .ok (.getfield 7, 3) := by decide +kernel
theorem dX11_anew_4 : decode cX11_anew 4 = .ok (.bipush 9, 2) := by decide +kernel
theorem dX11_anew_6 : decode cX11_anew 6 = .ok (.aload_n 0, 1) := by decide +kernel
theorem dX11_anew_7 : decode cX11_anew 7 = .ok (.getfield 7, 3) := by decide +kernel
theorem dX11_anew_10 : decode cX11_anew 10 = .ok (.bipush 9, 2) := by decide +kernel
theorem dX11_anew_12 : decode cX11_anew 12 = .ok (.iaload, 1) := by decide +kernel
theorem dX11_anew_13 : decode cX11_anew 13 = .ok (.i2l, 1) := by decide +kernel
theorem dX11_anew_14 : decode cX11_anew 14 = .ok (.ldc2_w 311, 3) := by decide +kernel
theorem dX11_anew_17 : decode cX11_anew 17 = .ok (.lmul, 1) := by decide +kernel
theorem dX11_anew_18 : decode cX11_anew 18 = .ok (.ldc2_w 313, 3) := by decide +kernel
theorem dX11_anew_21 : decode cX11_anew 21 = .ok (.ladd, 1) := by decide +kernel
theorem dX11_anew_22 : decode cX11_anew 22 = .ok (.ldc2_w 315, 3) := by decide +kernel
theorem dX11_anew_25 : decode cX11_anew 25 = .ok (.lrem, 1) := by decide +kernel
theorem dX11_anew_26 : decode cX11_anew 26 = .ok (.l2i, 1) := by decide +kernel
theorem dX11_anew_27 : decode cX11_anew 27 = .ok (.iastore, 1) := by decide +kernel
theorem dX11_anew_28 : decode cX11_anew 28 = .ok (.return_, 1) := by decide +kernel
def S_X11_anew (o0 : Nat) (μ : Me) (Q : Me → Prop) : Prop := mok μ o0 11 ∧ ∃ t2, mgr μ o0 0 = some t2 ∧ ∃ t3, mgr μ o0 0 = some t3 ∧ mok μ t3 12 ∧ vp_in (9 : Int32) (mln μ t3) ∧ mok μ t2 12 ∧ vp_in (9 : Int32) (mln μ t2) ∧ ∀ μ6, μ6 = msi μ t2 (9 : Int32).toNatClampNeg ((((mgi μ t3 (9 : Int32).toNatClampNeg).toInt64 * 463) + 353) - (((mgi μ t3 (9 : Int32).toNatClampNeg).toInt64 * 463) + 353) / 30643 * 30643).toInt32 → Q μ6
set_option maxHeartbeats 4000000 in
set_option maxRecDepth 100000 in
theorem t_X11_anew {x : GX} (f : Fx x cX11_anew RX11 1 (rmc 0 0 0)) {o0 : Nat} {μ : Me} {Q : Me → Prop} (hq : Rt x none (qV Q)) (h : S_X11_anew o0 μ Q) : G x 1 0 [(0, .ref (gB x + o0))] [] μ 0 0 := by
  unfold S_X11_anew at h
  refine g_aload_n f 0 dX11_anew_0 rfl rfl ?_
  obtain ⟨v1, h⟩ := h
  refine g_getR f fk_X11_7 v1 dX11_anew_1 rfl h (fun t2 h => ?_)
  refine g_bipush f 9 dX11_anew_4 kb_9 ?_
  refine g_aload_n f 0 dX11_anew_6 rfl rfl ?_
  refine g_getR f fk_X11_7 v1 dX11_anew_7 rfl h (fun t3 h => ?_)
  refine g_bipush f 9 dX11_anew_10 kb_9 ?_
  obtain ⟨v4, h⟩ := h
  refine g_iald f v4 dX11_anew_12 h (fun h => ?_)
  refine g_i2l f dX11_anew_13 ?_
  refine g_ldc2 f w_1715 dX11_anew_14 ?_
  refine g_lmul f dX11_anew_17 ?_
  refine g_ldc2 f w_1716 dX11_anew_18 ?_
  refine g_ladd f dX11_anew_21 ?_
  refine g_ldc2 f w_1717 dX11_anew_22 ?_
  refine g_lrem f dX11_anew_25 (by decide) ?_
  refine g_l2i f dX11_anew_26 ?_
  obtain ⟨v5, h⟩ := h
  refine g_iast f v5 dX11_anew_27 h (fun h => ?_)
  exact g_vret f hq (Nat.le_of_ble_eq_true rfl) (Nat.le_of_ble_eq_true rfl) dX11_anew_28 h
theorem c_X11_anew {Ω : OM} {o0 : Nat} {μ : Me} {Q : Me → Prop} (h : S_X11_anew o0 μ Q) : CT Ω yX11_anew cX11_anew 1 none (rmc 0 0 0) [.ref (oB Ω + o0)] μ (qV Q) := CT_of (by decide) rfl (by simp [lg_sl, Value.category]) (fun x hΩ f hq hi => by subst hΩ; exact t_X11_anew f hq h)
theorem dX11_isUp_0 : decode cX11_isUp 0 = .ok (.aload_n 0, 1) := by decide +kernel
theorem dX11_isUp_1 : decode cX11_isUp 1 = .ok (.iload_n 1, 1) := by decide +kernel
theorem dX11_isUp_2 : decode cX11_isUp 2 = .ok (.iconst 1, 1) := by decide +kernel
theorem dX11_isUp_3 : decode cX11_isUp 3 = .ok (.invokevirtual 74, 3) := by decide +kernel
theorem dX11_isUp_6 : decode cX11_isUp 6 = .ok (.ifCond .ne 7, 3) := by decide +kernel
theorem dX11_isUp_9 : decode cX11_isUp 9 = .ok (.iconst 1, 1) := by decide +kernel
theorem dX11_isUp_10 : decode cX11_isUp 10 = .ok (.goto 4, 3) := by decide +kernel
theorem dX11_isUp_13 : decode cX11_isUp 13 = .ok (.iconst 0, 1) := by decide +kernel
theorem dX11_isUp_14 : decode cX11_isUp 14 = .ok (.ireturn, 1) := by decide +kernel
def S_X11_isUp (o0 : Nat) (i1 : Int32) (μ : Me) (Q : Int32 → Me → Prop) : Prop := mok μ o0 11 ∧ S_X11_get o0 i1 1 μ (fun r4 μ2 => ((¬ r4 = 0 → Q 0 μ2) ∧ (r4 = 0 → Q 1 μ2)))
set_option maxHeartbeats 4000000 in
set_option maxRecDepth 100000 in
theorem t_X11_isUp {x : GX} (f : Fx x cX11_isUp RX11 2 (rmc 1 0 0)) {o0 : Nat} {i1 : Int32} {μ : Me} {Q : Int32 → Me → Prop} (hq : Rt x (some .boolean) (qI Q)) (h : S_X11_isUp o0 i1 μ Q) : G x 2 0 [(0, .ref (gB x + o0)), (1, .int i1)] [] μ 0 0 := by
  unfold S_X11_isUp at h
  refine g_aload_n f 0 dX11_isUp_0 rfl rfl ?_
  refine g_iload_n f 1 dX11_isUp_1 rfl rfl ?_
  refine g_iconst f 1 dX11_isUp_2 kc_1 ?_
  obtain ⟨v1, h⟩ := h
  refine g_callV f mk_X11_74 v1 (c_X11_get h) dX11_isUp_3 rfl rfl (Nat.le_of_ble_eq_true rfl) (rm_ok (by decide) (by decide)) ⟨Nat.le_of_ble_eq_true rfl, Nat.le_of_ble_eq_true rfl⟩ (kI fun r4 μ2 x3 h => ?_)
  refine g_if_ne f 13 dX11_isUp_6 rfl h (fun h => ?_) (fun h => ?_)
  · refine g_iconst f 0 dX11_isUp_13 kc_0 ?_
    exact g_zret f hq (Nat.le_of_ble_eq_true rfl) (Nat.le_of_ble_eq_true rfl) dX11_isUp_14 zb_0.1 h
  · refine g_iconst f 1 dX11_isUp_9 kc_1 ?_
    refine g_goto f 14 dX11_isUp_10 rfl ?_
    exact g_zret f hq (Nat.le_of_ble_eq_true rfl) (Nat.le_of_ble_eq_true rfl) dX11_isUp_14 zb_1.1 h
theorem c_X11_isUp {Ω : OM} {o0 : Nat} {i1 : Int32} {μ : Me} {Q : Int32 → Me → Prop} (h : S_X11_isUp o0 i1 μ Q) : CT Ω yX11_isUp cX11_isUp 2 (some .boolean) (rmc 1 0 0) [.ref (oB Ω + o0), .int i1] μ (qI Q) := CT_of (by decide) rfl (by simp [lg_sl, Value.category]) (fun x hΩ f hq hi => by subst hΩ; exact t_X11_isUp f hq h)
theorem dX11_name_0 : decode cX11_name 0 = .ok (.aload_n 0, 1) := by decide +kernel
theorem dX11_name_1 : decode cX11_name 1 = .ok (.iload_n 2, 1) := by decide +kernel
theorem dX11_name_2 : decode cX11_name 2 = .ok (.putfield 267, 3) := by decide +kernel
theorem dX11_name_5 : decode cX11_name 5 = .ok (.aload_n 0, 1) := by decide +kernel
theorem dX11_name_6 : decode cX11_name 6 = .ok (.getfield 32, 3) := by decide +kernel
theorem dX11_name_9 : decode cX11_name 9 = .ok (.iconst 0, 1) := by decide +kernel
theorem dX11_name_10 : decode cX11_name 10 = .ok (.aload_n 0, 1) := by decide +kernel
theorem dX11_name_11 : decode cX11_name 11 = .ok (.getfield 7, 3) := by decide +kernel
theorem dX11_name_14 : decode cX11_name 14 = .ok (.bipush 6, 2) := by decide +kernel
theorem dX11_name_16 : decode cX11_name 16 = .ok (.iaload, 1) := by decide +kernel
theorem dX11_name_17 : decode cX11_name 17 = .ok (.iastore, 1) := by decide +kernel
theorem dX11_name_18 : decode cX11_name 18 = .ok (.aload_n 0, 1) := by decide +kernel
theorem dX11_name_19 : decode cX11_name 19 = .ok (.getfield 32, 3) := by decide +kernel
theorem dX11_name_22 : decode cX11_name 22 = .ok (.iconst 1, 1) := by decide +kernel
theorem dX11_name_23 : decode cX11_name 23 = .ok (.aload_n 0, 1) := by decide +kernel
theorem dX11_name_24 : decode cX11_name 24 = .ok (.getfield 7, 3) := by decide +kernel
theorem dX11_name_27 : decode cX11_name 27 = .ok (.bipush 8, 2) := by decide +kernel
theorem dX11_name_29 : decode cX11_name 29 = .ok (.iaload, 1) := by decide +kernel
theorem dX11_name_30 : decode cX11_name 30 = .ok (.iastore, 1) := by decide +kernel
theorem dX11_name_31 : decode cX11_name 31 = .ok (.aload_n 0, 1) := by decide +kernel
theorem dX11_name_32 : decode cX11_name 32 = .ok (.getfield 32, 3) := by decide +kernel
theorem dX11_name_35 : decode cX11_name 35 = .ok (.iconst 2, 1) := by decide +kernel
theorem dX11_name_36 : decode cX11_name 36 = .ok (.iload_n 1, 1) := by decide +kernel
theorem dX11_name_37 : decode cX11_name 37 = .ok (.iastore, 1) := by decide +kernel
theorem dX11_name_38 : decode cX11_name 38 = .ok (.aload_n 0, 1) := by decide +kernel
theorem dX11_name_39 : decode cX11_name 39 = .ok (.getfield 32, 3) := by decide +kernel
theorem dX11_name_42 : decode cX11_name 42 = .ok (.iconst 3, 1) := by decide +kernel
theorem dX11_name_43 : decode cX11_name 43 = .ok (.aload_n 0, 1) := by decide +kernel
theorem dX11_name_44 : decode cX11_name 44 = .ok (.iload_n 1, 1) := by decide +kernel
theorem dX11_name_45 : decode cX11_name 45 = .ok (.iconst 3, 1) := by decide +kernel
theorem dX11_name_46 : decode cX11_name 46 = .ok (.invokevirtual 74, 3) := by decide +kernel
theorem dX11_name_49 : decode cX11_name 49 = .ok (.iastore, 1) := by decide +kernel
theorem dX11_name_50 : decode cX11_name 50 = .ok (.aload_n 0, 1) := by decide +kernel
theorem dX11_name_51 : decode cX11_name 51 = .ok (.getfield 32, 3) := by decide +kernel
theorem dX11_name_54 : decode cX11_name 54 = .ok (.iconst 4, 1) := by decide +kernel
theorem dX11_name_55 : decode cX11_name 55 = .ok (.aload_n 0, 1) := by decide +kernel
theorem dX11_name_56 : decode cX11_name 56 = .ok (.iload_n 1, 1) := by decide +kernel
theorem dX11_name_57 : decode cX11_name 57 = .ok (.iconst 4, 1) := by decide +kernel
theorem dX11_name_58 : decode cX11_name 58 = .ok (.invokevirtual 74, 3) := by decide +kernel
theorem dX11_name_61 : decode cX11_name 61 = .ok (.iastore, 1) := by decide +kernel
theorem dX11_name_62 : decode cX11_name 62 = .ok (.aload_n 0, 1) := by decide +kernel
theorem dX11_name_63 : decode cX11_name 63 = .ok (.getfield 32, 3) := by decide +kernel
theorem dX11_name_66 : decode cX11_name 66 = .ok (.iconst 5, 1) := by decide +kernel
theorem dX11_name_67 : decode cX11_name 67 = .ok (.aload_n 0, 1) := by decide +kernel
theorem dX11_name_68 : decode cX11_name 68 = .ok (.iload_n 1, 1) := by decide +kernel
theorem dX11_name_69 : decode cX11_name 69 = .ok (.iconst 5, 1) := by decide +kernel
theorem dX11_name_70 : decode cX11_name 70 = .ok (.invokevirtual 74, 3) := by decide +kernel
theorem dX11_name_73 : decode cX11_name 73 = .ok (.iastore, 1) := by decide +kernel
theorem dX11_name_74 : decode cX11_name 74 = .ok (.aload_n 0, 1) := by decide +kernel
theorem dX11_name_75 : decode cX11_name 75 = .ok (.getfield 32, 3) := by decide +kernel
theorem dX11_name_78 : decode cX11_name 78 = .ok (.bipush 6, 2) := by decide +kernel
theorem dX11_name_80 : decode cX11_name 80 = .ok (.aload_n 0, 1) := by decide +kernel
theorem dX11_name_81 : decode cX11_name 81 = .ok (.iload_n 1, 1) := by decide +kernel
theorem dX11_name_82 : decode cX11_name 82 = .ok (.iconst 0, 1) := by decide +kernel
theorem dX11_name_83 : decode cX11_name 83 = .ok (.invokevirtual 74, 3) := by decide +kernel
theorem dX11_name_86 : decode cX11_name 86 = .ok (.iastore, 1) := by decide +kernel
theorem dX11_name_87 : decode cX11_name 87 = .ok (.return_, 1) := by decide +kernel
def S_X11_name (o0 : Nat) (i1 : Int32) (i2 : Int32) (μ : Me) (Q : Me → Prop) : Prop := mok μ o0 11 ∧ ∀ μ2, μ2 = msi μ o0 21 i2 → ∃ t3, mgr μ2 o0 20 = some t3 ∧ ∃ t4, mgr μ2 o0 0 = some t4 ∧ mok μ2 t4 12 ∧ vp_in (6 : Int32) (mln μ2 t4) ∧ mok μ2 t3 12 ∧ vp_in (0 : Int32) (mln μ2 t3) ∧ ∀ μ7, μ7 = msi μ2 t3 (0 : Int32).toNatClampNeg (mgi μ2 t4 (6 : Int32).toNatClampNeg) → ∃ t8, mgr μ7 o0 20 = some t8 ∧ ∃ t9, mgr μ7 o0 0 = some t9 ∧ mok μ7 t9 12 ∧ vp_in (8 : Int32) (mln μ7 t9) ∧ mok μ7 t8 12 ∧ vp_in (1 : Int32) (mln μ7 t8) ∧ ∀ μ12, μ12 = msi μ7 t8 (1 : Int32).toNatClampNeg (mgi μ7 t9 (8 : Int32).toNatClampNeg) → ∃ t13, mgr μ12 o0 20 = some t13 ∧ mok μ12 t13 12 ∧ vp_in (2 : Int32) (mln μ12 t13) ∧ ∀ μ15, μ15 = msi μ12 t13 (2 : Int32).toNatClampNeg i1 → ∃ t16, mgr μ15 o0 20 = some t16 ∧ S_X11_get o0 i1 3 μ15 (fun r19 μ17 => mok μ17 t16 12 ∧ vp_in (3 : Int32) (mln μ17 t16) ∧ ∀ μ21, μ21 = msi μ17 t16 (3 : Int32).toNatClampNeg r19 → ∃ t22, mgr μ21 o0 20 = some t22 ∧ S_X11_get o0 i1 4 μ21 (fun r25 μ23 => mok μ23 t22 12 ∧ vp_in (4 : Int32) (mln μ23 t22) ∧ ∀ μ27, μ27 = msi μ23 t22 (4 : Int32).toNatClampNeg r25 → ∃ t28, mgr μ27 o0 20 = some t28 ∧ S_X11_get o0 i1 5 μ27 (fun r31 μ29 => mok μ29 t28 12 ∧ vp_in (5 : Int32) (mln μ29 t28) ∧ ∀ μ33, μ33 = msi μ29 t28 (5 : Int32).toNatClampNeg r31 → ∃ t34, mgr μ33 o0 20 = some t34 ∧ S_X11_get o0 i1 0 μ33 (fun r37 μ35 => mok μ35 t34 12 ∧ vp_in (6 : Int32) (mln μ35 t34) ∧ ∀ μ39, μ39 = msi μ35 t34 (6 : Int32).toNatClampNeg r37 → Q μ39))))
set_option maxHeartbeats 4000000 in
set_option maxRecDepth 100000 in
theorem t_X11_name {x : GX} (f : Fx x cX11_name RX11 3 (rmc 1 0 0)) {o0 : Nat} {i1 : Int32} {i2 : Int32} {μ : Me} {Q : Me → Prop} (hq : Rt x none (qV Q)) (h : S_X11_name o0 i1 i2 μ Q) : G x 3 0 [(0, .ref (gB x + o0)), (1, .int i1), (2, .int i2)] [] μ 0 0 := by
  unfold S_X11_name at h
  refine g_aload_n f 0 dX11_name_0 rfl rfl ?_
  refine g_iload_n f 2 dX11_name_1 rfl rfl ?_
  obtain ⟨v1, h⟩ := h
  refine g_putI f fk_X11_267 v1 dX11_name_2 rfl h (fun h => ?_)
  refine g_aload_n f 0 dX11_name_5 rfl rfl ?_
  refine g_getR f fk_X11_32 v1 dX11_name_6 rfl h (fun t3 h => ?_)
  refine g_iconst f 0 dX11_name_9 kc_0 ?_
  refine g_aload_n f 0 dX11_name_10 rfl rfl ?_
  refine g_getR f fk_X11_7 v1 dX11_name_11 rfl h (fun t4 h => ?_)
  refine g_bipush f 6 dX11_name_14 kb_6 ?_
  obtain ⟨v5, h⟩ := h
  refine g_iald f v5 dX11_name_16 h (fun h => ?_)
  obtain ⟨v6, h⟩ := h
  refine g_iast f v6 dX11_name_17 h (fun h => ?_)
  refine g_aload_n f 0 dX11_name_18 rfl rfl ?_
  refine g_getR f fk_X11_32 v1 dX11_name_19 rfl h (fun t8 h => ?_)
  refine g_iconst f 1 dX11_name_22 kc_1 ?_
  refine g_aload_n f 0 dX11_name_23 rfl rfl ?_
  refine g_getR f fk_X11_7 v1 dX11_name_24 rfl h (fun t9 h => ?_)
  refine g_bipush f 8 dX11_name_27 kb_8 ?_
  obtain ⟨v10, h⟩ := h
  refine g_iald f v10 dX11_name_29 h (fun h => ?_)
  obtain ⟨v11, h⟩ := h
  refine g_iast f v11 dX11_name_30 h (fun h => ?_)
  refine g_aload_n f 0 dX11_name_31 rfl rfl ?_
  refine g_getR f fk_X11_32 v1 dX11_name_32 rfl h (fun t13 h => ?_)
  refine g_iconst f 2 dX11_name_35 kc_2 ?_
  refine g_iload_n f 1 dX11_name_36 rfl rfl ?_
  obtain ⟨v14, h⟩ := h
  refine g_iast f v14 dX11_name_37 h (fun h => ?_)
  refine g_aload_n f 0 dX11_name_38 rfl rfl ?_
  refine g_getR f fk_X11_32 v1 dX11_name_39 rfl h (fun t16 h => ?_)
  refine g_iconst f 3 dX11_name_42 kc_3 ?_
  refine g_aload_n f 0 dX11_name_43 rfl rfl ?_
  refine g_iload_n f 1 dX11_name_44 rfl rfl ?_
  refine g_iconst f 3 dX11_name_45 kc_3 ?_
  refine g_callV f mk_X11_74 v1 (c_X11_get h) dX11_name_46 rfl rfl (Nat.le_of_ble_eq_true rfl) (rm_ok (by decide) (by decide)) ⟨Nat.le_of_ble_eq_true rfl, Nat.le_of_ble_eq_true rfl⟩ (kI fun r19 μ17 x18 h => ?_)
  obtain ⟨v20, h⟩ := h
  refine g_iast f v20 dX11_name_49 h (fun h => ?_)
  refine g_aload_n f 0 dX11_name_50 rfl rfl ?_
  have v1 := mex_ok x18 v1
  refine g_getR f fk_X11_32 v1 dX11_name_51 rfl h (fun t22 h => ?_)
  refine g_iconst f 4 dX11_name_54 kc_4 ?_
  refine g_aload_n f 0 dX11_name_55 rfl rfl ?_
  refine g_iload_n f 1 dX11_name_56 rfl rfl ?_
  refine g_iconst f 4 dX11_name_57 kc_4 ?_
  refine g_callV f mk_X11_74 v1 (c_X11_get h) dX11_name_58 rfl rfl (Nat.le_of_ble_eq_true rfl) (rm_ok (by decide) (by decide)) ⟨Nat.le_of_ble_eq_true rfl, Nat.le_of_ble_eq_true rfl⟩ (kI fun r25 μ23 x24 h => ?_)
  obtain ⟨v26, h⟩ := h
  refine g_iast f v26 dX11_name_61 h (fun h => ?_)
  refine g_aload_n f 0 dX11_name_62 rfl rfl ?_
  have v1 := mex_ok x24 v1
  refine g_getR f fk_X11_32 v1 dX11_name_63 rfl h (fun t28 h => ?_)
  refine g_iconst f 5 dX11_name_66 kc_5 ?_
  refine g_aload_n f 0 dX11_name_67 rfl rfl ?_
  refine g_iload_n f 1 dX11_name_68 rfl rfl ?_
  refine g_iconst f 5 dX11_name_69 kc_5 ?_
  refine g_callV f mk_X11_74 v1 (c_X11_get h) dX11_name_70 rfl rfl (Nat.le_of_ble_eq_true rfl) (rm_ok (by decide) (by decide)) ⟨Nat.le_of_ble_eq_true rfl, Nat.le_of_ble_eq_true rfl⟩ (kI fun r31 μ29 x30 h => ?_)
  obtain ⟨v32, h⟩ := h
  refine g_iast f v32 dX11_name_73 h (fun h => ?_)
  refine g_aload_n f 0 dX11_name_74 rfl rfl ?_
  have v1 := mex_ok x30 v1
  refine g_getR f fk_X11_32 v1 dX11_name_75 rfl h (fun t34 h => ?_)
  refine g_bipush f 6 dX11_name_78 kb_6 ?_
  refine g_aload_n f 0 dX11_name_80 rfl rfl ?_
  refine g_iload_n f 1 dX11_name_81 rfl rfl ?_
  refine g_iconst f 0 dX11_name_82 kc_0 ?_
  refine g_callV f mk_X11_74 v1 (c_X11_get h) dX11_name_83 rfl rfl (Nat.le_of_ble_eq_true rfl) (rm_ok (by decide) (by decide)) ⟨Nat.le_of_ble_eq_true rfl, Nat.le_of_ble_eq_true rfl⟩ (kI fun r37 μ35 x36 h => ?_)
  obtain ⟨v38, h⟩ := h
  refine g_iast f v38 dX11_name_86 h (fun h => ?_)
  exact g_vret f hq (Nat.le_of_ble_eq_true rfl) (Nat.le_of_ble_eq_true rfl) dX11_name_87 h
theorem c_X11_name {Ω : OM} {o0 : Nat} {i1 : Int32} {i2 : Int32} {μ : Me} {Q : Me → Prop} (h : S_X11_name o0 i1 i2 μ Q) : CT Ω yX11_name cX11_name 3 none (rmc 1 0 0) [.ref (oB Ω + o0), .int i1, .int i2] μ (qV Q) := CT_of (by decide) rfl (by simp [lg_sl, Value.category]) (fun x hΩ f hq hi => by subst hΩ; exact t_X11_name f hq h)
theorem dX11_bits_0 : decode cX11_bits 0 = .ok (.iconst 0, 1) := by decide +kernel
theorem dX11_bits_1 : decode cX11_bits 1 = .ok (.istore_n 1, 1) := by decide +kernel
theorem dX11_bits_2 : decode cX11_bits 2 = .ok (.iload_n 0, 1) := by decide +kernel
theorem dX11_bits_3 : decode cX11_bits 3 = .ok (.istore_n 2, 1) := by decide +kernel
theorem dX11_bits_4 : decode cX11_bits 4 = .ok (.iload_n 2, 1) := by decide +kernel
theorem dX11_bits_5 : decode cX11_bits 5 = .ok (.ifCond .eq 15, 3) := by decide +kernel
theorem dX11_bits_8 : decode cX11_bits 8 = .ok (.iinc 1 1, 3) := by decide +kernel
theorem dX11_bits_11 : decode cX11_bits 11 = .ok (.iload_n 2, 1) := by decide +kernel
theorem dX11_bits_12 : decode cX11_bits 12 = .ok (.iload_n 2, 1) := by decide +kernel
theorem dX11_bits_13 : decode cX11_bits 13 = .ok (.iconst 1, 1) := by decide +kernel
theorem dX11_bits_14 : decode cX11_bits 14 = .ok (.isub, 1) := by decide +kernel
theorem dX11_bits_15 : decode cX11_bits 15 = .ok (.iand, 1) := by decide +kernel
theorem dX11_bits_16 : decode cX11_bits 16 = .ok (.istore_n 2, 1) := by decide +kernel
theorem dX11_bits_17 : decode cX11_bits 17 = .ok (.goto (-13), 3) := by decide +kernel
theorem dX11_bits_20 : decode cX11_bits 20 = .ok (.iload_n 1, 1) := by decide +kernel
theorem dX11_bits_21 : decode cX11_bits 21 = .ok (.ireturn, 1) := by decide +kernel
def B_X11_bits_4 (i1 : Int32) (i2 : Int32) (μ : Me) (K4 : Int32 → Int32 → Me → Prop) (Q : Int32 → Me → Prop) : Prop := ((i2 = 0 → Q i1 μ) ∧ (¬ i2 = 0 → K4 (i1 + 1) (i2 &&& (i2 - 1)) μ))
set_option maxHeartbeats 4000000 in
set_option maxRecDepth 100000 in
theorem tB_X11_bits_4 {x : GX} (f : Fx x cX11_bits RX11 3 (rmc 0 0 0)) {i1 : Int32} {i2 : Int32} {μ : Me} {Q : Int32 → Me → Prop} (hq : Rt x (some .int) (qI Q)) {K4 : Int32 → Int32 → Me → Prop} (hK4 : ∀ (a1 : Int32) (a2 : Int32) (ν : Me), K4 a1 a2 ν → G x 3 4 [(1, .int a1), (2, .int a2)] [] ν 0 0) (h : B_X11_bits_4 i1 i2 μ K4 Q) : G x 3 4 [(1, .int i1), (2, .int i2)] [] μ 0 0 := by
  unfold B_X11_bits_4 at h
  refine g_iload_n f 1 dX11_bits_4 rfl rfl ?_
  refine g_if_eq f 20 dX11_bits_5 rfl h (fun h => ?_) (fun h => ?_)
  · refine g_iload_n f 0 dX11_bits_20 rfl rfl ?_
    exact g_iret f hq (Nat.le_of_ble_eq_true rfl) (Nat.le_of_ble_eq_true rfl) dX11_bits_21 h
  · refine h_iinc f 0 1 dX11_bits_8 rfl kc_1 (by decide) ?_
    refine g_iload_n f 1 dX11_bits_11 rfl rfl ?_
    refine g_iload_n f 1 dX11_bits_12 rfl rfl ?_
    refine g_iconst f 1 dX11_bits_13 kc_1 ?_
    refine g_isub f dX11_bits_14 ?_
    refine g_iand f dX11_bits_15 ?_
    refine h_istore_n f dX11_bits_16 rfl (by decide) ?_
    refine g_goto f 4 dX11_bits_17 rfl ?_
    exact h_sub [1, 0] rfl (hK4 _ _ _ h)
def L_X11_bits_4 (i1 : Int32) (i2 : Int32) (μ : Me) (Q : Int32 → Me → Prop) : Prop := ∃ I : Int32 → Int32 → Me → Nat → Prop, (∃ n, I i1 i2 μ n) ∧ ∀ (i1 : Int32) (i2 : Int32) (μ : Me) (n : Nat), I i1 i2 μ n → B_X11_bits_4 i1 i2 μ (fun a1 a2 ν => ∃ n', n' < n ∧ I a1 a2 ν n') Q
set_option maxHeartbeats 4000000 in
set_option maxRecDepth 100000 in
theorem tL_X11_bits_4 {x : GX} (f : Fx x cX11_bits RX11 3 (rmc 0 0 0)) {i1 : Int32} {i2 : Int32} {μ : Me} {Q : Int32 → Me → Prop} (hq : Rt x (some .int) (qI Q)) (h : L_X11_bits_4 i1 i2 μ Q) : G x 3 4 [(1, .int i1), (2, .int i2)] [] μ 0 0 := by
  obtain ⟨I, ⟨n, hI⟩, hs⟩ := h
  induction n using Nat.strongRecOn generalizing i1 i2 μ with
  | ind n ih => exact tB_X11_bits_4 f hq (fun a1 a2 ν hk => by obtain ⟨n2, hn, hI2⟩ := hk; exact ih n2 hn hI2) (hs _ _ _ _ hI)
def S_X11_bits (i0 : Int32) (μ : Me) (Q : Int32 → Me → Prop) : Prop := L_X11_bits_4 0 i0 μ Q
set_option maxHeartbeats 4000000 in
set_option maxRecDepth 100000 in
theorem t_X11_bits {x : GX} (f : Fx x cX11_bits RX11 3 (rmc 0 0 0)) {i0 : Int32} {μ : Me} {Q : Int32 → Me → Prop} (hq : Rt x (some .int) (qI Q)) (h : S_X11_bits i0 μ Q) : G x 3 0 [(0, .int i0)] [] μ 0 0 := by
  unfold S_X11_bits at h
  refine g_iconst f 0 dX11_bits_0 kc_0 ?_
  refine h_istore_n f dX11_bits_1 rfl (by decide) ?_
  refine g_iload_n f 1 dX11_bits_2 rfl rfl ?_
  refine h_istore_n f dX11_bits_3 rfl (by decide) ?_
  exact h_sub [1, 0] rfl (tL_X11_bits_4 f hq h)
theorem c_X11_bits {Ω : OM} {i0 : Int32} {μ : Me} {Q : Int32 → Me → Prop} (h : S_X11_bits i0 μ Q) : CT Ω yX11_bits cX11_bits 3 (some .int) (rmc 0 0 0) [.int i0] μ (qI Q) := CT_of (by decide) rfl (by simp [lg_sl, Value.category]) (fun x hΩ f hq hi => by subst hΩ; exact t_X11_bits f hq h)
theorem dX11_ringsFor_0 : decode cX11_ringsFor 0 = .ok (.lload_n 1, 1) := by decide +kernel
theorem dX11_ringsFor_1 : decode cX11_ringsFor 1 = .ok (.lconst 0, 1) := by decide +kernel
theorem dX11_ringsFor_2 : decode cX11_ringsFor 2 = .ok (.lcmp, 1) := by decide +kernel
theorem dX11_ringsFor_3 : decode cX11_ringsFor 3 = .ok (.ifCond .lt 31, 3) := by decide +kernel
theorem dX11_ringsFor_6 : decode cX11_ringsFor 6 = .ok (.lload_n 1, 1) := by decide +kernel
theorem dX11_ringsFor_7 : decode cX11_ringsFor 7 = .ok (.aload_n 0, 1) := by decide +kernel
theorem dX11_ringsFor_8 : decode cX11_ringsFor 8 = .ok (.getfield 7, 3) := by decide +kernel
theorem dX11_ringsFor_11 : decode cX11_ringsFor 11 = .ok (.iconst 0, 1) := by decide +kernel
theorem dX11_ringsFor_12 : decode cX11_ringsFor 12 = .ok (.iaload, 1) := by decide +kernel
theorem dX11_ringsFor_13 : decode cX11_ringsFor 13 = .ok (.i2l, 1) := by decide +kernel
theorem dX11_ringsFor_14 : decode cX11_ringsFor 14 = .ok (.lcmp, 1) := by decide +kernel
theorem dX11_ringsFor_15 : decode cX11_ringsFor 15 = .ok (.ifCond .ge 19, 3) := by decide +kernel
theorem dX11_ringsFor_18 : decode cX11_ringsFor 18 = .ok (.aload_n 0, 1) := by decide +kernel
theorem dX11_ringsFor_19 : decode cX11_ringsFor 19 = .ok (.getfield 267, 3) := by decide +kernel
theorem dX11_ringsFor_22 : decode cX11_ringsFor 22 = .ok (.lload_n 1, 1) := by decide +kernel
theorem dX11_ringsFor_23 : decode cX11_ringsFor 23 = .ok (.l2i, 1) := by decide +kernel
theorem dX11_ringsFor_24 : decode cX11_ringsFor 24 = .ok (.invokestatic 246, 3) := by decide +kernel
theorem dX11_ringsFor_27 : decode cX11_ringsFor 27 = .ok (.ifCond .eq 7, 3) := by decide +kernel
theorem dX11_ringsFor_30 : decode cX11_ringsFor 30 = .ok (.lconst 1, 1) := by decide +kernel
theorem dX11_ringsFor_31 : decode cX11_ringsFor 31 = .ok (.goto 4, 3) := by decide +kernel
theorem dX11_ringsFor_34 : decode cX11_ringsFor 34 = .ok (.lconst 0, 1) := by decide +kernel
theorem dX11_ringsFor_35 : decode cX11_ringsFor 35 = .ok (.lreturn, 1) := by decide +kernel
def S_X11_ringsFor (o0 : Nat) (j1 : Int64) (μ : Me) (Q : Int64 → Me → Prop) : Prop := (((lg_cmp j1 (0 : Int64)) < 0 → Q 0 μ) ∧ (¬ (lg_cmp j1 (0 : Int64)) < 0 → mok μ o0 11 ∧ ∃ t2, mgr μ o0 0 = some t2 ∧ mok μ t2 12 ∧ vp_in (0 : Int32) (mln μ t2) ∧ ((0 ≤ (lg_cmp j1 (mgi μ t2 (0 : Int32).toNatClampNeg).toInt64) → Q 0 μ) ∧ (¬ 0 ≤ (lg_cmp j1 (mgi μ t2 (0 : Int32).toNatClampNeg).toInt64) → S_X11_has (mgi μ o0 21) j1.toInt32 μ (fun r6 μ4 => ((r6 = 0 → Q 0 μ4) ∧ (¬ r6 = 0 → Q 1 μ4)))))))
set_option maxHeartbeats 4000000 in
set_option maxRecDepth 100000 in
theorem t_X11_ringsFor {x : GX} (f : Fx x cX11_ringsFor RX11 3 (rmc 1 0 0)) {o0 : Nat} {j1 : Int64} {μ : Me} {Q : Int64 → Me → Prop} (hq : Rt x (some .long) (qL Q)) (h : S_X11_ringsFor o0 j1 μ Q) : G x 3 0 [(0, .ref (gB x + o0)), (1, .long j1)] [] μ 0 0 := by
  unfold S_X11_ringsFor at h
  refine g_lload_n f 1 dX11_ringsFor_0 rfl rfl ?_
  refine g_lconst f 0 dX11_ringsFor_1 rfl ?_
  refine g_lcmp f dX11_ringsFor_2 ?_
  refine g_if_lt f 34 dX11_ringsFor_3 rfl h (fun h => ?_) (fun h => ?_)
  · refine g_lconst f 0 dX11_ringsFor_34 rfl ?_
    exact g_lret f hq (Nat.le_of_ble_eq_true rfl) (Nat.le_of_ble_eq_true rfl) dX11_ringsFor_35 h
  · refine g_lload_n f 1 dX11_ringsFor_6 rfl rfl ?_
    refine g_aload_n f 0 dX11_ringsFor_7 rfl rfl ?_
    obtain ⟨v1, h⟩ := h
    refine g_getR f fk_X11_7 v1 dX11_ringsFor_8 rfl h (fun t2 h => ?_)
    refine g_iconst f 0 dX11_ringsFor_11 kc_0 ?_
    obtain ⟨v3, h⟩ := h
    refine g_iald f v3 dX11_ringsFor_12 h (fun h => ?_)
    refine g_i2l f dX11_ringsFor_13 ?_
    refine g_lcmp f dX11_ringsFor_14 ?_
    refine g_if_ge f 34 dX11_ringsFor_15 rfl h (fun h => ?_) (fun h => ?_)
    · refine g_lconst f 0 dX11_ringsFor_34 rfl ?_
      exact g_lret f hq (Nat.le_of_ble_eq_true rfl) (Nat.le_of_ble_eq_true rfl) dX11_ringsFor_35 h
    · refine g_aload_n f 0 dX11_ringsFor_18 rfl rfl ?_
      refine g_getI f fk_X11_267 v1 dX11_ringsFor_19 rfl ?_
      refine g_lload_n f 1 dX11_ringsFor_22 rfl rfl ?_
      refine g_l2i f dX11_ringsFor_23 ?_
      refine g_callS f mk_X11_246 (c_X11_has h) dX11_ringsFor_24 rfl rfl (Nat.le_of_ble_eq_true rfl) (rm_ok (by decide) (by decide)) ⟨Nat.le_of_ble_eq_true rfl, Nat.le_of_ble_eq_true rfl⟩ (kI fun r6 μ4 x5 h => ?_)
      refine g_if_eq f 34 dX11_ringsFor_27 rfl h (fun h => ?_) (fun h => ?_)
      · refine g_lconst f 0 dX11_ringsFor_34 rfl ?_
        exact g_lret f hq (Nat.le_of_ble_eq_true rfl) (Nat.le_of_ble_eq_true rfl) dX11_ringsFor_35 h
      · refine g_lconst f 1 dX11_ringsFor_30 rfl ?_
        refine g_goto f 35 dX11_ringsFor_31 rfl ?_
        exact g_lret f hq (Nat.le_of_ble_eq_true rfl) (Nat.le_of_ble_eq_true rfl) dX11_ringsFor_35 h
theorem c_X11_ringsFor {Ω : OM} {o0 : Nat} {j1 : Int64} {μ : Me} {Q : Int64 → Me → Prop} (h : S_X11_ringsFor o0 j1 μ Q) : CT Ω yX11_ringsFor cX11_ringsFor 3 (some .long) (rmc 1 0 0) [.ref (oB Ω + o0), .long j1] μ (qL Q) := CT_of (by decide) rfl (by simp [lg_sl, Value.category]) (fun x hΩ f hq hi => by subst hΩ; exact t_X11_ringsFor f hq h)
theorem dX11_clip_0 : decode cX11_clip 0 = .ok (.lload_n 0, 1) := by decide +kernel
theorem dX11_clip_1 : decode cX11_clip 1 = .ok (.ldc2_w 259, 3) := by decide +kernel
theorem dX11_clip_4 : decode cX11_clip 4 = .ok (.lcmp, 1) := by decide +kernel
theorem dX11_clip_5 : decode cX11_clip 5 = .ok (.ifCond .le 9, 3) := by decide +kernel
theorem dX11_clip_8 : decode cX11_clip 8 = .ok (.ldc2_w 259, 3) := by decide +kernel
theorem dX11_clip_11 : decode cX11_clip 11 = .ok (.goto 18, 3) := by decide +kernel
theorem dX11_clip_14 : decode cX11_clip 14 = .ok (.lload_n 0, 1) := by decide +kernel
theorem dX11_clip_15 : decode cX11_clip 15 = .ok (.ldc2_w 261, 3) := by decide +kernel
theorem dX11_clip_18 : decode cX11_clip 18 = .ok (.lcmp, 1) := by decide +kernel
theorem dX11_clip_19 : decode cX11_clip 19 = .ok (.ifCond .ge 9, 3) := by decide +kernel
theorem dX11_clip_22 : decode cX11_clip 22 = .ok (.ldc2_w 261, 3) := by decide +kernel
theorem dX11_clip_25 : decode cX11_clip 25 = .ok (.goto 4, 3) := by decide +kernel
theorem dX11_clip_28 : decode cX11_clip 28 = .ok (.lload_n 0, 1) := by decide +kernel
theorem dX11_clip_29 : decode cX11_clip 29 = .ok (.lreturn, 1) := by decide +kernel
def S_X11_clip (j0 : Int64) (μ : Me) (Q : Int64 → Me → Prop) : Prop := (((lg_cmp j0 (1000000 : Int64)) ≤ 0 → ((0 ≤ (lg_cmp j0 ((-1000000) : Int64)) → Q j0 μ) ∧ (¬ 0 ≤ (lg_cmp j0 ((-1000000) : Int64)) → Q (-1000000) μ))) ∧ (¬ (lg_cmp j0 (1000000 : Int64)) ≤ 0 → Q 1000000 μ))
set_option maxHeartbeats 4000000 in
set_option maxRecDepth 100000 in
theorem t_X11_clip {x : GX} (f : Fx x cX11_clip RX11 2 (rmc 0 0 0)) {j0 : Int64} {μ : Me} {Q : Int64 → Me → Prop} (hq : Rt x (some .long) (qL Q)) (h : S_X11_clip j0 μ Q) : G x 2 0 [(0, .long j0)] [] μ 0 0 := by
  unfold S_X11_clip at h
  refine g_lload_n f 0 dX11_clip_0 rfl rfl ?_
  refine g_ldc2 f w_1755 dX11_clip_1 ?_
  refine g_lcmp f dX11_clip_4 ?_
  refine g_if_le f 14 dX11_clip_5 rfl h (fun h => ?_) (fun h => ?_)
  · refine g_lload_n f 0 dX11_clip_14 rfl rfl ?_
    refine g_ldc2 f w_1756 dX11_clip_15 ?_
    refine g_lcmp f dX11_clip_18 ?_
    refine g_if_ge f 28 dX11_clip_19 rfl h (fun h => ?_) (fun h => ?_)
    · refine g_lload_n f 0 dX11_clip_28 rfl rfl ?_
      exact g_lret f hq (Nat.le_of_ble_eq_true rfl) (Nat.le_of_ble_eq_true rfl) dX11_clip_29 h
    · refine g_ldc2 f w_1756 dX11_clip_22 ?_
      refine g_goto f 29 dX11_clip_25 rfl ?_
      exact g_lret f hq (Nat.le_of_ble_eq_true rfl) (Nat.le_of_ble_eq_true rfl) dX11_clip_29 h
  · refine g_ldc2 f w_1755 dX11_clip_8 ?_
    refine g_goto f 29 dX11_clip_11 rfl ?_
    exact g_lret f hq (Nat.le_of_ble_eq_true rfl) (Nat.le_of_ble_eq_true rfl) dX11_clip_29 h
theorem c_X11_clip {Ω : OM} {j0 : Int64} {μ : Me} {Q : Int64 → Me → Prop} (h : S_X11_clip j0 μ Q) : CT Ω yX11_clip cX11_clip 2 (some .long) (rmc 0 0 0) [.long j0] μ (qL Q) := CT_of (by decide) rfl (by simp [lg_sl, Value.category]) (fun x hΩ f hq hi => by subst hΩ; exact t_X11_clip f hq h)
theorem dX11_two_0 : decode cX11_two 0 = .ok (.iload_n 0, 1) := by decide +kernel
theorem dX11_two_1 : decode cX11_two 1 = .ok (.tableswitch 48 6 8 #[27, 34, 41], 27) := by decide +kernel
theorem dX11_two_28 : decode cX11_two 28 = .ok (.lload_n 1, 1) := by decide +kernel
theorem dX11_two_29 : decode cX11_two 29 = .ok (.lload_n 3, 1) := by decide +kernel
theorem dX11_two_30 : decode cX11_two 30 = .ok (.ladd, 1) := by decide +kernel
theorem dX11_two_31 : decode cX11_two 31 = .ok (.invokestatic 263, 3) := by decide +kernel
theorem dX11_two_34 : decode cX11_two 34 = .ok (.lreturn, 1) := by decide +kernel
theorem dX11_two_35 : decode cX11_two 35 = .ok (.lload_n 1, 1) := by decide +kernel
theorem dX11_two_36 : decode cX11_two 36 = .ok (.lload_n 3, 1) := by decide +kernel
theorem dX11_two_37 : decode cX11_two 37 = .ok (.lsub, 1) := by decide +kernel
theorem dX11_two_38 : decode cX11_two 38 = .ok (.invokestatic 263, 3) := by decide +kernel
theorem dX11_two_41 : decode cX11_two 41 = .ok (.lreturn, 1) := by decide +kernel
theorem dX11_two_42 : decode cX11_two 42 = .ok (.lload_n 1, 1) := by decide +kernel
theorem dX11_two_43 : decode cX11_two 43 = .ok (.lload_n 3, 1) := by decide +kernel
theorem dX11_two_44 : decode cX11_two 44 = .ok (.lmul, 1) := by decide +kernel
theorem dX11_two_45 : decode cX11_two 45 = .ok (.invokestatic 263, 3) := by decide +kernel
theorem dX11_two_48 : decode cX11_two 48 = .ok (.lreturn, 1) := by decide +kernel
theorem dX11_two_49 : decode cX11_two 49 = .ok (.lload_n 3, 1) := by decide +kernel
theorem dX11_two_50 : decode cX11_two 50 = .ok (.lconst 0, 1) := by decide +kernel
theorem dX11_two_51 : decode cX11_two 51 = .ok (.lcmp, 1) := by decide +kernel
theorem dX11_two_52 : decode cX11_two 52 = .ok (.ifCond .ne 7, 3) := by decide +kernel
theorem dX11_two_55 : decode cX11_two 55 = .ok (.lconst 0, 1) := by decide +kernel
theorem dX11_two_56 : decode cX11_two 56 = .ok (.goto 9, 3) := by decide +kernel
theorem dX11_two_59 : decode cX11_two 59 = .ok (.lload_n 1, 1) := by decide +kernel
theorem dX11_two_60 : decode cX11_two 60 = .ok (.lload_n 3, 1) := by decide +kernel
theorem dX11_two_61 : decode cX11_two 61 = .ok (.ldiv, 1) := by decide +kernel
theorem dX11_two_62 : decode cX11_two 62 = .ok (.invokestatic 263, 3) := by decide +kernel
theorem dX11_two_65 : decode cX11_two 65 = .ok (.lreturn, 1) := by decide +kernel
def S_X11_two (i0 : Int32) (j1 : Int64) (j3 : Int64) (μ : Me) (Q : Int64 → Me → Prop) : Prop := ((i0 = 6 → S_X11_clip (j1 + j3) μ (fun r4 μ2 => Q r4 μ2)) ∧ (¬ i0 = 6 → (i0 = 7 → S_X11_clip (j1 - j3) μ (fun r8 μ6 => Q r8 μ6)) ∧ (¬ i0 = 7 → (i0 = 8 → S_X11_clip (j1 * j3) μ (fun r12 μ10 => Q r12 μ10)) ∧ (¬ i0 = 8 → ((¬ (lg_cmp j3 (0 : Int64)) = 0 → ¬ j3 = 0 ∧ S_X11_clip (j1 / j3) μ (fun r16 μ14 => Q r16 μ14)) ∧ ((lg_cmp j3 (0 : Int64)) = 0 → Q 0 μ))))))
set_option maxHeartbeats 4000000 in
set_option maxRecDepth 100000 in
theorem t_X11_two {x : GX} (f : Fx x cX11_two RX11 5 (rmc 1 0 0)) {i0 : Int32} {j1 : Int64} {j3 : Int64} {μ : Me} {Q : Int64 → Me → Prop} (hq : Rt x (some .long) (qL Q)) (h : S_X11_two i0 j1 j3 μ Q) : G x 5 0 [(0, .int i0), (1, .long j1), (3, .long j3)] [] μ 0 0 := by
  unfold S_X11_two at h
  refine g_iload_n f 0 dX11_two_0 rfl rfl ?_
  rcases dec_or h with ⟨e1, h⟩ | ⟨e1, h⟩
  · refine g_tableIn f 28 dX11_two_1 (by rw [e1] <;> decide) (by rw [e1] <;> decide) (by rw [e1] <;> rfl) rfl ?_
    refine g_lload_n f 1 dX11_two_28 rfl rfl ?_
    refine g_lload_n f 2 dX11_two_29 rfl rfl ?_
    refine g_ladd f dX11_two_30 ?_
    refine g_callS f mk_X11_263 (c_X11_clip h) dX11_two_31 rfl rfl (Nat.le_of_ble_eq_true rfl) (rm_ok (by decide) (by decide)) ⟨Nat.le_of_ble_eq_true rfl, Nat.le_of_ble_eq_true rfl⟩ (kL fun r4 μ2 x3 h => ?_)
    exact g_lret f hq (Nat.le_of_ble_eq_true rfl) (Nat.le_of_ble_eq_true rfl) dX11_two_34 h
  · skip
    rcases dec_or h with ⟨e5, h⟩ | ⟨e5, h⟩
    · refine g_tableIn f 35 dX11_two_1 (by rw [e5] <;> decide) (by rw [e5] <;> decide) (by rw [e5] <;> rfl) rfl ?_
      refine g_lload_n f 1 dX11_two_35 rfl rfl ?_
      refine g_lload_n f 2 dX11_two_36 rfl rfl ?_
      refine g_lsub f dX11_two_37 ?_
      refine g_callS f mk_X11_263 (c_X11_clip h) dX11_two_38 rfl rfl (Nat.le_of_ble_eq_true rfl) (rm_ok (by decide) (by decide)) ⟨Nat.le_of_ble_eq_true rfl, Nat.le_of_ble_eq_true rfl⟩ (kL fun r8 μ6 x7 h => ?_)
      exact g_lret f hq (Nat.le_of_ble_eq_true rfl) (Nat.le_of_ble_eq_true rfl) dX11_two_41 h
    · skip
      rcases dec_or h with ⟨e9, h⟩ | ⟨e9, h⟩
      · refine g_tableIn f 42 dX11_two_1 (by rw [e9] <;> decide) (by rw [e9] <;> decide) (by rw [e9] <;> rfl) rfl ?_
        refine g_lload_n f 1 dX11_two_42 rfl rfl ?_
        refine g_lload_n f 2 dX11_two_43 rfl rfl ?_
        refine g_lmul f dX11_two_44 ?_
        refine g_callS f mk_X11_263 (c_X11_clip h) dX11_two_45 rfl rfl (Nat.le_of_ble_eq_true rfl) (rm_ok (by decide) (by decide)) ⟨Nat.le_of_ble_eq_true rfl, Nat.le_of_ble_eq_true rfl⟩ (kL fun r12 μ10 x11 h => ?_)
        exact g_lret f hq (Nat.le_of_ble_eq_true rfl) (Nat.le_of_ble_eq_true rfl) dX11_two_48 h
      · skip
        have e1 := lv_neT (a := 6) e1 (by decide)
        have e5 := lv_neT (a := 7) e5 (by decide)
        have e9 := lv_neT (a := 8) e9 (by decide)
        refine g_tableOut f 49 dX11_two_1 (by omega) rfl ?_
        refine g_lload_n f 2 dX11_two_49 rfl rfl ?_
        refine g_lconst f 0 dX11_two_50 rfl ?_
        refine g_lcmp f dX11_two_51 ?_
        refine g_if_ne f 59 dX11_two_52 rfl h (fun h => ?_) (fun h => ?_)
        · refine g_lload_n f 1 dX11_two_59 rfl rfl ?_
          refine g_lload_n f 2 dX11_two_60 rfl rfl ?_
          obtain ⟨z13, h⟩ := h
          refine g_ldiv f dX11_two_61 z13 ?_
          refine g_callS f mk_X11_263 (c_X11_clip h) dX11_two_62 rfl rfl (Nat.le_of_ble_eq_true rfl) (rm_ok (by decide) (by decide)) ⟨Nat.le_of_ble_eq_true rfl, Nat.le_of_ble_eq_true rfl⟩ (kL fun r16 μ14 x15 h => ?_)
          exact g_lret f hq (Nat.le_of_ble_eq_true rfl) (Nat.le_of_ble_eq_true rfl) dX11_two_65 h
        · refine g_lconst f 0 dX11_two_55 rfl ?_
          refine g_goto f 65 dX11_two_56 rfl ?_
          exact g_lret f hq (Nat.le_of_ble_eq_true rfl) (Nat.le_of_ble_eq_true rfl) dX11_two_65 h
theorem c_X11_two {Ω : OM} {i0 : Int32} {j1 : Int64} {j3 : Int64} {μ : Me} {Q : Int64 → Me → Prop} (h : S_X11_two i0 j1 j3 μ Q) : CT Ω yX11_two cX11_two 5 (some .long) (rmc 1 0 0) [.int i0, .long j1, .long j3] μ (qL Q) := CT_of (by decide) rfl (by simp [lg_sl, Value.category]) (fun x hΩ f hq hi => by subst hΩ; exact t_X11_two f hq h)
theorem dX11_isAsked_0 : decode cX11_isAsked 0 = .ok (.iload_n 0, 1) := by decide +kernel
theorem dX11_isAsked_1 : decode cX11_isAsked 1 = .ok (.bipush 10, 2) := by decide +kernel
theorem dX11_isAsked_3 : decode cX11_isAsked 3 = .ok (.if_icmp .ne 17, 3) := by decide +kernel
theorem dX11_isAsked_6 : decode cX11_isAsked 6 = .ok (.lload_n 1, 1) := by decide +kernel
theorem dX11_isAsked_7 : decode cX11_isAsked 7 = .ok (.lload_n 3, 1) := by decide +kernel
theorem dX11_isAsked_8 : decode cX11_isAsked 8 = .ok (.lcmp, 1) := by decide +kernel
theorem dX11_isAsked_9 : decode cX11_isAsked 9 = .ok (.ifCond .ge 7, 3) := by decide +kernel
theorem dX11_isAsked_12 : decode cX11_isAsked 12 = .ok (.iconst 1, 1) := by decide +kernel
theorem dX11_isAsked_13 : decode cX11_isAsked 13 = .ok (.goto 98, 3) := by decide +kernel
theorem dX11_isAsked_16 : decode cX11_isAsked 16 = .ok (.iconst 0, 1) := by decide +kernel
theorem dX11_isAsked_17 : decode cX11_isAsked 17 = .ok (.goto 94, 3) := by decide +kernel
theorem dX11_isAsked_20 : decode cX11_isAsked 20 = .ok (.iload_n 0, 1) := by decide +kernel
theorem dX11_isAsked_21 : decode cX11_isAsked 21 = .ok (.bipush 11, 2) := by decide +kernel
theorem dX11_isAsked_23 : decode cX11_isAsked 23 = .ok (.if_icmp .ne 17, 3) := by decide +kernel
theorem dX11_isAsked_26 : decode cX11_isAsked 26 = .ok (.lload_n 1, 1) := by decide +kernel
theorem dX11_isAsked_27 : decode cX11_isAsked 27 = .ok (.lload_n 3, 1) := by decide +kernel
theorem dX11_isAsked_28 : decode cX11_isAsked 28 = .ok (.lcmp, 1) := by decide +kernel
theorem dX11_isAsked_29 : decode cX11_isAsked 29 = .ok (.ifCond .gt 7, 3) := by decide +kernel
theorem dX11_isAsked_32 : decode cX11_isAsked 32 = .ok (.iconst 1, 1) := by decide +kernel
theorem dX11_isAsked_33 : decode cX11_isAsked 33 = .ok (.goto 78, 3) := by decide +kernel
theorem dX11_isAsked_36 : decode cX11_isAsked 36 = .ok (.iconst 0, 1) := by decide +kernel
theorem dX11_isAsked_37 : decode cX11_isAsked 37 = .ok (.goto 74, 3) := by decide +kernel
theorem dX11_isAsked_40 : decode cX11_isAsked 40 = .ok (.iload_n 0, 1) := by decide +kernel
theorem dX11_isAsked_41 : decode cX11_isAsked 41 = .ok (.bipush 12, 2) := by decide +kernel
theorem dX11_isAsked_43 : decode cX11_isAsked 43 = .ok (.if_icmp .ne 17, 3) := by decide +kernel
theorem dX11_isAsked_46 : decode cX11_isAsked 46 = .ok (.lload_n 1, 1) := by decide +kernel
theorem dX11_isAsked_47 : decode cX11_isAsked 47 = .ok (.lload_n 3, 1) := by decide +kernel
theorem dX11_isAsked_48 : decode cX11_isAsked 48 = .ok (.lcmp, 1) := by decide +kernel
theorem dX11_isAsked_49 : decode cX11_isAsked 49 = .ok (.ifCond .le 7, 3) := by decide +kernel
theorem dX11_isAsked_52 : decode cX11_isAsked 52 = .ok (.iconst 1, 1) := by decide +kernel
theorem dX11_isAsked_53 : decode cX11_isAsked 53 = .ok (.goto 58, 3) := by decide +kernel
theorem dX11_isAsked_56 : decode cX11_isAsked 56 = .ok (.iconst 0, 1) := by decide +kernel
theorem dX11_isAsked_57 : decode cX11_isAsked 57 = .ok (.goto 54, 3) := by decide +kernel
theorem dX11_isAsked_60 : decode cX11_isAsked 60 = .ok (.iload_n 0, 1) := by decide +kernel
theorem dX11_isAsked_61 : decode cX11_isAsked 61 = .ok (.bipush 13, 2) := by decide +kernel
theorem dX11_isAsked_63 : decode cX11_isAsked 63 = .ok (.if_icmp .ne 17, 3) := by decide +kernel
theorem dX11_isAsked_66 : decode cX11_isAsked 66 = .ok (.lload_n 1, 1) := by decide +kernel
theorem dX11_isAsked_67 : decode cX11_isAsked 67 = .ok (.lload_n 3, 1) := by decide +kernel
theorem dX11_isAsked_68 : decode cX11_isAsked 68 = .ok (.lcmp, 1) := by decide +kernel
theorem dX11_isAsked_69 : decode cX11_isAsked 69 = .ok (.ifCond .lt 7, 3) := by decide +kernel
theorem dX11_isAsked_72 : decode cX11_isAsked 72 = .ok (.iconst 1, 1) := by decide +kernel
theorem dX11_isAsked_73 : decode cX11_isAsked 73 = .ok (.goto 38, 3) := by decide +kernel
theorem dX11_isAsked_76 : decode cX11_isAsked 76 = .ok (.iconst 0, 1) := by decide +kernel
theorem dX11_isAsked_77 : decode cX11_isAsked 77 = .ok (.goto 34, 3) := by decide +kernel
theorem dX11_isAsked_80 : decode cX11_isAsked 80 = .ok (.iload_n 0, 1) := by decide +kernel
theorem dX11_isAsked_81 : decode cX11_isAsked 81 = .ok (.bipush 14, 2) := by decide +kernel
theorem dX11_isAsked_83 : decode cX11_isAsked 83 = .ok (.if_icmp .ne 17, 3) := by decide +kernel
theorem dX11_isAsked_86 : decode cX11_isAsked 86 = .ok (.lload_n 1, 1) := by decide +kernel
theorem dX11_isAsked_87 : decode cX11_isAsked 87 = .ok (.lload_n 3, 1) := by decide +kernel
theorem dX11_isAsked_88 : decode cX11_isAsked 88 = .ok (.lcmp, 1) := by decide +kernel
theorem dX11_isAsked_89 : decode cX11_isAsked 89 = .ok (.ifCond .ne 7, 3) := by decide +kernel
theorem dX11_isAsked_92 : decode cX11_isAsked 92 = .ok (.iconst 1, 1) := by decide +kernel
theorem dX11_isAsked_93 : decode cX11_isAsked 93 = .ok (.goto 18, 3) := by decide +kernel
theorem dX11_isAsked_96 : decode cX11_isAsked 96 = .ok (.iconst 0, 1) := by decide +kernel
theorem dX11_isAsked_97 : decode cX11_isAsked 97 = .ok (.goto 14, 3) := by decide +kernel
theorem dX11_isAsked_100 : decode cX11_isAsked 100 = .ok (.lload_n 1, 1) := by decide +kernel
theorem dX11_isAsked_101 : decode cX11_isAsked 101 = .ok (.lload_n 3, 1) := by decide +kernel
theorem dX11_isAsked_102 : decode cX11_isAsked 102 = .ok (.lcmp, 1) := by decide +kernel
theorem dX11_isAsked_103 : decode cX11_isAsked 103 = .ok (.ifCond .eq 7, 3) := by decide +kernel
theorem dX11_isAsked_106 : decode cX11_isAsked 106 = .ok (.iconst 1, 1) := by decide +kernel
theorem dX11_isAsked_107 : decode cX11_isAsked 107 = .ok (.goto 4, 3) := by decide +kernel
theorem dX11_isAsked_110 : decode cX11_isAsked 110 = .ok (.iconst 0, 1) := by decide +kernel
theorem dX11_isAsked_111 : decode cX11_isAsked 111 = .ok (.ireturn, 1) := by decide +kernel
def S_X11_isAsked (i0 : Int32) (j1 : Int64) (j3 : Int64) (μ : Me) (Q : Int32 → Me → Prop) : Prop := ((¬ i0 = 10 → ((¬ i0 = 11 → ((¬ i0 = 12 → ((¬ i0 = 13 → ((¬ i0 = 14 → (((lg_cmp j1 j3) = 0 → Q 0 μ) ∧ (¬ (lg_cmp j1 j3) = 0 → Q 1 μ))) ∧ (i0 = 14 → ((¬ (lg_cmp j1 j3) = 0 → Q 0 μ) ∧ ((lg_cmp j1 j3) = 0 → Q 1 μ))))) ∧ (i0 = 13 → (((lg_cmp j1 j3) < 0 → Q 0 μ) ∧ (¬ (lg_cmp j1 j3) < 0 → Q 1 μ))))) ∧ (i0 = 12 → (((lg_cmp j1 j3) ≤ 0 → Q 0 μ) ∧ (¬ (lg_cmp j1 j3) ≤ 0 → Q 1 μ))))) ∧ (i0 = 11 → ((0 < (lg_cmp j1 j3) → Q 0 μ) ∧ (¬ 0 < (lg_cmp j1 j3) → Q 1 μ))))) ∧ (i0 = 10 → ((0 ≤ (lg_cmp j1 j3) → Q 0 μ) ∧ (¬ 0 ≤ (lg_cmp j1 j3) → Q 1 μ))))
set_option maxHeartbeats 4000000 in
set_option maxRecDepth 100000 in
theorem t_X11_isAsked {x : GX} (f : Fx x cX11_isAsked RX11 5 (rmc 0 0 0)) {i0 : Int32} {j1 : Int64} {j3 : Int64} {μ : Me} {Q : Int32 → Me → Prop} (hq : Rt x (some .boolean) (qI Q)) (h : S_X11_isAsked i0 j1 j3 μ Q) : G x 5 0 [(0, .int i0), (1, .long j1), (3, .long j3)] [] μ 0 0 := by
  unfold S_X11_isAsked at h
  refine g_iload_n f 0 dX11_isAsked_0 rfl rfl ?_
  refine g_bipush f 10 dX11_isAsked_1 kb_10 ?_
  refine g_ic_ne f 20 dX11_isAsked_3 rfl h (fun h => ?_) (fun h => ?_)
  · refine g_iload_n f 0 dX11_isAsked_20 rfl rfl ?_
    refine g_bipush f 11 dX11_isAsked_21 kb_11 ?_
    refine g_ic_ne f 40 dX11_isAsked_23 rfl h (fun h => ?_) (fun h => ?_)
    · refine g_iload_n f 0 dX11_isAsked_40 rfl rfl ?_
      refine g_bipush f 12 dX11_isAsked_41 kb_12 ?_
      refine g_ic_ne f 60 dX11_isAsked_43 rfl h (fun h => ?_) (fun h => ?_)
      · refine g_iload_n f 0 dX11_isAsked_60 rfl rfl ?_
        refine g_bipush f 13 dX11_isAsked_61 kb_13 ?_
        refine g_ic_ne f 80 dX11_isAsked_63 rfl h (fun h => ?_) (fun h => ?_)
        · refine g_iload_n f 0 dX11_isAsked_80 rfl rfl ?_
          refine g_bipush f 14 dX11_isAsked_81 kb_14 ?_
          refine g_ic_ne f 100 dX11_isAsked_83 rfl h (fun h => ?_) (fun h => ?_)
          · refine g_lload_n f 1 dX11_isAsked_100 rfl rfl ?_
            refine g_lload_n f 2 dX11_isAsked_101 rfl rfl ?_
            refine g_lcmp f dX11_isAsked_102 ?_
            refine g_if_eq f 110 dX11_isAsked_103 rfl h (fun h => ?_) (fun h => ?_)
            · refine g_iconst f 0 dX11_isAsked_110 kc_0 ?_
              exact g_zret f hq (Nat.le_of_ble_eq_true rfl) (Nat.le_of_ble_eq_true rfl) dX11_isAsked_111 zb_0.1 h
            · refine g_iconst f 1 dX11_isAsked_106 kc_1 ?_
              refine g_goto f 111 dX11_isAsked_107 rfl ?_
              exact g_zret f hq (Nat.le_of_ble_eq_true rfl) (Nat.le_of_ble_eq_true rfl) dX11_isAsked_111 zb_1.1 h
          · refine g_lload_n f 1 dX11_isAsked_86 rfl rfl ?_
            refine g_lload_n f 2 dX11_isAsked_87 rfl rfl ?_
            refine g_lcmp f dX11_isAsked_88 ?_
            refine g_if_ne f 96 dX11_isAsked_89 rfl h (fun h => ?_) (fun h => ?_)
            · refine g_iconst f 0 dX11_isAsked_96 kc_0 ?_
              refine g_goto f 111 dX11_isAsked_97 rfl ?_
              exact g_zret f hq (Nat.le_of_ble_eq_true rfl) (Nat.le_of_ble_eq_true rfl) dX11_isAsked_111 zb_0.1 h
            · refine g_iconst f 1 dX11_isAsked_92 kc_1 ?_
              refine g_goto f 111 dX11_isAsked_93 rfl ?_
              exact g_zret f hq (Nat.le_of_ble_eq_true rfl) (Nat.le_of_ble_eq_true rfl) dX11_isAsked_111 zb_1.1 h
        · refine g_lload_n f 1 dX11_isAsked_66 rfl rfl ?_
          refine g_lload_n f 2 dX11_isAsked_67 rfl rfl ?_
          refine g_lcmp f dX11_isAsked_68 ?_
          refine g_if_lt f 76 dX11_isAsked_69 rfl h (fun h => ?_) (fun h => ?_)
          · refine g_iconst f 0 dX11_isAsked_76 kc_0 ?_
            refine g_goto f 111 dX11_isAsked_77 rfl ?_
            exact g_zret f hq (Nat.le_of_ble_eq_true rfl) (Nat.le_of_ble_eq_true rfl) dX11_isAsked_111 zb_0.1 h
          · refine g_iconst f 1 dX11_isAsked_72 kc_1 ?_
            refine g_goto f 111 dX11_isAsked_73 rfl ?_
            exact g_zret f hq (Nat.le_of_ble_eq_true rfl) (Nat.le_of_ble_eq_true rfl) dX11_isAsked_111 zb_1.1 h
      · refine g_lload_n f 1 dX11_isAsked_46 rfl rfl ?_
        refine g_lload_n f 2 dX11_isAsked_47 rfl rfl ?_
        refine g_lcmp f dX11_isAsked_48 ?_
        refine g_if_le f 56 dX11_isAsked_49 rfl h (fun h => ?_) (fun h => ?_)
        · refine g_iconst f 0 dX11_isAsked_56 kc_0 ?_
          refine g_goto f 111 dX11_isAsked_57 rfl ?_
          exact g_zret f hq (Nat.le_of_ble_eq_true rfl) (Nat.le_of_ble_eq_true rfl) dX11_isAsked_111 zb_0.1 h
        · refine g_iconst f 1 dX11_isAsked_52 kc_1 ?_
          refine g_goto f 111 dX11_isAsked_53 rfl ?_
          exact g_zret f hq (Nat.le_of_ble_eq_true rfl) (Nat.le_of_ble_eq_true rfl) dX11_isAsked_111 zb_1.1 h
    · refine g_lload_n f 1 dX11_isAsked_26 rfl rfl ?_
      refine g_lload_n f 2 dX11_isAsked_27 rfl rfl ?_
      refine g_lcmp f dX11_isAsked_28 ?_
      refine g_if_gt f 36 dX11_isAsked_29 rfl h (fun h => ?_) (fun h => ?_)
      · refine g_iconst f 0 dX11_isAsked_36 kc_0 ?_
        refine g_goto f 111 dX11_isAsked_37 rfl ?_
        exact g_zret f hq (Nat.le_of_ble_eq_true rfl) (Nat.le_of_ble_eq_true rfl) dX11_isAsked_111 zb_0.1 h
      · refine g_iconst f 1 dX11_isAsked_32 kc_1 ?_
        refine g_goto f 111 dX11_isAsked_33 rfl ?_
        exact g_zret f hq (Nat.le_of_ble_eq_true rfl) (Nat.le_of_ble_eq_true rfl) dX11_isAsked_111 zb_1.1 h
  · refine g_lload_n f 1 dX11_isAsked_6 rfl rfl ?_
    refine g_lload_n f 2 dX11_isAsked_7 rfl rfl ?_
    refine g_lcmp f dX11_isAsked_8 ?_
    refine g_if_ge f 16 dX11_isAsked_9 rfl h (fun h => ?_) (fun h => ?_)
    · refine g_iconst f 0 dX11_isAsked_16 kc_0 ?_
      refine g_goto f 111 dX11_isAsked_17 rfl ?_
      exact g_zret f hq (Nat.le_of_ble_eq_true rfl) (Nat.le_of_ble_eq_true rfl) dX11_isAsked_111 zb_0.1 h
    · refine g_iconst f 1 dX11_isAsked_12 kc_1 ?_
      refine g_goto f 111 dX11_isAsked_13 rfl ?_
      exact g_zret f hq (Nat.le_of_ble_eq_true rfl) (Nat.le_of_ble_eq_true rfl) dX11_isAsked_111 zb_1.1 h
theorem c_X11_isAsked {Ω : OM} {i0 : Int32} {j1 : Int64} {j3 : Int64} {μ : Me} {Q : Int32 → Me → Prop} (h : S_X11_isAsked i0 j1 j3 μ Q) : CT Ω yX11_isAsked cX11_isAsked 5 (some .boolean) (rmc 0 0 0) [.int i0, .long j1, .long j3] μ (qI Q) := CT_of (by decide) rfl (by simp [lg_sl, Value.category]) (fun x hΩ f hq hi => by subst hΩ; exact t_X11_isAsked f hq h)
theorem dX11_joined_0 : decode cX11_joined 0 = .ok (.iload_n 0, 1) := by decide +kernel
theorem dX11_joined_1 : decode cX11_joined 1 = .ok (.bipush 21, 2) := by decide +kernel
theorem dX11_joined_3 : decode cX11_joined 3 = .ok (.if_icmp .ne 19, 3) := by decide +kernel
theorem dX11_joined_6 : decode cX11_joined 6 = .ok (.iload_n 1, 1) := by decide +kernel
theorem dX11_joined_7 : decode cX11_joined 7 = .ok (.ifCond .eq 11, 3) := by decide +kernel
theorem dX11_joined_10 : decode cX11_joined 10 = .ok (.iload_n 2, 1) := by decide +kernel
theorem dX11_joined_11 : decode cX11_joined 11 = .ok (.ifCond .eq 7, 3) := by decide +kernel
theorem dX11_joined_14 : decode cX11_joined 14 = .ok (.iconst 1, 1) := by decide +kernel
theorem dX11_joined_15 : decode cX11_joined 15 = .ok (.goto 39, 3) := by decide +kernel
theorem dX11_joined_18 : decode cX11_joined 18 = .ok (.iconst 0, 1) := by decide +kernel
theorem dX11_joined_19 : decode cX11_joined 19 = .ok (.goto 35, 3) := by decide +kernel
theorem dX11_joined_22 : decode cX11_joined 22 = .ok (.iload_n 0, 1) := by decide +kernel
theorem dX11_joined_23 : decode cX11_joined 23 = .ok (.bipush 23, 2) := by decide +kernel
theorem dX11_joined_25 : decode cX11_joined 25 = .ok (.if_icmp .ne 16, 3) := by decide +kernel
theorem dX11_joined_28 : decode cX11_joined 28 = .ok (.iload_n 1, 1) := by decide +kernel
theorem dX11_joined_29 : decode cX11_joined 29 = .ok (.iload_n 2, 1) := by decide +kernel
theorem dX11_joined_30 : decode cX11_joined 30 = .ok (.if_icmp .eq 7, 3) := by decide +kernel
theorem dX11_joined_33 : decode cX11_joined 33 = .ok (.iconst 1, 1) := by decide +kernel
theorem dX11_joined_34 : decode cX11_joined 34 = .ok (.goto 20, 3) := by decide +kernel
theorem dX11_joined_37 : decode cX11_joined 37 = .ok (.iconst 0, 1) := by decide +kernel
theorem dX11_joined_38 : decode cX11_joined 38 = .ok (.goto 16, 3) := by decide +kernel
theorem dX11_joined_41 : decode cX11_joined 41 = .ok (.iload_n 1, 1) := by decide +kernel
theorem dX11_joined_42 : decode cX11_joined 42 = .ok (.ifCond .ne 7, 3) := by decide +kernel
theorem dX11_joined_45 : decode cX11_joined 45 = .ok (.iload_n 2, 1) := by decide +kernel
theorem dX11_joined_46 : decode cX11_joined 46 = .ok (.ifCond .eq 7, 3) := by decide +kernel
theorem dX11_joined_49 : decode cX11_joined 49 = .ok (.iconst 1, 1) := by decide +kernel
theorem dX11_joined_50 : decode cX11_joined 50 = .ok (.goto 4, 3) := by decide +kernel
theorem dX11_joined_53 : decode cX11_joined 53 = .ok (.iconst 0, 1) := by decide +kernel
theorem dX11_joined_54 : decode cX11_joined 54 = .ok (.ireturn, 1) := by decide +kernel
def S_X11_joined (i0 : Int32) (i1 : Int32) (i2 : Int32) (μ : Me) (Q : Int32 → Me → Prop) : Prop := ((¬ i0 = 21 → ((¬ i0 = 23 → ((¬ i1 = 0 → Q 1 μ) ∧ (i1 = 0 → ((i2 = 0 → Q 0 μ) ∧ (¬ i2 = 0 → Q 1 μ))))) ∧ (i0 = 23 → ((i1 = i2 → Q 0 μ) ∧ (¬ i1 = i2 → Q 1 μ))))) ∧ (i0 = 21 → ((i1 = 0 → Q 0 μ) ∧ (¬ i1 = 0 → ((i2 = 0 → Q 0 μ) ∧ (¬ i2 = 0 → Q 1 μ))))))
set_option maxHeartbeats 4000000 in
set_option maxRecDepth 100000 in
theorem t_X11_joined {x : GX} (f : Fx x cX11_joined RX11 3 (rmc 0 0 0)) {i0 : Int32} {i1 : Int32} {i2 : Int32} {μ : Me} {Q : Int32 → Me → Prop} (hq : Rt x (some .boolean) (qI Q)) (h : S_X11_joined i0 i1 i2 μ Q) : G x 3 0 [(0, .int i0), (1, .int i1), (2, .int i2)] [] μ 0 0 := by
  unfold S_X11_joined at h
  refine g_iload_n f 0 dX11_joined_0 rfl rfl ?_
  refine g_bipush f 21 dX11_joined_1 kb_21 ?_
  refine g_ic_ne f 22 dX11_joined_3 rfl h (fun h => ?_) (fun h => ?_)
  · refine g_iload_n f 0 dX11_joined_22 rfl rfl ?_
    refine g_bipush f 23 dX11_joined_23 kb_23 ?_
    refine g_ic_ne f 41 dX11_joined_25 rfl h (fun h => ?_) (fun h => ?_)
    · refine g_iload_n f 1 dX11_joined_41 rfl rfl ?_
      refine g_if_ne f 49 dX11_joined_42 rfl h (fun h => ?_) (fun h => ?_)
      · refine g_iconst f 1 dX11_joined_49 kc_1 ?_
        refine g_goto f 54 dX11_joined_50 rfl ?_
        exact g_zret f hq (Nat.le_of_ble_eq_true rfl) (Nat.le_of_ble_eq_true rfl) dX11_joined_54 zb_1.1 h
      · refine g_iload_n f 2 dX11_joined_45 rfl rfl ?_
        refine g_if_eq f 53 dX11_joined_46 rfl h (fun h => ?_) (fun h => ?_)
        · refine g_iconst f 0 dX11_joined_53 kc_0 ?_
          exact g_zret f hq (Nat.le_of_ble_eq_true rfl) (Nat.le_of_ble_eq_true rfl) dX11_joined_54 zb_0.1 h
        · refine g_iconst f 1 dX11_joined_49 kc_1 ?_
          refine g_goto f 54 dX11_joined_50 rfl ?_
          exact g_zret f hq (Nat.le_of_ble_eq_true rfl) (Nat.le_of_ble_eq_true rfl) dX11_joined_54 zb_1.1 h
    · refine g_iload_n f 1 dX11_joined_28 rfl rfl ?_
      refine g_iload_n f 2 dX11_joined_29 rfl rfl ?_
      refine g_ic_eq f 37 dX11_joined_30 rfl h (fun h => ?_) (fun h => ?_)
      · refine g_iconst f 0 dX11_joined_37 kc_0 ?_
        refine g_goto f 54 dX11_joined_38 rfl ?_
        exact g_zret f hq (Nat.le_of_ble_eq_true rfl) (Nat.le_of_ble_eq_true rfl) dX11_joined_54 zb_0.1 h
      · refine g_iconst f 1 dX11_joined_33 kc_1 ?_
        refine g_goto f 54 dX11_joined_34 rfl ?_
        exact g_zret f hq (Nat.le_of_ble_eq_true rfl) (Nat.le_of_ble_eq_true rfl) dX11_joined_54 zb_1.1 h
  · refine g_iload_n f 1 dX11_joined_6 rfl rfl ?_
    refine g_if_eq f 18 dX11_joined_7 rfl h (fun h => ?_) (fun h => ?_)
    · refine g_iconst f 0 dX11_joined_18 kc_0 ?_
      refine g_goto f 54 dX11_joined_19 rfl ?_
      exact g_zret f hq (Nat.le_of_ble_eq_true rfl) (Nat.le_of_ble_eq_true rfl) dX11_joined_54 zb_0.1 h
    · refine g_iload_n f 2 dX11_joined_10 rfl rfl ?_
      refine g_if_eq f 18 dX11_joined_11 rfl h (fun h => ?_) (fun h => ?_)
      · refine g_iconst f 0 dX11_joined_18 kc_0 ?_
        refine g_goto f 54 dX11_joined_19 rfl ?_
        exact g_zret f hq (Nat.le_of_ble_eq_true rfl) (Nat.le_of_ble_eq_true rfl) dX11_joined_54 zb_0.1 h
      · refine g_iconst f 1 dX11_joined_14 kc_1 ?_
        refine g_goto f 54 dX11_joined_15 rfl ?_
        exact g_zret f hq (Nat.le_of_ble_eq_true rfl) (Nat.le_of_ble_eq_true rfl) dX11_joined_54 zb_1.1 h
theorem c_X11_joined {Ω : OM} {i0 : Int32} {i1 : Int32} {i2 : Int32} {μ : Me} {Q : Int32 → Me → Prop} (h : S_X11_joined i0 i1 i2 μ Q) : CT Ω yX11_joined cX11_joined 3 (some .boolean) (rmc 0 0 0) [.int i0, .int i1, .int i2] μ (qI Q) := CT_of (by decide) rfl (by simp [lg_sl, Value.category]) (fun x hΩ f hq hi => by subst hΩ; exact t_X11_joined f hq h)
theorem dX11_summedUp_0 : decode cX11_summedUp 0 = .ok (.sipush 729, 3) := by decide +kernel
theorem dX11_summedUp_3 : decode cX11_summedUp 3 = .ok (.iload_n 1, 1) := by decide +kernel
theorem dX11_summedUp_4 : decode cX11_summedUp 4 = .ok (.imul, 1) := by decide +kernel
theorem dX11_summedUp_5 : decode cX11_summedUp 5 = .ok (.iconst 1, 1) := by decide +kernel
theorem dX11_summedUp_6 : decode cX11_summedUp 6 = .ok (.iadd, 1) := by decide +kernel
theorem dX11_summedUp_7 : decode cX11_summedUp 7 = .ok (.iconst 5, 1) := by decide +kernel
theorem dX11_summedUp_8 : decode cX11_summedUp 8 = .ok (.iload_n 2, 1) := by decide +kernel
theorem dX11_summedUp_9 : decode cX11_summedUp 9 = .ok (.imul, 1) := by decide +kernel
theorem dX11_summedUp_10 : decode cX11_summedUp 10 = .ok (.iadd, 1) := by decide +kernel
theorem dX11_summedUp_11 : decode cX11_summedUp 11 = .ok (.istore_n 3, 1) := by decide +kernel
theorem dX11_summedUp_12 : decode cX11_summedUp 12 = .ok (.sipush 729, 3) := by decide +kernel
theorem dX11_summedUp_15 : decode cX11_summedUp 15 = .ok (.iload_n 1, 1) := by decide +kernel
theorem dX11_summedUp_16 : decode cX11_summedUp 16 = .ok (.imul, 1) := by decide +kernel
theorem dX11_summedUp_17 : decode cX11_summedUp 17 = .ok (.bipush 121, 2) := by decide +kernel
theorem dX11_summedUp_19 : decode cX11_summedUp 19 = .ok (.iadd, 1) := by decide +kernel
theorem dX11_summedUp_20 : decode cX11_summedUp 20 = .ok (.istore 4, 2) := by decide +kernel
theorem dX11_summedUp_22 : decode cX11_summedUp 22 = .ok (.iconst 0, 1) := by decide +kernel
theorem dX11_summedUp_23 : decode cX11_summedUp 23 = .ok (.istore 5, 2) := by decide +kernel
theorem dX11_summedUp_25 : decode cX11_summedUp 25 = .ok (.iconst 0, 1) := by decide +kernel
theorem dX11_summedUp_26 : decode cX11_summedUp 26 = .ok (.istore 6, 2) := by decide +kernel
theorem dX11_summedUp_28 : decode cX11_summedUp 28 = .ok (.aload_n 0, 1) := by decide +kernel
theorem dX11_summedUp_29 : decode cX11_summedUp 29 = .ok (.getfield 16, 3) := by decide +kernel
theorem dX11_summedUp_32 : decode cX11_summedUp 32 = .ok (.iload_n 3, 1) := by decide +kernel
theorem dX11_summedUp_33 : decode cX11_summedUp 33 = .ok (.iconst 1, 1) := by decide +kernel
theorem dX11_summedUp_34 : decode cX11_summedUp 34 = .ok (.iadd, 1) := by decide +kernel
theorem dX11_summedUp_35 : decode cX11_summedUp 35 = .ok (.iaload, 1) := by decide +kernel
theorem dX11_summedUp_36 : decode cX11_summedUp 36 = .ok (.istore 7, 2) := by decide +kernel
theorem dX11_summedUp_38 : decode cX11_summedUp 38 = .ok (.iload 7, 2) := by decide +kernel
theorem dX11_summedUp_40 : decode cX11_summedUp 40 = .ok (.aload_n 0, 1) := by decide +kernel
theorem dX11_summedUp_41 : decode cX11_summedUp 41 = .ok (.getfield 16, 3) := by decide +kernel
theorem dX11_summedUp_44 : decode cX11_summedUp 44 = .ok (.iload_n 3, 1) := by decide +kernel
theorem dX11_summedUp_45 : decode cX11_summedUp 45 = .ok (.iconst 2, 1) := by decide +kernel
theorem dX11_summedUp_46 : decode cX11_summedUp 46 = .ok (.iadd, 1) := by decide +kernel
theorem dX11_summedUp_47 : decode cX11_summedUp 47 = .ok (.iaload, 1) := by decide +kernel
theorem dX11_summedUp_48 : decode cX11_summedUp 48 = .ok (.if_icmp .ge 324, 3) := by decide +kernel
theorem dX11_summedUp_51 : decode cX11_summedUp 51 = .ok (.aload_n 0, 1) := by decide +kernel
theorem dX11_summedUp_52 : decode cX11_summedUp 52 = .ok (.getfield 16, 3) := by decide +kernel
theorem dX11_summedUp_55 : decode cX11_summedUp 55 = .ok (.iload 4, 2) := by decide +kernel
theorem dX11_summedUp_57 : decode cX11_summedUp 57 = .ok (.iconst 2, 1) := by decide +kernel
theorem dX11_summedUp_58 : decode cX11_summedUp 58 = .ok (.iload 7, 2) := by decide +kernel
theorem dX11_summedUp_60 : decode cX11_summedUp 60 = .ok (.imul, 1) := by decide +kernel
theorem dX11_summedUp_61 : decode cX11_summedUp 61 = .ok (.iadd, 1) := by decide +kernel
theorem dX11_summedUp_62 : decode cX11_summedUp 62 = .ok (.iaload, 1) := by decide +kernel
theorem dX11_summedUp_63 : decode cX11_summedUp 63 = .ok (.istore 8, 2) := by decide +kernel
theorem dX11_summedUp_65 : decode cX11_summedUp 65 = .ok (.aload_n 0, 1) := by decide +kernel
theorem dX11_summedUp_66 : decode cX11_summedUp 66 = .ok (.getfield 16, 3) := by decide +kernel
theorem dX11_summedUp_69 : decode cX11_summedUp 69 = .ok (.iload 4, 2) := by decide +kernel
theorem dX11_summedUp_71 : decode cX11_summedUp 71 = .ok (.iconst 2, 1) := by decide +kernel
theorem dX11_summedUp_72 : decode cX11_summedUp 72 = .ok (.iload 7, 2) := by decide +kernel
theorem dX11_summedUp_74 : decode cX11_summedUp 74 = .ok (.imul, 1) := by decide +kernel
theorem dX11_summedUp_75 : decode cX11_summedUp 75 = .ok (.iadd, 1) := by decide +kernel
theorem dX11_summedUp_76 : decode cX11_summedUp 76 = .ok (.iconst 1, 1) := by decide +kernel
theorem dX11_summedUp_77 : decode cX11_summedUp 77 = .ok (.iadd, 1) := by decide +kernel
theorem dX11_summedUp_78 : decode cX11_summedUp 78 = .ok (.iaload, 1) := by decide +kernel
theorem dX11_summedUp_79 : decode cX11_summedUp 79 = .ok (.istore 9, 2) := by decide +kernel
theorem dX11_summedUp_81 : decode cX11_summedUp 81 = .ok (.iload 8, 2) := by decide +kernel
theorem dX11_summedUp_83 : decode cX11_summedUp 83 = .ok (.iconst 1, 1) := by decide +kernel
theorem dX11_summedUp_84 : decode cX11_summedUp 84 = .ok (.if_icmp .gt 35, 3) := by decide +kernel
theorem dX11_summedUp_87 : decode cX11_summedUp 87 = .ok (.aload_n 0, 1) := by decide +kernel
theorem dX11_summedUp_88 : decode cX11_summedUp 88 = .ok (.getfield 35, 3) := by decide +kernel
theorem dX11_summedUp_91 : decode cX11_summedUp 91 = .ok (.iload 5, 2) := by decide +kernel
theorem dX11_summedUp_93 : decode cX11_summedUp 93 = .ok (.iload 8, 2) := by decide +kernel
theorem dX11_summedUp_95 : decode cX11_summedUp 95 = .ok (.ifCond .ne 9, 3) := by decide +kernel
theorem dX11_summedUp_98 : decode cX11_summedUp 98 = .ok (.iload 9, 2) := by decide +kernel
theorem dX11_summedUp_100 : decode cX11_summedUp 100 = .ok (.i2l, 1) := by decide +kernel
theorem dX11_summedUp_101 : decode cX11_summedUp 101 = .ok (.goto 11, 3) := by decide +kernel
theorem dX11_summedUp_104 : decode cX11_summedUp 104 = .ok (.aload_n 0, 1) := by decide +kernel
theorem dX11_summedUp_105 : decode cX11_summedUp 105 = .ok (.getfield 32, 3) := by decide +kernel
theorem dX11_summedUp_108 : decode cX11_summedUp 108 = .ok (.iload 9, 2) := by decide +kernel
theorem dX11_summedUp_110 : decode cX11_summedUp 110 = .ok (.iaload, 1) := by decide +kernel
theorem dX11_summedUp_111 : decode cX11_summedUp 111 = .ok (.i2l, 1) := by decide +kernel
theorem dX11_summedUp_112 : decode cX11_summedUp 112 = .ok (.lastore, 1) := by decide +kernel
theorem dX11_summedUp_113 : decode cX11_summedUp 113 = .ok (.iinc 5 1, 3) := by decide +kernel
theorem dX11_summedUp_116 : decode cX11_summedUp 116 = .ok (.goto 250, 3) := by decide +kernel
theorem dX11_summedUp_119 : decode cX11_summedUp 119 = .ok (.iload 8, 2) := by decide +kernel
theorem dX11_summedUp_121 : decode cX11_summedUp 121 = .ok (.iconst 3, 1) := by decide +kernel
theorem dX11_summedUp_122 : decode cX11_summedUp 122 = .ok (.if_icmp .ne 38, 3) := by decide +kernel
theorem dX11_summedUp_125 : decode cX11_summedUp 125 = .ok (.iinc 5 (-1), 3) := by decide +kernel
theorem dX11_summedUp_128 : decode cX11_summedUp 128 = .ok (.iinc 6 (-1), 3) := by decide +kernel
theorem dX11_summedUp_131 : decode cX11_summedUp 131 = .ok (.aload_n 0, 1) := by decide +kernel
theorem dX11_summedUp_132 : decode cX11_summedUp 132 = .ok (.getfield 39, 3) := by decide +kernel
theorem dX11_summedUp_135 : decode cX11_summedUp 135 = .ok (.iload 6, 2) := by decide +kernel
theorem dX11_summedUp_137 : decode cX11_summedUp 137 = .ok (.baload, 1) := by decide +kernel
theorem dX11_summedUp_138 : decode cX11_summedUp 138 = .ok (.ifCond .ne 228, 3) := by decide +kernel
theorem dX11_summedUp_141 : decode cX11_summedUp 141 = .ok (.aload_n 0, 1) := by decide +kernel
theorem dX11_summedUp_142 : decode cX11_summedUp 142 = .ok (.getfield 35, 3) := by decide +kernel
theorem dX11_summedUp_145 : decode cX11_summedUp 145 = .ok (.iload 5, 2) := by decide +kernel
theorem dX11_summedUp_147 : decode cX11_summedUp 147 = .ok (.iconst 1, 1) := by decide +kernel
theorem dX11_summedUp_148 : decode cX11_summedUp 148 = .ok (.isub, 1) := by decide +kernel
theorem dX11_summedUp_149 : decode cX11_summedUp 149 = .ok (.aload_n 0, 1) := by decide +kernel
theorem dX11_summedUp_150 : decode cX11_summedUp 150 = .ok (.getfield 35, 3) := by decide +kernel
theorem dX11_summedUp_153 : decode cX11_summedUp 153 = .ok (.iload 5, 2) := by decide +kernel
theorem dX11_summedUp_155 : decode cX11_summedUp 155 = .ok (.laload, 1) := by decide +kernel
theorem dX11_summedUp_156 : decode cX11_summedUp 156 = .ok (.lastore, 1) := by decide +kernel
theorem dX11_summedUp_157 : decode cX11_summedUp 157 = .ok (.goto 209, 3) := by decide +kernel
theorem dX11_summedUp_160 : decode cX11_summedUp 160 = .ok (.iload 8, 2) := by decide +kernel
theorem dX11_summedUp_162 : decode cX11_summedUp 162 = .ok (.iconst 5, 1) := by decide +kernel
theorem dX11_summedUp_163 : decode cX11_summedUp 163 = .ok (.if_icmp .gt 47, 3) := by decide +kernel
theorem dX11_summedUp_166 : decode cX11_summedUp 166 = .ok (.aload_n 0, 1) := by decide +kernel
theorem dX11_summedUp_167 : decode cX11_summedUp 167 = .ok (.getfield 35, 3) := by decide +kernel
theorem dX11_summedUp_170 : decode cX11_summedUp 170 = .ok (.iload 5, 2) := by decide +kernel
theorem dX11_summedUp_172 : decode cX11_summedUp 172 = .ok (.iconst 1, 1) := by decide +kernel
theorem dX11_summedUp_173 : decode cX11_summedUp 173 = .ok (.isub, 1) := by decide +kernel
theorem dX11_summedUp_174 : decode cX11_summedUp 174 = .ok (.iload 8, 2) := by decide +kernel
theorem dX11_summedUp_176 : decode cX11_summedUp 176 = .ok (.iconst 5, 1) := by decide +kernel
theorem dX11_summedUp_177 : decode cX11_summedUp 177 = .ok (.if_icmp .ne 16, 3) := by decide +kernel
theorem dX11_summedUp_180 : decode cX11_summedUp 180 = .ok (.aload_n 0, 1) := by decide +kernel
theorem dX11_summedUp_181 : decode cX11_summedUp 181 = .ok (.getfield 35, 3) := by decide +kernel
theorem dX11_summedUp_184 : decode cX11_summedUp 184 = .ok (.iload 5, 2) := by decide +kernel
theorem dX11_summedUp_186 : decode cX11_summedUp 186 = .ok (.iconst 1, 1) := by decide +kernel
theorem dX11_summedUp_187 : decode cX11_summedUp 187 = .ok (.isub, 1) := by decide +kernel
theorem dX11_summedUp_188 : decode cX11_summedUp 188 = .ok (.laload, 1) := by decide +kernel
theorem dX11_summedUp_189 : decode cX11_summedUp 189 = .ok (.lneg, 1) := by decide +kernel
theorem dX11_summedUp_190 : decode cX11_summedUp 190 = .ok (.goto 16, 3) := by decide +kernel
theorem dX11_summedUp_193 : decode cX11_summedUp 193 = .ok (.aload_n 0, 1) := by decide +kernel
theorem dX11_summedUp_194 : decode cX11_summedUp 194 = .ok (.aload_n 0, 1) := by decide +kernel
theorem dX11_summedUp_195 : decode cX11_summedUp 195 = .ok (.getfield 35, 3) := by decide +kernel
theorem dX11_summedUp_198 : decode cX11_summedUp 198 = .ok (.iload 5, 2) := by decide +kernel
theorem dX11_summedUp_200 : decode cX11_summedUp 200 = .ok (.iconst 1, 1) := by decide +kernel
theorem dX11_summedUp_201 : decode cX11_summedUp 201 = .ok (.isub, 1) := by decide +kernel
theorem dX11_summedUp_202 : decode cX11_summedUp 202 = .ok (.laload, 1) := by decide +kernel
theorem dX11_summedUp_203 : decode cX11_summedUp 203 = .ok (.invokevirtual 270, 3) := by decide +kernel
theorem dX11_summedUp_206 : decode cX11_summedUp 206 = .ok (.lastore, 1) := by decide +kernel
theorem dX11_summedUp_207 : decode cX11_summedUp 207 = .ok (.goto 159, 3) := by decide +kernel
theorem dX11_summedUp_210 : decode cX11_summedUp 210 = .ok (.iload 8, 2) := by decide +kernel
theorem dX11_summedUp_212 : decode cX11_summedUp 212 = .ok (.bipush 10, 2) := by decide +kernel
theorem dX11_summedUp_214 : decode cX11_summedUp 214 = .ok (.if_icmp .ge 39, 3) := by decide +kernel
theorem dX11_summedUp_217 : decode cX11_summedUp 217 = .ok (.iinc 5 (-1), 3) := by decide +kernel
theorem dX11_summedUp_220 : decode cX11_summedUp 220 = .ok (.aload_n 0, 1) := by decide +kernel
theorem dX11_summedUp_221 : decode cX11_summedUp 221 = .ok (.getfield 35, 3) := by decide +kernel
theorem dX11_summedUp_224 : decode cX11_summedUp 224 = .ok (.iload 5, 2) := by decide +kernel
theorem dX11_summedUp_226 : decode cX11_summedUp 226 = .ok (.iconst 1, 1) := by decide +kernel
theorem dX11_summedUp_227 : decode cX11_summedUp 227 = .ok (.isub, 1) := by decide +kernel
theorem dX11_summedUp_228 : decode cX11_summedUp 228 = .ok (.iload 8, 2) := by decide +kernel
theorem dX11_summedUp_230 : decode cX11_summedUp 230 = .ok (.aload_n 0, 1) := by decide +kernel
theorem dX11_summedUp_231 : decode cX11_summedUp 231 = .ok (.getfield 35, 3) := by decide +kernel
theorem dX11_summedUp_234 : decode cX11_summedUp 234 = .ok (.iload 5, 2) := by decide +kernel
theorem dX11_summedUp_236 : decode cX11_summedUp 236 = .ok (.iconst 1, 1) := by decide +kernel
theorem dX11_summedUp_237 : decode cX11_summedUp 237 = .ok (.isub, 1) := by decide +kernel
theorem dX11_summedUp_238 : decode cX11_summedUp 238 = .ok (.laload, 1) := by decide +kernel
theorem dX11_summedUp_239 : decode cX11_summedUp 239 = .ok (.aload_n 0, 1) := by decide +kernel
theorem dX11_summedUp_240 : decode cX11_summedUp 240 = .ok (.getfield 35, 3) := by decide +kernel
theorem dX11_summedUp_243 : decode cX11_summedUp 243 = .ok (.iload 5, 2) := by decide +kernel
theorem dX11_summedUp_245 : decode cX11_summedUp 245 = .ok (.laload, 1) := by decide +kernel
theorem dX11_summedUp_246 : decode cX11_summedUp 246 = .ok (.invokestatic 273, 3) := by decide +kernel
theorem dX11_summedUp_249 : decode cX11_summedUp 249 = .ok (.lastore, 1) := by decide +kernel
theorem dX11_summedUp_250 : decode cX11_summedUp 250 = .ok (.goto 116, 3) := by decide +kernel
theorem dX11_summedUp_253 : decode cX11_summedUp 253 = .ok (.iload 8, 2) := by decide +kernel
theorem dX11_summedUp_255 : decode cX11_summedUp 255 = .ok (.bipush 20, 2) := by decide +kernel
theorem dX11_summedUp_257 : decode cX11_summedUp 257 = .ok (.if_icmp .ge 40, 3) := by decide +kernel
theorem dX11_summedUp_260 : decode cX11_summedUp 260 = .ok (.iinc 5 (-2), 3) := by decide +kernel
theorem dX11_summedUp_263 : decode cX11_summedUp 263 = .ok (.aload_n 0, 1) := by decide +kernel
theorem dX11_summedUp_264 : decode cX11_summedUp 264 = .ok (.getfield 39, 3) := by decide +kernel
theorem dX11_summedUp_267 : decode cX11_summedUp 267 = .ok (.iload 6, 2) := by decide +kernel
theorem dX11_summedUp_269 : decode cX11_summedUp 269 = .ok (.iload 8, 2) := by decide +kernel
theorem dX11_summedUp_271 : decode cX11_summedUp 271 = .ok (.aload_n 0, 1) := by decide +kernel
theorem dX11_summedUp_272 : decode cX11_summedUp 272 = .ok (.getfield 35, 3) := by decide +kernel
theorem dX11_summedUp_275 : decode cX11_summedUp 275 = .ok (.iload 5, 2) := by decide +kernel
theorem dX11_summedUp_277 : decode cX11_summedUp 277 = .ok (.laload, 1) := by decide +kernel
theorem dX11_summedUp_278 : decode cX11_summedUp 278 = .ok (.aload_n 0, 1) := by decide +kernel
theorem dX11_summedUp_279 : decode cX11_summedUp 279 = .ok (.getfield 35, 3) := by decide +kernel
theorem dX11_summedUp_282 : decode cX11_summedUp 282 = .ok (.iload 5, 2) := by decide +kernel
theorem dX11_summedUp_284 : decode cX11_summedUp 284 = .ok (.iconst 1, 1) := by decide +kernel
theorem dX11_summedUp_285 : decode cX11_summedUp 285 = .ok (.iadd, 1) := by decide +kernel
theorem dX11_summedUp_286 : decode cX11_summedUp 286 = .ok (.laload, 1) := by decide +kernel
theorem dX11_summedUp_287 : decode cX11_summedUp 287 = .ok (.invokestatic 277, 3) := by decide +kernel
theorem dX11_summedUp_290 : decode cX11_summedUp 290 = .ok (.bastore, 1) := by decide +kernel
theorem dX11_summedUp_291 : decode cX11_summedUp 291 = .ok (.iinc 6 1, 3) := by decide +kernel
theorem dX11_summedUp_294 : decode cX11_summedUp 294 = .ok (.goto 72, 3) := by decide +kernel
theorem dX11_summedUp_297 : decode cX11_summedUp 297 = .ok (.iload 8, 2) := by decide +kernel
theorem dX11_summedUp_299 : decode cX11_summedUp 299 = .ok (.bipush 20, 2) := by decide +kernel
theorem dX11_summedUp_301 : decode cX11_summedUp 301 = .ok (.if_icmp .ne 32, 3) := by decide +kernel
theorem dX11_summedUp_304 : decode cX11_summedUp 304 = .ok (.aload_n 0, 1) := by decide +kernel
theorem dX11_summedUp_305 : decode cX11_summedUp 305 = .ok (.getfield 39, 3) := by decide +kernel
theorem dX11_summedUp_308 : decode cX11_summedUp 308 = .ok (.iload 6, 2) := by decide +kernel
theorem dX11_summedUp_310 : decode cX11_summedUp 310 = .ok (.iconst 1, 1) := by decide +kernel
theorem dX11_summedUp_311 : decode cX11_summedUp 311 = .ok (.isub, 1) := by decide +kernel
theorem dX11_summedUp_312 : decode cX11_summedUp 312 = .ok (.aload_n 0, 1) := by decide +kernel
theorem dX11_summedUp_313 : decode cX11_summedUp 313 = .ok (.getfield 39, 3) := by decide +kernel
theorem dX11_summedUp_316 : decode cX11_summedUp 316 = .ok (.iload 6, 2) := by decide +kernel
theorem dX11_summedUp_318 : decode cX11_summedUp 318 = .ok (.iconst 1, 1) := by decide +kernel
theorem dX11_summedUp_319 : decode cX11_summedUp 319 = .ok (.isub, 1) := by decide +kernel
theorem dX11_summedUp_320 : decode cX11_summedUp 320 = .ok (.baload, 1) := by decide +kernel
theorem dX11_summedUp_321 : decode cX11_summedUp 321 = .ok (.ifCond .ne 7, 3) := by decide +kernel
theorem dX11_summedUp_324 : decode cX11_summedUp 324 = .ok (.iconst 1, 1) := by decide +kernel
theorem dX11_summedUp_325 : decode cX11_summedUp 325 = .ok (.goto 4, 3) := by decide +kernel
theorem dX11_summedUp_328 : decode cX11_summedUp 328 = .ok (.iconst 0, 1) := by decide +kernel
theorem dX11_summedUp_329 : decode cX11_summedUp 329 = .ok (.bastore, 1) := by decide +kernel
theorem dX11_summedUp_330 : decode cX11_summedUp 330 = .ok (.goto 36, 3) := by decide +kernel
theorem dX11_summedUp_333 : decode cX11_summedUp 333 = .ok (.iinc 6 (-1), 3) := by decide +kernel
theorem dX11_summedUp_336 : decode cX11_summedUp 336 = .ok (.aload_n 0, 1) := by decide +kernel
theorem dX11_summedUp_337 : decode cX11_summedUp 337 = .ok (.getfield 39, 3) := by decide +kernel
theorem dX11_summedUp_340 : decode cX11_summedUp 340 = .ok (.iload 6, 2) := by decide +kernel
theorem dX11_summedUp_342 : decode cX11_summedUp 342 = .ok (.iconst 1, 1) := by decide +kernel
theorem dX11_summedUp_343 : decode cX11_summedUp 343 = .ok (.isub, 1) := by decide +kernel
theorem dX11_summedUp_344 : decode cX11_summedUp 344 = .ok (.iload 8, 2) := by decide +kernel
theorem dX11_summedUp_346 : decode cX11_summedUp 346 = .ok (.aload_n 0, 1) := by decide +kernel
theorem dX11_summedUp_347 : decode cX11_summedUp 347 = .ok (.getfield 39, 3) := by decide +kernel
theorem dX11_summedUp_350 : decode cX11_summedUp 350 = .ok (.iload 6, 2) := by decide +kernel
theorem dX11_summedUp_352 : decode cX11_summedUp 352 = .ok (.iconst 1, 1) := by decide +kernel
theorem dX11_summedUp_353 : decode cX11_summedUp 353 = .ok (.isub, 1) := by decide +kernel
theorem dX11_summedUp_354 : decode cX11_summedUp 354 = .ok (.baload, 1) := by decide +kernel
theorem dX11_summedUp_355 : decode cX11_summedUp 355 = .ok (.aload_n 0, 1) := by decide +kernel
theorem dX11_summedUp_356 : decode cX11_summedUp 356 = .ok (.getfield 39, 3) := by decide +kernel
theorem dX11_summedUp_359 : decode cX11_summedUp 359 = .ok (.iload 6, 2) := by decide +kernel
theorem dX11_summedUp_361 : decode cX11_summedUp 361 = .ok (.baload, 1) := by decide +kernel
theorem dX11_summedUp_362 : decode cX11_summedUp 362 = .ok (.invokestatic 281, 3) := by decide +kernel
theorem dX11_summedUp_365 : decode cX11_summedUp 365 = .ok (.bastore, 1) := by decide +kernel
theorem dX11_summedUp_366 : decode cX11_summedUp 366 = .ok (.iinc 7 1, 3) := by decide +kernel
theorem dX11_summedUp_369 : decode cX11_summedUp 369 = .ok (.goto (-331), 3) := by decide +kernel
theorem dX11_summedUp_372 : decode cX11_summedUp 372 = .ok (.aload_n 0, 1) := by decide +kernel
theorem dX11_summedUp_373 : decode cX11_summedUp 373 = .ok (.getfield 35, 3) := by decide +kernel
theorem dX11_summedUp_376 : decode cX11_summedUp 376 = .ok (.iconst 0, 1) := by decide +kernel
theorem dX11_summedUp_377 : decode cX11_summedUp 377 = .ok (.laload, 1) := by decide +kernel
theorem dX11_summedUp_378 : decode cX11_summedUp 378 = .ok (.lreturn, 1) := by decide +kernel
def B_X11_summedUp_366 (o0 : Nat) (i3 : Int32) (i4 : Int32) (i5 : Int32) (i6 : Int32) (i7 : Int32) (μ : Me) (K38 : Int32 → Int32 → Int32 → Me → Prop) (Q : Int64 → Me → Prop) : Prop := K38 i5 i6 (i7 + 1) μ
set_option maxHeartbeats 4000000 in
set_option maxRecDepth 100000 in
theorem tB_X11_summedUp_366 {x : GX} (f : Fx x cX11_summedUp RX11 10 (rmc 2 0 0)) {o0 : Nat} {i3 : Int32} {i4 : Int32} {i5 : Int32} {i6 : Int32} {i7 : Int32} {μ : Me} {Q : Int64 → Me → Prop} (hq : Rt x (some .long) (qL Q)) {K38 : Int32 → Int32 → Int32 → Me → Prop} (hK38 : ∀ (a5 : Int32) (a6 : Int32) (a7 : Int32) (ν : Me), K38 a5 a6 a7 ν → G x 10 38 [(0, .ref (gB x + o0)), (3, .int i3), (4, .int i4), (5, .int a5), (6, .int a6), (7, .int a7)] [] ν 0 0) (h : B_X11_summedUp_366 o0 i3 i4 i5 i6 i7 μ K38 Q) : G x 10 366 [(0, .ref (gB x + o0)), (3, .int i3), (4, .int i4), (5, .int i5), (6, .int i6), (7, .int i7)] [] μ 0 0 := by
  unfold B_X11_summedUp_366 at h
  refine h_iinc f 5 1 dX11_summedUp_366 rfl kc_1 (by decide) ?_
  refine g_goto f 38 dX11_summedUp_369 rfl ?_
  exact h_sub [1, 2, 3, 4, 5, 0] rfl (hK38 _ _ _ _ h)
def B_X11_summedUp_329 (o0 : Nat) (i3 : Int32) (i4 : Int32) (i5 : Int32) (i6 : Int32) (i7 : Int32) (s0 : Int32) (s1 : Int32) (s2 : Option Nat) (μ : Me) (K38 : Int32 → Int32 → Int32 → Me → Prop) (Q : Int64 → Me → Prop) : Prop := ∃ t26, s2 = some t26 ∧ mok μ t26 14 ∧ vp_in s1 (mln μ t26) ∧ ∀ μ30, μ30 = msi μ t26 s1.toNatClampNeg (vp_nar .boolean s0) → B_X11_summedUp_366 o0 i3 i4 i5 i6 i7 μ30 K38 Q
set_option maxHeartbeats 4000000 in
set_option maxRecDepth 100000 in
theorem tB_X11_summedUp_329 {x : GX} (f : Fx x cX11_summedUp RX11 10 (rmc 2 0 0)) {o0 : Nat} {i3 : Int32} {i4 : Int32} {i5 : Int32} {i6 : Int32} {i7 : Int32} {s0 : Int32} {s1 : Int32} {s2 : Option Nat} {μ : Me} {Q : Int64 → Me → Prop} (hq : Rt x (some .long) (qL Q)) {K38 : Int32 → Int32 → Int32 → Me → Prop} (hK38 : ∀ (a5 : Int32) (a6 : Int32) (a7 : Int32) (ν : Me), K38 a5 a6 a7 ν → G x 10 38 [(0, .ref (gB x + o0)), (3, .int i3), (4, .int i4), (5, .int a5), (6, .int a6), (7, .int a7)] [] ν 0 0) (h : B_X11_summedUp_329 o0 i3 i4 i5 i6 i7 s0 s1 s2 μ K38 Q) : G x 10 329 [(0, .ref (gB x + o0)), (3, .int i3), (4, .int i4), (5, .int i5), (6, .int i6), (7, .int i7)] [.int s0, .int s1, vr (gB x) s2] μ 0 0 := by
  unfold B_X11_summedUp_329 at h
  obtain ⟨t26, e27, h28⟩ := h
  subst e27
  have h := h28
  obtain ⟨v29, h⟩ := h
  refine g_zast f v29 dX11_summedUp_329 h (fun h => ?_)
  refine g_goto f 366 dX11_summedUp_330 rfl ?_
  exact h_sub [0, 1, 2, 3, 4, 5] rfl (tB_X11_summedUp_366 f hq hK38 h)
def B_X11_summedUp_206 (o0 : Nat) (i3 : Int32) (i4 : Int32) (i5 : Int32) (i6 : Int32) (i7 : Int32) (s0 : Int64) (s1 : Int32) (s2 : Option Nat) (μ : Me) (K38 : Int32 → Int32 → Int32 → Me → Prop) (Q : Int64 → Me → Prop) : Prop := ∃ t57, s2 = some t57 ∧ mok μ t57 13 ∧ vp_in s1 (mln μ t57) ∧ ∀ μ61, μ61 = msl μ t57 s1.toNatClampNeg s0 → B_X11_summedUp_366 o0 i3 i4 i5 i6 i7 μ61 K38 Q
set_option maxHeartbeats 4000000 in
set_option maxRecDepth 100000 in
theorem tB_X11_summedUp_206 {x : GX} (f : Fx x cX11_summedUp RX11 10 (rmc 2 0 0)) {o0 : Nat} {i3 : Int32} {i4 : Int32} {i5 : Int32} {i6 : Int32} {i7 : Int32} {s0 : Int64} {s1 : Int32} {s2 : Option Nat} {μ : Me} {Q : Int64 → Me → Prop} (hq : Rt x (some .long) (qL Q)) {K38 : Int32 → Int32 → Int32 → Me → Prop} (hK38 : ∀ (a5 : Int32) (a6 : Int32) (a7 : Int32) (ν : Me), K38 a5 a6 a7 ν → G x 10 38 [(0, .ref (gB x + o0)), (3, .int i3), (4, .int i4), (5, .int a5), (6, .int a6), (7, .int a7)] [] ν 0 0) (h : B_X11_summedUp_206 o0 i3 i4 i5 i6 i7 s0 s1 s2 μ K38 Q) : G x 10 206 [(0, .ref (gB x + o0)), (3, .int i3), (4, .int i4), (5, .int i5), (6, .int i6), (7, .int i7)] [.long s0, .int s1, vr (gB x) s2] μ 0 0 := by
  unfold B_X11_summedUp_206 at h
  obtain ⟨t57, e58, h59⟩ := h
  subst e58
  have h := h59
  obtain ⟨v60, h⟩ := h
  refine g_last f v60 dX11_summedUp_206 h (fun h => ?_)
  refine g_goto f 366 dX11_summedUp_207 rfl ?_
  exact h_sub [0, 1, 2, 3, 4, 5] rfl (tB_X11_summedUp_366 f hq hK38 h)
def B_X11_summedUp_112 (o0 : Nat) (i3 : Int32) (i4 : Int32) (i5 : Int32) (i6 : Int32) (i7 : Int32) (s0 : Int64) (s1 : Int32) (s2 : Option Nat) (μ : Me) (K38 : Int32 → Int32 → Int32 → Me → Prop) (Q : Int64 → Me → Prop) : Prop := ∃ t74, s2 = some t74 ∧ mok μ t74 13 ∧ vp_in s1 (mln μ t74) ∧ ∀ μ78, μ78 = msl μ t74 s1.toNatClampNeg s0 → B_X11_summedUp_366 o0 i3 i4 (i5 + 1) i6 i7 μ78 K38 Q
set_option maxHeartbeats 4000000 in
set_option maxRecDepth 100000 in
theorem tB_X11_summedUp_112 {x : GX} (f : Fx x cX11_summedUp RX11 10 (rmc 2 0 0)) {o0 : Nat} {i3 : Int32} {i4 : Int32} {i5 : Int32} {i6 : Int32} {i7 : Int32} {s0 : Int64} {s1 : Int32} {s2 : Option Nat} {μ : Me} {Q : Int64 → Me → Prop} (hq : Rt x (some .long) (qL Q)) {K38 : Int32 → Int32 → Int32 → Me → Prop} (hK38 : ∀ (a5 : Int32) (a6 : Int32) (a7 : Int32) (ν : Me), K38 a5 a6 a7 ν → G x 10 38 [(0, .ref (gB x + o0)), (3, .int i3), (4, .int i4), (5, .int a5), (6, .int a6), (7, .int a7)] [] ν 0 0) (h : B_X11_summedUp_112 o0 i3 i4 i5 i6 i7 s0 s1 s2 μ K38 Q) : G x 10 112 [(0, .ref (gB x + o0)), (3, .int i3), (4, .int i4), (5, .int i5), (6, .int i6), (7, .int i7)] [.long s0, .int s1, vr (gB x) s2] μ 0 0 := by
  unfold B_X11_summedUp_112 at h
  obtain ⟨t74, e75, h76⟩ := h
  subst e75
  have h := h76
  obtain ⟨v77, h⟩ := h
  refine g_last f v77 dX11_summedUp_112 h (fun h => ?_)
  refine h_iinc f 3 1 dX11_summedUp_113 rfl kc_1 (by decide) ?_
  refine g_goto f 366 dX11_summedUp_116 rfl ?_
  exact h_sub [1, 2, 3, 0, 4, 5] rfl (tB_X11_summedUp_366 f hq hK38 h)
def B_X11_summedUp_38 (o0 : Nat) (i3 : Int32) (i4 : Int32) (i5 : Int32) (i6 : Int32) (i7 : Int32) (μ : Me) (K38 : Int32 → Int32 → Int32 → Me → Prop) (Q : Int64 → Me → Prop) : Prop := mok μ o0 11 ∧ ∃ t5, mgr μ o0 2 = some t5 ∧ mok μ t5 12 ∧ vp_in (i3 + 2) (mln μ t5) ∧ (((mgi μ t5 (i3 + 2).toNatClampNeg) ≤ i7 → ∃ t7, mgr μ o0 22 = some t7 ∧ mok μ t7 13 ∧ vp_in (0 : Int32) (mln μ t7) ∧ Q (mgl μ t7 (0 : Int32).toNatClampNeg) μ) ∧ (¬ (mgi μ t5 (i3 + 2).toNatClampNeg) ≤ i7 → ∃ t9, mgr μ o0 2 = some t9 ∧ mok μ t9 12 ∧ vp_in (i4 + (2 * i7)) (mln μ t9) ∧ ∃ t11, mgr μ o0 2 = some t11 ∧ mok μ t11 12 ∧ vp_in ((i4 + (2 * i7)) + 1) (mln μ t11) ∧ ((1 < (mgi μ t9 (i4 + (2 * i7)).toNatClampNeg) → ((¬ (mgi μ t9 (i4 + (2 * i7)).toNatClampNeg) = 3 → ((5 < (mgi μ t9 (i4 + (2 * i7)).toNatClampNeg) → ((10 ≤ (mgi μ t9 (i4 + (2 * i7)).toNatClampNeg) → ((20 ≤ (mgi μ t9 (i4 + (2 * i7)).toNatClampNeg) → ((¬ (mgi μ t9 (i4 + (2 * i7)).toNatClampNeg) = 20 → ∃ t13, mgr μ o0 23 = some t13 ∧ ∃ t14, mgr μ o0 23 = some t14 ∧ mok μ t14 14 ∧ vp_in ((i6 + (-1)) - 1) (mln μ t14) ∧ ∃ t16, mgr μ o0 23 = some t16 ∧ mok μ t16 14 ∧ vp_in (i6 + (-1)) (mln μ t16) ∧ S_X11_joined (mgi μ t9 (i4 + (2 * i7)).toNatClampNeg) (mgi μ t14 ((i6 + (-1)) - 1).toNatClampNeg) (mgi μ t16 (i6 + (-1)).toNatClampNeg) μ (fun r20 μ18 => mok μ18 t13 14 ∧ vp_in ((i6 + (-1)) - 1) (mln μ18 t13) ∧ ∀ μ22, μ22 = msi μ18 t13 ((i6 + (-1)) - 1).toNatClampNeg (vp_nar .boolean r20) → B_X11_summedUp_366 o0 i3 i4 i5 (i6 + (-1)) i7 μ22 K38 Q)) ∧ ((mgi μ t9 (i4 + (2 * i7)).toNatClampNeg) = 20 → ∃ t23, mgr μ o0 23 = some t23 ∧ ∃ t24, mgr μ o0 23 = some t24 ∧ mok μ t24 14 ∧ vp_in (i6 - 1) (mln μ t24) ∧ ((¬ (mgi μ t24 (i6 - 1).toNatClampNeg) = 0 → B_X11_summedUp_329 o0 i3 i4 i5 i6 i7 0 (i6 - 1) (some t23) μ K38 Q) ∧ ((mgi μ t24 (i6 - 1).toNatClampNeg) = 0 → B_X11_summedUp_329 o0 i3 i4 i5 i6 i7 1 (i6 - 1) (some t23) μ K38 Q))))) ∧ (¬ 20 ≤ (mgi μ t9 (i4 + (2 * i7)).toNatClampNeg) → ∃ t31, mgr μ o0 23 = some t31 ∧ ∃ t32, mgr μ o0 22 = some t32 ∧ mok μ t32 13 ∧ vp_in (i5 + (-2)) (mln μ t32) ∧ ∃ t34, mgr μ o0 22 = some t34 ∧ mok μ t34 13 ∧ vp_in ((i5 + (-2)) + 1) (mln μ t34) ∧ S_X11_isAsked (mgi μ t9 (i4 + (2 * i7)).toNatClampNeg) (mgl μ t32 (i5 + (-2)).toNatClampNeg) (mgl μ t34 ((i5 + (-2)) + 1).toNatClampNeg) μ (fun r38 μ36 => mok μ36 t31 14 ∧ vp_in i6 (mln μ36 t31) ∧ ∀ μ40, μ40 = msi μ36 t31 i6.toNatClampNeg (vp_nar .boolean r38) → B_X11_summedUp_366 o0 i3 i4 (i5 + (-2)) (i6 + 1) i7 μ40 K38 Q)))) ∧ (¬ 10 ≤ (mgi μ t9 (i4 + (2 * i7)).toNatClampNeg) → ∃ t41, mgr μ o0 22 = some t41 ∧ ∃ t42, mgr μ o0 22 = some t42 ∧ mok μ t42 13 ∧ vp_in ((i5 + (-1)) - 1) (mln μ t42) ∧ ∃ t44, mgr μ o0 22 = some t44 ∧ mok μ t44 13 ∧ vp_in (i5 + (-1)) (mln μ t44) ∧ S_X11_two (mgi μ t9 (i4 + (2 * i7)).toNatClampNeg) (mgl μ t42 ((i5 + (-1)) - 1).toNatClampNeg) (mgl μ t44 (i5 + (-1)).toNatClampNeg) μ (fun r48 μ46 => mok μ46 t41 13 ∧ vp_in ((i5 + (-1)) - 1) (mln μ46 t41) ∧ ∀ μ50, μ50 = msl μ46 t41 ((i5 + (-1)) - 1).toNatClampNeg r48 → B_X11_summedUp_366 o0 i3 i4 (i5 + (-1)) i6 i7 μ50 K38 Q)))) ∧ (¬ 5 < (mgi μ t9 (i4 + (2 * i7)).toNatClampNeg) → ∃ t51, mgr μ o0 22 = some t51 ∧ ((¬ (mgi μ t9 (i4 + (2 * i7)).toNatClampNeg) = 5 → ∃ t52, mgr μ o0 22 = some t52 ∧ mok μ t52 13 ∧ vp_in (i5 - 1) (mln μ t52) ∧ S_X11_ringsFor o0 (mgl μ t52 (i5 - 1).toNatClampNeg) μ (fun r56 μ54 => B_X11_summedUp_206 o0 i3 i4 i5 i6 i7 r56 (i5 - 1) (some t51) μ54 K38 Q)) ∧ ((mgi μ t9 (i4 + (2 * i7)).toNatClampNeg) = 5 → ∃ t62, mgr μ o0 22 = some t62 ∧ mok μ t62 13 ∧ vp_in (i5 - 1) (mln μ t62) ∧ B_X11_summedUp_206 o0 i3 i4 i5 i6 i7 (-(mgl μ t62 (i5 - 1).toNatClampNeg)) (i5 - 1) (some t51) μ K38 Q))))) ∧ ((mgi μ t9 (i4 + (2 * i7)).toNatClampNeg) = 3 → ∃ t64, mgr μ o0 23 = some t64 ∧ mok μ t64 14 ∧ vp_in (i6 + (-1)) (mln μ t64) ∧ ((¬ (mgi μ t64 (i6 + (-1)).toNatClampNeg) = 0 → B_X11_summedUp_366 o0 i3 i4 (i5 + (-1)) (i6 + (-1)) i7 μ K38 Q) ∧ ((mgi μ t64 (i6 + (-1)).toNatClampNeg) = 0 → ∃ t66, mgr μ o0 22 = some t66 ∧ ∃ t67, mgr μ o0 22 = some t67 ∧ mok μ t67 13 ∧ vp_in (i5 + (-1)) (mln μ t67) ∧ mok μ t66 13 ∧ vp_in ((i5 + (-1)) - 1) (mln μ t66) ∧ ∀ μ70, μ70 = msl μ t66 ((i5 + (-1)) - 1).toNatClampNeg (mgl μ t67 (i5 + (-1)).toNatClampNeg) → B_X11_summedUp_366 o0 i3 i4 (i5 + (-1)) (i6 + (-1)) i7 μ70 K38 Q))))) ∧ (¬ 1 < (mgi μ t9 (i4 + (2 * i7)).toNatClampNeg) → ∃ t71, mgr μ o0 22 = some t71 ∧ ((¬ (mgi μ t9 (i4 + (2 * i7)).toNatClampNeg) = 0 → ∃ t72, mgr μ o0 20 = some t72 ∧ mok μ t72 12 ∧ vp_in (mgi μ t11 ((i4 + (2 * i7)) + 1).toNatClampNeg) (mln μ t72) ∧ B_X11_summedUp_112 o0 i3 i4 i5 i6 i7 (mgi μ t72 (mgi μ t11 ((i4 + (2 * i7)) + 1).toNatClampNeg).toNatClampNeg).toInt64 i5 (some t71) μ K38 Q) ∧ ((mgi μ t9 (i4 + (2 * i7)).toNatClampNeg) = 0 → B_X11_summedUp_112 o0 i3 i4 i5 i6 i7 (mgi μ t11 ((i4 + (2 * i7)) + 1).toNatClampNeg).toInt64 i5 (some t71) μ K38 Q))))))
set_option maxHeartbeats 4000000 in
set_option maxRecDepth 100000 in
theorem tB_X11_summedUp_38 {x : GX} (f : Fx x cX11_summedUp RX11 10 (rmc 2 0 0)) {o0 : Nat} {i3 : Int32} {i4 : Int32} {i5 : Int32} {i6 : Int32} {i7 : Int32} {μ : Me} {Q : Int64 → Me → Prop} (hq : Rt x (some .long) (qL Q)) {K38 : Int32 → Int32 → Int32 → Me → Prop} (hK38 : ∀ (a5 : Int32) (a6 : Int32) (a7 : Int32) (ν : Me), K38 a5 a6 a7 ν → G x 10 38 [(0, .ref (gB x + o0)), (3, .int i3), (4, .int i4), (5, .int a5), (6, .int a6), (7, .int a7)] [] ν 0 0) (h : B_X11_summedUp_38 o0 i3 i4 i5 i6 i7 μ K38 Q) : G x 10 38 [(0, .ref (gB x + o0)), (3, .int i3), (4, .int i4), (5, .int i5), (6, .int i6), (7, .int i7)] [] μ 0 0 := by
  unfold B_X11_summedUp_38 at h
  refine g_iload f 5 dX11_summedUp_38 rfl ?_
  refine g_aload_n f 0 dX11_summedUp_40 rfl rfl ?_
  obtain ⟨v4, h⟩ := h
  refine g_getR f fk_X11_16 v4 dX11_summedUp_41 rfl h (fun t5 h => ?_)
  refine g_iload_n f 1 dX11_summedUp_44 rfl rfl ?_
  refine g_iconst f 2 dX11_summedUp_45 kc_2 ?_
  refine g_iadd f dX11_summedUp_46 ?_
  obtain ⟨v6, h⟩ := h
  refine g_iald f v6 dX11_summedUp_47 h (fun h => ?_)
  refine g_ic_ge f 372 dX11_summedUp_48 rfl h (fun h => ?_) (fun h => ?_)
  · refine g_aload_n f 0 dX11_summedUp_372 rfl rfl ?_
    refine g_getR f fk_X11_35 v4 dX11_summedUp_373 rfl h (fun t7 h => ?_)
    refine g_iconst f 0 dX11_summedUp_376 kc_0 ?_
    obtain ⟨v8, h⟩ := h
    refine g_lald f v8 dX11_summedUp_377 h (fun h => ?_)
    exact g_lret f hq (Nat.le_of_ble_eq_true rfl) (Nat.le_of_ble_eq_true rfl) dX11_summedUp_378 h
  · refine g_aload_n f 0 dX11_summedUp_51 rfl rfl ?_
    refine g_getR f fk_X11_16 v4 dX11_summedUp_52 rfl h (fun t9 h => ?_)
    refine g_iload f 2 dX11_summedUp_55 rfl ?_
    refine g_iconst f 2 dX11_summedUp_57 kc_2 ?_
    refine g_iload f 5 dX11_summedUp_58 rfl ?_
    refine g_imul f dX11_summedUp_60 ?_
    refine g_iadd f dX11_summedUp_61 ?_
    obtain ⟨v10, h⟩ := h
    refine g_iald f v10 dX11_summedUp_62 h (fun h => ?_)
    refine h_istore f dX11_summedUp_63 (by decide) ?_
    refine g_aload_n f 1 dX11_summedUp_65 rfl rfl ?_
    refine g_getR f fk_X11_16 v4 dX11_summedUp_66 rfl h (fun t11 h => ?_)
    refine g_iload f 3 dX11_summedUp_69 rfl ?_
    refine g_iconst f 2 dX11_summedUp_71 kc_2 ?_
    refine g_iload f 6 dX11_summedUp_72 rfl ?_
    refine g_imul f dX11_summedUp_74 ?_
    refine g_iadd f dX11_summedUp_75 ?_
    refine g_iconst f 1 dX11_summedUp_76 kc_1 ?_
    refine g_iadd f dX11_summedUp_77 ?_
    obtain ⟨v12, h⟩ := h
    refine g_iald f v12 dX11_summedUp_78 h (fun h => ?_)
    refine h_istore f dX11_summedUp_79 (by decide) ?_
    refine g_iload f 1 dX11_summedUp_81 rfl ?_
    refine g_iconst f 1 dX11_summedUp_83 kc_1 ?_
    refine g_ic_gt f 119 dX11_summedUp_84 rfl h (fun h => ?_) (fun h => ?_)
    · refine g_iload f 1 dX11_summedUp_119 rfl ?_
      refine g_iconst f 3 dX11_summedUp_121 kc_3 ?_
      refine g_ic_ne f 160 dX11_summedUp_122 rfl h (fun h => ?_) (fun h => ?_)
      · refine g_iload f 1 dX11_summedUp_160 rfl ?_
        refine g_iconst f 5 dX11_summedUp_162 kc_5 ?_
        refine g_ic_gt f 210 dX11_summedUp_163 rfl h (fun h => ?_) (fun h => ?_)
        · refine g_iload f 1 dX11_summedUp_210 rfl ?_
          refine g_bipush f 10 dX11_summedUp_212 kb_10 ?_
          refine g_ic_ge f 253 dX11_summedUp_214 rfl h (fun h => ?_) (fun h => ?_)
          · refine g_iload f 1 dX11_summedUp_253 rfl ?_
            refine g_bipush f 20 dX11_summedUp_255 kb_20 ?_
            refine g_ic_ge f 297 dX11_summedUp_257 rfl h (fun h => ?_) (fun h => ?_)
            · refine g_iload f 1 dX11_summedUp_297 rfl ?_
              refine g_bipush f 20 dX11_summedUp_299 kb_20 ?_
              refine g_ic_ne f 333 dX11_summedUp_301 rfl h (fun h => ?_) (fun h => ?_)
              · refine h_iinc f 6 (-1) dX11_summedUp_333 rfl kc_m1 (by decide) ?_
                refine g_aload_n f 3 dX11_summedUp_336 rfl rfl ?_
                refine g_getR f fk_X11_39 v4 dX11_summedUp_337 rfl h (fun t13 h => ?_)
                refine g_iload f 0 dX11_summedUp_340 rfl ?_
                refine g_iconst f 1 dX11_summedUp_342 kc_1 ?_
                refine g_isub f dX11_summedUp_343 ?_
                refine g_iload f 2 dX11_summedUp_344 rfl ?_
                refine g_aload_n f 3 dX11_summedUp_346 rfl rfl ?_
                refine g_getR f fk_X11_39 v4 dX11_summedUp_347 rfl h (fun t14 h => ?_)
                refine g_iload f 0 dX11_summedUp_350 rfl ?_
                refine g_iconst f 1 dX11_summedUp_352 kc_1 ?_
                refine g_isub f dX11_summedUp_353 ?_
                obtain ⟨v15, h⟩ := h
                refine g_zald f v15 dX11_summedUp_354 h (fun h => ?_)
                refine g_aload_n f 3 dX11_summedUp_355 rfl rfl ?_
                refine g_getR f fk_X11_39 v4 dX11_summedUp_356 rfl h (fun t16 h => ?_)
                refine g_iload f 0 dX11_summedUp_359 rfl ?_
                obtain ⟨v17, h⟩ := h
                refine g_zald f v17 dX11_summedUp_361 h (fun h => ?_)
                refine g_callS f mk_X11_281 (c_X11_joined h) dX11_summedUp_362 rfl rfl (Nat.le_of_ble_eq_true rfl) (rm_ok (by decide) (by decide)) ⟨Nat.le_of_ble_eq_true rfl, Nat.le_of_ble_eq_true rfl⟩ (kI fun r20 μ18 x19 h => ?_)
                obtain ⟨v21, h⟩ := h
                refine g_zast f v21 dX11_summedUp_365 h (fun h => ?_)
                exact h_sub [3, 4, 5, 6, 0, 7] rfl (tB_X11_summedUp_366 f hq hK38 h)
              · refine g_aload_n f 2 dX11_summedUp_304 rfl rfl ?_
                refine g_getR f fk_X11_39 v4 dX11_summedUp_305 rfl h (fun t23 h => ?_)
                refine g_iload f 6 dX11_summedUp_308 rfl ?_
                refine g_iconst f 1 dX11_summedUp_310 kc_1 ?_
                refine g_isub f dX11_summedUp_311 ?_
                refine g_aload_n f 2 dX11_summedUp_312 rfl rfl ?_
                refine g_getR f fk_X11_39 v4 dX11_summedUp_313 rfl h (fun t24 h => ?_)
                refine g_iload f 6 dX11_summedUp_316 rfl ?_
                refine g_iconst f 1 dX11_summedUp_318 kc_1 ?_
                refine g_isub f dX11_summedUp_319 ?_
                obtain ⟨v25, h⟩ := h
                refine g_zald f v25 dX11_summedUp_320 h (fun h => ?_)
                refine g_if_ne f 328 dX11_summedUp_321 rfl h (fun h => ?_) (fun h => ?_)
                · refine g_iconst f 0 dX11_summedUp_328 kc_0 ?_
                  exact h_sub [2, 3, 4, 5, 6, 7] rfl (tB_X11_summedUp_329 f hq hK38 h)
                · refine g_iconst f 1 dX11_summedUp_324 kc_1 ?_
                  refine g_goto f 329 dX11_summedUp_325 rfl ?_
                  exact h_sub [2, 3, 4, 5, 6, 7] rfl (tB_X11_summedUp_329 f hq hK38 h)
            · refine h_iinc f 5 (-2) dX11_summedUp_260 rfl kc_m2 (by decide) ?_
              refine g_aload_n f 3 dX11_summedUp_263 rfl rfl ?_
              refine g_getR f fk_X11_39 v4 dX11_summedUp_264 rfl h (fun t31 h => ?_)
              refine g_iload f 6 dX11_summedUp_267 rfl ?_
              refine g_iload f 2 dX11_summedUp_269 rfl ?_
              refine g_aload_n f 3 dX11_summedUp_271 rfl rfl ?_
              refine g_getR f fk_X11_35 v4 dX11_summedUp_272 rfl h (fun t32 h => ?_)
              refine g_iload f 0 dX11_summedUp_275 rfl ?_
              obtain ⟨v33, h⟩ := h
              refine g_lald f v33 dX11_summedUp_277 h (fun h => ?_)
              refine g_aload_n f 3 dX11_summedUp_278 rfl rfl ?_
              refine g_getR f fk_X11_35 v4 dX11_summedUp_279 rfl h (fun t34 h => ?_)
              refine g_iload f 0 dX11_summedUp_282 rfl ?_
              refine g_iconst f 1 dX11_summedUp_284 kc_1 ?_
              refine g_iadd f dX11_summedUp_285 ?_
              obtain ⟨v35, h⟩ := h
              refine g_lald f v35 dX11_summedUp_286 h (fun h => ?_)
              refine g_callS f mk_X11_277 (c_X11_isAsked h) dX11_summedUp_287 rfl rfl (Nat.le_of_ble_eq_true rfl) (rm_ok (by decide) (by decide)) ⟨Nat.le_of_ble_eq_true rfl, Nat.le_of_ble_eq_true rfl⟩ (kI fun r38 μ36 x37 h => ?_)
              obtain ⟨v39, h⟩ := h
              refine g_zast f v39 dX11_summedUp_290 h (fun h => ?_)
              refine h_iinc f 6 1 dX11_summedUp_291 rfl kc_1 (by decide) ?_
              refine g_goto f 366 dX11_summedUp_294 rfl ?_
              exact h_sub [4, 5, 6, 1, 0, 7] rfl (tB_X11_summedUp_366 f hq hK38 h)
          · refine h_iinc f 5 (-1) dX11_summedUp_217 rfl kc_m1 (by decide) ?_
            refine g_aload_n f 3 dX11_summedUp_220 rfl rfl ?_
            refine g_getR f fk_X11_35 v4 dX11_summedUp_221 rfl h (fun t41 h => ?_)
            refine g_iload f 0 dX11_summedUp_224 rfl ?_
            refine g_iconst f 1 dX11_summedUp_226 kc_1 ?_
            refine g_isub f dX11_summedUp_227 ?_
            refine g_iload f 2 dX11_summedUp_228 rfl ?_
            refine g_aload_n f 3 dX11_summedUp_230 rfl rfl ?_
            refine g_getR f fk_X11_35 v4 dX11_summedUp_231 rfl h (fun t42 h => ?_)
            refine g_iload f 0 dX11_summedUp_234 rfl ?_
            refine g_iconst f 1 dX11_summedUp_236 kc_1 ?_
            refine g_isub f dX11_summedUp_237 ?_
            obtain ⟨v43, h⟩ := h
            refine g_lald f v43 dX11_summedUp_238 h (fun h => ?_)
            refine g_aload_n f 3 dX11_summedUp_239 rfl rfl ?_
            refine g_getR f fk_X11_35 v4 dX11_summedUp_240 rfl h (fun t44 h => ?_)
            refine g_iload f 0 dX11_summedUp_243 rfl ?_
            obtain ⟨v45, h⟩ := h
            refine g_lald f v45 dX11_summedUp_245 h (fun h => ?_)
            refine g_callS f mk_X11_273 (c_X11_two h) dX11_summedUp_246 rfl rfl (Nat.le_of_ble_eq_true rfl) (rm_ok (by decide) (by decide)) ⟨Nat.le_of_ble_eq_true rfl, Nat.le_of_ble_eq_true rfl⟩ (kL fun r48 μ46 x47 h => ?_)
            obtain ⟨v49, h⟩ := h
            refine g_last f v49 dX11_summedUp_249 h (fun h => ?_)
            refine g_goto f 366 dX11_summedUp_250 rfl ?_
            exact h_sub [3, 4, 5, 0, 6, 7] rfl (tB_X11_summedUp_366 f hq hK38 h)
        · refine g_aload_n f 2 dX11_summedUp_166 rfl rfl ?_
          refine g_getR f fk_X11_35 v4 dX11_summedUp_167 rfl h (fun t51 h => ?_)
          refine g_iload f 5 dX11_summedUp_170 rfl ?_
          refine g_iconst f 1 dX11_summedUp_172 kc_1 ?_
          refine g_isub f dX11_summedUp_173 ?_
          refine g_iload f 1 dX11_summedUp_174 rfl ?_
          refine g_iconst f 5 dX11_summedUp_176 kc_5 ?_
          refine g_ic_ne f 193 dX11_summedUp_177 rfl h (fun h => ?_) (fun h => ?_)
          · refine g_aload_n f 2 dX11_summedUp_193 rfl rfl ?_
            refine g_aload_n f 2 dX11_summedUp_194 rfl rfl ?_
            refine g_getR f fk_X11_35 v4 dX11_summedUp_195 rfl h (fun t52 h => ?_)
            refine g_iload f 5 dX11_summedUp_198 rfl ?_
            refine g_iconst f 1 dX11_summedUp_200 kc_1 ?_
            refine g_isub f dX11_summedUp_201 ?_
            obtain ⟨v53, h⟩ := h
            refine g_lald f v53 dX11_summedUp_202 h (fun h => ?_)
            refine g_callV f mk_X11_270 v4 (c_X11_ringsFor h) dX11_summedUp_203 rfl rfl (Nat.le_of_ble_eq_true rfl) (rm_ok (by decide) (by decide)) ⟨Nat.le_of_ble_eq_true rfl, Nat.le_of_ble_eq_true rfl⟩ (kL fun r56 μ54 x55 h => ?_)
            exact h_sub [2, 3, 4, 5, 6, 7] rfl (tB_X11_summedUp_206 f hq hK38 h)
          · refine g_aload_n f 2 dX11_summedUp_180 rfl rfl ?_
            refine g_getR f fk_X11_35 v4 dX11_summedUp_181 rfl h (fun t62 h => ?_)
            refine g_iload f 5 dX11_summedUp_184 rfl ?_
            refine g_iconst f 1 dX11_summedUp_186 kc_1 ?_
            refine g_isub f dX11_summedUp_187 ?_
            obtain ⟨v63, h⟩ := h
            refine g_lald f v63 dX11_summedUp_188 h (fun h => ?_)
            refine g_lneg f dX11_summedUp_189 ?_
            refine g_goto f 206 dX11_summedUp_190 rfl ?_
            exact h_sub [2, 3, 4, 5, 6, 7] rfl (tB_X11_summedUp_206 f hq hK38 h)
      · refine h_iinc f 5 (-1) dX11_summedUp_125 rfl kc_m1 (by decide) ?_
        refine h_iinc f 6 (-1) dX11_summedUp_128 rfl kc_m1 (by decide) ?_
        refine g_aload_n f 4 dX11_summedUp_131 rfl rfl ?_
        refine g_getR f fk_X11_39 v4 dX11_summedUp_132 rfl h (fun t64 h => ?_)
        refine g_iload f 0 dX11_summedUp_135 rfl ?_
        obtain ⟨v65, h⟩ := h
        refine g_zald f v65 dX11_summedUp_137 h (fun h => ?_)
        refine g_if_ne f 366 dX11_summedUp_138 rfl h (fun h => ?_) (fun h => ?_)
        · exact h_sub [4, 5, 6, 1, 0, 7] rfl (tB_X11_summedUp_366 f hq hK38 h)
        · refine g_aload_n f 4 dX11_summedUp_141 rfl rfl ?_
          refine g_getR f fk_X11_35 v4 dX11_summedUp_142 rfl h (fun t66 h => ?_)
          refine g_iload f 1 dX11_summedUp_145 rfl ?_
          refine g_iconst f 1 dX11_summedUp_147 kc_1 ?_
          refine g_isub f dX11_summedUp_148 ?_
          refine g_aload_n f 4 dX11_summedUp_149 rfl rfl ?_
          refine g_getR f fk_X11_35 v4 dX11_summedUp_150 rfl h (fun t67 h => ?_)
          refine g_iload f 1 dX11_summedUp_153 rfl ?_
          obtain ⟨v68, h⟩ := h
          refine g_lald f v68 dX11_summedUp_155 h (fun h => ?_)
          obtain ⟨v69, h⟩ := h
          refine g_last f v69 dX11_summedUp_156 h (fun h => ?_)
          refine g_goto f 366 dX11_summedUp_157 rfl ?_
          exact h_sub [4, 5, 6, 1, 0, 7] rfl (tB_X11_summedUp_366 f hq hK38 h)
    · refine g_aload_n f 2 dX11_summedUp_87 rfl rfl ?_
      refine g_getR f fk_X11_35 v4 dX11_summedUp_88 rfl h (fun t71 h => ?_)
      refine g_iload f 5 dX11_summedUp_91 rfl ?_
      refine g_iload f 1 dX11_summedUp_93 rfl ?_
      refine g_if_ne f 104 dX11_summedUp_95 rfl h (fun h => ?_) (fun h => ?_)
      · refine g_aload_n f 2 dX11_summedUp_104 rfl rfl ?_
        refine g_getR f fk_X11_32 v4 dX11_summedUp_105 rfl h (fun t72 h => ?_)
        refine g_iload f 0 dX11_summedUp_108 rfl ?_
        obtain ⟨v73, h⟩ := h
        refine g_iald f v73 dX11_summedUp_110 h (fun h => ?_)
        refine g_i2l f dX11_summedUp_111 ?_
        exact h_sub [2, 3, 4, 5, 6, 7] rfl (tB_X11_summedUp_112 f hq hK38 h)
      · refine g_iload f 0 dX11_summedUp_98 rfl ?_
        refine g_i2l f dX11_summedUp_100 ?_
        refine g_goto f 112 dX11_summedUp_101 rfl ?_
        exact h_sub [2, 3, 4, 5, 6, 7] rfl (tB_X11_summedUp_112 f hq hK38 h)
def L_X11_summedUp_38 (o0 : Nat) (i3 : Int32) (i4 : Int32) (i5 : Int32) (i6 : Int32) (i7 : Int32) (μ : Me) (Q : Int64 → Me → Prop) : Prop := ∃ I : Int32 → Int32 → Int32 → Me → Nat → Prop, (∃ n, I i5 i6 i7 μ n) ∧ ∀ (i5 : Int32) (i6 : Int32) (i7 : Int32) (μ : Me) (n : Nat), I i5 i6 i7 μ n → B_X11_summedUp_38 o0 i3 i4 i5 i6 i7 μ (fun a5 a6 a7 ν => ∃ n', n' < n ∧ I a5 a6 a7 ν n') Q
set_option maxHeartbeats 4000000 in
set_option maxRecDepth 100000 in
theorem tL_X11_summedUp_38 {x : GX} (f : Fx x cX11_summedUp RX11 10 (rmc 2 0 0)) {o0 : Nat} {i3 : Int32} {i4 : Int32} {i5 : Int32} {i6 : Int32} {i7 : Int32} {μ : Me} {Q : Int64 → Me → Prop} (hq : Rt x (some .long) (qL Q)) (h : L_X11_summedUp_38 o0 i3 i4 i5 i6 i7 μ Q) : G x 10 38 [(0, .ref (gB x + o0)), (3, .int i3), (4, .int i4), (5, .int i5), (6, .int i6), (7, .int i7)] [] μ 0 0 := by
  obtain ⟨I, ⟨n, hI⟩, hs⟩ := h
  induction n using Nat.strongRecOn generalizing i5 i6 i7 μ with
  | ind n ih => exact tB_X11_summedUp_38 f hq (fun a5 a6 a7 ν hk => by obtain ⟨n2, hn, hI2⟩ := hk; exact ih n2 hn hI2) (hs _ _ _ _ _ hI)
def S_X11_summedUp (o0 : Nat) (i1 : Int32) (i2 : Int32) (μ : Me) (Q : Int64 → Me → Prop) : Prop := mok μ o0 11 ∧ ∃ t2, mgr μ o0 2 = some t2 ∧ mok μ t2 12 ∧ vp_in ((((729 * i1) + 1) + (5 * i2)) + 1) (mln μ t2) ∧ L_X11_summedUp_38 o0 (((729 * i1) + 1) + (5 * i2)) ((729 * i1) + 121) 0 0 (mgi μ t2 ((((729 * i1) + 1) + (5 * i2)) + 1).toNatClampNeg) μ Q
set_option maxHeartbeats 4000000 in
set_option maxRecDepth 100000 in
theorem t_X11_summedUp {x : GX} (f : Fx x cX11_summedUp RX11 10 (rmc 2 0 0)) {o0 : Nat} {i1 : Int32} {i2 : Int32} {μ : Me} {Q : Int64 → Me → Prop} (hq : Rt x (some .long) (qL Q)) (h : S_X11_summedUp o0 i1 i2 μ Q) : G x 10 0 [(0, .ref (gB x + o0)), (1, .int i1), (2, .int i2)] [] μ 0 0 := by
  unfold S_X11_summedUp at h
  refine g_sipush f 729 dX11_summedUp_0 ks_729 ?_
  refine g_iload_n f 1 dX11_summedUp_3 rfl rfl ?_
  refine g_imul f dX11_summedUp_4 ?_
  refine g_iconst f 1 dX11_summedUp_5 kc_1 ?_
  refine g_iadd f dX11_summedUp_6 ?_
  refine g_iconst f 5 dX11_summedUp_7 kc_5 ?_
  refine g_iload_n f 2 dX11_summedUp_8 rfl rfl ?_
  refine g_imul f dX11_summedUp_9 ?_
  refine g_iadd f dX11_summedUp_10 ?_
  refine h_istore_n f dX11_summedUp_11 rfl (by decide) ?_
  refine g_sipush f 729 dX11_summedUp_12 ks_729 ?_
  refine g_iload_n f 2 dX11_summedUp_15 rfl rfl ?_
  refine g_imul f dX11_summedUp_16 ?_
  refine g_bipush f 121 dX11_summedUp_17 kb_121 ?_
  refine g_iadd f dX11_summedUp_19 ?_
  refine h_istore f dX11_summedUp_20 (by decide) ?_
  refine g_iconst f 0 dX11_summedUp_22 kc_0 ?_
  refine h_istore f dX11_summedUp_23 (by decide) ?_
  refine g_iconst f 0 dX11_summedUp_25 kc_0 ?_
  refine h_istore f dX11_summedUp_26 (by decide) ?_
  refine g_aload_n f 4 dX11_summedUp_28 rfl rfl ?_
  obtain ⟨v1, h⟩ := h
  refine g_getR f fk_X11_16 v1 dX11_summedUp_29 rfl h (fun t2 h => ?_)
  refine g_iload_n f 3 dX11_summedUp_32 rfl rfl ?_
  refine g_iconst f 1 dX11_summedUp_33 kc_1 ?_
  refine g_iadd f dX11_summedUp_34 ?_
  obtain ⟨v3, h⟩ := h
  refine g_iald f v3 dX11_summedUp_35 h (fun h => ?_)
  refine h_istore f dX11_summedUp_36 (by decide) ?_
  exact h_sub [5, 4, 3, 2, 1, 0] rfl (tL_X11_summedUp_38 f hq h)
theorem c_X11_summedUp {Ω : OM} {o0 : Nat} {i1 : Int32} {i2 : Int32} {μ : Me} {Q : Int64 → Me → Prop} (h : S_X11_summedUp o0 i1 i2 μ Q) : CT Ω yX11_summedUp cX11_summedUp 10 (some .long) (rmc 2 0 0) [.ref (oB Ω + o0), .int i1, .int i2] μ (qL Q) := CT_of (by decide) rfl (by simp [lg_sl, Value.category]) (fun x hΩ f hq hi => by subst hΩ; exact t_X11_summedUp f hq h)
theorem dX11_cut_0 : decode cX11_cut 0 = .ok (.lload_n 0, 1) := by decide +kernel
theorem dX11_cut_1 : decode cX11_cut 1 = .ok (.iload_n 2, 1) := by decide +kernel
theorem dX11_cut_2 : decode cX11_cut 2 = .ok (.i2l, 1) := by decide +kernel
theorem dX11_cut_3 : decode cX11_cut 3 = .ok (.lcmp, 1) := by decide +kernel
theorem dX11_cut_4 : decode cX11_cut 4 = .ok (.ifCond .ge 7, 3) := by decide +kernel
theorem dX11_cut_7 : decode cX11_cut 7 = .ok (.iload_n 2, 1) := by decide +kernel
theorem dX11_cut_8 : decode cX11_cut 8 = .ok (.goto 16, 3) := by decide +kernel
theorem dX11_cut_11 : decode cX11_cut 11 = .ok (.lload_n 0, 1) := by decide +kernel
theorem dX11_cut_12 : decode cX11_cut 12 = .ok (.iload_n 3, 1) := by decide +kernel
theorem dX11_cut_13 : decode cX11_cut 13 = .ok (.i2l, 1) := by decide +kernel
theorem dX11_cut_14 : decode cX11_cut 14 = .ok (.lcmp, 1) := by decide +kernel
theorem dX11_cut_15 : decode cX11_cut 15 = .ok (.ifCond .le 7, 3) := by decide +kernel
theorem dX11_cut_18 : decode cX11_cut 18 = .ok (.iload_n 3, 1) := by decide +kernel
theorem dX11_cut_19 : decode cX11_cut 19 = .ok (.goto 5, 3) := by decide +kernel
theorem dX11_cut_22 : decode cX11_cut 22 = .ok (.lload_n 0, 1) := by decide +kernel
theorem dX11_cut_23 : decode cX11_cut 23 = .ok (.l2i, 1) := by decide +kernel
theorem dX11_cut_24 : decode cX11_cut 24 = .ok (.ireturn, 1) := by decide +kernel
def S_X11_cut (j0 : Int64) (i2 : Int32) (i3 : Int32) (μ : Me) (Q : Int32 → Me → Prop) : Prop := ((0 ≤ (lg_cmp j0 i2.toInt64) → (((lg_cmp j0 i3.toInt64) ≤ 0 → Q j0.toInt32 μ) ∧ (¬ (lg_cmp j0 i3.toInt64) ≤ 0 → Q i3 μ))) ∧ (¬ 0 ≤ (lg_cmp j0 i2.toInt64) → Q i2 μ))
set_option maxHeartbeats 4000000 in
set_option maxRecDepth 100000 in
theorem t_X11_cut {x : GX} (f : Fx x cX11_cut RX11 4 (rmc 0 0 0)) {j0 : Int64} {i2 : Int32} {i3 : Int32} {μ : Me} {Q : Int32 → Me → Prop} (hq : Rt x (some .int) (qI Q)) (h : S_X11_cut j0 i2 i3 μ Q) : G x 4 0 [(0, .long j0), (2, .int i2), (3, .int i3)] [] μ 0 0 := by
  unfold S_X11_cut at h
  refine g_lload_n f 0 dX11_cut_0 rfl rfl ?_
  refine g_iload_n f 1 dX11_cut_1 rfl rfl ?_
  refine g_i2l f dX11_cut_2 ?_
  refine g_lcmp f dX11_cut_3 ?_
  refine g_if_ge f 11 dX11_cut_4 rfl h (fun h => ?_) (fun h => ?_)
  · refine g_lload_n f 0 dX11_cut_11 rfl rfl ?_
    refine g_iload_n f 2 dX11_cut_12 rfl rfl ?_
    refine g_i2l f dX11_cut_13 ?_
    refine g_lcmp f dX11_cut_14 ?_
    refine g_if_le f 22 dX11_cut_15 rfl h (fun h => ?_) (fun h => ?_)
    · refine g_lload_n f 0 dX11_cut_22 rfl rfl ?_
      refine g_l2i f dX11_cut_23 ?_
      exact g_iret f hq (Nat.le_of_ble_eq_true rfl) (Nat.le_of_ble_eq_true rfl) dX11_cut_24 h
    · refine g_iload_n f 2 dX11_cut_18 rfl rfl ?_
      refine g_goto f 24 dX11_cut_19 rfl ?_
      exact g_iret f hq (Nat.le_of_ble_eq_true rfl) (Nat.le_of_ble_eq_true rfl) dX11_cut_24 h
  · refine g_iload_n f 1 dX11_cut_7 rfl rfl ?_
    refine g_goto f 24 dX11_cut_8 rfl ?_
    exact g_iret f hq (Nat.le_of_ble_eq_true rfl) (Nat.le_of_ble_eq_true rfl) dX11_cut_24 h
theorem c_X11_cut {Ω : OM} {j0 : Int64} {i2 : Int32} {i3 : Int32} {μ : Me} {Q : Int32 → Me → Prop} (h : S_X11_cut j0 i2 i3 μ Q) : CT Ω yX11_cut cX11_cut 4 (some .int) (rmc 0 0 0) [.long j0, .int i2, .int i3] μ (qI Q) := CT_of (by decide) rfl (by simp [lg_sl, Value.category]) (fun x hΩ f hq hi => by subst hΩ; exact t_X11_cut f hq h)
theorem dX11_says_0 : decode cX11_says 0 = .ok (.iconst 0, 1) := by decide +kernel
theorem dX11_says_1 : decode cX11_says 1 = .ok (.istore 5, 2) := by decide +kernel
theorem dX11_says_3 : decode cX11_says 3 = .ok (.iload_n 1, 1) := by decide +kernel
theorem dX11_says_4 : decode cX11_says 4 = .ok (.ifCond .lt 59, 3) := by decide +kernel
theorem dX11_says_7 : decode cX11_says 7 = .ok (.iload 5, 2) := by decide +kernel
theorem dX11_says_9 : decode cX11_says 9 = .ok (.aload_n 0, 1) := by decide +kernel
theorem dX11_says_10 : decode cX11_says 10 = .ok (.getfield 16, 3) := by decide +kernel
theorem dX11_says_13 : decode cX11_says 13 = .ok (.sipush 729, 3) := by decide +kernel
theorem dX11_says_16 : decode cX11_says 16 = .ok (.iload_n 1, 1) := by decide +kernel
theorem dX11_says_17 : decode cX11_says 17 = .ok (.imul, 1) := by decide +kernel
theorem dX11_says_18 : decode cX11_says 18 = .ok (.iaload, 1) := by decide +kernel
theorem dX11_says_19 : decode cX11_says 19 = .ok (.if_icmp .ge 44, 3) := by decide +kernel
theorem dX11_says_22 : decode cX11_says 22 = .ok (.aload_n 0, 1) := by decide +kernel
theorem dX11_says_23 : decode cX11_says 23 = .ok (.getfield 16, 3) := by decide +kernel
theorem dX11_says_26 : decode cX11_says 26 = .ok (.sipush 729, 3) := by decide +kernel
theorem dX11_says_29 : decode cX11_says 29 = .ok (.iload_n 1, 1) := by decide +kernel
theorem dX11_says_30 : decode cX11_says 30 = .ok (.imul, 1) := by decide +kernel
theorem dX11_says_31 : decode cX11_says 31 = .ok (.iconst 1, 1) := by decide +kernel
theorem dX11_says_32 : decode cX11_says 32 = .ok (.iadd, 1) := by decide +kernel
theorem dX11_says_33 : decode cX11_says 33 = .ok (.iconst 5, 1) := by decide +kernel
theorem dX11_says_34 : decode cX11_says 34 = .ok (.iload 5, 2) := by decide +kernel
theorem dX11_says_36 : decode cX11_says 36 = .ok (.imul, 1) := by decide +kernel
theorem dX11_says_37 : decode cX11_says 37 = .ok (.iadd, 1) := by decide +kernel
theorem dX11_says_38 : decode cX11_says 38 = .ok (.iaload, 1) := by decide +kernel
theorem dX11_says_39 : decode cX11_says 39 = .ok (.iload_n 2, 1) := by decide +kernel
theorem dX11_says_40 : decode cX11_says 40 = .ok (.if_icmp .ne 17, 3) := by decide +kernel
theorem dX11_says_43 : decode cX11_says 43 = .ok (.aload_n 0, 1) := by decide +kernel
theorem dX11_says_44 : decode cX11_says 44 = .ok (.iload_n 1, 1) := by decide +kernel
theorem dX11_says_45 : decode cX11_says 45 = .ok (.iload 5, 2) := by decide +kernel
theorem dX11_says_47 : decode cX11_says 47 = .ok (.invokevirtual 285, 3) := by decide +kernel
theorem dX11_says_50 : decode cX11_says 50 = .ok (.iconst 0, 1) := by decide +kernel
theorem dX11_says_51 : decode cX11_says 51 = .ok (.iload 4, 2) := by decide +kernel
theorem dX11_says_53 : decode cX11_says 53 = .ok (.invokestatic 288, 3) := by decide +kernel
theorem dX11_says_56 : decode cX11_says 56 = .ok (.ireturn, 1) := by decide +kernel
theorem dX11_says_57 : decode cX11_says 57 = .ok (.iinc 5 1, 3) := by decide +kernel
theorem dX11_says_60 : decode cX11_says 60 = .ok (.goto (-57), 3) := by decide +kernel
theorem dX11_says_63 : decode cX11_says 63 = .ok (.iload_n 3, 1) := by decide +kernel
theorem dX11_says_64 : decode cX11_says 64 = .ok (.i2l, 1) := by decide +kernel
theorem dX11_says_65 : decode cX11_says 65 = .ok (.iconst 0, 1) := by decide +kernel
theorem dX11_says_66 : decode cX11_says 66 = .ok (.iload 4, 2) := by decide +kernel
theorem dX11_says_68 : decode cX11_says 68 = .ok (.invokestatic 288, 3) := by decide +kernel
theorem dX11_says_71 : decode cX11_says 71 = .ok (.ireturn, 1) := by decide +kernel
def B_X11_says_63 (i3 : Int32) (i4 : Int32) (μ : Me) (Q : Int32 → Me → Prop) : Prop := S_X11_cut i3.toInt64 0 i4 μ (fun r3 μ1 => Q r3 μ1)
set_option maxHeartbeats 4000000 in
set_option maxRecDepth 100000 in
theorem tB_X11_says_63 {x : GX} (f : Fx x cX11_says RX11 6 (rmc 3 0 0)) {i3 : Int32} {i4 : Int32} {μ : Me} {Q : Int32 → Me → Prop} (hq : Rt x (some .int) (qI Q)) (h : B_X11_says_63 i3 i4 μ Q) : G x 6 63 [(3, .int i3), (4, .int i4)] [] μ 0 0 := by
  unfold B_X11_says_63 at h
  refine g_iload_n f 0 dX11_says_63 rfl rfl ?_
  refine g_i2l f dX11_says_64 ?_
  refine g_iconst f 0 dX11_says_65 kc_0 ?_
  refine g_iload f 1 dX11_says_66 rfl ?_
  refine g_callS f mk_X11_288 (c_X11_cut h) dX11_says_68 rfl rfl (Nat.le_of_ble_eq_true rfl) (rm_ok (by decide) (by decide)) ⟨Nat.le_of_ble_eq_true rfl, Nat.le_of_ble_eq_true rfl⟩ (kI fun r3 μ1 x2 h => ?_)
  exact g_iret f hq (Nat.le_of_ble_eq_true rfl) (Nat.le_of_ble_eq_true rfl) dX11_says_71 h
def B_X11_says_3 (o0 : Nat) (i1 : Int32) (i2 : Int32) (i3 : Int32) (i4 : Int32) (i5 : Int32) (μ : Me) (K3 : Int32 → Me → Prop) (Q : Int32 → Me → Prop) : Prop := ((i1 < 0 → B_X11_says_63 i3 i4 μ Q) ∧ (¬ i1 < 0 → mok μ o0 11 ∧ ∃ t5, mgr μ o0 2 = some t5 ∧ mok μ t5 12 ∧ vp_in (729 * i1) (mln μ t5) ∧ (((mgi μ t5 (729 * i1).toNatClampNeg) ≤ i5 → B_X11_says_63 i3 i4 μ Q) ∧ (¬ (mgi μ t5 (729 * i1).toNatClampNeg) ≤ i5 → ∃ t7, mgr μ o0 2 = some t7 ∧ mok μ t7 12 ∧ vp_in (((729 * i1) + 1) + (5 * i5)) (mln μ t7) ∧ ((¬ (mgi μ t7 (((729 * i1) + 1) + (5 * i5)).toNatClampNeg) = i2 → K3 (i5 + 1) μ) ∧ ((mgi μ t7 (((729 * i1) + 1) + (5 * i5)).toNatClampNeg) = i2 → S_X11_summedUp o0 i1 i5 μ (fun r11 μ9 => S_X11_cut r11 0 i4 μ9 (fun r14 μ12 => Q r14 μ12))))))))
set_option maxHeartbeats 4000000 in
set_option maxRecDepth 100000 in
theorem tB_X11_says_3 {x : GX} (f : Fx x cX11_says RX11 6 (rmc 3 0 0)) {o0 : Nat} {i1 : Int32} {i2 : Int32} {i3 : Int32} {i4 : Int32} {i5 : Int32} {μ : Me} {Q : Int32 → Me → Prop} (hq : Rt x (some .int) (qI Q)) {K3 : Int32 → Me → Prop} (hK3 : ∀ (a5 : Int32) (ν : Me), K3 a5 ν → G x 6 3 [(0, .ref (gB x + o0)), (1, .int i1), (2, .int i2), (3, .int i3), (4, .int i4), (5, .int a5)] [] ν 0 0) (h : B_X11_says_3 o0 i1 i2 i3 i4 i5 μ K3 Q) : G x 6 3 [(0, .ref (gB x + o0)), (1, .int i1), (2, .int i2), (3, .int i3), (4, .int i4), (5, .int i5)] [] μ 0 0 := by
  unfold B_X11_says_3 at h
  refine g_iload_n f 1 dX11_says_3 rfl rfl ?_
  refine g_if_lt f 63 dX11_says_4 rfl h (fun h => ?_) (fun h => ?_)
  · exact h_sub [3, 4] rfl (tB_X11_says_63 f hq h)
  · refine g_iload f 5 dX11_says_7 rfl ?_
    refine g_aload_n f 0 dX11_says_9 rfl rfl ?_
    obtain ⟨v4, h⟩ := h
    refine g_getR f fk_X11_16 v4 dX11_says_10 rfl h (fun t5 h => ?_)
    refine g_sipush f 729 dX11_says_13 ks_729 ?_
    refine g_iload_n f 1 dX11_says_16 rfl rfl ?_
    refine g_imul f dX11_says_17 ?_
    obtain ⟨v6, h⟩ := h
    refine g_iald f v6 dX11_says_18 h (fun h => ?_)
    refine g_ic_ge f 63 dX11_says_19 rfl h (fun h => ?_) (fun h => ?_)
    · exact h_sub [3, 4] rfl (tB_X11_says_63 f hq h)
    · refine g_aload_n f 0 dX11_says_22 rfl rfl ?_
      refine g_getR f fk_X11_16 v4 dX11_says_23 rfl h (fun t7 h => ?_)
      refine g_sipush f 729 dX11_says_26 ks_729 ?_
      refine g_iload_n f 1 dX11_says_29 rfl rfl ?_
      refine g_imul f dX11_says_30 ?_
      refine g_iconst f 1 dX11_says_31 kc_1 ?_
      refine g_iadd f dX11_says_32 ?_
      refine g_iconst f 5 dX11_says_33 kc_5 ?_
      refine g_iload f 5 dX11_says_34 rfl ?_
      refine g_imul f dX11_says_36 ?_
      refine g_iadd f dX11_says_37 ?_
      obtain ⟨v8, h⟩ := h
      refine g_iald f v8 dX11_says_38 h (fun h => ?_)
      refine g_iload_n f 2 dX11_says_39 rfl rfl ?_
      refine g_ic_ne f 57 dX11_says_40 rfl h (fun h => ?_) (fun h => ?_)
      · refine h_iinc f 5 1 dX11_says_57 rfl kc_1 (by decide) ?_
        refine g_goto f 3 dX11_says_60 rfl ?_
        exact h_sub [1, 2, 3, 4, 5, 0] rfl (hK3 _ _ h)
      · refine g_aload_n f 0 dX11_says_43 rfl rfl ?_
        refine g_iload_n f 1 dX11_says_44 rfl rfl ?_
        refine g_iload f 5 dX11_says_45 rfl ?_
        refine g_callV f mk_X11_285 v4 (c_X11_summedUp h) dX11_says_47 rfl rfl (Nat.le_of_ble_eq_true rfl) (rm_ok (by decide) (by decide)) ⟨Nat.le_of_ble_eq_true rfl, Nat.le_of_ble_eq_true rfl⟩ (kL fun r11 μ9 x10 h => ?_)
        refine g_iconst f 0 dX11_says_50 kc_0 ?_
        refine g_iload f 4 dX11_says_51 rfl ?_
        refine g_callS f mk_X11_288 (c_X11_cut h) dX11_says_53 rfl rfl (Nat.le_of_ble_eq_true rfl) (rm_ok (by decide) (by decide)) ⟨Nat.le_of_ble_eq_true rfl, Nat.le_of_ble_eq_true rfl⟩ (kI fun r14 μ12 x13 h => ?_)
        exact g_iret f hq (Nat.le_of_ble_eq_true rfl) (Nat.le_of_ble_eq_true rfl) dX11_says_56 h
def L_X11_says_3 (o0 : Nat) (i1 : Int32) (i2 : Int32) (i3 : Int32) (i4 : Int32) (i5 : Int32) (μ : Me) (Q : Int32 → Me → Prop) : Prop := ∃ I : Int32 → Me → Nat → Prop, (∃ n, I i5 μ n) ∧ ∀ (i5 : Int32) (μ : Me) (n : Nat), I i5 μ n → B_X11_says_3 o0 i1 i2 i3 i4 i5 μ (fun a5 ν => ∃ n', n' < n ∧ I a5 ν n') Q
set_option maxHeartbeats 4000000 in
set_option maxRecDepth 100000 in
theorem tL_X11_says_3 {x : GX} (f : Fx x cX11_says RX11 6 (rmc 3 0 0)) {o0 : Nat} {i1 : Int32} {i2 : Int32} {i3 : Int32} {i4 : Int32} {i5 : Int32} {μ : Me} {Q : Int32 → Me → Prop} (hq : Rt x (some .int) (qI Q)) (h : L_X11_says_3 o0 i1 i2 i3 i4 i5 μ Q) : G x 6 3 [(0, .ref (gB x + o0)), (1, .int i1), (2, .int i2), (3, .int i3), (4, .int i4), (5, .int i5)] [] μ 0 0 := by
  obtain ⟨I, ⟨n, hI⟩, hs⟩ := h
  induction n using Nat.strongRecOn generalizing i5 μ with
  | ind n ih => exact tB_X11_says_3 f hq (fun a5 ν hk => by obtain ⟨n2, hn, hI2⟩ := hk; exact ih n2 hn hI2) (hs _ _ _ hI)
def S_X11_says (o0 : Nat) (i1 : Int32) (i2 : Int32) (i3 : Int32) (i4 : Int32) (μ : Me) (Q : Int32 → Me → Prop) : Prop := L_X11_says_3 o0 i1 i2 i3 i4 0 μ Q
set_option maxHeartbeats 4000000 in
set_option maxRecDepth 100000 in
theorem t_X11_says {x : GX} (f : Fx x cX11_says RX11 6 (rmc 3 0 0)) {o0 : Nat} {i1 : Int32} {i2 : Int32} {i3 : Int32} {i4 : Int32} {μ : Me} {Q : Int32 → Me → Prop} (hq : Rt x (some .int) (qI Q)) (h : S_X11_says o0 i1 i2 i3 i4 μ Q) : G x 6 0 [(0, .ref (gB x + o0)), (1, .int i1), (2, .int i2), (3, .int i3), (4, .int i4)] [] μ 0 0 := by
  unfold S_X11_says at h
  refine g_iconst f 0 dX11_says_0 kc_0 ?_
  refine h_istore f dX11_says_1 (by decide) ?_
  exact h_sub [1, 2, 3, 4, 5, 0] rfl (tL_X11_says_3 f hq h)
theorem c_X11_says {Ω : OM} {o0 : Nat} {i1 : Int32} {i2 : Int32} {i3 : Int32} {i4 : Int32} {μ : Me} {Q : Int32 → Me → Prop} (h : S_X11_says o0 i1 i2 i3 i4 μ Q) : CT Ω yX11_says cX11_says 6 (some .int) (rmc 3 0 0) [.ref (oB Ω + o0), .int i1, .int i2, .int i3, .int i4] μ (qI Q) := CT_of (by decide) rfl (by simp [lg_sl, Value.category]) (fun x hΩ f hq hi => by subst hΩ; exact t_X11_says f hq h)
theorem dX11_runnersBy_0 : decode cX11_runnersBy 0 = .ok (.iconst 0, 1) := by decide +kernel
theorem dX11_runnersBy_1 : decode cX11_runnersBy 1 = .ok (.istore_n 3, 1) := by decide +kernel
theorem dX11_runnersBy_2 : decode cX11_runnersBy 2 = .ok (.iconst 0, 1) := by decide +kernel
theorem dX11_runnersBy_3 : decode cX11_runnersBy 3 = .ok (.istore 4, 2) := by decide +kernel
theorem dX11_runnersBy_5 : decode cX11_runnersBy 5 = .ok (.iload 4, 2) := by decide +kernel
theorem dX11_runnersBy_7 : decode cX11_runnersBy 7 = .ok (.aload_n 0, 1) := by decide +kernel
theorem dX11_runnersBy_8 : decode cX11_runnersBy 8 = .ok (.getfield 7, 3) := by decide +kernel
theorem dX11_runnersBy_11 : decode cX11_runnersBy 11 = .ok (.iconst 0, 1) := by decide +kernel
theorem dX11_runnersBy_12 : decode cX11_runnersBy 12 = .ok (.iaload, 1) := by decide +kernel
theorem dX11_runnersBy_13 : decode cX11_runnersBy 13 = .ok (.if_icmp .ge 87, 3) := by decide +kernel
theorem dX11_runnersBy_16 : decode cX11_runnersBy 16 = .ok (.aload_n 0, 1) := by decide +kernel
theorem dX11_runnersBy_17 : decode cX11_runnersBy 17 = .ok (.iload 4, 2) := by decide +kernel
theorem dX11_runnersBy_19 : decode cX11_runnersBy 19 = .ok (.invokevirtual 292, 3) := by decide +kernel
theorem dX11_runnersBy_22 : decode cX11_runnersBy 22 = .ok (.ifCond .ne 6, 3) := by decide +kernel
theorem dX11_runnersBy_25 : decode cX11_runnersBy 25 = .ok (.goto 69, 3) := by decide +kernel
theorem dX11_runnersBy_28 : decode cX11_runnersBy 28 = .ok (.aload_n 0, 1) := by decide +kernel
theorem dX11_runnersBy_29 : decode cX11_runnersBy 29 = .ok (.iload 4, 2) := by decide +kernel
theorem dX11_runnersBy_31 : decode cX11_runnersBy 31 = .ok (.iload_n 2, 1) := by decide +kernel
theorem dX11_runnersBy_32 : decode cX11_runnersBy 32 = .ok (.invokevirtual 295, 3) := by decide +kernel
theorem dX11_runnersBy_35 : decode cX11_runnersBy 35 = .ok (.aload_n 0, 1) := by decide +kernel
theorem dX11_runnersBy_36 : decode cX11_runnersBy 36 = .ok (.getfield 32, 3) := by decide +kernel
theorem dX11_runnersBy_39 : decode cX11_runnersBy 39 = .ok (.bipush 7, 2) := by decide +kernel
theorem dX11_runnersBy_41 : decode cX11_runnersBy 41 = .ok (.iload_n 2, 1) := by decide +kernel
theorem dX11_runnersBy_42 : decode cX11_runnersBy 42 = .ok (.aload_n 0, 1) := by decide +kernel
theorem dX11_runnersBy_43 : decode cX11_runnersBy 43 = .ok (.getfield 7, 3) := by decide +kernel
theorem dX11_runnersBy_46 : decode cX11_runnersBy 46 = .ok (.bipush 67, 2) := by decide +kernel
theorem dX11_runnersBy_48 : decode cX11_runnersBy 48 = .ok (.iload 4, 2) := by decide +kernel
theorem dX11_runnersBy_50 : decode cX11_runnersBy 50 = .ok (.iadd, 1) := by decide +kernel
theorem dX11_runnersBy_51 : decode cX11_runnersBy 51 = .ok (.iaload, 1) := by decide +kernel
theorem dX11_runnersBy_52 : decode cX11_runnersBy 52 = .ok (.iand, 1) := by decide +kernel
theorem dX11_runnersBy_53 : decode cX11_runnersBy 53 = .ok (.invokestatic 298, 3) := by decide +kernel
theorem dX11_runnersBy_56 : decode cX11_runnersBy 56 = .ok (.iastore, 1) := by decide +kernel
theorem dX11_runnersBy_57 : decode cX11_runnersBy 57 = .ok (.iload_n 3, 1) := by decide +kernel
theorem dX11_runnersBy_58 : decode cX11_runnersBy 58 = .ok (.aload_n 0, 1) := by decide +kernel
theorem dX11_runnersBy_59 : decode cX11_runnersBy 59 = .ok (.iload_n 1, 1) := by decide +kernel
theorem dX11_runnersBy_60 : decode cX11_runnersBy 60 = .ok (.iconst 0, 1) := by decide +kernel
theorem dX11_runnersBy_61 : decode cX11_runnersBy 61 = .ok (.aload_n 0, 1) := by decide +kernel
theorem dX11_runnersBy_62 : decode cX11_runnersBy 62 = .ok (.getfield 32, 3) := by decide +kernel
theorem dX11_runnersBy_65 : decode cX11_runnersBy 65 = .ok (.bipush 7, 2) := by decide +kernel
theorem dX11_runnersBy_67 : decode cX11_runnersBy 67 = .ok (.iaload, 1) := by decide +kernel
theorem dX11_runnersBy_68 : decode cX11_runnersBy 68 = .ok (.ifCond .le 7, 3) := by decide +kernel
theorem dX11_runnersBy_71 : decode cX11_runnersBy 71 = .ok (.iconst 1, 1) := by decide +kernel
theorem dX11_runnersBy_72 : decode cX11_runnersBy 72 = .ok (.goto 4, 3) := by decide +kernel
theorem dX11_runnersBy_75 : decode cX11_runnersBy 75 = .ok (.iconst 0, 1) := by decide +kernel
theorem dX11_runnersBy_76 : decode cX11_runnersBy 76 = .ok (.bipush 9, 2) := by decide +kernel
theorem dX11_runnersBy_78 : decode cX11_runnersBy 78 = .ok (.invokevirtual 301, 3) := by decide +kernel
theorem dX11_runnersBy_81 : decode cX11_runnersBy 81 = .ok (.ifCond .le 10, 3) := by decide +kernel
theorem dX11_runnersBy_84 : decode cX11_runnersBy 84 = .ok (.iconst 1, 1) := by decide +kernel
theorem dX11_runnersBy_85 : decode cX11_runnersBy 85 = .ok (.iload 4, 2) := by decide +kernel
theorem dX11_runnersBy_87 : decode cX11_runnersBy 87 = .ok (.ishl, 1) := by decide +kernel
theorem dX11_runnersBy_88 : decode cX11_runnersBy 88 = .ok (.goto 4, 3) := by decide +kernel
theorem dX11_runnersBy_91 : decode cX11_runnersBy 91 = .ok (.iconst 0, 1) := by decide +kernel
theorem dX11_runnersBy_92 : decode cX11_runnersBy 92 = .ok (.ior, 1) := by decide +kernel
theorem dX11_runnersBy_93 : decode cX11_runnersBy 93 = .ok (.istore_n 3, 1) := by decide +kernel
theorem dX11_runnersBy_94 : decode cX11_runnersBy 94 = .ok (.iinc 4 1, 3) := by decide +kernel
theorem dX11_runnersBy_97 : decode cX11_runnersBy 97 = .ok (.goto (-92), 3) := by decide +kernel
theorem dX11_runnersBy_100 : decode cX11_runnersBy 100 = .ok (.iload_n 3, 1) := by decide +kernel
theorem dX11_runnersBy_101 : decode cX11_runnersBy 101 = .ok (.ireturn, 1) := by decide +kernel
def B_X11_runnersBy_94 (o0 : Nat) (i1 : Int32) (i2 : Int32) (i3 : Int32) (i4 : Int32) (μ : Me) (K5 : Int32 → Int32 → Me → Prop) (Q : Int32 → Me → Prop) : Prop := K5 i3 (i4 + 1) μ
set_option maxHeartbeats 4000000 in
set_option maxRecDepth 100000 in
theorem tB_X11_runnersBy_94 {x : GX} (f : Fx x cX11_runnersBy RX11 5 (rmc 4 0 0)) {o0 : Nat} {i1 : Int32} {i2 : Int32} {i3 : Int32} {i4 : Int32} {μ : Me} {Q : Int32 → Me → Prop} (hq : Rt x (some .int) (qI Q)) {K5 : Int32 → Int32 → Me → Prop} (hK5 : ∀ (a3 : Int32) (a4 : Int32) (ν : Me), K5 a3 a4 ν → G x 5 5 [(0, .ref (gB x + o0)), (1, .int i1), (2, .int i2), (3, .int a3), (4, .int a4)] [] ν 0 0) (h : B_X11_runnersBy_94 o0 i1 i2 i3 i4 μ K5 Q) : G x 5 94 [(0, .ref (gB x + o0)), (1, .int i1), (2, .int i2), (3, .int i3), (4, .int i4)] [] μ 0 0 := by
  unfold B_X11_runnersBy_94 at h
  refine h_iinc f 4 1 dX11_runnersBy_94 rfl kc_1 (by decide) ?_
  refine g_goto f 5 dX11_runnersBy_97 rfl ?_
  exact h_sub [1, 2, 3, 4, 0] rfl (hK5 _ _ _ h)
def B_X11_runnersBy_92 (o0 : Nat) (i1 : Int32) (i2 : Int32) (i4 : Int32) (s0 : Int32) (s1 : Int32) (μ : Me) (K5 : Int32 → Int32 → Me → Prop) (Q : Int32 → Me → Prop) : Prop := B_X11_runnersBy_94 o0 i1 i2 (s1 ||| s0) i4 μ K5 Q
set_option maxHeartbeats 4000000 in
set_option maxRecDepth 100000 in
theorem tB_X11_runnersBy_92 {x : GX} (f : Fx x cX11_runnersBy RX11 5 (rmc 4 0 0)) {o0 : Nat} {i1 : Int32} {i2 : Int32} {i4 : Int32} {s0 : Int32} {s1 : Int32} {μ : Me} {Q : Int32 → Me → Prop} (hq : Rt x (some .int) (qI Q)) {K5 : Int32 → Int32 → Me → Prop} (hK5 : ∀ (a3 : Int32) (a4 : Int32) (ν : Me), K5 a3 a4 ν → G x 5 5 [(0, .ref (gB x + o0)), (1, .int i1), (2, .int i2), (3, .int a3), (4, .int a4)] [] ν 0 0) (h : B_X11_runnersBy_92 o0 i1 i2 i4 s0 s1 μ K5 Q) : G x 5 92 [(0, .ref (gB x + o0)), (1, .int i1), (2, .int i2), (4, .int i4)] [.int s0, .int s1] μ 0 0 := by
  unfold B_X11_runnersBy_92 at h
  refine g_ior f dX11_runnersBy_92 ?_
  refine h_istore_n f dX11_runnersBy_93 rfl (by decide) ?_
  exact h_sub [1, 2, 3, 0, 4] rfl (tB_X11_runnersBy_94 f hq hK5 h)
def B_X11_runnersBy_76 (o0 : Nat) (i1 : Int32) (i2 : Int32) (i4 : Int32) (s0 : Int32) (s1 : Int32) (s2 : Int32) (s3 : Option Nat) (s4 : Int32) (μ : Me) (K5 : Int32 → Int32 → Me → Prop) (Q : Int32 → Me → Prop) : Prop := ∃ t20, s3 = some t20 ∧ mok μ t20 11 ∧ S_X11_says t20 s2 s1 s0 9 μ (fun r26 μ24 => ((r26 ≤ 0 → B_X11_runnersBy_92 o0 i1 i2 i4 0 s4 μ24 K5 Q) ∧ (¬ r26 ≤ 0 → B_X11_runnersBy_92 o0 i1 i2 i4 (1 <<< (i4 &&& 31)) s4 μ24 K5 Q)))
set_option maxHeartbeats 4000000 in
set_option maxRecDepth 100000 in
theorem tB_X11_runnersBy_76 {x : GX} (f : Fx x cX11_runnersBy RX11 5 (rmc 4 0 0)) {o0 : Nat} {i1 : Int32} {i2 : Int32} {i4 : Int32} {s0 : Int32} {s1 : Int32} {s2 : Int32} {s3 : Option Nat} {s4 : Int32} {μ : Me} {Q : Int32 → Me → Prop} (hq : Rt x (some .int) (qI Q)) {K5 : Int32 → Int32 → Me → Prop} (hK5 : ∀ (a3 : Int32) (a4 : Int32) (ν : Me), K5 a3 a4 ν → G x 5 5 [(0, .ref (gB x + o0)), (1, .int i1), (2, .int i2), (3, .int a3), (4, .int a4)] [] ν 0 0) (h : B_X11_runnersBy_76 o0 i1 i2 i4 s0 s1 s2 s3 s4 μ K5 Q) : G x 5 76 [(0, .ref (gB x + o0)), (1, .int i1), (2, .int i2), (4, .int i4)] [.int s0, .int s1, .int s2, vr (gB x) s3, .int s4] μ 0 0 := by
  unfold B_X11_runnersBy_76 at h
  refine g_bipush f 9 dX11_runnersBy_76 kb_9 ?_
  obtain ⟨t20, e21, h22⟩ := h
  subst e21
  have h := h22
  obtain ⟨v23, h⟩ := h
  refine g_callV f mk_X11_301 v23 (c_X11_says h) dX11_runnersBy_78 rfl rfl (Nat.le_of_ble_eq_true rfl) (rm_ok (by decide) (by decide)) ⟨Nat.le_of_ble_eq_true rfl, Nat.le_of_ble_eq_true rfl⟩ (kI fun r26 μ24 x25 h => ?_)
  refine g_if_le f 91 dX11_runnersBy_81 rfl h (fun h => ?_) (fun h => ?_)
  · refine g_iconst f 0 dX11_runnersBy_91 kc_0 ?_
    exact h_sub [0, 1, 2, 3] rfl (tB_X11_runnersBy_92 f hq hK5 h)
  · refine g_iconst f 1 dX11_runnersBy_84 kc_1 ?_
    refine g_iload f 3 dX11_runnersBy_85 rfl ?_
    refine g_ishl f dX11_runnersBy_87 ?_
    refine g_goto f 92 dX11_runnersBy_88 rfl ?_
    exact h_sub [0, 1, 2, 3] rfl (tB_X11_runnersBy_92 f hq hK5 h)
def B_X11_runnersBy_5 (o0 : Nat) (i1 : Int32) (i2 : Int32) (i3 : Int32) (i4 : Int32) (μ : Me) (K5 : Int32 → Int32 → Me → Prop) (Q : Int32 → Me → Prop) : Prop := mok μ o0 11 ∧ ∃ t2, mgr μ o0 0 = some t2 ∧ mok μ t2 12 ∧ vp_in (0 : Int32) (mln μ t2) ∧ (((mgi μ t2 (0 : Int32).toNatClampNeg) ≤ i4 → Q i3 μ) ∧ (¬ (mgi μ t2 (0 : Int32).toNatClampNeg) ≤ i4 → S_X11_isUp o0 i4 μ (fun r6 μ4 => ((¬ r6 = 0 → S_X11_name o0 i4 i2 μ4 (fun μ7 => ∃ t10, mgr μ7 o0 20 = some t10 ∧ ∃ t11, mgr μ7 o0 0 = some t11 ∧ mok μ7 t11 12 ∧ vp_in (67 + i4) (mln μ7 t11) ∧ S_X11_bits (i2 &&& (mgi μ7 t11 (67 + i4).toNatClampNeg)) μ7 (fun r15 μ13 => mok μ13 t10 12 ∧ vp_in (7 : Int32) (mln μ13 t10) ∧ ∀ μ17, μ17 = msi μ13 t10 (7 : Int32).toNatClampNeg r15 → ∃ t18, mgr μ17 o0 20 = some t18 ∧ mok μ17 t18 12 ∧ vp_in (7 : Int32) (mln μ17 t18) ∧ (((mgi μ17 t18 (7 : Int32).toNatClampNeg) ≤ 0 → B_X11_runnersBy_76 o0 i1 i2 i4 0 0 i1 (some o0) i3 μ17 K5 Q) ∧ (¬ (mgi μ17 t18 (7 : Int32).toNatClampNeg) ≤ 0 → B_X11_runnersBy_76 o0 i1 i2 i4 1 0 i1 (some o0) i3 μ17 K5 Q))))) ∧ (r6 = 0 → B_X11_runnersBy_94 o0 i1 i2 i3 i4 μ4 K5 Q)))))
set_option maxHeartbeats 4000000 in
set_option maxRecDepth 100000 in
theorem tB_X11_runnersBy_5 {x : GX} (f : Fx x cX11_runnersBy RX11 5 (rmc 4 0 0)) {o0 : Nat} {i1 : Int32} {i2 : Int32} {i3 : Int32} {i4 : Int32} {μ : Me} {Q : Int32 → Me → Prop} (hq : Rt x (some .int) (qI Q)) {K5 : Int32 → Int32 → Me → Prop} (hK5 : ∀ (a3 : Int32) (a4 : Int32) (ν : Me), K5 a3 a4 ν → G x 5 5 [(0, .ref (gB x + o0)), (1, .int i1), (2, .int i2), (3, .int a3), (4, .int a4)] [] ν 0 0) (h : B_X11_runnersBy_5 o0 i1 i2 i3 i4 μ K5 Q) : G x 5 5 [(0, .ref (gB x + o0)), (1, .int i1), (2, .int i2), (3, .int i3), (4, .int i4)] [] μ 0 0 := by
  unfold B_X11_runnersBy_5 at h
  refine g_iload f 4 dX11_runnersBy_5 rfl ?_
  refine g_aload_n f 0 dX11_runnersBy_7 rfl rfl ?_
  obtain ⟨v1, h⟩ := h
  refine g_getR f fk_X11_7 v1 dX11_runnersBy_8 rfl h (fun t2 h => ?_)
  refine g_iconst f 0 dX11_runnersBy_11 kc_0 ?_
  obtain ⟨v3, h⟩ := h
  refine g_iald f v3 dX11_runnersBy_12 h (fun h => ?_)
  refine g_ic_ge f 100 dX11_runnersBy_13 rfl h (fun h => ?_) (fun h => ?_)
  · refine g_iload_n f 3 dX11_runnersBy_100 rfl rfl ?_
    exact g_iret f hq (Nat.le_of_ble_eq_true rfl) (Nat.le_of_ble_eq_true rfl) dX11_runnersBy_101 h
  · refine g_aload_n f 0 dX11_runnersBy_16 rfl rfl ?_
    refine g_iload f 4 dX11_runnersBy_17 rfl ?_
    refine g_callV f mk_X11_292 v1 (c_X11_isUp h) dX11_runnersBy_19 rfl rfl (Nat.le_of_ble_eq_true rfl) (rm_ok (by decide) (by decide)) ⟨Nat.le_of_ble_eq_true rfl, Nat.le_of_ble_eq_true rfl⟩ (kI fun r6 μ4 x5 h => ?_)
    refine g_if_ne f 28 dX11_runnersBy_22 rfl h (fun h => ?_) (fun h => ?_)
    · refine g_aload_n f 0 dX11_runnersBy_28 rfl rfl ?_
      refine g_iload f 4 dX11_runnersBy_29 rfl ?_
      refine g_iload_n f 2 dX11_runnersBy_31 rfl rfl ?_
      have v1 := mex_ok x5 v1
      refine g_callV f mk_X11_295 v1 (c_X11_name h) dX11_runnersBy_32 rfl rfl (Nat.le_of_ble_eq_true rfl) (rm_ok (by decide) (by decide)) ⟨Nat.le_of_ble_eq_true rfl, Nat.le_of_ble_eq_true rfl⟩ (kV fun μ7 x8 h => ?_)
      refine g_aload_n f 0 dX11_runnersBy_35 rfl rfl ?_
      have v1 := mex_ok x8 v1
      refine g_getR f fk_X11_32 v1 dX11_runnersBy_36 rfl h (fun t10 h => ?_)
      refine g_bipush f 7 dX11_runnersBy_39 kb_7 ?_
      refine g_iload_n f 2 dX11_runnersBy_41 rfl rfl ?_
      refine g_aload_n f 0 dX11_runnersBy_42 rfl rfl ?_
      refine g_getR f fk_X11_7 v1 dX11_runnersBy_43 rfl h (fun t11 h => ?_)
      refine g_bipush f 67 dX11_runnersBy_46 kb_67 ?_
      refine g_iload f 4 dX11_runnersBy_48 rfl ?_
      refine g_iadd f dX11_runnersBy_50 ?_
      obtain ⟨v12, h⟩ := h
      refine g_iald f v12 dX11_runnersBy_51 h (fun h => ?_)
      refine g_iand f dX11_runnersBy_52 ?_
      refine g_callS f mk_X11_298 (c_X11_bits h) dX11_runnersBy_53 rfl rfl (Nat.le_of_ble_eq_true rfl) (rm_ok (by decide) (by decide)) ⟨Nat.le_of_ble_eq_true rfl, Nat.le_of_ble_eq_true rfl⟩ (kI fun r15 μ13 x14 h => ?_)
      obtain ⟨v16, h⟩ := h
      refine g_iast f v16 dX11_runnersBy_56 h (fun h => ?_)
      refine g_iload_n f 3 dX11_runnersBy_57 rfl rfl ?_
      refine g_aload_n f 0 dX11_runnersBy_58 rfl rfl ?_
      refine g_iload_n f 1 dX11_runnersBy_59 rfl rfl ?_
      refine g_iconst f 0 dX11_runnersBy_60 kc_0 ?_
      refine g_aload_n f 0 dX11_runnersBy_61 rfl rfl ?_
      have v1 := mex_ok x14 v1
      refine g_getR f fk_X11_32 v1 dX11_runnersBy_62 rfl h (fun t18 h => ?_)
      refine g_bipush f 7 dX11_runnersBy_65 kb_7 ?_
      obtain ⟨v19, h⟩ := h
      refine g_iald f v19 dX11_runnersBy_67 h (fun h => ?_)
      refine g_if_le f 75 dX11_runnersBy_68 rfl h (fun h => ?_) (fun h => ?_)
      · refine g_iconst f 0 dX11_runnersBy_75 kc_0 ?_
        exact h_sub [0, 1, 2, 4] rfl (tB_X11_runnersBy_76 f hq hK5 h)
      · refine g_iconst f 1 dX11_runnersBy_71 kc_1 ?_
        refine g_goto f 76 dX11_runnersBy_72 rfl ?_
        exact h_sub [0, 1, 2, 4] rfl (tB_X11_runnersBy_76 f hq hK5 h)
    · refine g_goto f 94 dX11_runnersBy_25 rfl ?_
      exact h_sub [0, 1, 2, 3, 4] rfl (tB_X11_runnersBy_94 f hq hK5 h)
def L_X11_runnersBy_5 (o0 : Nat) (i1 : Int32) (i2 : Int32) (i3 : Int32) (i4 : Int32) (μ : Me) (Q : Int32 → Me → Prop) : Prop := ∃ I : Int32 → Int32 → Me → Nat → Prop, (∃ n, I i3 i4 μ n) ∧ ∀ (i3 : Int32) (i4 : Int32) (μ : Me) (n : Nat), I i3 i4 μ n → B_X11_runnersBy_5 o0 i1 i2 i3 i4 μ (fun a3 a4 ν => ∃ n', n' < n ∧ I a3 a4 ν n') Q
set_option maxHeartbeats 4000000 in
set_option maxRecDepth 100000 in
theorem tL_X11_runnersBy_5 {x : GX} (f : Fx x cX11_runnersBy RX11 5 (rmc 4 0 0)) {o0 : Nat} {i1 : Int32} {i2 : Int32} {i3 : Int32} {i4 : Int32} {μ : Me} {Q : Int32 → Me → Prop} (hq : Rt x (some .int) (qI Q)) (h : L_X11_runnersBy_5 o0 i1 i2 i3 i4 μ Q) : G x 5 5 [(0, .ref (gB x + o0)), (1, .int i1), (2, .int i2), (3, .int i3), (4, .int i4)] [] μ 0 0 := by
  obtain ⟨I, ⟨n, hI⟩, hs⟩ := h
  induction n using Nat.strongRecOn generalizing i3 i4 μ with
  | ind n ih => exact tB_X11_runnersBy_5 f hq (fun a3 a4 ν hk => by obtain ⟨n2, hn, hI2⟩ := hk; exact ih n2 hn hI2) (hs _ _ _ _ hI)
def S_X11_runnersBy (o0 : Nat) (i1 : Int32) (i2 : Int32) (μ : Me) (Q : Int32 → Me → Prop) : Prop := L_X11_runnersBy_5 o0 i1 i2 0 0 μ Q
set_option maxHeartbeats 4000000 in
set_option maxRecDepth 100000 in
theorem t_X11_runnersBy {x : GX} (f : Fx x cX11_runnersBy RX11 5 (rmc 4 0 0)) {o0 : Nat} {i1 : Int32} {i2 : Int32} {μ : Me} {Q : Int32 → Me → Prop} (hq : Rt x (some .int) (qI Q)) (h : S_X11_runnersBy o0 i1 i2 μ Q) : G x 5 0 [(0, .ref (gB x + o0)), (1, .int i1), (2, .int i2)] [] μ 0 0 := by
  unfold S_X11_runnersBy at h
  refine g_iconst f 0 dX11_runnersBy_0 kc_0 ?_
  refine h_istore_n f dX11_runnersBy_1 rfl (by decide) ?_
  refine g_iconst f 0 dX11_runnersBy_2 kc_0 ?_
  refine h_istore f dX11_runnersBy_3 (by decide) ?_
  exact h_sub [2, 3, 4, 1, 0] rfl (tL_X11_runnersBy_5 f hq h)
theorem c_X11_runnersBy {Ω : OM} {o0 : Nat} {i1 : Int32} {i2 : Int32} {μ : Me} {Q : Int32 → Me → Prop} (h : S_X11_runnersBy o0 i1 i2 μ Q) : CT Ω yX11_runnersBy cX11_runnersBy 5 (some .int) (rmc 4 0 0) [.ref (oB Ω + o0), .int i1, .int i2] μ (qI Q) := CT_of (by decide) rfl (by simp [lg_sl, Value.category]) (fun x hΩ f hq hi => by subst hΩ; exact t_X11_runnersBy f hq h)
theorem dX11_takesOf_0 : decode cX11_takesOf 0 = .ok (.aload_n 0, 1) := by decide +kernel
theorem dX11_takesOf_1 : decode cX11_takesOf 1 = .ok (.iload_n 2, 1) := by decide +kernel
theorem dX11_takesOf_2 : decode cX11_takesOf 2 = .ok (.iload_n 3, 1) := by decide +kernel
theorem dX11_takesOf_3 : decode cX11_takesOf 3 = .ok (.invokevirtual 295, 3) := by decide +kernel
theorem dX11_takesOf_6 : decode cX11_takesOf 6 = .ok (.iconst 0, 1) := by decide +kernel
theorem dX11_takesOf_7 : decode cX11_takesOf 7 = .ok (.istore 5, 2) := by decide +kernel
theorem dX11_takesOf_9 : decode cX11_takesOf 9 = .ok (.iconst 0, 1) := by decide +kernel
theorem dX11_takesOf_10 : decode cX11_takesOf 10 = .ok (.istore 6, 2) := by decide +kernel
theorem dX11_takesOf_12 : decode cX11_takesOf 12 = .ok (.iload 6, 2) := by decide +kernel
theorem dX11_takesOf_14 : decode cX11_takesOf 14 = .ok (.aload_n 0, 1) := by decide +kernel
theorem dX11_takesOf_15 : decode cX11_takesOf 15 = .ok (.getfield 7, 3) := by decide +kernel
theorem dX11_takesOf_18 : decode cX11_takesOf 18 = .ok (.iconst 0, 1) := by decide +kernel
theorem dX11_takesOf_19 : decode cX11_takesOf 19 = .ok (.iaload, 1) := by decide +kernel
theorem dX11_takesOf_20 : decode cX11_takesOf 20 = .ok (.if_icmp .ge 51, 3) := by decide +kernel
theorem dX11_takesOf_23 : decode cX11_takesOf 23 = .ok (.iload 5, 2) := by decide +kernel
theorem dX11_takesOf_25 : decode cX11_takesOf 25 = .ok (.iload 6, 2) := by decide +kernel
theorem dX11_takesOf_27 : decode cX11_takesOf 27 = .ok (.iload_n 2, 1) := by decide +kernel
theorem dX11_takesOf_28 : decode cX11_takesOf 28 = .ok (.if_icmp .eq 33, 3) := by decide +kernel
theorem dX11_takesOf_31 : decode cX11_takesOf 31 = .ok (.iload 4, 2) := by decide +kernel
theorem dX11_takesOf_33 : decode cX11_takesOf 33 = .ok (.iload 6, 2) := by decide +kernel
theorem dX11_takesOf_35 : decode cX11_takesOf 35 = .ok (.invokestatic 246, 3) := by decide +kernel
theorem dX11_takesOf_38 : decode cX11_takesOf 38 = .ok (.ifCond .eq 23, 3) := by decide +kernel
theorem dX11_takesOf_41 : decode cX11_takesOf 41 = .ok (.aload_n 0, 1) := by decide +kernel
theorem dX11_takesOf_42 : decode cX11_takesOf 42 = .ok (.iload 6, 2) := by decide +kernel
theorem dX11_takesOf_44 : decode cX11_takesOf 44 = .ok (.iconst 3, 1) := by decide +kernel
theorem dX11_takesOf_45 : decode cX11_takesOf 45 = .ok (.invokevirtual 74, 3) := by decide +kernel
theorem dX11_takesOf_48 : decode cX11_takesOf 48 = .ok (.aload_n 0, 1) := by decide +kernel
theorem dX11_takesOf_49 : decode cX11_takesOf 49 = .ok (.iload_n 2, 1) := by decide +kernel
theorem dX11_takesOf_50 : decode cX11_takesOf 50 = .ok (.iconst 3, 1) := by decide +kernel
theorem dX11_takesOf_51 : decode cX11_takesOf 51 = .ok (.invokevirtual 74, 3) := by decide +kernel
theorem dX11_takesOf_54 : decode cX11_takesOf 54 = .ok (.if_icmp .ne 7, 3) := by decide +kernel
theorem dX11_takesOf_57 : decode cX11_takesOf 57 = .ok (.iconst 1, 1) := by decide +kernel
theorem dX11_takesOf_58 : decode cX11_takesOf 58 = .ok (.goto 4, 3) := by decide +kernel
theorem dX11_takesOf_61 : decode cX11_takesOf 61 = .ok (.iconst 0, 1) := by decide +kernel
theorem dX11_takesOf_62 : decode cX11_takesOf 62 = .ok (.iadd, 1) := by decide +kernel
theorem dX11_takesOf_63 : decode cX11_takesOf 63 = .ok (.istore 5, 2) := by decide +kernel
theorem dX11_takesOf_65 : decode cX11_takesOf 65 = .ok (.iinc 6 1, 3) := by decide +kernel
theorem dX11_takesOf_68 : decode cX11_takesOf 68 = .ok (.goto (-56), 3) := by decide +kernel
theorem dX11_takesOf_71 : decode cX11_takesOf 71 = .ok (.aload_n 0, 1) := by decide +kernel
theorem dX11_takesOf_72 : decode cX11_takesOf 72 = .ok (.getfield 32, 3) := by decide +kernel
theorem dX11_takesOf_75 : decode cX11_takesOf 75 = .ok (.bipush 8, 2) := by decide +kernel
theorem dX11_takesOf_77 : decode cX11_takesOf 77 = .ok (.iload 4, 2) := by decide +kernel
theorem dX11_takesOf_79 : decode cX11_takesOf 79 = .ok (.iload_n 2, 1) := by decide +kernel
theorem dX11_takesOf_80 : decode cX11_takesOf 80 = .ok (.invokestatic 246, 3) := by decide +kernel
theorem dX11_takesOf_83 : decode cX11_takesOf 83 = .ok (.ifCond .eq 7, 3) := by decide +kernel
theorem dX11_takesOf_86 : decode cX11_takesOf 86 = .ok (.iconst 1, 1) := by decide +kernel
theorem dX11_takesOf_87 : decode cX11_takesOf 87 = .ok (.goto 4, 3) := by decide +kernel
theorem dX11_takesOf_90 : decode cX11_takesOf 90 = .ok (.iconst 0, 1) := by decide +kernel
theorem dX11_takesOf_91 : decode cX11_takesOf 91 = .ok (.iastore, 1) := by decide +kernel
theorem dX11_takesOf_92 : decode cX11_takesOf 92 = .ok (.aload_n 0, 1) := by decide +kernel
theorem dX11_takesOf_93 : decode cX11_takesOf 93 = .ok (.getfield 32, 3) := by decide +kernel
theorem dX11_takesOf_96 : decode cX11_takesOf 96 = .ok (.bipush 9, 2) := by decide +kernel
theorem dX11_takesOf_98 : decode cX11_takesOf 98 = .ok (.iload 5, 2) := by decide +kernel
theorem dX11_takesOf_100 : decode cX11_takesOf 100 = .ok (.iastore, 1) := by decide +kernel
theorem dX11_takesOf_101 : decode cX11_takesOf 101 = .ok (.aload_n 0, 1) := by decide +kernel
theorem dX11_takesOf_102 : decode cX11_takesOf 102 = .ok (.iload_n 1, 1) := by decide +kernel
theorem dX11_takesOf_103 : decode cX11_takesOf 103 = .ok (.iconst 1, 1) := by decide +kernel
theorem dX11_takesOf_104 : decode cX11_takesOf 104 = .ok (.iload 4, 2) := by decide +kernel
theorem dX11_takesOf_106 : decode cX11_takesOf 106 = .ok (.iload_n 2, 1) := by decide +kernel
theorem dX11_takesOf_107 : decode cX11_takesOf 107 = .ok (.invokestatic 246, 3) := by decide +kernel
theorem dX11_takesOf_110 : decode cX11_takesOf 110 = .ok (.ifCond .eq 12, 3) := by decide +kernel
theorem dX11_takesOf_113 : decode cX11_takesOf 113 = .ok (.aload_n 0, 1) := by decide +kernel
theorem dX11_takesOf_114 : decode cX11_takesOf 114 = .ok (.getfield 32, 3) := by decide +kernel
theorem dX11_takesOf_117 : decode cX11_takesOf 117 = .ok (.iconst 5, 1) := by decide +kernel
theorem dX11_takesOf_118 : decode cX11_takesOf 118 = .ok (.iaload, 1) := by decide +kernel
theorem dX11_takesOf_119 : decode cX11_takesOf 119 = .ok (.goto 9, 3) := by decide +kernel
theorem dX11_takesOf_122 : decode cX11_takesOf 122 = .ok (.aload_n 0, 1) := by decide +kernel
theorem dX11_takesOf_123 : decode cX11_takesOf 123 = .ok (.getfield 32, 3) := by decide +kernel
theorem dX11_takesOf_126 : decode cX11_takesOf 126 = .ok (.iconst 4, 1) := by decide +kernel
theorem dX11_takesOf_127 : decode cX11_takesOf 127 = .ok (.iaload, 1) := by decide +kernel
theorem dX11_takesOf_128 : decode cX11_takesOf 128 = .ok (.iload 5, 2) := by decide +kernel
theorem dX11_takesOf_130 : decode cX11_takesOf 130 = .ok (.iconst 2, 1) := by decide +kernel
theorem dX11_takesOf_131 : decode cX11_takesOf 131 = .ok (.idiv, 1) := by decide +kernel
theorem dX11_takesOf_132 : decode cX11_takesOf 132 = .ok (.iadd, 1) := by decide +kernel
theorem dX11_takesOf_133 : decode cX11_takesOf 133 = .ok (.sipush 999, 3) := by decide +kernel
theorem dX11_takesOf_136 : decode cX11_takesOf 136 = .ok (.invokevirtual 301, 3) := by decide +kernel
theorem dX11_takesOf_139 : decode cX11_takesOf 139 = .ok (.ireturn, 1) := by decide +kernel
def B_X11_takesOf_128 (i5 : Int32) (s0 : Int32) (s1 : Int32) (s2 : Int32) (s3 : Option Nat) (μ : Me) (Q : Int32 → Me → Prop) : Prop := ∃ t26, s3 = some t26 ∧ mok μ t26 11 ∧ S_X11_says t26 s2 s1 (s0 + (i5 / 2)) 999 μ (fun r32 μ30 => Q r32 μ30)
set_option maxHeartbeats 4000000 in
set_option maxRecDepth 100000 in
theorem tB_X11_takesOf_128 {x : GX} (f : Fx x cX11_takesOf RX11 7 (rmc 4 0 0)) {i5 : Int32} {s0 : Int32} {s1 : Int32} {s2 : Int32} {s3 : Option Nat} {μ : Me} {Q : Int32 → Me → Prop} (hq : Rt x (some .int) (qI Q)) (h : B_X11_takesOf_128 i5 s0 s1 s2 s3 μ Q) : G x 7 128 [(5, .int i5)] [.int s0, .int s1, .int s2, vr (gB x) s3] μ 0 0 := by
  unfold B_X11_takesOf_128 at h
  refine g_iload f 0 dX11_takesOf_128 rfl ?_
  refine g_iconst f 2 dX11_takesOf_130 kc_2 ?_
  refine g_idiv f dX11_takesOf_131 (by decide) ?_
  refine g_iadd f dX11_takesOf_132 ?_
  refine g_sipush f 999 dX11_takesOf_133 ks_999 ?_
  obtain ⟨t26, e27, h28⟩ := h
  subst e27
  have h := h28
  obtain ⟨v29, h⟩ := h
  refine g_callV f mk_X11_301 v29 (c_X11_says h) dX11_takesOf_136 rfl rfl (Nat.le_of_ble_eq_true rfl) (rm_ok (by decide) (by decide)) ⟨Nat.le_of_ble_eq_true rfl, Nat.le_of_ble_eq_true rfl⟩ (kI fun r32 μ30 x31 h => ?_)
  exact g_iret f hq (Nat.le_of_ble_eq_true rfl) (Nat.le_of_ble_eq_true rfl) dX11_takesOf_139 h
def B_X11_takesOf_91 (o0 : Nat) (i1 : Int32) (i2 : Int32) (i4 : Int32) (i5 : Int32) (s0 : Int32) (s1 : Int32) (s2 : Option Nat) (μ : Me) (Q : Int32 → Me → Prop) : Prop := ∃ t12, s2 = some t12 ∧ mok μ t12 12 ∧ vp_in s1 (mln μ t12) ∧ ∀ μ16, μ16 = msi μ t12 s1.toNatClampNeg s0 → mok μ16 o0 11 ∧ ∃ t18, mgr μ16 o0 20 = some t18 ∧ mok μ16 t18 12 ∧ vp_in (9 : Int32) (mln μ16 t18) ∧ ∀ μ20, μ20 = msi μ16 t18 (9 : Int32).toNatClampNeg i5 → S_X11_has i4 i2 μ20 (fun r23 μ21 => ((r23 = 0 → ∃ t24, mgr μ21 o0 20 = some t24 ∧ mok μ21 t24 12 ∧ vp_in (4 : Int32) (mln μ21 t24) ∧ B_X11_takesOf_128 i5 (mgi μ21 t24 (4 : Int32).toNatClampNeg) 1 i1 (some o0) μ21 Q) ∧ (¬ r23 = 0 → ∃ t33, mgr μ21 o0 20 = some t33 ∧ mok μ21 t33 12 ∧ vp_in (5 : Int32) (mln μ21 t33) ∧ B_X11_takesOf_128 i5 (mgi μ21 t33 (5 : Int32).toNatClampNeg) 1 i1 (some o0) μ21 Q)))
set_option maxHeartbeats 4000000 in
set_option maxRecDepth 100000 in
theorem tB_X11_takesOf_91 {x : GX} (f : Fx x cX11_takesOf RX11 7 (rmc 4 0 0)) {o0 : Nat} {i1 : Int32} {i2 : Int32} {i4 : Int32} {i5 : Int32} {s0 : Int32} {s1 : Int32} {s2 : Option Nat} {μ : Me} {Q : Int32 → Me → Prop} (hq : Rt x (some .int) (qI Q)) (h : B_X11_takesOf_91 o0 i1 i2 i4 i5 s0 s1 s2 μ Q) : G x 7 91 [(0, .ref (gB x + o0)), (1, .int i1), (2, .int i2), (4, .int i4), (5, .int i5)] [.int s0, .int s1, vr (gB x) s2] μ 0 0 := by
  unfold B_X11_takesOf_91 at h
  obtain ⟨t12, e13, h14⟩ := h
  subst e13
  have h := h14
  obtain ⟨v15, h⟩ := h
  refine g_iast f v15 dX11_takesOf_91 h (fun h => ?_)
  refine g_aload_n f 0 dX11_takesOf_92 rfl rfl ?_
  obtain ⟨v17, h⟩ := h
  refine g_getR f fk_X11_32 v17 dX11_takesOf_93 rfl h (fun t18 h => ?_)
  refine g_bipush f 9 dX11_takesOf_96 kb_9 ?_
  refine g_iload f 4 dX11_takesOf_98 rfl ?_
  obtain ⟨v19, h⟩ := h
  refine g_iast f v19 dX11_takesOf_100 h (fun h => ?_)
  refine g_aload_n f 0 dX11_takesOf_101 rfl rfl ?_
  refine g_iload_n f 1 dX11_takesOf_102 rfl rfl ?_
  refine g_iconst f 1 dX11_takesOf_103 kc_1 ?_
  refine g_iload f 3 dX11_takesOf_104 rfl ?_
  refine g_iload_n f 2 dX11_takesOf_106 rfl rfl ?_
  refine g_callS f mk_X11_246 (c_X11_has h) dX11_takesOf_107 rfl rfl (Nat.le_of_ble_eq_true rfl) (rm_ok (by decide) (by decide)) ⟨Nat.le_of_ble_eq_true rfl, Nat.le_of_ble_eq_true rfl⟩ (kI fun r23 μ21 x22 h => ?_)
  refine g_if_eq f 122 dX11_takesOf_110 rfl h (fun h => ?_) (fun h => ?_)
  · refine g_aload_n f 0 dX11_takesOf_122 rfl rfl ?_
    have v17 := mex_ok x22 v17
    refine g_getR f fk_X11_32 v17 dX11_takesOf_123 rfl h (fun t24 h => ?_)
    refine g_iconst f 4 dX11_takesOf_126 kc_4 ?_
    obtain ⟨v25, h⟩ := h
    refine g_iald f v25 dX11_takesOf_127 h (fun h => ?_)
    exact h_sub [4] rfl (tB_X11_takesOf_128 f hq h)
  · refine g_aload_n f 0 dX11_takesOf_113 rfl rfl ?_
    have v17 := mex_ok x22 v17
    refine g_getR f fk_X11_32 v17 dX11_takesOf_114 rfl h (fun t33 h => ?_)
    refine g_iconst f 5 dX11_takesOf_117 kc_5 ?_
    obtain ⟨v34, h⟩ := h
    refine g_iald f v34 dX11_takesOf_118 h (fun h => ?_)
    refine g_goto f 128 dX11_takesOf_119 rfl ?_
    exact h_sub [4] rfl (tB_X11_takesOf_128 f hq h)
def B_X11_takesOf_62 (o0 : Nat) (i1 : Int32) (i2 : Int32) (i4 : Int32) (i6 : Int32) (s0 : Int32) (s1 : Int32) (μ : Me) (K12 : Int32 → Int32 → Me → Prop) (Q : Int32 → Me → Prop) : Prop := K12 (s1 + s0) (i6 + 1) μ
set_option maxHeartbeats 4000000 in
set_option maxRecDepth 100000 in
theorem tB_X11_takesOf_62 {x : GX} (f : Fx x cX11_takesOf RX11 7 (rmc 4 0 0)) {o0 : Nat} {i1 : Int32} {i2 : Int32} {i4 : Int32} {i6 : Int32} {s0 : Int32} {s1 : Int32} {μ : Me} {Q : Int32 → Me → Prop} (hq : Rt x (some .int) (qI Q)) {K12 : Int32 → Int32 → Me → Prop} (hK12 : ∀ (a5 : Int32) (a6 : Int32) (ν : Me), K12 a5 a6 ν → G x 7 12 [(0, .ref (gB x + o0)), (1, .int i1), (2, .int i2), (4, .int i4), (5, .int a5), (6, .int a6)] [] ν 0 0) (h : B_X11_takesOf_62 o0 i1 i2 i4 i6 s0 s1 μ K12 Q) : G x 7 62 [(0, .ref (gB x + o0)), (1, .int i1), (2, .int i2), (4, .int i4), (6, .int i6)] [.int s0, .int s1] μ 0 0 := by
  unfold B_X11_takesOf_62 at h
  refine g_iadd f dX11_takesOf_62 ?_
  refine h_istore f dX11_takesOf_63 (by decide) ?_
  refine h_iinc f 5 1 dX11_takesOf_65 rfl kc_1 (by decide) ?_
  refine g_goto f 12 dX11_takesOf_68 rfl ?_
  exact h_sub [2, 3, 4, 5, 1, 0] rfl (hK12 _ _ _ h)
def B_X11_takesOf_12 (o0 : Nat) (i1 : Int32) (i2 : Int32) (i4 : Int32) (i5 : Int32) (i6 : Int32) (μ : Me) (K12 : Int32 → Int32 → Me → Prop) (Q : Int32 → Me → Prop) : Prop := mok μ o0 11 ∧ ∃ t6, mgr μ o0 0 = some t6 ∧ mok μ t6 12 ∧ vp_in (0 : Int32) (mln μ t6) ∧ (((mgi μ t6 (0 : Int32).toNatClampNeg) ≤ i6 → ∃ t8, mgr μ o0 20 = some t8 ∧ S_X11_has i4 i2 μ (fun r11 μ9 => ((r11 = 0 → B_X11_takesOf_91 o0 i1 i2 i4 i5 0 8 (some t8) μ9 Q) ∧ (¬ r11 = 0 → B_X11_takesOf_91 o0 i1 i2 i4 i5 1 8 (some t8) μ9 Q)))) ∧ (¬ (mgi μ t6 (0 : Int32).toNatClampNeg) ≤ i6 → ((i6 = i2 → B_X11_takesOf_62 o0 i1 i2 i4 i6 0 i5 μ K12 Q) ∧ (¬ i6 = i2 → S_X11_has i4 i6 μ (fun r37 μ35 => ((r37 = 0 → B_X11_takesOf_62 o0 i1 i2 i4 i6 0 i5 μ35 K12 Q) ∧ (¬ r37 = 0 → S_X11_get o0 i6 3 μ35 (fun r40 μ38 => S_X11_get o0 i2 3 μ38 (fun r43 μ41 => ((¬ r40 = r43 → B_X11_takesOf_62 o0 i1 i2 i4 i6 0 i5 μ41 K12 Q) ∧ (r40 = r43 → B_X11_takesOf_62 o0 i1 i2 i4 i6 1 i5 μ41 K12 Q)))))))))))
set_option maxHeartbeats 4000000 in
set_option maxRecDepth 100000 in
theorem tB_X11_takesOf_12 {x : GX} (f : Fx x cX11_takesOf RX11 7 (rmc 4 0 0)) {o0 : Nat} {i1 : Int32} {i2 : Int32} {i4 : Int32} {i5 : Int32} {i6 : Int32} {μ : Me} {Q : Int32 → Me → Prop} (hq : Rt x (some .int) (qI Q)) {K12 : Int32 → Int32 → Me → Prop} (hK12 : ∀ (a5 : Int32) (a6 : Int32) (ν : Me), K12 a5 a6 ν → G x 7 12 [(0, .ref (gB x + o0)), (1, .int i1), (2, .int i2), (4, .int i4), (5, .int a5), (6, .int a6)] [] ν 0 0) (h : B_X11_takesOf_12 o0 i1 i2 i4 i5 i6 μ K12 Q) : G x 7 12 [(0, .ref (gB x + o0)), (1, .int i1), (2, .int i2), (4, .int i4), (5, .int i5), (6, .int i6)] [] μ 0 0 := by
  unfold B_X11_takesOf_12 at h
  refine g_iload f 5 dX11_takesOf_12 rfl ?_
  refine g_aload_n f 0 dX11_takesOf_14 rfl rfl ?_
  obtain ⟨v5, h⟩ := h
  refine g_getR f fk_X11_7 v5 dX11_takesOf_15 rfl h (fun t6 h => ?_)
  refine g_iconst f 0 dX11_takesOf_18 kc_0 ?_
  obtain ⟨v7, h⟩ := h
  refine g_iald f v7 dX11_takesOf_19 h (fun h => ?_)
  refine g_ic_ge f 71 dX11_takesOf_20 rfl h (fun h => ?_) (fun h => ?_)
  · refine g_aload_n f 0 dX11_takesOf_71 rfl rfl ?_
    refine g_getR f fk_X11_32 v5 dX11_takesOf_72 rfl h (fun t8 h => ?_)
    refine g_bipush f 8 dX11_takesOf_75 kb_8 ?_
    refine g_iload f 3 dX11_takesOf_77 rfl ?_
    refine g_iload_n f 2 dX11_takesOf_79 rfl rfl ?_
    refine g_callS f mk_X11_246 (c_X11_has h) dX11_takesOf_80 rfl rfl (Nat.le_of_ble_eq_true rfl) (rm_ok (by decide) (by decide)) ⟨Nat.le_of_ble_eq_true rfl, Nat.le_of_ble_eq_true rfl⟩ (kI fun r11 μ9 x10 h => ?_)
    refine g_if_eq f 90 dX11_takesOf_83 rfl h (fun h => ?_) (fun h => ?_)
    · refine g_iconst f 0 dX11_takesOf_90 kc_0 ?_
      exact h_sub [0, 1, 2, 3, 4] rfl (tB_X11_takesOf_91 f hq h)
    · refine g_iconst f 1 dX11_takesOf_86 kc_1 ?_
      refine g_goto f 91 dX11_takesOf_87 rfl ?_
      exact h_sub [0, 1, 2, 3, 4] rfl (tB_X11_takesOf_91 f hq h)
  · refine g_iload f 4 dX11_takesOf_23 rfl ?_
    refine g_iload f 5 dX11_takesOf_25 rfl ?_
    refine g_iload_n f 2 dX11_takesOf_27 rfl rfl ?_
    refine g_ic_eq f 61 dX11_takesOf_28 rfl h (fun h => ?_) (fun h => ?_)
    · refine g_iconst f 0 dX11_takesOf_61 kc_0 ?_
      exact h_sub [0, 1, 2, 3, 5] rfl (tB_X11_takesOf_62 f hq hK12 h)
    · refine g_iload f 3 dX11_takesOf_31 rfl ?_
      refine g_iload f 5 dX11_takesOf_33 rfl ?_
      refine g_callS f mk_X11_246 (c_X11_has h) dX11_takesOf_35 rfl rfl (Nat.le_of_ble_eq_true rfl) (rm_ok (by decide) (by decide)) ⟨Nat.le_of_ble_eq_true rfl, Nat.le_of_ble_eq_true rfl⟩ (kI fun r37 μ35 x36 h => ?_)
      refine g_if_eq f 61 dX11_takesOf_38 rfl h (fun h => ?_) (fun h => ?_)
      · refine g_iconst f 0 dX11_takesOf_61 kc_0 ?_
        exact h_sub [0, 1, 2, 3, 5] rfl (tB_X11_takesOf_62 f hq hK12 h)
      · refine g_aload_n f 0 dX11_takesOf_41 rfl rfl ?_
        refine g_iload f 5 dX11_takesOf_42 rfl ?_
        refine g_iconst f 3 dX11_takesOf_44 kc_3 ?_
        have v5 := mex_ok x36 v5
        refine g_callV f mk_X11_74 v5 (c_X11_get h) dX11_takesOf_45 rfl rfl (Nat.le_of_ble_eq_true rfl) (rm_ok (by decide) (by decide)) ⟨Nat.le_of_ble_eq_true rfl, Nat.le_of_ble_eq_true rfl⟩ (kI fun r40 μ38 x39 h => ?_)
        refine g_aload_n f 0 dX11_takesOf_48 rfl rfl ?_
        refine g_iload_n f 2 dX11_takesOf_49 rfl rfl ?_
        refine g_iconst f 3 dX11_takesOf_50 kc_3 ?_
        have v5 := mex_ok x39 v5
        refine g_callV f mk_X11_74 v5 (c_X11_get h) dX11_takesOf_51 rfl rfl (Nat.le_of_ble_eq_true rfl) (rm_ok (by decide) (by decide)) ⟨Nat.le_of_ble_eq_true rfl, Nat.le_of_ble_eq_true rfl⟩ (kI fun r43 μ41 x42 h => ?_)
        refine g_ic_ne f 61 dX11_takesOf_54 rfl h (fun h => ?_) (fun h => ?_)
        · refine g_iconst f 0 dX11_takesOf_61 kc_0 ?_
          exact h_sub [0, 1, 2, 3, 5] rfl (tB_X11_takesOf_62 f hq hK12 h)
        · refine g_iconst f 1 dX11_takesOf_57 kc_1 ?_
          refine g_goto f 62 dX11_takesOf_58 rfl ?_
          exact h_sub [0, 1, 2, 3, 5] rfl (tB_X11_takesOf_62 f hq hK12 h)
def L_X11_takesOf_12 (o0 : Nat) (i1 : Int32) (i2 : Int32) (i4 : Int32) (i5 : Int32) (i6 : Int32) (μ : Me) (Q : Int32 → Me → Prop) : Prop := ∃ I : Int32 → Int32 → Me → Nat → Prop, (∃ n, I i5 i6 μ n) ∧ ∀ (i5 : Int32) (i6 : Int32) (μ : Me) (n : Nat), I i5 i6 μ n → B_X11_takesOf_12 o0 i1 i2 i4 i5 i6 μ (fun a5 a6 ν => ∃ n', n' < n ∧ I a5 a6 ν n') Q
set_option maxHeartbeats 4000000 in
set_option maxRecDepth 100000 in
theorem tL_X11_takesOf_12 {x : GX} (f : Fx x cX11_takesOf RX11 7 (rmc 4 0 0)) {o0 : Nat} {i1 : Int32} {i2 : Int32} {i4 : Int32} {i5 : Int32} {i6 : Int32} {μ : Me} {Q : Int32 → Me → Prop} (hq : Rt x (some .int) (qI Q)) (h : L_X11_takesOf_12 o0 i1 i2 i4 i5 i6 μ Q) : G x 7 12 [(0, .ref (gB x + o0)), (1, .int i1), (2, .int i2), (4, .int i4), (5, .int i5), (6, .int i6)] [] μ 0 0 := by
  obtain ⟨I, ⟨n, hI⟩, hs⟩ := h
  induction n using Nat.strongRecOn generalizing i5 i6 μ with
  | ind n ih => exact tB_X11_takesOf_12 f hq (fun a5 a6 ν hk => by obtain ⟨n2, hn, hI2⟩ := hk; exact ih n2 hn hI2) (hs _ _ _ _ hI)
def S_X11_takesOf (o0 : Nat) (i1 : Int32) (i2 : Int32) (i3 : Int32) (i4 : Int32) (μ : Me) (Q : Int32 → Me → Prop) : Prop := mok μ o0 11 ∧ S_X11_name o0 i2 i3 μ (fun μ2 => L_X11_takesOf_12 o0 i1 i2 i4 0 0 μ2 Q)
set_option maxHeartbeats 4000000 in
set_option maxRecDepth 100000 in
theorem t_X11_takesOf {x : GX} (f : Fx x cX11_takesOf RX11 7 (rmc 4 0 0)) {o0 : Nat} {i1 : Int32} {i2 : Int32} {i3 : Int32} {i4 : Int32} {μ : Me} {Q : Int32 → Me → Prop} (hq : Rt x (some .int) (qI Q)) (h : S_X11_takesOf o0 i1 i2 i3 i4 μ Q) : G x 7 0 [(0, .ref (gB x + o0)), (1, .int i1), (2, .int i2), (3, .int i3), (4, .int i4)] [] μ 0 0 := by
  unfold S_X11_takesOf at h
  refine g_aload_n f 0 dX11_takesOf_0 rfl rfl ?_
  refine g_iload_n f 2 dX11_takesOf_1 rfl rfl ?_
  refine g_iload_n f 3 dX11_takesOf_2 rfl rfl ?_
  obtain ⟨v1, h⟩ := h
  refine g_callV f mk_X11_295 v1 (c_X11_name h) dX11_takesOf_3 rfl rfl (Nat.le_of_ble_eq_true rfl) (rm_ok (by decide) (by decide)) ⟨Nat.le_of_ble_eq_true rfl, Nat.le_of_ble_eq_true rfl⟩ (kV fun μ2 x3 h => ?_)
  refine g_iconst f 0 dX11_takesOf_6 kc_0 ?_
  refine h_istore f dX11_takesOf_7 (by decide) ?_
  refine g_iconst f 0 dX11_takesOf_9 kc_0 ?_
  refine h_istore f dX11_takesOf_10 (by decide) ?_
  exact h_sub [2, 3, 4, 6, 1, 0] rfl (tL_X11_takesOf_12 f hq h)
theorem c_X11_takesOf {Ω : OM} {o0 : Nat} {i1 : Int32} {i2 : Int32} {i3 : Int32} {i4 : Int32} {μ : Me} {Q : Int32 → Me → Prop} (h : S_X11_takesOf o0 i1 i2 i3 i4 μ Q) : CT Ω yX11_takesOf cX11_takesOf 7 (some .int) (rmc 4 0 0) [.ref (oB Ω + o0), .int i1, .int i2, .int i3, .int i4] μ (qI Q) := CT_of (by decide) rfl (by simp [lg_sl, Value.category]) (fun x hΩ f hq hi => by subst hΩ; exact t_X11_takesOf f hq h)
theorem dX11_lateBy_0 : decode cX11_lateBy 0 = .ok (.aload_n 0, 1) := by decide +kernel
theorem dX11_lateBy_1 : decode cX11_lateBy 1 = .ok (.aload_n 0, 1) := by decide +kernel
theorem dX11_lateBy_2 : decode cX11_lateBy 2 = .ok (.getfield 7, 3) := by decide +kernel
theorem dX11_lateBy_5 : decode cX11_lateBy 5 = .ok (.iconst 2, 1) := by decide +kernel
theorem dX11_lateBy_6 : decode cX11_lateBy 6 = .ok (.iaload, 1) := by decide +kernel
theorem dX11_lateBy_7 : decode cX11_lateBy 7 = .ok (.iload_n 1, 1) := by decide +kernel
theorem dX11_lateBy_8 : decode cX11_lateBy 8 = .ok (.invokevirtual 305, 3) := by decide +kernel
theorem dX11_lateBy_11 : decode cX11_lateBy 11 = .ok (.istore_n 2, 1) := by decide +kernel
theorem dX11_lateBy_12 : decode cX11_lateBy 12 = .ok (.iconst 0, 1) := by decide +kernel
theorem dX11_lateBy_13 : decode cX11_lateBy 13 = .ok (.istore_n 3, 1) := by decide +kernel
theorem dX11_lateBy_14 : decode cX11_lateBy 14 = .ok (.iconst 0, 1) := by decide +kernel
theorem dX11_lateBy_15 : decode cX11_lateBy 15 = .ok (.istore 4, 2) := by decide +kernel
theorem dX11_lateBy_17 : decode cX11_lateBy 17 = .ok (.iload 4, 2) := by decide +kernel
theorem dX11_lateBy_19 : decode cX11_lateBy 19 = .ok (.aload_n 0, 1) := by decide +kernel
theorem dX11_lateBy_20 : decode cX11_lateBy 20 = .ok (.getfield 7, 3) := by decide +kernel
theorem dX11_lateBy_23 : decode cX11_lateBy 23 = .ok (.iconst 0, 1) := by decide +kernel
theorem dX11_lateBy_24 : decode cX11_lateBy 24 = .ok (.iaload, 1) := by decide +kernel
theorem dX11_lateBy_25 : decode cX11_lateBy 25 = .ok (.if_icmp .ge 53, 3) := by decide +kernel
theorem dX11_lateBy_28 : decode cX11_lateBy 28 = .ok (.iload_n 3, 1) := by decide +kernel
theorem dX11_lateBy_29 : decode cX11_lateBy 29 = .ok (.aload_n 0, 1) := by decide +kernel
theorem dX11_lateBy_30 : decode cX11_lateBy 30 = .ok (.iload 4, 2) := by decide +kernel
theorem dX11_lateBy_32 : decode cX11_lateBy 32 = .ok (.invokevirtual 292, 3) := by decide +kernel
theorem dX11_lateBy_35 : decode cX11_lateBy 35 = .ok (.ifCond .eq 34, 3) := by decide +kernel
theorem dX11_lateBy_38 : decode cX11_lateBy 38 = .ok (.aload_n 0, 1) := by decide +kernel
theorem dX11_lateBy_39 : decode cX11_lateBy 39 = .ok (.aload_n 0, 1) := by decide +kernel
theorem dX11_lateBy_40 : decode cX11_lateBy 40 = .ok (.getfield 7, 3) := by decide +kernel
theorem dX11_lateBy_43 : decode cX11_lateBy 43 = .ok (.iconst 2, 1) := by decide +kernel
theorem dX11_lateBy_44 : decode cX11_lateBy 44 = .ok (.iaload, 1) := by decide +kernel
theorem dX11_lateBy_45 : decode cX11_lateBy 45 = .ok (.iload 4, 2) := by decide +kernel
theorem dX11_lateBy_47 : decode cX11_lateBy 47 = .ok (.iload_n 1, 1) := by decide +kernel
theorem dX11_lateBy_48 : decode cX11_lateBy 48 = .ok (.iload_n 2, 1) := by decide +kernel
theorem dX11_lateBy_49 : decode cX11_lateBy 49 = .ok (.invokevirtual 308, 3) := by decide +kernel
theorem dX11_lateBy_52 : decode cX11_lateBy 52 = .ok (.aload_n 0, 1) := by decide +kernel
theorem dX11_lateBy_53 : decode cX11_lateBy 53 = .ok (.iload 4, 2) := by decide +kernel
theorem dX11_lateBy_55 : decode cX11_lateBy 55 = .ok (.iconst 0, 1) := by decide +kernel
theorem dX11_lateBy_56 : decode cX11_lateBy 56 = .ok (.invokevirtual 74, 3) := by decide +kernel
theorem dX11_lateBy_59 : decode cX11_lateBy 59 = .ok (.if_icmp .le 10, 3) := by decide +kernel
theorem dX11_lateBy_62 : decode cX11_lateBy 62 = .ok (.iconst 1, 1) := by decide +kernel
theorem dX11_lateBy_63 : decode cX11_lateBy 63 = .ok (.iload 4, 2) := by decide +kernel
theorem dX11_lateBy_65 : decode cX11_lateBy 65 = .ok (.ishl, 1) := by decide +kernel
theorem dX11_lateBy_66 : decode cX11_lateBy 66 = .ok (.goto 4, 3) := by decide +kernel
theorem dX11_lateBy_69 : decode cX11_lateBy 69 = .ok (.iconst 0, 1) := by decide +kernel
theorem dX11_lateBy_70 : decode cX11_lateBy 70 = .ok (.ior, 1) := by decide +kernel
theorem dX11_lateBy_71 : decode cX11_lateBy 71 = .ok (.istore_n 3, 1) := by decide +kernel
theorem dX11_lateBy_72 : decode cX11_lateBy 72 = .ok (.iinc 4 1, 3) := by decide +kernel
theorem dX11_lateBy_75 : decode cX11_lateBy 75 = .ok (.goto (-58), 3) := by decide +kernel
theorem dX11_lateBy_78 : decode cX11_lateBy 78 = .ok (.iload_n 3, 1) := by decide +kernel
theorem dX11_lateBy_79 : decode cX11_lateBy 79 = .ok (.ireturn, 1) := by decide +kernel
def B_X11_lateBy_70 (o0 : Nat) (i1 : Int32) (i2 : Int32) (i4 : Int32) (s0 : Int32) (s1 : Int32) (μ : Me) (K17 : Int32 → Int32 → Me → Prop) (Q : Int32 → Me → Prop) : Prop := K17 (s1 ||| s0) (i4 + 1) μ
set_option maxHeartbeats 4000000 in
set_option maxRecDepth 100000 in
theorem tB_X11_lateBy_70 {x : GX} (f : Fx x cX11_lateBy RX11 5 (rmc 5 0 0)) {o0 : Nat} {i1 : Int32} {i2 : Int32} {i4 : Int32} {s0 : Int32} {s1 : Int32} {μ : Me} {Q : Int32 → Me → Prop} (hq : Rt x (some .int) (qI Q)) {K17 : Int32 → Int32 → Me → Prop} (hK17 : ∀ (a3 : Int32) (a4 : Int32) (ν : Me), K17 a3 a4 ν → G x 5 17 [(0, .ref (gB x + o0)), (1, .int i1), (2, .int i2), (3, .int a3), (4, .int a4)] [] ν 0 0) (h : B_X11_lateBy_70 o0 i1 i2 i4 s0 s1 μ K17 Q) : G x 5 70 [(0, .ref (gB x + o0)), (1, .int i1), (2, .int i2), (4, .int i4)] [.int s0, .int s1] μ 0 0 := by
  unfold B_X11_lateBy_70 at h
  refine g_ior f dX11_lateBy_70 ?_
  refine h_istore_n f dX11_lateBy_71 rfl (by decide) ?_
  refine h_iinc f 4 1 dX11_lateBy_72 rfl kc_1 (by decide) ?_
  refine g_goto f 17 dX11_lateBy_75 rfl ?_
  exact h_sub [2, 3, 4, 1, 0] rfl (hK17 _ _ _ h)
def B_X11_lateBy_17 (o0 : Nat) (i1 : Int32) (i2 : Int32) (i3 : Int32) (i4 : Int32) (μ : Me) (K17 : Int32 → Int32 → Me → Prop) (Q : Int32 → Me → Prop) : Prop := mok μ o0 11 ∧ ∃ t8, mgr μ o0 0 = some t8 ∧ mok μ t8 12 ∧ vp_in (0 : Int32) (mln μ t8) ∧ (((mgi μ t8 (0 : Int32).toNatClampNeg) ≤ i4 → Q i3 μ) ∧ (¬ (mgi μ t8 (0 : Int32).toNatClampNeg) ≤ i4 → S_X11_isUp o0 i4 μ (fun r12 μ10 => ((r12 = 0 → B_X11_lateBy_70 o0 i1 i2 i4 0 i3 μ10 K17 Q) ∧ (¬ r12 = 0 → ∃ t13, mgr μ10 o0 0 = some t13 ∧ mok μ10 t13 12 ∧ vp_in (2 : Int32) (mln μ10 t13) ∧ S_X11_takesOf o0 (mgi μ10 t13 (2 : Int32).toNatClampNeg) i4 i1 i2 μ10 (fun r17 μ15 => S_X11_get o0 i4 0 μ15 (fun r20 μ18 => ((r17 ≤ r20 → B_X11_lateBy_70 o0 i1 i2 i4 0 i3 μ18 K17 Q) ∧ (¬ r17 ≤ r20 → B_X11_lateBy_70 o0 i1 i2 i4 (1 <<< (i4 &&& 31)) i3 μ18 K17 Q)))))))))
set_option maxHeartbeats 4000000 in
set_option maxRecDepth 100000 in
theorem tB_X11_lateBy_17 {x : GX} (f : Fx x cX11_lateBy RX11 5 (rmc 5 0 0)) {o0 : Nat} {i1 : Int32} {i2 : Int32} {i3 : Int32} {i4 : Int32} {μ : Me} {Q : Int32 → Me → Prop} (hq : Rt x (some .int) (qI Q)) {K17 : Int32 → Int32 → Me → Prop} (hK17 : ∀ (a3 : Int32) (a4 : Int32) (ν : Me), K17 a3 a4 ν → G x 5 17 [(0, .ref (gB x + o0)), (1, .int i1), (2, .int i2), (3, .int a3), (4, .int a4)] [] ν 0 0) (h : B_X11_lateBy_17 o0 i1 i2 i3 i4 μ K17 Q) : G x 5 17 [(0, .ref (gB x + o0)), (1, .int i1), (2, .int i2), (3, .int i3), (4, .int i4)] [] μ 0 0 := by
  unfold B_X11_lateBy_17 at h
  refine g_iload f 4 dX11_lateBy_17 rfl ?_
  refine g_aload_n f 0 dX11_lateBy_19 rfl rfl ?_
  obtain ⟨v7, h⟩ := h
  refine g_getR f fk_X11_7 v7 dX11_lateBy_20 rfl h (fun t8 h => ?_)
  refine g_iconst f 0 dX11_lateBy_23 kc_0 ?_
  obtain ⟨v9, h⟩ := h
  refine g_iald f v9 dX11_lateBy_24 h (fun h => ?_)
  refine g_ic_ge f 78 dX11_lateBy_25 rfl h (fun h => ?_) (fun h => ?_)
  · refine g_iload_n f 3 dX11_lateBy_78 rfl rfl ?_
    exact g_iret f hq (Nat.le_of_ble_eq_true rfl) (Nat.le_of_ble_eq_true rfl) dX11_lateBy_79 h
  · refine g_iload_n f 3 dX11_lateBy_28 rfl rfl ?_
    refine g_aload_n f 0 dX11_lateBy_29 rfl rfl ?_
    refine g_iload f 4 dX11_lateBy_30 rfl ?_
    refine g_callV f mk_X11_292 v7 (c_X11_isUp h) dX11_lateBy_32 rfl rfl (Nat.le_of_ble_eq_true rfl) (rm_ok (by decide) (by decide)) ⟨Nat.le_of_ble_eq_true rfl, Nat.le_of_ble_eq_true rfl⟩ (kI fun r12 μ10 x11 h => ?_)
    refine g_if_eq f 69 dX11_lateBy_35 rfl h (fun h => ?_) (fun h => ?_)
    · refine g_iconst f 0 dX11_lateBy_69 kc_0 ?_
      exact h_sub [0, 1, 2, 4] rfl (tB_X11_lateBy_70 f hq hK17 h)
    · refine g_aload_n f 0 dX11_lateBy_38 rfl rfl ?_
      refine g_aload_n f 0 dX11_lateBy_39 rfl rfl ?_
      have v7 := mex_ok x11 v7
      refine g_getR f fk_X11_7 v7 dX11_lateBy_40 rfl h (fun t13 h => ?_)
      refine g_iconst f 2 dX11_lateBy_43 kc_2 ?_
      obtain ⟨v14, h⟩ := h
      refine g_iald f v14 dX11_lateBy_44 h (fun h => ?_)
      refine g_iload f 4 dX11_lateBy_45 rfl ?_
      refine g_iload_n f 1 dX11_lateBy_47 rfl rfl ?_
      refine g_iload_n f 2 dX11_lateBy_48 rfl rfl ?_
      refine g_callV f mk_X11_308 v7 (c_X11_takesOf h) dX11_lateBy_49 rfl rfl (Nat.le_of_ble_eq_true rfl) (rm_ok (by decide) (by decide)) ⟨Nat.le_of_ble_eq_true rfl, Nat.le_of_ble_eq_true rfl⟩ (kI fun r17 μ15 x16 h => ?_)
      refine g_aload_n f 0 dX11_lateBy_52 rfl rfl ?_
      refine g_iload f 4 dX11_lateBy_53 rfl ?_
      refine g_iconst f 0 dX11_lateBy_55 kc_0 ?_
      have v7 := mex_ok x16 v7
      refine g_callV f mk_X11_74 v7 (c_X11_get h) dX11_lateBy_56 rfl rfl (Nat.le_of_ble_eq_true rfl) (rm_ok (by decide) (by decide)) ⟨Nat.le_of_ble_eq_true rfl, Nat.le_of_ble_eq_true rfl⟩ (kI fun r20 μ18 x19 h => ?_)
      refine g_ic_le f 69 dX11_lateBy_59 rfl h (fun h => ?_) (fun h => ?_)
      · refine g_iconst f 0 dX11_lateBy_69 kc_0 ?_
        exact h_sub [0, 1, 2, 4] rfl (tB_X11_lateBy_70 f hq hK17 h)
      · refine g_iconst f 1 dX11_lateBy_62 kc_1 ?_
        refine g_iload f 4 dX11_lateBy_63 rfl ?_
        refine g_ishl f dX11_lateBy_65 ?_
        refine g_goto f 70 dX11_lateBy_66 rfl ?_
        exact h_sub [0, 1, 2, 4] rfl (tB_X11_lateBy_70 f hq hK17 h)
def L_X11_lateBy_17 (o0 : Nat) (i1 : Int32) (i2 : Int32) (i3 : Int32) (i4 : Int32) (μ : Me) (Q : Int32 → Me → Prop) : Prop := ∃ I : Int32 → Int32 → Me → Nat → Prop, (∃ n, I i3 i4 μ n) ∧ ∀ (i3 : Int32) (i4 : Int32) (μ : Me) (n : Nat), I i3 i4 μ n → B_X11_lateBy_17 o0 i1 i2 i3 i4 μ (fun a3 a4 ν => ∃ n', n' < n ∧ I a3 a4 ν n') Q
set_option maxHeartbeats 4000000 in
set_option maxRecDepth 100000 in
theorem tL_X11_lateBy_17 {x : GX} (f : Fx x cX11_lateBy RX11 5 (rmc 5 0 0)) {o0 : Nat} {i1 : Int32} {i2 : Int32} {i3 : Int32} {i4 : Int32} {μ : Me} {Q : Int32 → Me → Prop} (hq : Rt x (some .int) (qI Q)) (h : L_X11_lateBy_17 o0 i1 i2 i3 i4 μ Q) : G x 5 17 [(0, .ref (gB x + o0)), (1, .int i1), (2, .int i2), (3, .int i3), (4, .int i4)] [] μ 0 0 := by
  obtain ⟨I, ⟨n, hI⟩, hs⟩ := h
  induction n using Nat.strongRecOn generalizing i3 i4 μ with
  | ind n ih => exact tB_X11_lateBy_17 f hq (fun a3 a4 ν hk => by obtain ⟨n2, hn, hI2⟩ := hk; exact ih n2 hn hI2) (hs _ _ _ _ hI)
def S_X11_lateBy (o0 : Nat) (i1 : Int32) (μ : Me) (Q : Int32 → Me → Prop) : Prop := mok μ o0 11 ∧ ∃ t2, mgr μ o0 0 = some t2 ∧ mok μ t2 12 ∧ vp_in (2 : Int32) (mln μ t2) ∧ S_X11_runnersBy o0 (mgi μ t2 (2 : Int32).toNatClampNeg) i1 μ (fun r6 μ4 => L_X11_lateBy_17 o0 i1 r6 0 0 μ4 Q)
set_option maxHeartbeats 4000000 in
set_option maxRecDepth 100000 in
theorem t_X11_lateBy {x : GX} (f : Fx x cX11_lateBy RX11 5 (rmc 5 0 0)) {o0 : Nat} {i1 : Int32} {μ : Me} {Q : Int32 → Me → Prop} (hq : Rt x (some .int) (qI Q)) (h : S_X11_lateBy o0 i1 μ Q) : G x 5 0 [(0, .ref (gB x + o0)), (1, .int i1)] [] μ 0 0 := by
  unfold S_X11_lateBy at h
  refine g_aload_n f 0 dX11_lateBy_0 rfl rfl ?_
  refine g_aload_n f 0 dX11_lateBy_1 rfl rfl ?_
  obtain ⟨v1, h⟩ := h
  refine g_getR f fk_X11_7 v1 dX11_lateBy_2 rfl h (fun t2 h => ?_)
  refine g_iconst f 2 dX11_lateBy_5 kc_2 ?_
  obtain ⟨v3, h⟩ := h
  refine g_iald f v3 dX11_lateBy_6 h (fun h => ?_)
  refine g_iload_n f 1 dX11_lateBy_7 rfl rfl ?_
  refine g_callV f mk_X11_305 v1 (c_X11_runnersBy h) dX11_lateBy_8 rfl rfl (Nat.le_of_ble_eq_true rfl) (rm_ok (by decide) (by decide)) ⟨Nat.le_of_ble_eq_true rfl, Nat.le_of_ble_eq_true rfl⟩ (kI fun r6 μ4 x5 h => ?_)
  refine h_istore_n f dX11_lateBy_11 rfl (by decide) ?_
  refine g_iconst f 0 dX11_lateBy_12 kc_0 ?_
  refine h_istore_n f dX11_lateBy_13 rfl (by decide) ?_
  refine g_iconst f 0 dX11_lateBy_14 kc_0 ?_
  refine h_istore f dX11_lateBy_15 (by decide) ?_
  exact h_sub [3, 4, 2, 1, 0] rfl (tL_X11_lateBy_17 f hq h)
theorem c_X11_lateBy {Ω : OM} {o0 : Nat} {i1 : Int32} {μ : Me} {Q : Int32 → Me → Prop} (h : S_X11_lateBy o0 i1 μ Q) : CT Ω yX11_lateBy cX11_lateBy 5 (some .int) (rmc 5 0 0) [.ref (oB Ω + o0), .int i1] μ (qI Q) := CT_of (by decide) rfl (by simp [lg_sl, Value.category]) (fun x hΩ f hq hi => by subst hΩ; exact t_X11_lateBy f hq h)
