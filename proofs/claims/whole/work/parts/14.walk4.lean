/-! contracts by program (wip/whole/gen.py) -/
theorem dX9_takeBack_0 : decode cX9_takeBack 0 = .ok (.aload_n 0, 1) := by decide +kernel
theorem dX9_takeBack_1 : decode cX9_takeBack 1 = .ok (.getfield 64, 3) := by decide +kernel
theorem dX9_takeBack_4 : decode cX9_takeBack 4 = .ok (.ifCond .gt 5, 3) := by decide +kernel
theorem dX9_takeBack_7 : decode cX9_takeBack 7 = .ok (.iconst 0, 1) := by decide +kernel
theorem dX9_takeBack_8 : decode cX9_takeBack 8 = .ok (.ireturn, 1) := by decide +kernel
theorem dX9_takeBack_9 : decode cX9_takeBack 9 = .ok (.aload_n 0, 1) := by decide +kernel
theorem dX9_takeBack_10 : decode cX9_takeBack 10 = .ok (.dup, 1) := by decide +kernel
theorem dX9_takeBack_11 : decode cX9_takeBack 11 = .ok (.getfield 64, 3) := by decide +kernel
theorem dX9_takeBack_14 : decode cX9_takeBack 14 = .ok (.iconst 1, 1) := by decide +kernel
theorem dX9_takeBack_15 : decode cX9_takeBack 15 = .ok (.isub, 1) := by decide +kernel
theorem dX9_takeBack_16 : decode cX9_takeBack 16 = .ok (.putfield 64, 3) := by decide +kernel
theorem dX9_takeBack_19 : decode cX9_takeBack 19 = .ok (.aload_n 0, 1) := by decide +kernel
theorem dX9_takeBack_20 : decode cX9_takeBack 20 = .ok (.getfield 46, 3) := by decide +kernel
theorem dX9_takeBack_23 : decode cX9_takeBack 23 = .ok (.aload_n 0, 1) := by decide +kernel
theorem dX9_takeBack_24 : decode cX9_takeBack 24 = .ok (.aload_n 0, 1) := by decide +kernel
theorem dX9_takeBack_25 : decode cX9_takeBack 25 = .ok (.getfield 64, 3) := by decide +kernel
theorem dX9_takeBack_28 : decode cX9_takeBack 28 = .ok (.invokevirtual 67, 3) := by decide +kernel
theorem dX9_takeBack_31 : decode cX9_takeBack 31 = .ok (.invokevirtual 74, 3) := by decide +kernel
theorem dX9_takeBack_34 : decode cX9_takeBack 34 = .ok (.iconst 1, 1) := by decide +kernel
theorem dX9_takeBack_35 : decode cX9_takeBack 35 = .ok (.ireturn, 1) := by decide +kernel
def S_X9_takeBack (o0 : Nat) (μ : Me) (Q : Int32 → Me → Prop) : Prop := mok μ o0 9 ∧ ((0 < (mgi μ o0 17) → ∀ μ2, μ2 = msi μ o0 17 ((mgi μ o0 17) - 1) → ∃ t3, mgr μ2 o0 14 = some t3 ∧ S_X9_aheadOf o0 (mgi μ2 o0 17) μ2 (fun r6 μ4 => ∃ t7, r6 = some t7 ∧ mok μ4 t3 3 ∧ S_X3_become t3 t7 μ4 (fun μ11 => Q 1 μ11))) ∧ (¬ 0 < (mgi μ o0 17) → Q 0 μ))
set_option maxHeartbeats 4000000 in
set_option maxRecDepth 100000 in
theorem t_X9_takeBack {x : GX} (f : Fx x cX9_takeBack RX9 1 (rmc 1 0 0)) {o0 : Nat} {μ : Me} {Q : Int32 → Me → Prop} (hq : Rt x (some .boolean) (qI Q)) (h : S_X9_takeBack o0 μ Q) : G x 1 0 [(0, .ref (gB x + o0))] [] μ 0 0 := by
  unfold S_X9_takeBack at h
  refine g_aload_n f 0 dX9_takeBack_0 rfl rfl ?_
  obtain ⟨v1, h⟩ := h
  refine g_getI f fk_X9_64 v1 dX9_takeBack_1 rfl ?_
  refine g_if_gt f 9 dX9_takeBack_4 rfl h (fun h => ?_) (fun h => ?_)
  · refine g_aload_n f 0 dX9_takeBack_9 rfl rfl ?_
    refine g_dup f dX9_takeBack_10 rfl ?_
    refine g_getI f fk_X9_64 v1 dX9_takeBack_11 rfl ?_
    refine g_iconst f 1 dX9_takeBack_14 kc_1 ?_
    refine g_isub f dX9_takeBack_15 ?_
    refine g_putI f fk_X9_64 v1 dX9_takeBack_16 rfl h (fun h => ?_)
    refine g_aload_n f 0 dX9_takeBack_19 rfl rfl ?_
    refine g_getR f fk_X9_46 v1 dX9_takeBack_20 rfl h (fun t3 h => ?_)
    refine g_aload_n f 0 dX9_takeBack_23 rfl rfl ?_
    refine g_aload_n f 0 dX9_takeBack_24 rfl rfl ?_
    refine g_getI f fk_X9_64 v1 dX9_takeBack_25 rfl ?_
    refine g_callV f mk_X9_67 v1 (c_X9_aheadOf h) dX9_takeBack_28 rfl rfl (Nat.le_of_ble_eq_true rfl) (rm_ok (by decide) (by decide)) ⟨Nat.le_of_ble_eq_true rfl, Nat.le_of_ble_eq_true rfl⟩ (kR fun r6 μ4 x5 h => ?_)
    obtain ⟨t7, e8, h9⟩ := h
    subst e8
    have h := h9
    obtain ⟨v10, h⟩ := h
    refine g_callV f mk_X9_74 v10 (c_X3_become h) dX9_takeBack_31 rfl rfl (Nat.le_of_ble_eq_true rfl) (rm_ok (by decide) (by decide)) ⟨Nat.le_of_ble_eq_true rfl, Nat.le_of_ble_eq_true rfl⟩ (kV fun μ11 x12 h => ?_)
    refine g_iconst f 1 dX9_takeBack_34 kc_1 ?_
    exact g_zret f hq (Nat.le_of_ble_eq_true rfl) (Nat.le_of_ble_eq_true rfl) dX9_takeBack_35 zb_1.1 h
  · refine g_iconst f 0 dX9_takeBack_7 kc_0 ?_
    exact g_zret f hq (Nat.le_of_ble_eq_true rfl) (Nat.le_of_ble_eq_true rfl) dX9_takeBack_8 zb_0.1 h
theorem c_X9_takeBack {Ω : OM} {o0 : Nat} {μ : Me} {Q : Int32 → Me → Prop} (h : S_X9_takeBack o0 μ Q) : CT Ω yX9_takeBack cX9_takeBack 1 (some .boolean) (rmc 1 0 0) [.ref (oB Ω + o0)] μ (qI Q) := CT_of (by decide) rfl (by simp [lg_sl, Value.category]) (fun x hΩ f hq hi => by subst hΩ; exact t_X9_takeBack f hq h)
theorem dX9_become_0 : decode cX9_become 0 = .ok (.aload_n 0, 1) := by decide +kernel
theorem dX9_become_1 : decode cX9_become 1 = .ok (.aload_n 1, 1) := by decide +kernel
theorem dX9_become_2 : decode cX9_become 2 = .ok (.getfield 54, 3) := by decide +kernel
theorem dX9_become_5 : decode cX9_become 5 = .ok (.putfield 54, 3) := by decide +kernel
theorem dX9_become_8 : decode cX9_become 8 = .ok (.aload_n 0, 1) := by decide +kernel
theorem dX9_become_9 : decode cX9_become 9 = .ok (.aload_n 1, 1) := by decide +kernel
theorem dX9_become_10 : decode cX9_become 10 = .ok (.getfield 78, 3) := by decide +kernel
theorem dX9_become_13 : decode cX9_become 13 = .ok (.putfield 78, 3) := by decide +kernel
theorem dX9_become_16 : decode cX9_become 16 = .ok (.aload_n 0, 1) := by decide +kernel
theorem dX9_become_17 : decode cX9_become 17 = .ok (.aload_n 1, 1) := by decide +kernel
theorem dX9_become_18 : decode cX9_become 18 = .ok (.getfield 27, 3) := by decide +kernel
theorem dX9_become_21 : decode cX9_become 21 = .ok (.putfield 27, 3) := by decide +kernel
theorem dX9_become_24 : decode cX9_become 24 = .ok (.aload_n 0, 1) := by decide +kernel
theorem dX9_become_25 : decode cX9_become 25 = .ok (.aload_n 1, 1) := by decide +kernel
theorem dX9_become_26 : decode cX9_become 26 = .ok (.getfield 81, 3) := by decide +kernel
theorem dX9_become_29 : decode cX9_become 29 = .ok (.putfield 81, 3) := by decide +kernel
theorem dX9_become_32 : decode cX9_become 32 = .ok (.aload_n 0, 1) := by decide +kernel
theorem dX9_become_33 : decode cX9_become 33 = .ok (.aload_n 1, 1) := by decide +kernel
theorem dX9_become_34 : decode cX9_become 34 = .ok (.getfield 84, 3) := by decide +kernel
theorem dX9_become_37 : decode cX9_become 37 = .ok (.putfield 84, 3) := by decide +kernel
theorem dX9_become_40 : decode cX9_become 40 = .ok (.aload_n 1, 1) := by decide +kernel
theorem dX9_become_41 : decode cX9_become 41 = .ok (.getfield 9, 3) := by decide +kernel
theorem dX9_become_44 : decode cX9_become 44 = .ok (.iconst 0, 1) := by decide +kernel
theorem dX9_become_45 : decode cX9_become 45 = .ok (.aload_n 0, 1) := by decide +kernel
theorem dX9_become_46 : decode cX9_become 46 = .ok (.getfield 9, 3) := by decide +kernel
theorem dX9_become_49 : decode cX9_become 49 = .ok (.iconst 0, 1) := by decide +kernel
theorem dX9_become_50 : decode cX9_become 50 = .ok (.bipush 8, 2) := by decide +kernel
theorem dX9_become_52 : decode cX9_become 52 = .ok (.invokestatic 87, 3) := by decide +kernel
theorem dX9_become_55 : decode cX9_become 55 = .ok (.aload_n 1, 1) := by decide +kernel
theorem dX9_become_56 : decode cX9_become 56 = .ok (.getfield 15, 3) := by decide +kernel
theorem dX9_become_59 : decode cX9_become 59 = .ok (.iconst 0, 1) := by decide +kernel
theorem dX9_become_60 : decode cX9_become 60 = .ok (.aload_n 0, 1) := by decide +kernel
theorem dX9_become_61 : decode cX9_become 61 = .ok (.getfield 15, 3) := by decide +kernel
theorem dX9_become_64 : decode cX9_become 64 = .ok (.iconst 0, 1) := by decide +kernel
theorem dX9_become_65 : decode cX9_become 65 = .ok (.iconst 4, 1) := by decide +kernel
theorem dX9_become_66 : decode cX9_become 66 = .ok (.invokestatic 87, 3) := by decide +kernel
theorem dX9_become_69 : decode cX9_become 69 = .ok (.aload_n 1, 1) := by decide +kernel
theorem dX9_become_70 : decode cX9_become 70 = .ok (.getfield 18, 3) := by decide +kernel
theorem dX9_become_73 : decode cX9_become 73 = .ok (.iconst 0, 1) := by decide +kernel
theorem dX9_become_74 : decode cX9_become 74 = .ok (.aload_n 0, 1) := by decide +kernel
theorem dX9_become_75 : decode cX9_become 75 = .ok (.getfield 18, 3) := by decide +kernel
theorem dX9_become_78 : decode cX9_become 78 = .ok (.iconst 0, 1) := by decide +kernel
theorem dX9_become_79 : decode cX9_become 79 = .ok (.bipush 8, 2) := by decide +kernel
theorem dX9_become_81 : decode cX9_become 81 = .ok (.invokestatic 87, 3) := by decide +kernel
theorem dX9_become_84 : decode cX9_become 84 = .ok (.aload_n 1, 1) := by decide +kernel
theorem dX9_become_85 : decode cX9_become 85 = .ok (.getfield 21, 3) := by decide +kernel
theorem dX9_become_88 : decode cX9_become 88 = .ok (.iconst 0, 1) := by decide +kernel
theorem dX9_become_89 : decode cX9_become 89 = .ok (.aload_n 0, 1) := by decide +kernel
theorem dX9_become_90 : decode cX9_become 90 = .ok (.getfield 21, 3) := by decide +kernel
theorem dX9_become_93 : decode cX9_become 93 = .ok (.iconst 0, 1) := by decide +kernel
theorem dX9_become_94 : decode cX9_become 94 = .ok (.bipush 8, 2) := by decide +kernel
theorem dX9_become_96 : decode cX9_become 96 = .ok (.invokestatic 87, 3) := by decide +kernel
theorem dX9_become_99 : decode cX9_become 99 = .ok (.aload_n 1, 1) := by decide +kernel
theorem dX9_become_100 : decode cX9_become 100 = .ok (.getfield 24, 3) := by decide +kernel
theorem dX9_become_103 : decode cX9_become 103 = .ok (.iconst 0, 1) := by decide +kernel
theorem dX9_become_104 : decode cX9_become 104 = .ok (.aload_n 0, 1) := by decide +kernel
theorem dX9_become_105 : decode cX9_become 105 = .ok (.getfield 24, 3) := by decide +kernel
theorem dX9_become_108 : decode cX9_become 108 = .ok (.iconst 0, 1) := by decide +kernel
theorem dX9_become_109 : decode cX9_become 109 = .ok (.bipush 8, 2) := by decide +kernel
theorem dX9_become_111 : decode cX9_become 111 = .ok (.invokestatic 87, 3) := by decide +kernel
theorem dX9_become_114 : decode cX9_become 114 = .ok (.aload_n 1, 1) := by decide +kernel
theorem dX9_become_115 : decode cX9_become 115 = .ok (.getfield 31, 3) := by decide +kernel
theorem dX9_become_118 : decode cX9_become 118 = .ok (.iconst 0, 1) := by decide +kernel
theorem dX9_become_119 : decode cX9_become 119 = .ok (.aload_n 0, 1) := by decide +kernel
theorem dX9_become_120 : decode cX9_become 120 = .ok (.getfield 31, 3) := by decide +kernel
theorem dX9_become_123 : decode cX9_become 123 = .ok (.iconst 0, 1) := by decide +kernel
theorem dX9_become_124 : decode cX9_become 124 = .ok (.bipush 8, 2) := by decide +kernel
theorem dX9_become_126 : decode cX9_become 126 = .ok (.invokestatic 87, 3) := by decide +kernel
theorem dX9_become_129 : decode cX9_become 129 = .ok (.aload_n 1, 1) := by decide +kernel
theorem dX9_become_130 : decode cX9_become 130 = .ok (.getfield 34, 3) := by decide +kernel
theorem dX9_become_133 : decode cX9_become 133 = .ok (.iconst 0, 1) := by decide +kernel
theorem dX9_become_134 : decode cX9_become 134 = .ok (.aload_n 0, 1) := by decide +kernel
theorem dX9_become_135 : decode cX9_become 135 = .ok (.getfield 34, 3) := by decide +kernel
theorem dX9_become_138 : decode cX9_become 138 = .ok (.iconst 0, 1) := by decide +kernel
theorem dX9_become_139 : decode cX9_become 139 = .ok (.bipush 8, 2) := by decide +kernel
theorem dX9_become_141 : decode cX9_become 141 = .ok (.invokestatic 87, 3) := by decide +kernel
theorem dX9_become_144 : decode cX9_become 144 = .ok (.aload_n 1, 1) := by decide +kernel
theorem dX9_become_145 : decode cX9_become 145 = .ok (.getfield 37, 3) := by decide +kernel
theorem dX9_become_148 : decode cX9_become 148 = .ok (.iconst 0, 1) := by decide +kernel
theorem dX9_become_149 : decode cX9_become 149 = .ok (.aload_n 0, 1) := by decide +kernel
theorem dX9_become_150 : decode cX9_become 150 = .ok (.getfield 37, 3) := by decide +kernel
theorem dX9_become_153 : decode cX9_become 153 = .ok (.iconst 0, 1) := by decide +kernel
theorem dX9_become_154 : decode cX9_become 154 = .ok (.bipush 8, 2) := by decide +kernel
theorem dX9_become_156 : decode cX9_become 156 = .ok (.invokestatic 87, 3) := by decide +kernel
theorem dX9_become_159 : decode cX9_become 159 = .ok (.aload_n 1, 1) := by decide +kernel
theorem dX9_become_160 : decode cX9_become 160 = .ok (.getfield 40, 3) := by decide +kernel
theorem dX9_become_163 : decode cX9_become 163 = .ok (.iconst 0, 1) := by decide +kernel
theorem dX9_become_164 : decode cX9_become 164 = .ok (.aload_n 0, 1) := by decide +kernel
theorem dX9_become_165 : decode cX9_become 165 = .ok (.getfield 40, 3) := by decide +kernel
theorem dX9_become_168 : decode cX9_become 168 = .ok (.iconst 0, 1) := by decide +kernel
theorem dX9_become_169 : decode cX9_become 169 = .ok (.bipush 8, 2) := by decide +kernel
theorem dX9_become_171 : decode cX9_become 171 = .ok (.invokestatic 87, 3) := by decide +kernel
theorem dX9_become_174 : decode cX9_become 174 = .ok (.aload_n 0, 1) := by decide +kernel
theorem dX9_become_175 : decode cX9_become 175 = .ok (.getfield 46, 3) := by decide +kernel
theorem dX9_become_178 : decode cX9_become 178 = .ok (.aload_n 1, 1) := by decide +kernel
theorem dX9_become_179 : decode cX9_become 179 = .ok (.getfield 46, 3) := by decide +kernel
theorem dX9_become_182 : decode cX9_become 182 = .ok (.invokevirtual 74, 3) := by decide +kernel
theorem dX9_become_185 : decode cX9_become 185 = .ok (.aload_n 0, 1) := by decide +kernel
theorem dX9_become_186 : decode cX9_become 186 = .ok (.iconst 0, 1) := by decide +kernel
theorem dX9_become_187 : decode cX9_become 187 = .ok (.putfield 71, 3) := by decide +kernel
theorem dX9_become_190 : decode cX9_become 190 = .ok (.aload_n 0, 1) := by decide +kernel
theorem dX9_become_191 : decode cX9_become 191 = .ok (.aload_n 1, 1) := by decide +kernel
theorem dX9_become_192 : decode cX9_become 192 = .ok (.getfield 64, 3) := by decide +kernel
theorem dX9_become_195 : decode cX9_become 195 = .ok (.putfield 64, 3) := by decide +kernel
theorem dX9_become_198 : decode cX9_become 198 = .ok (.iconst 0, 1) := by decide +kernel
theorem dX9_become_199 : decode cX9_become 199 = .ok (.istore_n 2, 1) := by decide +kernel
theorem dX9_become_200 : decode cX9_become 200 = .ok (.iload_n 2, 1) := by decide +kernel
theorem dX9_become_201 : decode cX9_become 201 = .ok (.aload_n 0, 1) := by decide +kernel
theorem dX9_become_202 : decode cX9_become 202 = .ok (.getfield 64, 3) := by decide +kernel
theorem dX9_become_205 : decode cX9_become 205 = .ok (.if_icmp .ge 22, 3) := by decide +kernel
theorem dX9_become_208 : decode cX9_become 208 = .ok (.aload_n 0, 1) := by decide +kernel
theorem dX9_become_209 : decode cX9_become 209 = .ok (.iload_n 2, 1) := by decide +kernel
theorem dX9_become_210 : decode cX9_become 210 = .ok (.invokevirtual 67, 3) := by decide +kernel
theorem dX9_become_213 : decode cX9_become 213 = .ok (.aload_n 1, 1) := by decide +kernel
theorem dX9_become_214 : decode cX9_become 214 = .ok (.iload_n 2, 1) := by decide +kernel
theorem dX9_become_215 : decode cX9_become 215 = .ok (.invokevirtual 67, 3) := by decide +kernel
theorem dX9_become_218 : decode cX9_become 218 = .ok (.invokevirtual 74, 3) := by decide +kernel
theorem dX9_become_221 : decode cX9_become 221 = .ok (.iinc 2 1, 3) := by decide +kernel
theorem dX9_become_224 : decode cX9_become 224 = .ok (.goto (-24), 3) := by decide +kernel
theorem dX9_become_227 : decode cX9_become 227 = .ok (.return_, 1) := by decide +kernel
def B_X9_become_200 (o0 : Nat) (o1 : Nat) (i2 : Int32) (μ : Me) (K200 : Int32 → Me → Prop) (Q : Me → Prop) : Prop := mok μ o0 9 ∧ (((mgi μ o0 17) ≤ i2 → Q μ) ∧ (¬ (mgi μ o0 17) ≤ i2 → S_X9_aheadOf o0 i2 μ (fun r64 μ62 => mok μ62 o1 9 ∧ S_X9_aheadOf o1 i2 μ62 (fun r68 μ66 => ∃ t69, r64 = some t69 ∧ ∃ t72, r68 = some t72 ∧ mok μ66 t69 3 ∧ S_X3_become t69 t72 μ66 (fun μ76 => K200 (i2 + 1) μ76)))))
set_option maxHeartbeats 4000000 in
set_option maxRecDepth 100000 in
theorem tB_X9_become_200 {x : GX} (f : Fx x cX9_become RX9 3 (rmc 1 0 0)) {o0 : Nat} {o1 : Nat} {i2 : Int32} {μ : Me} {Q : Me → Prop} (hq : Rt x none (qV Q)) {K200 : Int32 → Me → Prop} (hK200 : ∀ (a2 : Int32) (ν : Me), K200 a2 ν → G x 3 200 [(0, .ref (gB x + o0)), (1, .ref (gB x + o1)), (2, .int a2)] [] ν 0 0) (h : B_X9_become_200 o0 o1 i2 μ K200 Q) : G x 3 200 [(0, .ref (gB x + o0)), (1, .ref (gB x + o1)), (2, .int i2)] [] μ 0 0 := by
  unfold B_X9_become_200 at h
  refine g_iload_n f 2 dX9_become_200 rfl rfl ?_
  refine g_aload_n f 0 dX9_become_201 rfl rfl ?_
  obtain ⟨v61, h⟩ := h
  refine g_getI f fk_X9_64 v61 dX9_become_202 rfl ?_
  refine g_ic_ge f 227 dX9_become_205 rfl h (fun h => ?_) (fun h => ?_)
  · exact g_vret f hq (Nat.le_of_ble_eq_true rfl) (Nat.le_of_ble_eq_true rfl) dX9_become_227 h
  · refine g_aload_n f 0 dX9_become_208 rfl rfl ?_
    refine g_iload_n f 2 dX9_become_209 rfl rfl ?_
    refine g_callV f mk_X9_67 v61 (c_X9_aheadOf h) dX9_become_210 rfl rfl (Nat.le_of_ble_eq_true rfl) (rm_ok (by decide) (by decide)) ⟨Nat.le_of_ble_eq_true rfl, Nat.le_of_ble_eq_true rfl⟩ (kR fun r64 μ62 x63 h => ?_)
    refine g_aload_n f 1 dX9_become_213 rfl rfl ?_
    refine g_iload_n f 2 dX9_become_214 rfl rfl ?_
    obtain ⟨v65, h⟩ := h
    refine g_callV f mk_X9_67 v65 (c_X9_aheadOf h) dX9_become_215 rfl rfl (by simp [vr_cat, c_int, c_ref, c_long]) (rm_ok (by decide) (by decide)) ⟨Nat.le_of_ble_eq_true rfl, Nat.le_of_ble_eq_true rfl⟩ (kR fun r68 μ66 x67 h => ?_)
    obtain ⟨t69, e70, h71⟩ := h
    subst e70
    have h := h71
    obtain ⟨t72, e73, h74⟩ := h
    subst e73
    have h := h74
    obtain ⟨v75, h⟩ := h
    refine g_callV f mk_X9_74 v75 (c_X3_become h) dX9_become_218 rfl rfl (Nat.le_of_ble_eq_true rfl) (rm_ok (by decide) (by decide)) ⟨Nat.le_of_ble_eq_true rfl, Nat.le_of_ble_eq_true rfl⟩ (kV fun μ76 x77 h => ?_)
    refine h_iinc f 2 1 dX9_become_221 rfl kc_1 (by decide) ?_
    refine g_goto f 200 dX9_become_224 rfl ?_
    exact h_sub [1, 2, 0] rfl (hK200 _ _ h)
def L_X9_become_200 (o0 : Nat) (o1 : Nat) (i2 : Int32) (μ : Me) (Q : Me → Prop) : Prop := ∃ I : Int32 → Me → Nat → Prop, (∃ n, I i2 μ n) ∧ ∀ (i2 : Int32) (μ : Me) (n : Nat), I i2 μ n → B_X9_become_200 o0 o1 i2 μ (fun a2 ν => ∃ n', n' < n ∧ I a2 ν n') Q
set_option maxHeartbeats 4000000 in
set_option maxRecDepth 100000 in
theorem tL_X9_become_200 {x : GX} (f : Fx x cX9_become RX9 3 (rmc 1 0 0)) {o0 : Nat} {o1 : Nat} {i2 : Int32} {μ : Me} {Q : Me → Prop} (hq : Rt x none (qV Q)) (h : L_X9_become_200 o0 o1 i2 μ Q) : G x 3 200 [(0, .ref (gB x + o0)), (1, .ref (gB x + o1)), (2, .int i2)] [] μ 0 0 := by
  obtain ⟨I, ⟨n, hI⟩, hs⟩ := h
  induction n using Nat.strongRecOn generalizing i2 μ with
  | ind n ih => exact tB_X9_become_200 f hq (fun a2 ν hk => by obtain ⟨n2, hn, hI2⟩ := hk; exact ih n2 hn hI2) (hs _ _ _ hI)
def S_X9_become (o0 : Nat) (o1 : Nat) (μ : Me) (Q : Me → Prop) : Prop := mok μ o1 9 ∧ mok μ o0 9 ∧ ∀ μ3, μ3 = msi μ o0 0 (mgi μ o1 0) → ∀ μ4, μ4 = msi μ3 o0 6 (mgi μ3 o1 6) → ∀ μ5, μ5 = msi μ4 o0 7 (mgi μ4 o1 7) → ∀ μ6, μ6 = msi μ5 o0 8 (mgi μ5 o1 8) → ∀ μ7, μ7 = msi μ6 o0 11 (mgi μ6 o1 11) → ∃ t8, mgr μ7 o1 1 = some t8 ∧ ∃ t9, mgr μ7 o0 1 = some t9 ∧ mok μ7 t8 12 ∧ mok μ7 t9 12 ∧ cpok (mln μ7 t8) (mln μ7 t9) 0 0 8 ∧ ∀ μ12, μ12 = mci μ7 t9 (va_cpy (mgi μ7 t8) (mgi μ7 t9) (0 : Int32).toNatClampNeg (0 : Int32).toNatClampNeg (8 : Int32).toNatClampNeg) → ∃ t13, mgr μ12 o1 2 = some t13 ∧ ∃ t14, mgr μ12 o0 2 = some t14 ∧ mok μ12 t13 12 ∧ mok μ12 t14 12 ∧ cpok (mln μ12 t13) (mln μ12 t14) 0 0 4 ∧ ∀ μ17, μ17 = mci μ12 t14 (va_cpy (mgi μ12 t13) (mgi μ12 t14) (0 : Int32).toNatClampNeg (0 : Int32).toNatClampNeg (4 : Int32).toNatClampNeg) → ∃ t18, mgr μ17 o1 3 = some t18 ∧ ∃ t19, mgr μ17 o0 3 = some t19 ∧ mok μ17 t18 12 ∧ mok μ17 t19 12 ∧ cpok (mln μ17 t18) (mln μ17 t19) 0 0 8 ∧ ∀ μ22, μ22 = mci μ17 t19 (va_cpy (mgi μ17 t18) (mgi μ17 t19) (0 : Int32).toNatClampNeg (0 : Int32).toNatClampNeg (8 : Int32).toNatClampNeg) → ∃ t23, mgr μ22 o1 4 = some t23 ∧ ∃ t24, mgr μ22 o0 4 = some t24 ∧ mok μ22 t23 12 ∧ mok μ22 t24 12 ∧ cpok (mln μ22 t23) (mln μ22 t24) 0 0 8 ∧ ∀ μ27, μ27 = mci μ22 t24 (va_cpy (mgi μ22 t23) (mgi μ22 t24) (0 : Int32).toNatClampNeg (0 : Int32).toNatClampNeg (8 : Int32).toNatClampNeg) → ∃ t28, mgr μ27 o1 5 = some t28 ∧ ∃ t29, mgr μ27 o0 5 = some t29 ∧ mok μ27 t28 12 ∧ mok μ27 t29 12 ∧ cpok (mln μ27 t28) (mln μ27 t29) 0 0 8 ∧ ∀ μ32, μ32 = mci μ27 t29 (va_cpy (mgi μ27 t28) (mgi μ27 t29) (0 : Int32).toNatClampNeg (0 : Int32).toNatClampNeg (8 : Int32).toNatClampNeg) → ∃ t33, mgr μ32 o1 9 = some t33 ∧ ∃ t34, mgr μ32 o0 9 = some t34 ∧ mok μ32 t33 12 ∧ mok μ32 t34 12 ∧ cpok (mln μ32 t33) (mln μ32 t34) 0 0 8 ∧ ∀ μ37, μ37 = mci μ32 t34 (va_cpy (mgi μ32 t33) (mgi μ32 t34) (0 : Int32).toNatClampNeg (0 : Int32).toNatClampNeg (8 : Int32).toNatClampNeg) → ∃ t38, mgr μ37 o1 10 = some t38 ∧ ∃ t39, mgr μ37 o0 10 = some t39 ∧ mok μ37 t38 12 ∧ mok μ37 t39 12 ∧ cpok (mln μ37 t38) (mln μ37 t39) 0 0 8 ∧ ∀ μ42, μ42 = mci μ37 t39 (va_cpy (mgi μ37 t38) (mgi μ37 t39) (0 : Int32).toNatClampNeg (0 : Int32).toNatClampNeg (8 : Int32).toNatClampNeg) → ∃ t43, mgr μ42 o1 12 = some t43 ∧ ∃ t44, mgr μ42 o0 12 = some t44 ∧ mok μ42 t43 12 ∧ mok μ42 t44 12 ∧ cpok (mln μ42 t43) (mln μ42 t44) 0 0 8 ∧ ∀ μ47, μ47 = mci μ42 t44 (va_cpy (mgi μ42 t43) (mgi μ42 t44) (0 : Int32).toNatClampNeg (0 : Int32).toNatClampNeg (8 : Int32).toNatClampNeg) → ∃ t48, mgr μ47 o1 13 = some t48 ∧ ∃ t49, mgr μ47 o0 13 = some t49 ∧ mok μ47 t48 12 ∧ mok μ47 t49 12 ∧ cpok (mln μ47 t48) (mln μ47 t49) 0 0 8 ∧ ∀ μ52, μ52 = mci μ47 t49 (va_cpy (mgi μ47 t48) (mgi μ47 t49) (0 : Int32).toNatClampNeg (0 : Int32).toNatClampNeg (8 : Int32).toNatClampNeg) → ∃ t53, mgr μ52 o0 14 = some t53 ∧ ∃ t54, mgr μ52 o1 14 = some t54 ∧ mok μ52 t53 3 ∧ S_X3_become t53 t54 μ52 (fun μ56 => ∀ μ59, μ59 = msi μ56 o0 16 0 → ∀ μ60, μ60 = msi μ59 o0 17 (mgi μ59 o1 17) → L_X9_become_200 o0 o1 0 μ60 Q)
set_option maxHeartbeats 4000000 in
set_option maxRecDepth 100000 in
theorem t_X9_become {x : GX} (f : Fx x cX9_become RX9 3 (rmc 1 0 0)) {o0 : Nat} {o1 : Nat} {μ : Me} {Q : Me → Prop} (hq : Rt x none (qV Q)) (h : S_X9_become o0 o1 μ Q) : G x 3 0 [(0, .ref (gB x + o0)), (1, .ref (gB x + o1))] [] μ 0 0 := by
  unfold S_X9_become at h
  refine g_aload_n f 0 dX9_become_0 rfl rfl ?_
  refine g_aload_n f 1 dX9_become_1 rfl rfl ?_
  obtain ⟨v1, h⟩ := h
  refine g_getI f fk_X9_54 v1 dX9_become_2 rfl ?_
  obtain ⟨v2, h⟩ := h
  refine g_putI f fk_X9_54 v2 dX9_become_5 rfl h (fun h => ?_)
  refine g_aload_n f 0 dX9_become_8 rfl rfl ?_
  refine g_aload_n f 1 dX9_become_9 rfl rfl ?_
  refine g_getI f fk_X9_78 v1 dX9_become_10 rfl ?_
  refine g_putI f fk_X9_78 v2 dX9_become_13 rfl h (fun h => ?_)
  refine g_aload_n f 0 dX9_become_16 rfl rfl ?_
  refine g_aload_n f 1 dX9_become_17 rfl rfl ?_
  refine g_getI f fk_X9_27 v1 dX9_become_18 rfl ?_
  refine g_putI f fk_X9_27 v2 dX9_become_21 rfl h (fun h => ?_)
  refine g_aload_n f 0 dX9_become_24 rfl rfl ?_
  refine g_aload_n f 1 dX9_become_25 rfl rfl ?_
  refine g_getI f fk_X9_81 v1 dX9_become_26 rfl ?_
  refine g_putI f fk_X9_81 v2 dX9_become_29 rfl h (fun h => ?_)
  refine g_aload_n f 0 dX9_become_32 rfl rfl ?_
  refine g_aload_n f 1 dX9_become_33 rfl rfl ?_
  refine g_getI f fk_X9_84 v1 dX9_become_34 rfl ?_
  refine g_putI f fk_X9_84 v2 dX9_become_37 rfl h (fun h => ?_)
  refine g_aload_n f 1 dX9_become_40 rfl rfl ?_
  refine g_getR f fk_X9_9 v1 dX9_become_41 rfl h (fun t8 h => ?_)
  refine g_iconst f 0 dX9_become_44 kc_0 ?_
  refine g_aload_n f 0 dX9_become_45 rfl rfl ?_
  refine g_getR f fk_X9_9 v2 dX9_become_46 rfl h (fun t9 h => ?_)
  refine g_iconst f 0 dX9_become_49 kc_0 ?_
  refine g_bipush f 8 dX9_become_50 kb_8 ?_
  obtain ⟨v10, h⟩ := h
  obtain ⟨v11, h⟩ := h
  refine g_copyi f ck_X9_87 v10 v11 dX9_become_52 rm_fr (rm_na (Nat.le_of_ble_eq_true rfl)) h (fun h => ?_)
  refine g_aload_n f 1 dX9_become_55 rfl rfl ?_
  refine g_getR f fk_X9_15 v1 dX9_become_56 rfl h (fun t13 h => ?_)
  refine g_iconst f 0 dX9_become_59 kc_0 ?_
  refine g_aload_n f 0 dX9_become_60 rfl rfl ?_
  refine g_getR f fk_X9_15 v2 dX9_become_61 rfl h (fun t14 h => ?_)
  refine g_iconst f 0 dX9_become_64 kc_0 ?_
  refine g_iconst f 4 dX9_become_65 kc_4 ?_
  obtain ⟨v15, h⟩ := h
  obtain ⟨v16, h⟩ := h
  refine g_copyi f ck_X9_87 v15 v16 dX9_become_66 rm_fr (rm_na (Nat.le_of_ble_eq_true rfl)) h (fun h => ?_)
  refine g_aload_n f 1 dX9_become_69 rfl rfl ?_
  refine g_getR f fk_X9_18 v1 dX9_become_70 rfl h (fun t18 h => ?_)
  refine g_iconst f 0 dX9_become_73 kc_0 ?_
  refine g_aload_n f 0 dX9_become_74 rfl rfl ?_
  refine g_getR f fk_X9_18 v2 dX9_become_75 rfl h (fun t19 h => ?_)
  refine g_iconst f 0 dX9_become_78 kc_0 ?_
  refine g_bipush f 8 dX9_become_79 kb_8 ?_
  obtain ⟨v20, h⟩ := h
  obtain ⟨v21, h⟩ := h
  refine g_copyi f ck_X9_87 v20 v21 dX9_become_81 rm_fr (rm_na (Nat.le_of_ble_eq_true rfl)) h (fun h => ?_)
  refine g_aload_n f 1 dX9_become_84 rfl rfl ?_
  refine g_getR f fk_X9_21 v1 dX9_become_85 rfl h (fun t23 h => ?_)
  refine g_iconst f 0 dX9_become_88 kc_0 ?_
  refine g_aload_n f 0 dX9_become_89 rfl rfl ?_
  refine g_getR f fk_X9_21 v2 dX9_become_90 rfl h (fun t24 h => ?_)
  refine g_iconst f 0 dX9_become_93 kc_0 ?_
  refine g_bipush f 8 dX9_become_94 kb_8 ?_
  obtain ⟨v25, h⟩ := h
  obtain ⟨v26, h⟩ := h
  refine g_copyi f ck_X9_87 v25 v26 dX9_become_96 rm_fr (rm_na (Nat.le_of_ble_eq_true rfl)) h (fun h => ?_)
  refine g_aload_n f 1 dX9_become_99 rfl rfl ?_
  refine g_getR f fk_X9_24 v1 dX9_become_100 rfl h (fun t28 h => ?_)
  refine g_iconst f 0 dX9_become_103 kc_0 ?_
  refine g_aload_n f 0 dX9_become_104 rfl rfl ?_
  refine g_getR f fk_X9_24 v2 dX9_become_105 rfl h (fun t29 h => ?_)
  refine g_iconst f 0 dX9_become_108 kc_0 ?_
  refine g_bipush f 8 dX9_become_109 kb_8 ?_
  obtain ⟨v30, h⟩ := h
  obtain ⟨v31, h⟩ := h
  refine g_copyi f ck_X9_87 v30 v31 dX9_become_111 rm_fr (rm_na (Nat.le_of_ble_eq_true rfl)) h (fun h => ?_)
  refine g_aload_n f 1 dX9_become_114 rfl rfl ?_
  refine g_getR f fk_X9_31 v1 dX9_become_115 rfl h (fun t33 h => ?_)
  refine g_iconst f 0 dX9_become_118 kc_0 ?_
  refine g_aload_n f 0 dX9_become_119 rfl rfl ?_
  refine g_getR f fk_X9_31 v2 dX9_become_120 rfl h (fun t34 h => ?_)
  refine g_iconst f 0 dX9_become_123 kc_0 ?_
  refine g_bipush f 8 dX9_become_124 kb_8 ?_
  obtain ⟨v35, h⟩ := h
  obtain ⟨v36, h⟩ := h
  refine g_copyi f ck_X9_87 v35 v36 dX9_become_126 rm_fr (rm_na (Nat.le_of_ble_eq_true rfl)) h (fun h => ?_)
  refine g_aload_n f 1 dX9_become_129 rfl rfl ?_
  refine g_getR f fk_X9_34 v1 dX9_become_130 rfl h (fun t38 h => ?_)
  refine g_iconst f 0 dX9_become_133 kc_0 ?_
  refine g_aload_n f 0 dX9_become_134 rfl rfl ?_
  refine g_getR f fk_X9_34 v2 dX9_become_135 rfl h (fun t39 h => ?_)
  refine g_iconst f 0 dX9_become_138 kc_0 ?_
  refine g_bipush f 8 dX9_become_139 kb_8 ?_
  obtain ⟨v40, h⟩ := h
  obtain ⟨v41, h⟩ := h
  refine g_copyi f ck_X9_87 v40 v41 dX9_become_141 rm_fr (rm_na (Nat.le_of_ble_eq_true rfl)) h (fun h => ?_)
  refine g_aload_n f 1 dX9_become_144 rfl rfl ?_
  refine g_getR f fk_X9_37 v1 dX9_become_145 rfl h (fun t43 h => ?_)
  refine g_iconst f 0 dX9_become_148 kc_0 ?_
  refine g_aload_n f 0 dX9_become_149 rfl rfl ?_
  refine g_getR f fk_X9_37 v2 dX9_become_150 rfl h (fun t44 h => ?_)
  refine g_iconst f 0 dX9_become_153 kc_0 ?_
  refine g_bipush f 8 dX9_become_154 kb_8 ?_
  obtain ⟨v45, h⟩ := h
  obtain ⟨v46, h⟩ := h
  refine g_copyi f ck_X9_87 v45 v46 dX9_become_156 rm_fr (rm_na (Nat.le_of_ble_eq_true rfl)) h (fun h => ?_)
  refine g_aload_n f 1 dX9_become_159 rfl rfl ?_
  refine g_getR f fk_X9_40 v1 dX9_become_160 rfl h (fun t48 h => ?_)
  refine g_iconst f 0 dX9_become_163 kc_0 ?_
  refine g_aload_n f 0 dX9_become_164 rfl rfl ?_
  refine g_getR f fk_X9_40 v2 dX9_become_165 rfl h (fun t49 h => ?_)
  refine g_iconst f 0 dX9_become_168 kc_0 ?_
  refine g_bipush f 8 dX9_become_169 kb_8 ?_
  obtain ⟨v50, h⟩ := h
  obtain ⟨v51, h⟩ := h
  refine g_copyi f ck_X9_87 v50 v51 dX9_become_171 rm_fr (rm_na (Nat.le_of_ble_eq_true rfl)) h (fun h => ?_)
  refine g_aload_n f 0 dX9_become_174 rfl rfl ?_
  refine g_getR f fk_X9_46 v2 dX9_become_175 rfl h (fun t53 h => ?_)
  refine g_aload_n f 1 dX9_become_178 rfl rfl ?_
  refine g_getR f fk_X9_46 v1 dX9_become_179 rfl h (fun t54 h => ?_)
  obtain ⟨v55, h⟩ := h
  refine g_callV f mk_X9_74 v55 (c_X3_become h) dX9_become_182 rfl rfl (Nat.le_of_ble_eq_true rfl) (rm_ok (by decide) (by decide)) ⟨Nat.le_of_ble_eq_true rfl, Nat.le_of_ble_eq_true rfl⟩ (kV fun μ56 x57 h => ?_)
  refine g_aload_n f 0 dX9_become_185 rfl rfl ?_
  refine g_iconst f 0 dX9_become_186 kc_0 ?_
  have v2 := mex_ok x57 v2
  refine g_putI f fk_X9_71 v2 dX9_become_187 rfl h (fun h => ?_)
  refine g_aload_n f 0 dX9_become_190 rfl rfl ?_
  refine g_aload_n f 1 dX9_become_191 rfl rfl ?_
  have v1 := mex_ok x57 v1
  refine g_getI f fk_X9_64 v1 dX9_become_192 rfl ?_
  refine g_putI f fk_X9_64 v2 dX9_become_195 rfl h (fun h => ?_)
  refine g_iconst f 0 dX9_become_198 kc_0 ?_
  refine h_istore_n f dX9_become_199 rfl (by decide) ?_
  exact h_sub [1, 2, 0] rfl (tL_X9_become_200 f hq h)
theorem c_X9_become {Ω : OM} {o0 : Nat} {o1 : Nat} {μ : Me} {Q : Me → Prop} (h : S_X9_become o0 o1 μ Q) : CT Ω yX9_become cX9_become 3 none (rmc 1 0 0) [.ref (oB Ω + o0), .ref (oB Ω + o1)] μ (qV Q) := CT_of (by decide) rfl (by simp [lg_sl, Value.category]) (fun x hΩ f hq hi => by subst hΩ; exact t_X9_become f hq h)
theorem dX10_init_0 : decode cX10_init 0 = .ok (.aload_n 0, 1) := by decide +kernel
theorem dX10_init_1 : decode cX10_init 1 = .ok (.invokespecial 3, 3) := by decide +kernel
theorem dX10_init_4 : decode cX10_init 4 = .ok (.aload_n 0, 1) := by decide +kernel
theorem dX10_init_5 : decode cX10_init 5 = .ok (.new 9, 3) := by decide +kernel
theorem dX10_init_8 : decode cX10_init 8 = .ok (.dup, 1) := by decide +kernel
theorem dX10_init_9 : decode cX10_init 9 = .ok (.invokespecial 11, 3) := by decide +kernel
theorem dX10_init_12 : decode cX10_init 12 = .ok (.putfield 12, 3) := by decide +kernel
theorem dX10_init_15 : decode cX10_init 15 = .ok (.aload_n 0, 1) := by decide +kernel
theorem dX10_init_16 : decode cX10_init 16 = .ok (.new 9, 3) := by decide +kernel
theorem dX10_init_19 : decode cX10_init 19 = .ok (.dup, 1) := by decide +kernel
theorem dX10_init_20 : decode cX10_init 20 = .ok (.invokespecial 11, 3) := by decide +kernel
theorem dX10_init_23 : decode cX10_init 23 = .ok (.putfield 16, 3) := by decide +kernel
theorem dX10_init_26 : decode cX10_init 26 = .ok (.aload_n 0, 1) := by decide +kernel
theorem dX10_init_27 : decode cX10_init 27 = .ok (.new 19, 3) := by decide +kernel
theorem dX10_init_30 : decode cX10_init 30 = .ok (.dup, 1) := by decide +kernel
theorem dX10_init_31 : decode cX10_init 31 = .ok (.invokespecial 21, 3) := by decide +kernel
theorem dX10_init_34 : decode cX10_init 34 = .ok (.putfield 22, 3) := by decide +kernel
theorem dX10_init_37 : decode cX10_init 37 = .ok (.aload_n 0, 1) := by decide +kernel
theorem dX10_init_38 : decode cX10_init 38 = .ok (.iconst 4, 1) := by decide +kernel
theorem dX10_init_39 : decode cX10_init 39 = .ok (.anewarray 26, 3) := by decide +kernel
theorem dX10_init_42 : decode cX10_init 42 = .ok (.putfield 28, 3) := by decide +kernel
theorem dX10_init_45 : decode cX10_init 45 = .ok (.iconst 0, 1) := by decide +kernel
theorem dX10_init_46 : decode cX10_init 46 = .ok (.istore_n 1, 1) := by decide +kernel
theorem dX10_init_47 : decode cX10_init 47 = .ok (.iload_n 1, 1) := by decide +kernel
theorem dX10_init_48 : decode cX10_init 48 = .ok (.iconst 4, 1) := by decide +kernel
theorem dX10_init_49 : decode cX10_init 49 = .ok (.if_icmp .ge 22, 3) := by decide +kernel
theorem dX10_init_52 : decode cX10_init 52 = .ok (.aload_n 0, 1) := by decide +kernel
theorem dX10_init_53 : decode cX10_init 53 = .ok (.getfield 28, 3) := by decide +kernel
theorem dX10_init_56 : decode cX10_init 56 = .ok (.iload_n 1, 1) := by decide +kernel
theorem dX10_init_57 : decode cX10_init 57 = .ok (.new 26, 3) := by decide +kernel
theorem dX10_init_60 : decode cX10_init 60 = .ok (.dup, 1) := by decide +kernel
theorem dX10_init_61 : decode cX10_init 61 = .ok (.invokespecial 32, 3) := by decide +kernel
theorem dX10_init_64 : decode cX10_init 64 = .ok (.aastore, 1) := by decide +kernel
theorem dX10_init_65 : decode cX10_init 65 = .ok (.iinc 1 1, 3) := by decide +kernel
theorem dX10_init_68 : decode cX10_init 68 = .ok (.goto (-21), 3) := by decide +kernel
theorem dX10_init_71 : decode cX10_init 71 = .ok (.aload_n 0, 1) := by decide +kernel
theorem dX10_init_72 : decode cX10_init 72 = .ok (.new 33, 3) := by decide +kernel
theorem dX10_init_75 : decode cX10_init 75 = .ok (.dup, 1) := by decide +kernel
theorem dX10_init_76 : decode cX10_init 76 = .ok (.invokespecial 35, 3) := by decide +kernel
theorem dX10_init_79 : decode cX10_init 79 = .ok (.putfield 36, 3) := by decide +kernel
theorem dX10_init_82 : decode cX10_init 82 = .ok (.aload_n 0, 1) := by decide +kernel
theorem dX10_init_83 : decode cX10_init 83 = .ok (.new 40, 3) := by decide +kernel
theorem dX10_init_86 : decode cX10_init 86 = .ok (.dup, 1) := by decide +kernel
theorem dX10_init_87 : decode cX10_init 87 = .ok (.aload_n 0, 1) := by decide +kernel
theorem dX10_init_88 : decode cX10_init 88 = .ok (.getfield 12, 3) := by decide +kernel
theorem dX10_init_91 : decode cX10_init 91 = .ok (.aload_n 0, 1) := by decide +kernel
theorem dX10_init_92 : decode cX10_init 92 = .ok (.getfield 28, 3) := by decide +kernel
theorem dX10_init_95 : decode cX10_init 95 = .ok (.invokespecial 42, 3) := by decide +kernel
theorem dX10_init_98 : decode cX10_init 98 = .ok (.putfield 45, 3) := by decide +kernel
theorem dX10_init_101 : decode cX10_init 101 = .ok (.aload_n 0, 1) := by decide +kernel
theorem dX10_init_102 : decode cX10_init 102 = .ok (.new 49, 3) := by decide +kernel
theorem dX10_init_105 : decode cX10_init 105 = .ok (.dup, 1) := by decide +kernel
theorem dX10_init_106 : decode cX10_init 106 = .ok (.aload_n 0, 1) := by decide +kernel
theorem dX10_init_107 : decode cX10_init 107 = .ok (.getfield 12, 3) := by decide +kernel
theorem dX10_init_110 : decode cX10_init 110 = .ok (.aload_n 0, 1) := by decide +kernel
theorem dX10_init_111 : decode cX10_init 111 = .ok (.getfield 45, 3) := by decide +kernel
theorem dX10_init_114 : decode cX10_init 114 = .ok (.invokespecial 51, 3) := by decide +kernel
theorem dX10_init_117 : decode cX10_init 117 = .ok (.putfield 54, 3) := by decide +kernel
theorem dX10_init_120 : decode cX10_init 120 = .ok (.aload_n 0, 1) := by decide +kernel
theorem dX10_init_121 : decode cX10_init 121 = .ok (.new 58, 3) := by decide +kernel
theorem dX10_init_124 : decode cX10_init 124 = .ok (.dup, 1) := by decide +kernel
theorem dX10_init_125 : decode cX10_init 125 = .ok (.aload_n 0, 1) := by decide +kernel
theorem dX10_init_126 : decode cX10_init 126 = .ok (.getfield 12, 3) := by decide +kernel
theorem dX10_init_129 : decode cX10_init 129 = .ok (.aload_n 0, 1) := by decide +kernel
theorem dX10_init_130 : decode cX10_init 130 = .ok (.getfield 45, 3) := by decide +kernel
theorem dX10_init_133 : decode cX10_init 133 = .ok (.invokespecial 60, 3) := by decide +kernel
theorem dX10_init_136 : decode cX10_init 136 = .ok (.putfield 61, 3) := by decide +kernel
theorem dX10_init_139 : decode cX10_init 139 = .ok (.aload_n 0, 1) := by decide +kernel
theorem dX10_init_140 : decode cX10_init 140 = .ok (.new 65, 3) := by decide +kernel
theorem dX10_init_143 : decode cX10_init 143 = .ok (.dup, 1) := by decide +kernel
theorem dX10_init_144 : decode cX10_init 144 = .ok (.aload_n 0, 1) := by decide +kernel
theorem dX10_init_145 : decode cX10_init 145 = .ok (.getfield 12, 3) := by decide +kernel
theorem dX10_init_148 : decode cX10_init 148 = .ok (.aload_n 0, 1) := by decide +kernel
theorem dX10_init_149 : decode cX10_init 149 = .ok (.getfield 61, 3) := by decide +kernel
theorem dX10_init_152 : decode cX10_init 152 = .ok (.invokespecial 67, 3) := by decide +kernel
theorem dX10_init_155 : decode cX10_init 155 = .ok (.putfield 70, 3) := by decide +kernel
theorem dX10_init_158 : decode cX10_init 158 = .ok (.return_, 1) := by decide +kernel
def B_X10_init_47 (o0 : Nat) (i1 : Int32) (k j : Nat) (μ : Me) (K47 : Int32 → Nat → Nat → Me → Prop) (Q : Me → Prop) : Prop := ((4 ≤ i1 → (k + 1 ≤ 313 ∧ j + 8 ≤ 9923) ∧ ∀ μ28, μ28 = mnw μ 5 0 → ((k + 1) + 8 ≤ 313 ∧ (j + 8) + 1636 ≤ 9923) ∧ S_X5_init (mnn μ) μ28 (fun μ31 => mok μ31 o0 10 ∧ ∀ μ36, μ36 = msr μ31 o0 4 (some (mnn μ)) → (((k + 1) + 8) + 1 ≤ 313 ∧ ((j + 8) + 1636) + 12 ≤ 9923) ∧ ∀ μ38, μ38 = mnw μ36 4 0 → ∃ t41, mgr μ38 o0 0 = some t41 ∧ ∃ t42, mgr μ38 o0 3 = some t42 ∧ ((((k + 1) + 8) + 1) + 1 ≤ 313 ∧ (((j + 8) + 1636) + 12) + 300 ≤ 9923) ∧ S_X4_init (mnn μ36) t41 t42 μ38 (fun μ43 => ∀ μ47, μ47 = msr μ43 o0 5 (some (mnn μ36)) → (((((k + 1) + 8) + 1) + 1) + 1 ≤ 313 ∧ ((((j + 8) + 1636) + 12) + 300) + 3 ≤ 9923) ∧ ∀ μ49, μ49 = mnw μ47 1 0 → ∃ t52, mgr μ49 o0 0 = some t52 ∧ ∃ t53, mgr μ49 o0 5 = some t53 ∧ ((((((k + 1) + 8) + 1) + 1) + 1) + 4 ≤ 313 ∧ (((((j + 8) + 1636) + 12) + 300) + 3) + 55 ≤ 9923) ∧ S_X1_init (mnn μ47) t52 t53 μ49 (fun μ54 => ∀ μ58, μ58 = msr μ54 o0 6 (some (mnn μ47)) → (((((((k + 1) + 8) + 1) + 1) + 1) + 4) + 1 ≤ 313 ∧ ((((((j + 8) + 1636) + 12) + 300) + 3) + 55) + 6 ≤ 9923) ∧ ∀ μ60, μ60 = mnw μ58 2 0 → ∃ t63, mgr μ60 o0 0 = some t63 ∧ ∃ t64, mgr μ60 o0 5 = some t64 ∧ ((((((((k + 1) + 8) + 1) + 1) + 1) + 4) + 1) + 3 ≤ 313 ∧ (((((((j + 8) + 1636) + 12) + 300) + 3) + 55) + 6) + 768 ≤ 9923) ∧ S_X2_init (mnn μ58) t63 t64 μ60 (fun μ65 => ∀ μ69, μ69 = msr μ65 o0 7 (some (mnn μ58)) → (((((((((k + 1) + 8) + 1) + 1) + 1) + 4) + 1) + 3) + 1 ≤ 313 ∧ ((((((((j + 8) + 1636) + 12) + 300) + 3) + 55) + 6) + 768) + 6 ≤ 9923) ∧ ∀ μ71, μ71 = mnw μ69 0 0 → ∃ t74, mgr μ71 o0 0 = some t74 ∧ ∃ t75, mgr μ71 o0 7 = some t75 ∧ ((((((((((k + 1) + 8) + 1) + 1) + 1) + 4) + 1) + 3) + 1) + 3 ≤ 313 ∧ (((((((((j + 8) + 1636) + 12) + 300) + 3) + 55) + 6) + 768) + 6) + 265 ≤ 9923) ∧ S_X0_init (mnn μ69) t74 t75 μ71 (fun μ76 => ∀ μ80, μ80 = msr μ76 o0 8 (some (mnn μ69)) → (((((((((((k + 1) + 8) + 1) + 1) + 1) + 4) + 1) + 3) + 1) + 3) ≤ 313 ∧ ((((((((((j + 8) + 1636) + 12) + 300) + 3) + 55) + 6) + 768) + 6) + 265) ≤ 9923) ∧ Q μ80)))))) ∧ (¬ 4 ≤ i1 → mok μ o0 10 ∧ ∃ t83, mgr μ o0 3 = some t83 ∧ (k + 1 ≤ 313 ∧ j + 9 ≤ 9923) ∧ ∀ μ85, μ85 = mnw μ 7 0 → ((k + 1) + 3 ≤ 313 ∧ (j + 9) + 720 ≤ 9923) ∧ S_X7_init (mnn μ) μ85 (fun μ88 => mok μ88 t83 16 ∧ vp_in i1 (mln μ88 t83) ∧ ∀ μ93, μ93 = msr μ88 t83 i1.toNatClampNeg (some (mnn μ)) → K47 (i1 + 1) ((k + 1) + 3) ((j + 9) + 720) μ93)))
set_option maxHeartbeats 4000000 in
set_option maxRecDepth 100000 in
theorem tB_X10_init_47 {x : GX} (f : Fx x cX10_init RX10 2 (rmc 2 313 9923)) {o0 : Nat} {i1 : Int32} {k j : Nat} {μ : Me} {Q : Me → Prop} (hq : Rt x none (qV Q)) (hi : x.1.2.2.2.2.2.2.2.1.name = "<init>") {K47 : Int32 → Nat → Nat → Me → Prop} (hK47 : ∀ (a1 : Int32) (k j : Nat) (ν : Me), K47 a1 k j ν → G x 2 47 [(0, .ref (gB x + o0)), (1, .int a1)] [] ν k j) (h : B_X10_init_47 o0 i1 k j μ K47 Q) : G x 2 47 [(0, .ref (gB x + o0)), (1, .int i1)] [] μ k j := by
  unfold B_X10_init_47 at h
  refine g_iload_n f 1 dX10_init_47 rfl rfl ?_
  refine g_iconst f 4 dX10_init_48 kc_4 ?_
  refine g_ic_ge f 71 dX10_init_49 rfl h (fun h => ?_) (fun h => ?_)
  · refine g_aload_n f 0 dX10_init_71 rfl rfl ?_
    obtain ⟨⟨c27, c27b⟩, h⟩ := h
    refine g_new f nk_X10_33 dX10_init_72 c27 c27b h (fun h v29 x30 => ?_)
    refine g_dup f dX10_init_75 rfl ?_
    obtain ⟨⟨c33, c33b⟩, h⟩ := h
    refine g_callIn f mk_X10_35 (c_X5_init h) dX10_init_76 rfl rfl (Nat.le_of_ble_eq_true rfl) (rm_ok (by decide) (by decide)) ⟨c33, c33b⟩ (kV fun μ31 x32 h => ?_)
    obtain ⟨v35, h⟩ := h
    refine g_putFQ (r := some _) f fk_X10_36 rfl hi v35 dX10_init_79 rfl (Or.inl ⟨_, rfl⟩) h (fun h => ?_)
    refine g_aload_n f 0 dX10_init_82 rfl rfl ?_
    obtain ⟨⟨c37, c37b⟩, h⟩ := h
    refine g_new f nk_X10_40 dX10_init_83 c37 c37b h (fun h v39 x40 => ?_)
    refine g_dup f dX10_init_86 rfl ?_
    refine g_aload_n f 0 dX10_init_87 rfl rfl ?_
    have v35 := mex_ok x40 v35
    refine g_getR f fk_X10_12 v35 dX10_init_88 rfl h (fun t41 h => ?_)
    refine g_aload_n f 0 dX10_init_91 rfl rfl ?_
    refine g_getR f fk_X10_28 v35 dX10_init_92 rfl h (fun t42 h => ?_)
    obtain ⟨⟨c45, c45b⟩, h⟩ := h
    refine g_callI f mk_X10_42 (c_X4_init h) dX10_init_95 rfl rfl (Nat.le_of_ble_eq_true rfl) (rm_ok (by decide) (by decide)) ⟨c45, c45b⟩ (kV fun μ43 x44 h => ?_)
    have v35 := mex_ok x44 v35
    refine g_putFQ (r := some _) f fk_X10_45 rfl hi v35 dX10_init_98 rfl (Or.inl ⟨_, rfl⟩) h (fun h => ?_)
    refine g_aload_n f 0 dX10_init_101 rfl rfl ?_
    obtain ⟨⟨c48, c48b⟩, h⟩ := h
    refine g_new f nk_X10_49 dX10_init_102 c48 c48b h (fun h v50 x51 => ?_)
    refine g_dup f dX10_init_105 rfl ?_
    refine g_aload_n f 0 dX10_init_106 rfl rfl ?_
    have v35 := mex_ok x51 v35
    refine g_getR f fk_X10_12 v35 dX10_init_107 rfl h (fun t52 h => ?_)
    refine g_aload_n f 0 dX10_init_110 rfl rfl ?_
    refine g_getR f fk_X10_45 v35 dX10_init_111 rfl h (fun t53 h => ?_)
    obtain ⟨⟨c56, c56b⟩, h⟩ := h
    refine g_callI f mk_X10_51 (c_X1_init h) dX10_init_114 rfl rfl (Nat.le_of_ble_eq_true rfl) (rm_ok (by decide) (by decide)) ⟨c56, c56b⟩ (kV fun μ54 x55 h => ?_)
    have v35 := mex_ok x55 v35
    refine g_putFQ (r := some _) f fk_X10_54 rfl hi v35 dX10_init_117 rfl (Or.inl ⟨_, rfl⟩) h (fun h => ?_)
    refine g_aload_n f 0 dX10_init_120 rfl rfl ?_
    obtain ⟨⟨c59, c59b⟩, h⟩ := h
    refine g_new f nk_X10_58 dX10_init_121 c59 c59b h (fun h v61 x62 => ?_)
    refine g_dup f dX10_init_124 rfl ?_
    refine g_aload_n f 0 dX10_init_125 rfl rfl ?_
    have v35 := mex_ok x62 v35
    refine g_getR f fk_X10_12 v35 dX10_init_126 rfl h (fun t63 h => ?_)
    refine g_aload_n f 0 dX10_init_129 rfl rfl ?_
    refine g_getR f fk_X10_45 v35 dX10_init_130 rfl h (fun t64 h => ?_)
    obtain ⟨⟨c67, c67b⟩, h⟩ := h
    refine g_callI f mk_X10_60 (c_X2_init h) dX10_init_133 rfl rfl (Nat.le_of_ble_eq_true rfl) (rm_ok (by decide) (by decide)) ⟨c67, c67b⟩ (kV fun μ65 x66 h => ?_)
    have v35 := mex_ok x66 v35
    refine g_putFQ (r := some _) f fk_X10_61 rfl hi v35 dX10_init_136 rfl (Or.inl ⟨_, rfl⟩) h (fun h => ?_)
    refine g_aload_n f 0 dX10_init_139 rfl rfl ?_
    obtain ⟨⟨c70, c70b⟩, h⟩ := h
    refine g_new f nk_X10_65 dX10_init_140 c70 c70b h (fun h v72 x73 => ?_)
    refine g_dup f dX10_init_143 rfl ?_
    refine g_aload_n f 0 dX10_init_144 rfl rfl ?_
    have v35 := mex_ok x73 v35
    refine g_getR f fk_X10_12 v35 dX10_init_145 rfl h (fun t74 h => ?_)
    refine g_aload_n f 0 dX10_init_148 rfl rfl ?_
    refine g_getR f fk_X10_61 v35 dX10_init_149 rfl h (fun t75 h => ?_)
    obtain ⟨⟨c78, c78b⟩, h⟩ := h
    refine g_callI f mk_X10_67 (c_X0_init h) dX10_init_152 rfl rfl (Nat.le_of_ble_eq_true rfl) (rm_ok (by decide) (by decide)) ⟨c78, c78b⟩ (kV fun μ76 x77 h => ?_)
    have v35 := mex_ok x77 v35
    refine g_putFQ (r := some _) f fk_X10_70 rfl hi v35 dX10_init_155 rfl (Or.inl ⟨_, rfl⟩) h (fun h => ?_)
    obtain ⟨⟨c81, c81b⟩, h⟩ := h
    exact g_vret f hq c81 c81b dX10_init_158 h
  · refine g_aload_n f 0 dX10_init_52 rfl rfl ?_
    obtain ⟨v82, h⟩ := h
    refine g_getR f fk_X10_28 v82 dX10_init_53 rfl h (fun t83 h => ?_)
    refine g_iload_n f 1 dX10_init_56 rfl rfl ?_
    obtain ⟨⟨c84, c84b⟩, h⟩ := h
    refine g_new f nk_X10_26 dX10_init_57 c84 c84b h (fun h v86 x87 => ?_)
    refine g_dup f dX10_init_60 rfl ?_
    obtain ⟨⟨c90, c90b⟩, h⟩ := h
    refine g_callIn f mk_X10_32 (c_X7_init h) dX10_init_61 rfl rfl (Nat.le_of_ble_eq_true rfl) (rm_ok (by decide) (by decide)) ⟨c90, c90b⟩ (kV fun μ88 x89 h => ?_)
    obtain ⟨v92, h⟩ := h
    have v86 := mex_ok x89 v86
    refine g_aast f v92 v86 (Or.inr ⟨rfl, rfl⟩) dX10_init_64 h (fun h => ?_)
    refine h_iinc f 1 1 dX10_init_65 rfl kc_1 (by decide) ?_
    refine g_goto f 47 dX10_init_68 rfl ?_
    exact h_sub [1, 0] rfl (hK47 _ _ _ _ h)
def L_X10_init_47 (o0 : Nat) (i1 : Int32) (k j : Nat) (μ : Me) (Q : Me → Prop) : Prop := ∃ I : Int32 → Nat → Nat → Me → Nat → Prop, (∃ n, I i1 k j μ n) ∧ ∀ (i1 : Int32) (k j : Nat) (μ : Me) (n : Nat), I i1 k j μ n → B_X10_init_47 o0 i1 k j μ (fun a1 k j ν => ∃ n', n' < n ∧ I a1 k j ν n') Q
set_option maxHeartbeats 4000000 in
set_option maxRecDepth 100000 in
theorem tL_X10_init_47 {x : GX} (f : Fx x cX10_init RX10 2 (rmc 2 313 9923)) {o0 : Nat} {i1 : Int32} {k j : Nat} {μ : Me} {Q : Me → Prop} (hq : Rt x none (qV Q)) (hi : x.1.2.2.2.2.2.2.2.1.name = "<init>") (h : L_X10_init_47 o0 i1 k j μ Q) : G x 2 47 [(0, .ref (gB x + o0)), (1, .int i1)] [] μ k j := by
  obtain ⟨I, ⟨n, hI⟩, hs⟩ := h
  induction n using Nat.strongRecOn generalizing i1 k j μ with
  | ind n ih => exact tB_X10_init_47 f hq hi (fun a1 k j ν hk => by obtain ⟨n2, hn, hI2⟩ := hk; exact ih n2 hn hI2) (hs _ _ _ _ _ hI)
def S_X10_init (o0 : Nat) (μ : Me) (Q : Me → Prop) : Prop := ∀ μ1, μ1 = mnw μ 9 0 → S_X9_init (mnn μ) μ1 (fun μ4 => mok μ4 o0 10 ∧ ∀ μ8, μ8 = msr μ4 o0 0 (some (mnn μ)) → ∀ μ9, μ9 = mnw μ8 9 0 → S_X9_init (mnn μ8) μ9 (fun μ12 => ∀ μ15, μ15 = msr μ12 o0 1 (some (mnn μ8)) → ∀ μ16, μ16 = mnw μ15 6 0 → S_X6_init (mnn μ15) μ16 (fun μ19 => ∀ μ22, μ22 = msr μ19 o0 2 (some (mnn μ15)) → ∀ μ23, μ23 = mnw μ22 16 4 → ∀ μ26, μ26 = msr μ23 o0 3 (some (mnn μ22)) → L_X10_init_47 o0 0 273 3948 μ26 Q)))
set_option maxHeartbeats 4000000 in
set_option maxRecDepth 100000 in
theorem t_X10_init {x : GX} (f : Fx x cX10_init RX10 2 (rmc 2 313 9923)) {o0 : Nat} {μ : Me} {Q : Me → Prop} (hq : Rt x none (qV Q)) (hi : x.1.2.2.2.2.2.2.2.1.name = "<init>") (h : S_X10_init o0 μ Q) : G x 2 0 [(0, .ref (gB x + o0))] [] μ 0 0 := by
  unfold S_X10_init at h
  refine g_aload_n f 0 dX10_init_0 rfl rfl ?_
  refine g_objInit f w_125 w_126 w_127 dX10_init_1 rm_fr (Nat.le_of_ble_eq_true rfl) ?_
  refine g_aload_n f 0 dX10_init_4 rfl rfl ?_
  refine g_new f nk_X10_9 dX10_init_5 (Nat.le_of_ble_eq_true rfl) (Nat.le_of_ble_eq_true rfl) h (fun h v2 x3 => ?_)
  refine g_dup f dX10_init_8 rfl ?_
  refine g_callI f mk_X10_11 (c_X9_init h) dX10_init_9 rfl rfl (Nat.le_of_ble_eq_true rfl) (rm_ok (by decide) (by decide)) ⟨Nat.le_of_ble_eq_true rfl, Nat.le_of_ble_eq_true rfl⟩ (kV fun μ4 x5 h => ?_)
  obtain ⟨v7, h⟩ := h
  refine g_putFQ (r := some _) f fk_X10_12 rfl hi v7 dX10_init_12 rfl (Or.inl ⟨_, rfl⟩) h (fun h => ?_)
  refine g_aload_n f 0 dX10_init_15 rfl rfl ?_
  refine g_new f nk_X10_9 dX10_init_16 (Nat.le_of_ble_eq_true rfl) (Nat.le_of_ble_eq_true rfl) h (fun h v10 x11 => ?_)
  refine g_dup f dX10_init_19 rfl ?_
  refine g_callI f mk_X10_11 (c_X9_init h) dX10_init_20 rfl rfl (Nat.le_of_ble_eq_true rfl) (rm_ok (by decide) (by decide)) ⟨Nat.le_of_ble_eq_true rfl, Nat.le_of_ble_eq_true rfl⟩ (kV fun μ12 x13 h => ?_)
  have v7 := mex_ok x11 v7
  have v7 := mex_ok x13 v7
  refine g_putFQ (r := some _) f fk_X10_16 rfl hi v7 dX10_init_23 rfl (Or.inl ⟨_, rfl⟩) h (fun h => ?_)
  refine g_aload_n f 0 dX10_init_26 rfl rfl ?_
  refine g_new f nk_X10_19 dX10_init_27 (Nat.le_of_ble_eq_true rfl) (Nat.le_of_ble_eq_true rfl) h (fun h v17 x18 => ?_)
  refine g_dup f dX10_init_30 rfl ?_
  refine g_callIn f mk_X10_21 (c_X6_init h) dX10_init_31 rfl rfl (Nat.le_of_ble_eq_true rfl) (rm_ok (by decide) (by decide)) ⟨Nat.le_of_ble_eq_true rfl, Nat.le_of_ble_eq_true rfl⟩ (kV fun μ19 x20 h => ?_)
  have v7 := mex_ok x18 v7
  have v7 := mex_ok x20 v7
  refine g_putFQ (r := some _) f fk_X10_22 rfl hi v7 dX10_init_34 rfl (Or.inl ⟨_, rfl⟩) h (fun h => ?_)
  refine g_aload_n f 0 dX10_init_37 rfl rfl ?_
  refine g_iconst f 4 dX10_init_38 kc_4 ?_
  refine g_anew (c := 16) (N := 4) f (Or.inr ⟨rfl, rfl⟩) dX10_init_39 w_291 (by decide) (by decide) (Nat.le_of_ble_eq_true rfl) (Nat.le_of_ble_eq_true rfl) (Nat.le_of_ble_eq_true rfl) h (fun h v24 x25 => ?_)
  have v7 := mex_ok x25 v7
  refine g_putFQ (r := some _) f fk_X10_28 rfl hi v7 dX10_init_42 rfl (Or.inr ⟨_, rfl⟩) h (fun h => ?_)
  refine g_iconst f 0 dX10_init_45 kc_0 ?_
  refine h_istore_n f dX10_init_46 rfl (by decide) ?_
  exact h_sub [1, 0] rfl (tL_X10_init_47 f hq hi h)
theorem c_X10_init {Ω : OM} {o0 : Nat} {μ : Me} {Q : Me → Prop} (h : S_X10_init o0 μ Q) : CT Ω yX10_init cX10_init 2 none (rmc 2 313 9923) [.ref (oB Ω + o0)] μ (qV Q) := CT_of (by decide) rfl (by simp [lg_sl, Value.category]) (fun x hΩ f hq hi => by subst hΩ; exact t_X10_init f hq (hi rfl) h)
theorem dX10_person_0 : decode cX10_person 0 = .ok (.aload_n 0, 1) := by decide +kernel
theorem dX10_person_1 : decode cX10_person 1 = .ok (.getfield 61, 3) := by decide +kernel
theorem dX10_person_4 : decode cX10_person 4 = .ok (.invokevirtual 74, 3) := by decide +kernel
theorem dX10_person_7 : decode cX10_person 7 = .ok (.aload_n 0, 1) := by decide +kernel
theorem dX10_person_8 : decode cX10_person 8 = .ok (.getfield 12, 3) := by decide +kernel
theorem dX10_person_11 : decode cX10_person 11 = .ok (.iload_n 1, 1) := by decide +kernel
theorem dX10_person_12 : decode cX10_person 12 = .ok (.iload_n 2, 1) := by decide +kernel
theorem dX10_person_13 : decode cX10_person 13 = .ok (.iload_n 3, 1) := by decide +kernel
theorem dX10_person_14 : decode cX10_person 14 = .ok (.iload 4, 2) := by decide +kernel
theorem dX10_person_16 : decode cX10_person 16 = .ok (.invokevirtual 77, 3) := by decide +kernel
theorem dX10_person_19 : decode cX10_person 19 = .ok (.ireturn, 1) := by decide +kernel
def S_X10_person (o0 : Nat) (i1 : Int32) (i2 : Int32) (i3 : Int32) (i4 : Int32) (μ : Me) (Q : Int32 → Me → Prop) : Prop := mok μ o0 10 ∧ ∃ t2, mgr μ o0 7 = some t2 ∧ mok μ t2 2 ∧ S_X2_forget t2 μ (fun μ4 => ∃ t7, mgr μ4 o0 0 = some t7 ∧ mok μ4 t7 9 ∧ S_X9_tell t7 i1 i2 i3 i4 μ4 (fun r11 μ9 => Q r11 μ9))
set_option maxHeartbeats 4000000 in
set_option maxRecDepth 100000 in
theorem t_X10_person {x : GX} (f : Fx x cX10_person RX10 5 (rmc 2 0 0)) {o0 : Nat} {i1 : Int32} {i2 : Int32} {i3 : Int32} {i4 : Int32} {μ : Me} {Q : Int32 → Me → Prop} (hq : Rt x (some .int) (qI Q)) (h : S_X10_person o0 i1 i2 i3 i4 μ Q) : G x 5 0 [(0, .ref (gB x + o0)), (1, .int i1), (2, .int i2), (3, .int i3), (4, .int i4)] [] μ 0 0 := by
  unfold S_X10_person at h
  refine g_aload_n f 0 dX10_person_0 rfl rfl ?_
  obtain ⟨v1, h⟩ := h
  refine g_getR f fk_X10_61 v1 dX10_person_1 rfl h (fun t2 h => ?_)
  obtain ⟨v3, h⟩ := h
  refine g_callV f mk_X10_74 v3 (c_X2_forget h) dX10_person_4 rfl rfl (Nat.le_of_ble_eq_true rfl) (rm_ok (by decide) (by decide)) ⟨Nat.le_of_ble_eq_true rfl, Nat.le_of_ble_eq_true rfl⟩ (kV fun μ4 x5 h => ?_)
  refine g_aload_n f 0 dX10_person_7 rfl rfl ?_
  have v1 := mex_ok x5 v1
  refine g_getR f fk_X10_12 v1 dX10_person_8 rfl h (fun t7 h => ?_)
  refine g_iload_n f 1 dX10_person_11 rfl rfl ?_
  refine g_iload_n f 2 dX10_person_12 rfl rfl ?_
  refine g_iload_n f 3 dX10_person_13 rfl rfl ?_
  refine g_iload f 4 dX10_person_14 rfl ?_
  obtain ⟨v8, h⟩ := h
  refine g_callV f mk_X10_77 v8 (c_X9_tell h) dX10_person_16 rfl rfl (Nat.le_of_ble_eq_true rfl) (rm_ok (by decide) (by decide)) ⟨Nat.le_of_ble_eq_true rfl, Nat.le_of_ble_eq_true rfl⟩ (kI fun r11 μ9 x10 h => ?_)
  exact g_iret f hq (Nat.le_of_ble_eq_true rfl) (Nat.le_of_ble_eq_true rfl) dX10_person_19 h
theorem c_X10_person {Ω : OM} {o0 : Nat} {i1 : Int32} {i2 : Int32} {i3 : Int32} {i4 : Int32} {μ : Me} {Q : Int32 → Me → Prop} (h : S_X10_person o0 i1 i2 i3 i4 μ Q) : CT Ω yX10_person cX10_person 5 (some .int) (rmc 2 0 0) [.ref (oB Ω + o0), .int i1, .int i2, .int i3, .int i4] μ (qI Q) := CT_of (by decide) rfl (by simp [lg_sl, Value.category]) (fun x hΩ f hq hi => by subst hΩ; exact t_X10_person f hq h)
theorem dX10_hears_0 : decode cX10_hears 0 = .ok (.iload_n 1, 1) := by decide +kernel
theorem dX10_hears_1 : decode cX10_hears 1 = .ok (.ifCond .lt 19, 3) := by decide +kernel
theorem dX10_hears_4 : decode cX10_hears 4 = .ok (.iload_n 1, 1) := by decide +kernel
theorem dX10_hears_5 : decode cX10_hears 5 = .ok (.bipush 8, 2) := by decide +kernel
theorem dX10_hears_7 : decode cX10_hears 7 = .ok (.if_icmp .ge 13, 3) := by decide +kernel
theorem dX10_hears_10 : decode cX10_hears 10 = .ok (.iload_n 2, 1) := by decide +kernel
theorem dX10_hears_11 : decode cX10_hears 11 = .ok (.ifCond .lt 9, 3) := by decide +kernel
theorem dX10_hears_14 : decode cX10_hears 14 = .ok (.iload_n 2, 1) := by decide +kernel
theorem dX10_hears_15 : decode cX10_hears 15 = .ok (.bipush 8, 2) := by decide +kernel
theorem dX10_hears_17 : decode cX10_hears 17 = .ok (.if_icmp .lt 5, 3) := by decide +kernel
theorem dX10_hears_20 : decode cX10_hears 20 = .ok (.iconst 0, 1) := by decide +kernel
theorem dX10_hears_21 : decode cX10_hears 21 = .ok (.ireturn, 1) := by decide +kernel
theorem dX10_hears_22 : decode cX10_hears 22 = .ok (.aload_n 0, 1) := by decide +kernel
theorem dX10_hears_23 : decode cX10_hears 23 = .ok (.getfield 61, 3) := by decide +kernel
theorem dX10_hears_26 : decode cX10_hears 26 = .ok (.invokevirtual 74, 3) := by decide +kernel
theorem dX10_hears_29 : decode cX10_hears 29 = .ok (.aload_n 0, 1) := by decide +kernel
theorem dX10_hears_30 : decode cX10_hears 30 = .ok (.getfield 12, 3) := by decide +kernel
theorem dX10_hears_33 : decode cX10_hears 33 = .ok (.getfield 81, 3) := by decide +kernel
theorem dX10_hears_36 : decode cX10_hears 36 = .ok (.iload_n 1, 1) := by decide +kernel
theorem dX10_hears_37 : decode cX10_hears 37 = .ok (.iload_n 3, 1) := by decide +kernel
theorem dX10_hears_38 : decode cX10_hears 38 = .ok (.ifCond .eq 19, 3) := by decide +kernel
theorem dX10_hears_41 : decode cX10_hears 41 = .ok (.aload_n 0, 1) := by decide +kernel
theorem dX10_hears_42 : decode cX10_hears 42 = .ok (.getfield 12, 3) := by decide +kernel
theorem dX10_hears_45 : decode cX10_hears 45 = .ok (.getfield 81, 3) := by decide +kernel
theorem dX10_hears_48 : decode cX10_hears 48 = .ok (.iload_n 1, 1) := by decide +kernel
theorem dX10_hears_49 : decode cX10_hears 49 = .ok (.iaload, 1) := by decide +kernel
theorem dX10_hears_50 : decode cX10_hears 50 = .ok (.iconst 1, 1) := by decide +kernel
theorem dX10_hears_51 : decode cX10_hears 51 = .ok (.iload_n 2, 1) := by decide +kernel
theorem dX10_hears_52 : decode cX10_hears 52 = .ok (.ishl, 1) := by decide +kernel
theorem dX10_hears_53 : decode cX10_hears 53 = .ok (.ior, 1) := by decide +kernel
theorem dX10_hears_54 : decode cX10_hears 54 = .ok (.goto 18, 3) := by decide +kernel
theorem dX10_hears_57 : decode cX10_hears 57 = .ok (.aload_n 0, 1) := by decide +kernel
theorem dX10_hears_58 : decode cX10_hears 58 = .ok (.getfield 12, 3) := by decide +kernel
theorem dX10_hears_61 : decode cX10_hears 61 = .ok (.getfield 81, 3) := by decide +kernel
theorem dX10_hears_64 : decode cX10_hears 64 = .ok (.iload_n 1, 1) := by decide +kernel
theorem dX10_hears_65 : decode cX10_hears 65 = .ok (.iaload, 1) := by decide +kernel
theorem dX10_hears_66 : decode cX10_hears 66 = .ok (.iconst 1, 1) := by decide +kernel
theorem dX10_hears_67 : decode cX10_hears 67 = .ok (.iload_n 2, 1) := by decide +kernel
theorem dX10_hears_68 : decode cX10_hears 68 = .ok (.ishl, 1) := by decide +kernel
theorem dX10_hears_69 : decode cX10_hears 69 = .ok (.iconst (-1), 1) := by decide +kernel
theorem dX10_hears_70 : decode cX10_hears 70 = .ok (.ixor, 1) := by decide +kernel
theorem dX10_hears_71 : decode cX10_hears 71 = .ok (.iand, 1) := by decide +kernel
theorem dX10_hears_72 : decode cX10_hears 72 = .ok (.iastore, 1) := by decide +kernel
theorem dX10_hears_73 : decode cX10_hears 73 = .ok (.iconst 1, 1) := by decide +kernel
theorem dX10_hears_74 : decode cX10_hears 74 = .ok (.ireturn, 1) := by decide +kernel
def B_X10_hears_72 (s0 : Int32) (s1 : Int32) (s2 : Option Nat) (μ : Me) (Q : Int32 → Me → Prop) : Prop := ∃ t14, s2 = some t14 ∧ mok μ t14 12 ∧ vp_in s1 (mln μ t14) ∧ ∀ μ18, μ18 = msi μ t14 s1.toNatClampNeg s0 → Q 1 μ18
set_option maxHeartbeats 4000000 in
set_option maxRecDepth 100000 in
theorem tB_X10_hears_72 {x : GX} (f : Fx x cX10_hears RX10 4 (rmc 1 0 0)) {s0 : Int32} {s1 : Int32} {s2 : Option Nat} {μ : Me} {Q : Int32 → Me → Prop} (hq : Rt x (some .boolean) (qI Q)) (h : B_X10_hears_72 s0 s1 s2 μ Q) : G x 4 72 [] [.int s0, .int s1, vr (gB x) s2] μ 0 0 := by
  unfold B_X10_hears_72 at h
  obtain ⟨t14, e15, h16⟩ := h
  subst e15
  have h := h16
  obtain ⟨v17, h⟩ := h
  refine g_iast f v17 dX10_hears_72 h (fun h => ?_)
  refine g_iconst f 1 dX10_hears_73 kc_1 ?_
  exact g_zret f hq (Nat.le_of_ble_eq_true rfl) (Nat.le_of_ble_eq_true rfl) dX10_hears_74 zb_1.1 h
def S_X10_hears (o0 : Nat) (i1 : Int32) (i2 : Int32) (i3 : Int32) (μ : Me) (Q : Int32 → Me → Prop) : Prop := ((i1 < 0 → Q 0 μ) ∧ (¬ i1 < 0 → ((8 ≤ i1 → Q 0 μ) ∧ (¬ 8 ≤ i1 → ((i2 < 0 → Q 0 μ) ∧ (¬ i2 < 0 → ((i2 < 8 → mok μ o0 10 ∧ ∃ t2, mgr μ o0 7 = some t2 ∧ mok μ t2 2 ∧ S_X2_forget t2 μ (fun μ4 => ∃ t7, mgr μ4 o0 0 = some t7 ∧ mok μ4 t7 9 ∧ ∃ t9, mgr μ4 t7 5 = some t9 ∧ ((i3 = 0 → ∃ t10, mgr μ4 o0 0 = some t10 ∧ mok μ4 t10 9 ∧ ∃ t12, mgr μ4 t10 5 = some t12 ∧ mok μ4 t12 12 ∧ vp_in i1 (mln μ4 t12) ∧ B_X10_hears_72 ((mgi μ4 t12 i1.toNatClampNeg) &&& ((1 <<< (i2 &&& 31)) ^^^ (-1))) i1 (some t9) μ4 Q) ∧ (¬ i3 = 0 → ∃ t19, mgr μ4 o0 0 = some t19 ∧ mok μ4 t19 9 ∧ ∃ t21, mgr μ4 t19 5 = some t21 ∧ mok μ4 t21 12 ∧ vp_in i1 (mln μ4 t21) ∧ B_X10_hears_72 ((mgi μ4 t21 i1.toNatClampNeg) ||| (1 <<< (i2 &&& 31))) i1 (some t9) μ4 Q)))) ∧ (¬ i2 < 8 → Q 0 μ))))))))
set_option maxHeartbeats 4000000 in
set_option maxRecDepth 100000 in
theorem t_X10_hears {x : GX} (f : Fx x cX10_hears RX10 4 (rmc 1 0 0)) {o0 : Nat} {i1 : Int32} {i2 : Int32} {i3 : Int32} {μ : Me} {Q : Int32 → Me → Prop} (hq : Rt x (some .boolean) (qI Q)) (h : S_X10_hears o0 i1 i2 i3 μ Q) : G x 4 0 [(0, .ref (gB x + o0)), (1, .int i1), (2, .int i2), (3, .int i3)] [] μ 0 0 := by
  unfold S_X10_hears at h
  refine g_iload_n f 1 dX10_hears_0 rfl rfl ?_
  refine g_if_lt f 20 dX10_hears_1 rfl h (fun h => ?_) (fun h => ?_)
  · refine g_iconst f 0 dX10_hears_20 kc_0 ?_
    exact g_zret f hq (Nat.le_of_ble_eq_true rfl) (Nat.le_of_ble_eq_true rfl) dX10_hears_21 zb_0.1 h
  · refine g_iload_n f 1 dX10_hears_4 rfl rfl ?_
    refine g_bipush f 8 dX10_hears_5 kb_8 ?_
    refine g_ic_ge f 20 dX10_hears_7 rfl h (fun h => ?_) (fun h => ?_)
    · refine g_iconst f 0 dX10_hears_20 kc_0 ?_
      exact g_zret f hq (Nat.le_of_ble_eq_true rfl) (Nat.le_of_ble_eq_true rfl) dX10_hears_21 zb_0.1 h
    · refine g_iload_n f 2 dX10_hears_10 rfl rfl ?_
      refine g_if_lt f 20 dX10_hears_11 rfl h (fun h => ?_) (fun h => ?_)
      · refine g_iconst f 0 dX10_hears_20 kc_0 ?_
        exact g_zret f hq (Nat.le_of_ble_eq_true rfl) (Nat.le_of_ble_eq_true rfl) dX10_hears_21 zb_0.1 h
      · refine g_iload_n f 2 dX10_hears_14 rfl rfl ?_
        refine g_bipush f 8 dX10_hears_15 kb_8 ?_
        refine g_ic_lt f 22 dX10_hears_17 rfl h (fun h => ?_) (fun h => ?_)
        · refine g_aload_n f 0 dX10_hears_22 rfl rfl ?_
          obtain ⟨v1, h⟩ := h
          refine g_getR f fk_X10_61 v1 dX10_hears_23 rfl h (fun t2 h => ?_)
          obtain ⟨v3, h⟩ := h
          refine g_callV f mk_X10_74 v3 (c_X2_forget h) dX10_hears_26 rfl rfl (Nat.le_of_ble_eq_true rfl) (rm_ok (by decide) (by decide)) ⟨Nat.le_of_ble_eq_true rfl, Nat.le_of_ble_eq_true rfl⟩ (kV fun μ4 x5 h => ?_)
          refine g_aload_n f 0 dX10_hears_29 rfl rfl ?_
          have v1 := mex_ok x5 v1
          refine g_getR f fk_X10_12 v1 dX10_hears_30 rfl h (fun t7 h => ?_)
          obtain ⟨v8, h⟩ := h
          refine g_getR f fk_X10_81 v8 dX10_hears_33 rfl h (fun t9 h => ?_)
          refine g_iload_n f 1 dX10_hears_36 rfl rfl ?_
          refine g_iload_n f 3 dX10_hears_37 rfl rfl ?_
          refine g_if_eq f 57 dX10_hears_38 rfl h (fun h => ?_) (fun h => ?_)
          · refine g_aload_n f 0 dX10_hears_57 rfl rfl ?_
            refine g_getR f fk_X10_12 v1 dX10_hears_58 rfl h (fun t10 h => ?_)
            obtain ⟨v11, h⟩ := h
            refine g_getR f fk_X10_81 v11 dX10_hears_61 rfl h (fun t12 h => ?_)
            refine g_iload_n f 1 dX10_hears_64 rfl rfl ?_
            obtain ⟨v13, h⟩ := h
            refine g_iald f v13 dX10_hears_65 h (fun h => ?_)
            refine g_iconst f 1 dX10_hears_66 kc_1 ?_
            refine g_iload_n f 2 dX10_hears_67 rfl rfl ?_
            refine g_ishl f dX10_hears_68 ?_
            refine g_iconst f (-1) dX10_hears_69 kc_m1 ?_
            refine g_ixor f dX10_hears_70 ?_
            refine g_iand f dX10_hears_71 ?_
            exact h_sub [] rfl (tB_X10_hears_72 f hq h)
          · refine g_aload_n f 0 dX10_hears_41 rfl rfl ?_
            refine g_getR f fk_X10_12 v1 dX10_hears_42 rfl h (fun t19 h => ?_)
            obtain ⟨v20, h⟩ := h
            refine g_getR f fk_X10_81 v20 dX10_hears_45 rfl h (fun t21 h => ?_)
            refine g_iload_n f 1 dX10_hears_48 rfl rfl ?_
            obtain ⟨v22, h⟩ := h
            refine g_iald f v22 dX10_hears_49 h (fun h => ?_)
            refine g_iconst f 1 dX10_hears_50 kc_1 ?_
            refine g_iload_n f 2 dX10_hears_51 rfl rfl ?_
            refine g_ishl f dX10_hears_52 ?_
            refine g_ior f dX10_hears_53 ?_
            refine g_goto f 72 dX10_hears_54 rfl ?_
            exact h_sub [] rfl (tB_X10_hears_72 f hq h)
        · refine g_iconst f 0 dX10_hears_20 kc_0 ?_
          exact g_zret f hq (Nat.le_of_ble_eq_true rfl) (Nat.le_of_ble_eq_true rfl) dX10_hears_21 zb_0.1 h
theorem c_X10_hears {Ω : OM} {o0 : Nat} {i1 : Int32} {i2 : Int32} {i3 : Int32} {μ : Me} {Q : Int32 → Me → Prop} (h : S_X10_hears o0 i1 i2 i3 μ Q) : CT Ω yX10_hears cX10_hears 4 (some .boolean) (rmc 1 0 0) [.ref (oB Ω + o0), .int i1, .int i2, .int i3] μ (qI Q) := CT_of (by decide) rfl (by simp [lg_sl, Value.category]) (fun x hΩ f hq hi => by subst hΩ; exact t_X10_hears f hq h)
theorem dX10_feed_0 : decode cX10_feed 0 = .ok (.aload_n 0, 1) := by decide +kernel
theorem dX10_feed_1 : decode cX10_feed 1 = .ok (.getfield 22, 3) := by decide +kernel
theorem dX10_feed_4 : decode cX10_feed 4 = .ok (.invokevirtual 85, 3) := by decide +kernel
theorem dX10_feed_7 : decode cX10_feed 7 = .ok (.ifCond .ne 5, 3) := by decide +kernel
theorem dX10_feed_10 : decode cX10_feed 10 = .ok (.iconst (-1), 1) := by decide +kernel
theorem dX10_feed_11 : decode cX10_feed 11 = .ok (.ireturn, 1) := by decide +kernel
theorem dX10_feed_12 : decode cX10_feed 12 = .ok (.aload_n 0, 1) := by decide +kernel
theorem dX10_feed_13 : decode cX10_feed 13 = .ok (.getfield 22, 3) := by decide +kernel
theorem dX10_feed_16 : decode cX10_feed 16 = .ok (.iload_n 1, 1) := by decide +kernel
theorem dX10_feed_17 : decode cX10_feed 17 = .ok (.invokevirtual 89, 3) := by decide +kernel
theorem dX10_feed_20 : decode cX10_feed 20 = .ok (.aload_n 0, 1) := by decide +kernel
theorem dX10_feed_21 : decode cX10_feed 21 = .ok (.getfield 22, 3) := by decide +kernel
theorem dX10_feed_24 : decode cX10_feed 24 = .ok (.iload_n 2, 1) := by decide +kernel
theorem dX10_feed_25 : decode cX10_feed 25 = .ok (.invokevirtual 89, 3) := by decide +kernel
theorem dX10_feed_28 : decode cX10_feed 28 = .ok (.aload_n 0, 1) := by decide +kernel
theorem dX10_feed_29 : decode cX10_feed 29 = .ok (.getfield 22, 3) := by decide +kernel
theorem dX10_feed_32 : decode cX10_feed 32 = .ok (.iload_n 3, 1) := by decide +kernel
theorem dX10_feed_33 : decode cX10_feed 33 = .ok (.invokevirtual 89, 3) := by decide +kernel
theorem dX10_feed_36 : decode cX10_feed 36 = .ok (.aload_n 0, 1) := by decide +kernel
theorem dX10_feed_37 : decode cX10_feed 37 = .ok (.getfield 22, 3) := by decide +kernel
theorem dX10_feed_40 : decode cX10_feed 40 = .ok (.iload 4, 2) := by decide +kernel
theorem dX10_feed_42 : decode cX10_feed 42 = .ok (.invokevirtual 89, 3) := by decide +kernel
theorem dX10_feed_45 : decode cX10_feed 45 = .ok (.aload_n 0, 1) := by decide +kernel
theorem dX10_feed_46 : decode cX10_feed 46 = .ok (.getfield 22, 3) := by decide +kernel
theorem dX10_feed_49 : decode cX10_feed 49 = .ok (.iload 5, 2) := by decide +kernel
theorem dX10_feed_51 : decode cX10_feed 51 = .ok (.invokevirtual 89, 3) := by decide +kernel
theorem dX10_feed_54 : decode cX10_feed 54 = .ok (.aload_n 0, 1) := by decide +kernel
theorem dX10_feed_55 : decode cX10_feed 55 = .ok (.getfield 22, 3) := by decide +kernel
theorem dX10_feed_58 : decode cX10_feed 58 = .ok (.getfield 93, 3) := by decide +kernel
theorem dX10_feed_61 : decode cX10_feed 61 = .ok (.ireturn, 1) := by decide +kernel
def S_X10_feed (o0 : Nat) (i1 : Int32) (i2 : Int32) (i3 : Int32) (i4 : Int32) (i5 : Int32) (μ : Me) (Q : Int32 → Me → Prop) : Prop := mok μ o0 10 ∧ ∃ t2, mgr μ o0 2 = some t2 ∧ mok μ t2 6 ∧ S_X6_hasRoomForFive t2 μ (fun r6 μ4 => ((¬ r6 = 0 → ∃ t7, mgr μ4 o0 2 = some t7 ∧ mok μ4 t7 6 ∧ S_X6_append t7 i1 μ4 (fun μ9 => ∃ t12, mgr μ9 o0 2 = some t12 ∧ mok μ9 t12 6 ∧ S_X6_append t12 i2 μ9 (fun μ14 => ∃ t17, mgr μ14 o0 2 = some t17 ∧ mok μ14 t17 6 ∧ S_X6_append t17 i3 μ14 (fun μ19 => ∃ t22, mgr μ19 o0 2 = some t22 ∧ mok μ19 t22 6 ∧ S_X6_append t22 i4 μ19 (fun μ24 => ∃ t27, mgr μ24 o0 2 = some t27 ∧ mok μ24 t27 6 ∧ S_X6_append t27 i5 μ24 (fun μ29 => ∃ t32, mgr μ29 o0 2 = some t32 ∧ mok μ29 t32 6 ∧ Q (mgi μ29 t32 1) μ29)))))) ∧ (r6 = 0 → Q (-1) μ4)))
set_option maxHeartbeats 4000000 in
set_option maxRecDepth 100000 in
theorem t_X10_feed {x : GX} (f : Fx x cX10_feed RX10 6 (rmc 1 0 0)) {o0 : Nat} {i1 : Int32} {i2 : Int32} {i3 : Int32} {i4 : Int32} {i5 : Int32} {μ : Me} {Q : Int32 → Me → Prop} (hq : Rt x (some .int) (qI Q)) (h : S_X10_feed o0 i1 i2 i3 i4 i5 μ Q) : G x 6 0 [(0, .ref (gB x + o0)), (1, .int i1), (2, .int i2), (3, .int i3), (4, .int i4), (5, .int i5)] [] μ 0 0 := by
  unfold S_X10_feed at h
  refine g_aload_n f 0 dX10_feed_0 rfl rfl ?_
  obtain ⟨v1, h⟩ := h
  refine g_getR f fk_X10_22 v1 dX10_feed_1 rfl h (fun t2 h => ?_)
  obtain ⟨v3, h⟩ := h
  refine g_callV f mk_X10_85 v3 (c_X6_hasRoomForFive h) dX10_feed_4 rfl rfl (Nat.le_of_ble_eq_true rfl) (rm_ok (by decide) (by decide)) ⟨Nat.le_of_ble_eq_true rfl, Nat.le_of_ble_eq_true rfl⟩ (kI fun r6 μ4 x5 h => ?_)
  refine g_if_ne f 12 dX10_feed_7 rfl h (fun h => ?_) (fun h => ?_)
  · refine g_aload_n f 0 dX10_feed_12 rfl rfl ?_
    have v1 := mex_ok x5 v1
    refine g_getR f fk_X10_22 v1 dX10_feed_13 rfl h (fun t7 h => ?_)
    refine g_iload_n f 1 dX10_feed_16 rfl rfl ?_
    obtain ⟨v8, h⟩ := h
    refine g_callV f mk_X10_89 v8 (c_X6_append h) dX10_feed_17 rfl rfl (Nat.le_of_ble_eq_true rfl) (rm_ok (by decide) (by decide)) ⟨Nat.le_of_ble_eq_true rfl, Nat.le_of_ble_eq_true rfl⟩ (kV fun μ9 x10 h => ?_)
    refine g_aload_n f 0 dX10_feed_20 rfl rfl ?_
    have v1 := mex_ok x10 v1
    refine g_getR f fk_X10_22 v1 dX10_feed_21 rfl h (fun t12 h => ?_)
    refine g_iload_n f 2 dX10_feed_24 rfl rfl ?_
    obtain ⟨v13, h⟩ := h
    refine g_callV f mk_X10_89 v13 (c_X6_append h) dX10_feed_25 rfl rfl (Nat.le_of_ble_eq_true rfl) (rm_ok (by decide) (by decide)) ⟨Nat.le_of_ble_eq_true rfl, Nat.le_of_ble_eq_true rfl⟩ (kV fun μ14 x15 h => ?_)
    refine g_aload_n f 0 dX10_feed_28 rfl rfl ?_
    have v1 := mex_ok x15 v1
    refine g_getR f fk_X10_22 v1 dX10_feed_29 rfl h (fun t17 h => ?_)
    refine g_iload_n f 3 dX10_feed_32 rfl rfl ?_
    obtain ⟨v18, h⟩ := h
    refine g_callV f mk_X10_89 v18 (c_X6_append h) dX10_feed_33 rfl rfl (Nat.le_of_ble_eq_true rfl) (rm_ok (by decide) (by decide)) ⟨Nat.le_of_ble_eq_true rfl, Nat.le_of_ble_eq_true rfl⟩ (kV fun μ19 x20 h => ?_)
    refine g_aload_n f 0 dX10_feed_36 rfl rfl ?_
    have v1 := mex_ok x20 v1
    refine g_getR f fk_X10_22 v1 dX10_feed_37 rfl h (fun t22 h => ?_)
    refine g_iload f 4 dX10_feed_40 rfl ?_
    obtain ⟨v23, h⟩ := h
    refine g_callV f mk_X10_89 v23 (c_X6_append h) dX10_feed_42 rfl rfl (Nat.le_of_ble_eq_true rfl) (rm_ok (by decide) (by decide)) ⟨Nat.le_of_ble_eq_true rfl, Nat.le_of_ble_eq_true rfl⟩ (kV fun μ24 x25 h => ?_)
    refine g_aload_n f 0 dX10_feed_45 rfl rfl ?_
    have v1 := mex_ok x25 v1
    refine g_getR f fk_X10_22 v1 dX10_feed_46 rfl h (fun t27 h => ?_)
    refine g_iload f 5 dX10_feed_49 rfl ?_
    obtain ⟨v28, h⟩ := h
    refine g_callV f mk_X10_89 v28 (c_X6_append h) dX10_feed_51 rfl rfl (Nat.le_of_ble_eq_true rfl) (rm_ok (by decide) (by decide)) ⟨Nat.le_of_ble_eq_true rfl, Nat.le_of_ble_eq_true rfl⟩ (kV fun μ29 x30 h => ?_)
    refine g_aload_n f 0 dX10_feed_54 rfl rfl ?_
    have v1 := mex_ok x30 v1
    refine g_getR f fk_X10_22 v1 dX10_feed_55 rfl h (fun t32 h => ?_)
    obtain ⟨v33, h⟩ := h
    refine g_getI f fk_X10_93 v33 dX10_feed_58 rfl ?_
    exact g_iret f hq (Nat.le_of_ble_eq_true rfl) (Nat.le_of_ble_eq_true rfl) dX10_feed_61 h
  · refine g_iconst f (-1) dX10_feed_10 kc_m1 ?_
    exact g_iret f hq (Nat.le_of_ble_eq_true rfl) (Nat.le_of_ble_eq_true rfl) dX10_feed_11 h
theorem c_X10_feed {Ω : OM} {o0 : Nat} {i1 : Int32} {i2 : Int32} {i3 : Int32} {i4 : Int32} {i5 : Int32} {μ : Me} {Q : Int32 → Me → Prop} (h : S_X10_feed o0 i1 i2 i3 i4 i5 μ Q) : CT Ω yX10_feed cX10_feed 6 (some .int) (rmc 1 0 0) [.ref (oB Ω + o0), .int i1, .int i2, .int i3, .int i4, .int i5] μ (qI Q) := CT_of (by decide) rfl (by simp [lg_sl, Value.category]) (fun x hΩ f hq hi => by subst hΩ; exact t_X10_feed f hq h)
theorem dX10_end_0 : decode cX10_end 0 = .ok (.iload_n 1, 1) := by decide +kernel
theorem dX10_end_1 : decode cX10_end 1 = .ok (.ifCond .lt 14, 3) := by decide +kernel
theorem dX10_end_4 : decode cX10_end 4 = .ok (.iload_n 1, 1) := by decide +kernel
theorem dX10_end_5 : decode cX10_end 5 = .ok (.aload_n 0, 1) := by decide +kernel
theorem dX10_end_6 : decode cX10_end 6 = .ok (.getfield 22, 3) := by decide +kernel
theorem dX10_end_9 : decode cX10_end 9 = .ok (.getfield 93, 3) := by decide +kernel
theorem dX10_end_12 : decode cX10_end 12 = .ok (.if_icmp .le 5, 3) := by decide +kernel
theorem dX10_end_15 : decode cX10_end 15 = .ok (.iconst (-1), 1) := by decide +kernel
theorem dX10_end_16 : decode cX10_end 16 = .ok (.ireturn, 1) := by decide +kernel
theorem dX10_end_17 : decode cX10_end 17 = .ok (.aload_n 0, 1) := by decide +kernel
theorem dX10_end_18 : decode cX10_end 18 = .ok (.getfield 22, 3) := by decide +kernel
theorem dX10_end_21 : decode cX10_end 21 = .ok (.iload_n 1, 1) := by decide +kernel
theorem dX10_end_22 : decode cX10_end 22 = .ok (.putfield 93, 3) := by decide +kernel
theorem dX10_end_25 : decode cX10_end 25 = .ok (.iload_n 1, 1) := by decide +kernel
theorem dX10_end_26 : decode cX10_end 26 = .ok (.ireturn, 1) := by decide +kernel
def S_X10_end (o0 : Nat) (i1 : Int32) (μ : Me) (Q : Int32 → Me → Prop) : Prop := ((i1 < 0 → Q (-1) μ) ∧ (¬ i1 < 0 → mok μ o0 10 ∧ ∃ t2, mgr μ o0 2 = some t2 ∧ mok μ t2 6 ∧ ((i1 ≤ (mgi μ t2 1) → ∃ t4, mgr μ o0 2 = some t4 ∧ mok μ t4 6 ∧ ∀ μ6, μ6 = msi μ t4 1 i1 → Q i1 μ6) ∧ (¬ i1 ≤ (mgi μ t2 1) → Q (-1) μ))))
set_option maxHeartbeats 4000000 in
set_option maxRecDepth 100000 in
theorem t_X10_end {x : GX} (f : Fx x cX10_end RX10 2 (rmc 0 0 0)) {o0 : Nat} {i1 : Int32} {μ : Me} {Q : Int32 → Me → Prop} (hq : Rt x (some .int) (qI Q)) (h : S_X10_end o0 i1 μ Q) : G x 2 0 [(0, .ref (gB x + o0)), (1, .int i1)] [] μ 0 0 := by
  unfold S_X10_end at h
  refine g_iload_n f 1 dX10_end_0 rfl rfl ?_
  refine g_if_lt f 15 dX10_end_1 rfl h (fun h => ?_) (fun h => ?_)
  · refine g_iconst f (-1) dX10_end_15 kc_m1 ?_
    exact g_iret f hq (Nat.le_of_ble_eq_true rfl) (Nat.le_of_ble_eq_true rfl) dX10_end_16 h
  · refine g_iload_n f 1 dX10_end_4 rfl rfl ?_
    refine g_aload_n f 0 dX10_end_5 rfl rfl ?_
    obtain ⟨v1, h⟩ := h
    refine g_getR f fk_X10_22 v1 dX10_end_6 rfl h (fun t2 h => ?_)
    obtain ⟨v3, h⟩ := h
    refine g_getI f fk_X10_93 v3 dX10_end_9 rfl ?_
    refine g_ic_le f 17 dX10_end_12 rfl h (fun h => ?_) (fun h => ?_)
    · refine g_aload_n f 0 dX10_end_17 rfl rfl ?_
      refine g_getR f fk_X10_22 v1 dX10_end_18 rfl h (fun t4 h => ?_)
      refine g_iload_n f 1 dX10_end_21 rfl rfl ?_
      obtain ⟨v5, h⟩ := h
      refine g_putI f fk_X10_93 v5 dX10_end_22 rfl h (fun h => ?_)
      refine g_iload_n f 1 dX10_end_25 rfl rfl ?_
      exact g_iret f hq (Nat.le_of_ble_eq_true rfl) (Nat.le_of_ble_eq_true rfl) dX10_end_26 h
    · refine g_iconst f (-1) dX10_end_15 kc_m1 ?_
      exact g_iret f hq (Nat.le_of_ble_eq_true rfl) (Nat.le_of_ble_eq_true rfl) dX10_end_16 h
theorem c_X10_end {Ω : OM} {o0 : Nat} {i1 : Int32} {μ : Me} {Q : Int32 → Me → Prop} (h : S_X10_end o0 i1 μ Q) : CT Ω yX10_end cX10_end 2 (some .int) (rmc 0 0 0) [.ref (oB Ω + o0), .int i1] μ (qI Q) := CT_of (by decide) rfl (by simp [lg_sl, Value.category]) (fun x hΩ f hq hi => by subst hΩ; exact t_X10_end f hq h)
theorem dX10_text_0 : decode cX10_text 0 = .ok (.aload_n 0, 1) := by decide +kernel
theorem dX10_text_1 : decode cX10_text 1 = .ok (.getfield 12, 3) := by decide +kernel
theorem dX10_text_4 : decode cX10_text 4 = .ok (.getfield 97, 3) := by decide +kernel
theorem dX10_text_7 : decode cX10_text 7 = .ok (.istore_n 1, 1) := by decide +kernel
theorem dX10_text_8 : decode cX10_text 8 = .ok (.iload_n 1, 1) := by decide +kernel
theorem dX10_text_9 : decode cX10_text 9 = .ok (.ifCond .lt 17, 3) := by decide +kernel
theorem dX10_text_12 : decode cX10_text 12 = .ok (.iload_n 1, 1) := by decide +kernel
theorem dX10_text_13 : decode cX10_text 13 = .ok (.iconst 4, 1) := by decide +kernel
theorem dX10_text_14 : decode cX10_text 14 = .ok (.if_icmp .ge 12, 3) := by decide +kernel
theorem dX10_text_17 : decode cX10_text 17 = .ok (.aload_n 0, 1) := by decide +kernel
theorem dX10_text_18 : decode cX10_text 18 = .ok (.getfield 28, 3) := by decide +kernel
theorem dX10_text_21 : decode cX10_text 21 = .ok (.iload_n 1, 1) := by decide +kernel
theorem dX10_text_22 : decode cX10_text 22 = .ok (.aaload, 1) := by decide +kernel
theorem dX10_text_23 : decode cX10_text 23 = .ok (.goto 4, 3) := by decide +kernel
theorem dX10_text_26 : decode cX10_text 26 = .ok (.aconst_null, 1) := by decide +kernel
theorem dX10_text_27 : decode cX10_text 27 = .ok (.astore_n 2, 1) := by decide +kernel
theorem dX10_text_28 : decode cX10_text 28 = .ok (.aload_n 2, 1) := by decide +kernel
theorem dX10_text_29 : decode cX10_text 29 = .ok (.ifnonnull 5, 3) := by decide +kernel
theorem dX10_text_32 : decode cX10_text 32 = .ok (.iconst (-1), 1) := by decide +kernel
theorem dX10_text_33 : decode cX10_text 33 = .ok (.ireturn, 1) := by decide +kernel
theorem dX10_text_34 : decode cX10_text 34 = .ok (.aload_n 0, 1) := by decide +kernel
theorem dX10_text_35 : decode cX10_text 35 = .ok (.getfield 36, 3) := by decide +kernel
theorem dX10_text_38 : decode cX10_text 38 = .ok (.aload_n 2, 1) := by decide +kernel
theorem dX10_text_39 : decode cX10_text 39 = .ok (.aload_n 0, 1) := by decide +kernel
theorem dX10_text_40 : decode cX10_text 40 = .ok (.getfield 22, 3) := by decide +kernel
theorem dX10_text_43 : decode cX10_text 43 = .ok (.invokevirtual 100, 3) := by decide +kernel
theorem dX10_text_46 : decode cX10_text 46 = .ok (.aload_n 0, 1) := by decide +kernel
theorem dX10_text_47 : decode cX10_text 47 = .ok (.iconst 1, 1) := by decide +kernel
theorem dX10_text_48 : decode cX10_text 48 = .ok (.putfield 104, 3) := by decide +kernel
theorem dX10_text_51 : decode cX10_text 51 = .ok (.aload_n 0, 1) := by decide +kernel
theorem dX10_text_52 : decode cX10_text 52 = .ok (.aload_n 0, 1) := by decide +kernel
theorem dX10_text_53 : decode cX10_text 53 = .ok (.getfield 36, 3) := by decide +kernel
theorem dX10_text_56 : decode cX10_text 56 = .ok (.getfield 108, 3) := by decide +kernel
theorem dX10_text_59 : decode cX10_text 59 = .ok (.putfield 111, 3) := by decide +kernel
theorem dX10_text_62 : decode cX10_text 62 = .ok (.aload_n 0, 1) := by decide +kernel
theorem dX10_text_63 : decode cX10_text 63 = .ok (.aload_n 0, 1) := by decide +kernel
theorem dX10_text_64 : decode cX10_text 64 = .ok (.getfield 36, 3) := by decide +kernel
theorem dX10_text_67 : decode cX10_text 67 = .ok (.getfield 114, 3) := by decide +kernel
theorem dX10_text_70 : decode cX10_text 70 = .ok (.putfield 117, 3) := by decide +kernel
theorem dX10_text_73 : decode cX10_text 73 = .ok (.aload_n 0, 1) := by decide +kernel
theorem dX10_text_74 : decode cX10_text 74 = .ok (.getfield 22, 3) := by decide +kernel
theorem dX10_text_77 : decode cX10_text 77 = .ok (.iconst 0, 1) := by decide +kernel
theorem dX10_text_78 : decode cX10_text 78 = .ok (.putfield 93, 3) := by decide +kernel
theorem dX10_text_81 : decode cX10_text 81 = .ok (.aload_n 0, 1) := by decide +kernel
theorem dX10_text_82 : decode cX10_text 82 = .ok (.getfield 111, 3) := by decide +kernel
theorem dX10_text_85 : decode cX10_text 85 = .ok (.ifCond .eq 5, 3) := by decide +kernel
theorem dX10_text_88 : decode cX10_text 88 = .ok (.iconst (-1), 1) := by decide +kernel
theorem dX10_text_89 : decode cX10_text 89 = .ok (.ireturn, 1) := by decide +kernel
theorem dX10_text_90 : decode cX10_text 90 = .ok (.aload_n 0, 1) := by decide +kernel
theorem dX10_text_91 : decode cX10_text 91 = .ok (.getfield 12, 3) := by decide +kernel
theorem dX10_text_94 : decode cX10_text 94 = .ok (.iload_n 1, 1) := by decide +kernel
theorem dX10_text_95 : decode cX10_text 95 = .ok (.iconst 1, 1) := by decide +kernel
theorem dX10_text_96 : decode cX10_text 96 = .ok (.iadd, 1) := by decide +kernel
theorem dX10_text_97 : decode cX10_text 97 = .ok (.putfield 97, 3) := by decide +kernel
theorem dX10_text_100 : decode cX10_text 100 = .ok (.iload_n 1, 1) := by decide +kernel
theorem dX10_text_101 : decode cX10_text 101 = .ok (.ireturn, 1) := by decide +kernel
def B_X10_text_27 (o0 : Nat) (i1 : Int32) (s0 : Option Nat) (μ : Me) (Q : Int32 → Me → Prop) : Prop := ((s0 = none → Q (-1) μ) ∧ (∀ t4, s0 = some t4 → mok μ o0 10 ∧ ∃ t6, mgr μ o0 4 = some t6 ∧ ∃ t7, mgr μ o0 2 = some t7 ∧ mok μ t6 5 ∧ S_X5_readInto t6 t4 t7 μ (fun μ9 => ∀ μ12, μ12 = msi μ9 o0 9 1 → ∃ t13, mgr μ12 o0 4 = some t13 ∧ mok μ12 t13 5 ∧ ∀ μ15, μ15 = msi μ12 o0 10 (mgi μ12 t13 6) → ∃ t16, mgr μ15 o0 4 = some t16 ∧ mok μ15 t16 5 ∧ ∀ μ18, μ18 = msi μ15 o0 11 (mgi μ15 t16 7) → ∃ t19, mgr μ18 o0 2 = some t19 ∧ mok μ18 t19 6 ∧ ∀ μ21, μ21 = msi μ18 t19 1 0 → (((mgi μ21 o0 10) = 0 → ∃ t22, mgr μ21 o0 0 = some t22 ∧ mok μ21 t22 9 ∧ ∀ μ24, μ24 = msi μ21 t22 6 (i1 + 1) → Q i1 μ24) ∧ (¬ (mgi μ21 o0 10) = 0 → Q (-1) μ21)))))
set_option maxHeartbeats 4000000 in
set_option maxRecDepth 100000 in
theorem tB_X10_text_27 {x : GX} (f : Fx x cX10_text RX10 3 (rmc 143 0 0)) {o0 : Nat} {i1 : Int32} {s0 : Option Nat} {μ : Me} {Q : Int32 → Me → Prop} (hq : Rt x (some .int) (qI Q)) (h : B_X10_text_27 o0 i1 s0 μ Q) : G x 3 27 [(0, .ref (gB x + o0)), (1, .int i1)] [vr (gB x) s0] μ 0 0 := by
  unfold B_X10_text_27 at h
  refine h_astore_n f dX10_text_27 rfl (by decide) ?_
  refine g_aload_nQ f 0 dX10_text_28 rfl rfl ?_
  cases s0 with
  | none =>
    have h := h.1 rfl
    refine g_ifnonnullN f dX10_text_29 ?_
    refine g_iconst f (-1) dX10_text_32 kc_m1 ?_
    exact g_iret f hq (Nat.le_of_ble_eq_true rfl) (Nat.le_of_ble_eq_true rfl) dX10_text_33 h
  | some t4 =>
    have h := h.2 t4 rfl
    refine g_ifnonnullS f 34 dX10_text_29 rfl ?_
    refine g_aload_n f 1 dX10_text_34 rfl rfl ?_
    obtain ⟨v5, h⟩ := h
    refine g_getR f fk_X10_36 v5 dX10_text_35 rfl h (fun t6 h => ?_)
    refine g_aload_nQ f 0 dX10_text_38 rfl rfl ?_
    refine g_aload_n f 1 dX10_text_39 rfl rfl ?_
    refine g_getR f fk_X10_22 v5 dX10_text_40 rfl h (fun t7 h => ?_)
    obtain ⟨v8, h⟩ := h
    refine g_callV f mk_X10_100 v8 (c_X5_readInto h) dX10_text_43 rfl rfl (Nat.le_of_ble_eq_true rfl) (rm_ok (by decide) (by decide)) ⟨Nat.le_of_ble_eq_true rfl, Nat.le_of_ble_eq_true rfl⟩ (kV fun μ9 x10 h => ?_)
    refine g_aload_n f 1 dX10_text_46 rfl rfl ?_
    refine g_iconst f 1 dX10_text_47 kc_1 ?_
    have v5 := mex_ok x10 v5
    refine g_putZ f fk_X10_104 v5 dX10_text_48 rfl zb_1.1 zb_1.2 h (fun h => ?_)
    refine g_aload_n f 1 dX10_text_51 rfl rfl ?_
    refine g_aload_n f 1 dX10_text_52 rfl rfl ?_
    refine g_getR f fk_X10_36 v5 dX10_text_53 rfl h (fun t13 h => ?_)
    obtain ⟨v14, h⟩ := h
    refine g_getI f fk_X10_108 v14 dX10_text_56 rfl ?_
    refine g_putI f fk_X10_111 v5 dX10_text_59 rfl h (fun h => ?_)
    refine g_aload_n f 1 dX10_text_62 rfl rfl ?_
    refine g_aload_n f 1 dX10_text_63 rfl rfl ?_
    refine g_getR f fk_X10_36 v5 dX10_text_64 rfl h (fun t16 h => ?_)
    obtain ⟨v17, h⟩ := h
    refine g_getI f fk_X10_114 v17 dX10_text_67 rfl ?_
    refine g_putI f fk_X10_117 v5 dX10_text_70 rfl h (fun h => ?_)
    refine g_aload_n f 1 dX10_text_73 rfl rfl ?_
    refine g_getR f fk_X10_22 v5 dX10_text_74 rfl h (fun t19 h => ?_)
    refine g_iconst f 0 dX10_text_77 kc_0 ?_
    obtain ⟨v20, h⟩ := h
    refine g_putI f fk_X10_93 v20 dX10_text_78 rfl h (fun h => ?_)
    refine g_aload_n f 1 dX10_text_81 rfl rfl ?_
    refine g_getI f fk_X10_111 v5 dX10_text_82 rfl ?_
    refine g_if_eq f 90 dX10_text_85 rfl h (fun h => ?_) (fun h => ?_)
    · refine g_aload_n f 1 dX10_text_90 rfl rfl ?_
      refine g_getR f fk_X10_12 v5 dX10_text_91 rfl h (fun t22 h => ?_)
      refine g_iload_n f 2 dX10_text_94 rfl rfl ?_
      refine g_iconst f 1 dX10_text_95 kc_1 ?_
      refine g_iadd f dX10_text_96 ?_
      obtain ⟨v23, h⟩ := h
      refine g_putI f fk_X10_97 v23 dX10_text_97 rfl h (fun h => ?_)
      refine g_iload_n f 2 dX10_text_100 rfl rfl ?_
      exact g_iret f hq (Nat.le_of_ble_eq_true rfl) (Nat.le_of_ble_eq_true rfl) dX10_text_101 h
    · refine g_iconst f (-1) dX10_text_88 kc_m1 ?_
      exact g_iret f hq (Nat.le_of_ble_eq_true rfl) (Nat.le_of_ble_eq_true rfl) dX10_text_89 h
def S_X10_text (o0 : Nat) (μ : Me) (Q : Int32 → Me → Prop) : Prop := mok μ o0 10 ∧ ∃ t2, mgr μ o0 0 = some t2 ∧ mok μ t2 9 ∧ (((mgi μ t2 6) < 0 → B_X10_text_27 o0 (mgi μ t2 6) none μ Q) ∧ (¬ (mgi μ t2 6) < 0 → ((4 ≤ (mgi μ t2 6) → B_X10_text_27 o0 (mgi μ t2 6) none μ Q) ∧ (¬ 4 ≤ (mgi μ t2 6) → ∃ t25, mgr μ o0 3 = some t25 ∧ mok μ t25 16 ∧ vp_in (mgi μ t2 6) (mln μ t25) ∧ ∀ r27, r27 = mgr μ t25 (mgi μ t2 6).toNatClampNeg → B_X10_text_27 o0 (mgi μ t2 6) r27 μ Q))))
set_option maxHeartbeats 4000000 in
set_option maxRecDepth 100000 in
theorem t_X10_text {x : GX} (f : Fx x cX10_text RX10 3 (rmc 143 0 0)) {o0 : Nat} {μ : Me} {Q : Int32 → Me → Prop} (hq : Rt x (some .int) (qI Q)) (h : S_X10_text o0 μ Q) : G x 3 0 [(0, .ref (gB x + o0))] [] μ 0 0 := by
  unfold S_X10_text at h
  refine g_aload_n f 0 dX10_text_0 rfl rfl ?_
  obtain ⟨v1, h⟩ := h
  refine g_getR f fk_X10_12 v1 dX10_text_1 rfl h (fun t2 h => ?_)
  obtain ⟨v3, h⟩ := h
  refine g_getI f fk_X10_97 v3 dX10_text_4 rfl ?_
  refine h_istore_n f dX10_text_7 rfl (by decide) ?_
  refine g_iload_n f 0 dX10_text_8 rfl rfl ?_
  refine g_if_lt f 26 dX10_text_9 rfl h (fun h => ?_) (fun h => ?_)
  · refine g_null f dX10_text_26 ?_
    exact h_sub [1, 0] rfl (tB_X10_text_27 f hq h)
  · refine g_iload_n f 0 dX10_text_12 rfl rfl ?_
    refine g_iconst f 4 dX10_text_13 kc_4 ?_
    refine g_ic_ge f 26 dX10_text_14 rfl h (fun h => ?_) (fun h => ?_)
    · refine g_null f dX10_text_26 ?_
      exact h_sub [1, 0] rfl (tB_X10_text_27 f hq h)
    · refine g_aload_n f 1 dX10_text_17 rfl rfl ?_
      refine g_getR f fk_X10_28 v1 dX10_text_18 rfl h (fun t25 h => ?_)
      refine g_iload_n f 0 dX10_text_21 rfl rfl ?_
      obtain ⟨v26, h⟩ := h
      refine g_aald f v26 (Or.inr rfl) dX10_text_22 h (fun r27 h => ?_)
      refine g_goto f 27 dX10_text_23 rfl ?_
      exact h_sub [1, 0] rfl (tB_X10_text_27 f hq h)
theorem c_X10_text {Ω : OM} {o0 : Nat} {μ : Me} {Q : Int32 → Me → Prop} (h : S_X10_text o0 μ Q) : CT Ω yX10_text cX10_text 3 (some .int) (rmc 143 0 0) [.ref (oB Ω + o0)] μ (qI Q) := CT_of (by decide) rfl (by simp [lg_sl, Value.category]) (fun x hΩ f hq hi => by subst hΩ; exact t_X10_text f hq h)
theorem dX10_fault_0 : decode cX10_fault 0 = .ok (.aload_n 0, 1) := by decide +kernel
theorem dX10_fault_1 : decode cX10_fault 1 = .ok (.getfield 104, 3) := by decide +kernel
theorem dX10_fault_4 : decode cX10_fault 4 = .ok (.ifCond .ne 5, 3) := by decide +kernel
theorem dX10_fault_7 : decode cX10_fault 7 = .ok (.iconst (-1), 1) := by decide +kernel
theorem dX10_fault_8 : decode cX10_fault 8 = .ok (.ireturn, 1) := by decide +kernel
theorem dX10_fault_9 : decode cX10_fault 9 = .ok (.iload_n 1, 1) := by decide +kernel
theorem dX10_fault_10 : decode cX10_fault 10 = .ok (.ifCond .ne 8, 3) := by decide +kernel
theorem dX10_fault_13 : decode cX10_fault 13 = .ok (.aload_n 0, 1) := by decide +kernel
theorem dX10_fault_14 : decode cX10_fault 14 = .ok (.getfield 111, 3) := by decide +kernel
theorem dX10_fault_17 : decode cX10_fault 17 = .ok (.ireturn, 1) := by decide +kernel
theorem dX10_fault_18 : decode cX10_fault 18 = .ok (.iload_n 1, 1) := by decide +kernel
theorem dX10_fault_19 : decode cX10_fault 19 = .ok (.iconst 1, 1) := by decide +kernel
theorem dX10_fault_20 : decode cX10_fault 20 = .ok (.if_icmp .ne 10, 3) := by decide +kernel
theorem dX10_fault_23 : decode cX10_fault 23 = .ok (.aload_n 0, 1) := by decide +kernel
theorem dX10_fault_24 : decode cX10_fault 24 = .ok (.getfield 117, 3) := by decide +kernel
theorem dX10_fault_27 : decode cX10_fault 27 = .ok (.goto 4, 3) := by decide +kernel
theorem dX10_fault_30 : decode cX10_fault 30 = .ok (.iconst (-1), 1) := by decide +kernel
theorem dX10_fault_31 : decode cX10_fault 31 = .ok (.ireturn, 1) := by decide +kernel
def S_X10_fault (o0 : Nat) (i1 : Int32) (μ : Me) (Q : Int32 → Me → Prop) : Prop := mok μ o0 10 ∧ ((¬ (mgi μ o0 9) = 0 → ((¬ i1 = 0 → ((¬ i1 = 1 → Q (-1) μ) ∧ (i1 = 1 → Q (mgi μ o0 11) μ))) ∧ (i1 = 0 → Q (mgi μ o0 10) μ))) ∧ ((mgi μ o0 9) = 0 → Q (-1) μ))
set_option maxHeartbeats 4000000 in
set_option maxRecDepth 100000 in
theorem t_X10_fault {x : GX} (f : Fx x cX10_fault RX10 2 (rmc 0 0 0)) {o0 : Nat} {i1 : Int32} {μ : Me} {Q : Int32 → Me → Prop} (hq : Rt x (some .int) (qI Q)) (h : S_X10_fault o0 i1 μ Q) : G x 2 0 [(0, .ref (gB x + o0)), (1, .int i1)] [] μ 0 0 := by
  unfold S_X10_fault at h
  refine g_aload_n f 0 dX10_fault_0 rfl rfl ?_
  obtain ⟨v1, h⟩ := h
  refine g_getI f fk_X10_104 v1 dX10_fault_1 rfl ?_
  refine g_if_ne f 9 dX10_fault_4 rfl h (fun h => ?_) (fun h => ?_)
  · refine g_iload_n f 1 dX10_fault_9 rfl rfl ?_
    refine g_if_ne f 18 dX10_fault_10 rfl h (fun h => ?_) (fun h => ?_)
    · refine g_iload_n f 1 dX10_fault_18 rfl rfl ?_
      refine g_iconst f 1 dX10_fault_19 kc_1 ?_
      refine g_ic_ne f 30 dX10_fault_20 rfl h (fun h => ?_) (fun h => ?_)
      · refine g_iconst f (-1) dX10_fault_30 kc_m1 ?_
        exact g_iret f hq (Nat.le_of_ble_eq_true rfl) (Nat.le_of_ble_eq_true rfl) dX10_fault_31 h
      · refine g_aload_n f 0 dX10_fault_23 rfl rfl ?_
        refine g_getI f fk_X10_117 v1 dX10_fault_24 rfl ?_
        refine g_goto f 31 dX10_fault_27 rfl ?_
        exact g_iret f hq (Nat.le_of_ble_eq_true rfl) (Nat.le_of_ble_eq_true rfl) dX10_fault_31 h
    · refine g_aload_n f 0 dX10_fault_13 rfl rfl ?_
      refine g_getI f fk_X10_111 v1 dX10_fault_14 rfl ?_
      exact g_iret f hq (Nat.le_of_ble_eq_true rfl) (Nat.le_of_ble_eq_true rfl) dX10_fault_17 h
  · refine g_iconst f (-1) dX10_fault_7 kc_m1 ?_
    exact g_iret f hq (Nat.le_of_ble_eq_true rfl) (Nat.le_of_ble_eq_true rfl) dX10_fault_8 h
theorem c_X10_fault {Ω : OM} {o0 : Nat} {i1 : Int32} {μ : Me} {Q : Int32 → Me → Prop} (h : S_X10_fault o0 i1 μ Q) : CT Ω yX10_fault cX10_fault 2 (some .int) (rmc 0 0 0) [.ref (oB Ω + o0), .int i1] μ (qI Q) := CT_of (by decide) rfl (by simp [lg_sl, Value.category]) (fun x hΩ f hq hi => by subst hΩ; exact t_X10_fault f hq h)
theorem dX10_by_0 : decode cX10_by 0 = .ok (.iload_n 1, 1) := by decide +kernel
theorem dX10_by_1 : decode cX10_by 1 = .ok (.iconst (-1), 1) := by decide +kernel
theorem dX10_by_2 : decode cX10_by 2 = .ok (.if_icmp .lt 14, 3) := by decide +kernel
theorem dX10_by_5 : decode cX10_by 5 = .ok (.iload_n 1, 1) := by decide +kernel
theorem dX10_by_6 : decode cX10_by 6 = .ok (.aload_n 0, 1) := by decide +kernel
theorem dX10_by_7 : decode cX10_by 7 = .ok (.getfield 12, 3) := by decide +kernel
theorem dX10_by_10 : decode cX10_by 10 = .ok (.getfield 97, 3) := by decide +kernel
theorem dX10_by_13 : decode cX10_by 13 = .ok (.if_icmp .lt 5, 3) := by decide +kernel
theorem dX10_by_16 : decode cX10_by 16 = .ok (.iconst 0, 1) := by decide +kernel
theorem dX10_by_17 : decode cX10_by 17 = .ok (.ireturn, 1) := by decide +kernel
theorem dX10_by_18 : decode cX10_by 18 = .ok (.aload_n 0, 1) := by decide +kernel
theorem dX10_by_19 : decode cX10_by 19 = .ok (.getfield 61, 3) := by decide +kernel
theorem dX10_by_22 : decode cX10_by 22 = .ok (.invokevirtual 74, 3) := by decide +kernel
theorem dX10_by_25 : decode cX10_by 25 = .ok (.aload_n 0, 1) := by decide +kernel
theorem dX10_by_26 : decode cX10_by 26 = .ok (.getfield 12, 3) := by decide +kernel
theorem dX10_by_29 : decode cX10_by 29 = .ok (.iload_n 1, 1) := by decide +kernel
theorem dX10_by_30 : decode cX10_by 30 = .ok (.putfield 120, 3) := by decide +kernel
theorem dX10_by_33 : decode cX10_by 33 = .ok (.iconst 1, 1) := by decide +kernel
theorem dX10_by_34 : decode cX10_by 34 = .ok (.ireturn, 1) := by decide +kernel
def S_X10_by (o0 : Nat) (i1 : Int32) (μ : Me) (Q : Int32 → Me → Prop) : Prop := ((i1 < (-1) → Q 0 μ) ∧ (¬ i1 < (-1) → mok μ o0 10 ∧ ∃ t2, mgr μ o0 0 = some t2 ∧ mok μ t2 9 ∧ ((i1 < (mgi μ t2 6) → ∃ t4, mgr μ o0 7 = some t4 ∧ mok μ t4 2 ∧ S_X2_forget t4 μ (fun μ6 => ∃ t9, mgr μ6 o0 0 = some t9 ∧ mok μ6 t9 9 ∧ ∀ μ11, μ11 = msi μ6 t9 7 i1 → Q 1 μ11)) ∧ (¬ i1 < (mgi μ t2 6) → Q 0 μ))))
set_option maxHeartbeats 4000000 in
set_option maxRecDepth 100000 in
theorem t_X10_by {x : GX} (f : Fx x cX10_by RX10 2 (rmc 1 0 0)) {o0 : Nat} {i1 : Int32} {μ : Me} {Q : Int32 → Me → Prop} (hq : Rt x (some .boolean) (qI Q)) (h : S_X10_by o0 i1 μ Q) : G x 2 0 [(0, .ref (gB x + o0)), (1, .int i1)] [] μ 0 0 := by
  unfold S_X10_by at h
  refine g_iload_n f 1 dX10_by_0 rfl rfl ?_
  refine g_iconst f (-1) dX10_by_1 kc_m1 ?_
  refine g_ic_lt f 16 dX10_by_2 rfl h (fun h => ?_) (fun h => ?_)
  · refine g_iconst f 0 dX10_by_16 kc_0 ?_
    exact g_zret f hq (Nat.le_of_ble_eq_true rfl) (Nat.le_of_ble_eq_true rfl) dX10_by_17 zb_0.1 h
  · refine g_iload_n f 1 dX10_by_5 rfl rfl ?_
    refine g_aload_n f 0 dX10_by_6 rfl rfl ?_
    obtain ⟨v1, h⟩ := h
    refine g_getR f fk_X10_12 v1 dX10_by_7 rfl h (fun t2 h => ?_)
    obtain ⟨v3, h⟩ := h
    refine g_getI f fk_X10_97 v3 dX10_by_10 rfl ?_
    refine g_ic_lt f 18 dX10_by_13 rfl h (fun h => ?_) (fun h => ?_)
    · refine g_aload_n f 0 dX10_by_18 rfl rfl ?_
      refine g_getR f fk_X10_61 v1 dX10_by_19 rfl h (fun t4 h => ?_)
      obtain ⟨v5, h⟩ := h
      refine g_callV f mk_X10_74 v5 (c_X2_forget h) dX10_by_22 rfl rfl (Nat.le_of_ble_eq_true rfl) (rm_ok (by decide) (by decide)) ⟨Nat.le_of_ble_eq_true rfl, Nat.le_of_ble_eq_true rfl⟩ (kV fun μ6 x7 h => ?_)
      refine g_aload_n f 0 dX10_by_25 rfl rfl ?_
      have v1 := mex_ok x7 v1
      refine g_getR f fk_X10_12 v1 dX10_by_26 rfl h (fun t9 h => ?_)
      refine g_iload_n f 1 dX10_by_29 rfl rfl ?_
      obtain ⟨v10, h⟩ := h
      refine g_putI f fk_X10_120 v10 dX10_by_30 rfl h (fun h => ?_)
      refine g_iconst f 1 dX10_by_33 kc_1 ?_
      exact g_zret f hq (Nat.le_of_ble_eq_true rfl) (Nat.le_of_ble_eq_true rfl) dX10_by_34 zb_1.1 h
    · refine g_iconst f 0 dX10_by_16 kc_0 ?_
      exact g_zret f hq (Nat.le_of_ble_eq_true rfl) (Nat.le_of_ble_eq_true rfl) dX10_by_17 zb_0.1 h
theorem c_X10_by {Ω : OM} {o0 : Nat} {i1 : Int32} {μ : Me} {Q : Int32 → Me → Prop} (h : S_X10_by o0 i1 μ Q) : CT Ω yX10_by cX10_by 2 (some .boolean) (rmc 1 0 0) [.ref (oB Ω + o0), .int i1] μ (qI Q) := CT_of (by decide) rfl (by simp [lg_sl, Value.category]) (fun x hΩ f hq hi => by subst hΩ; exact t_X10_by f hq h)
theorem dX10_ring_0 : decode cX10_ring 0 = .ok (.aload_n 0, 1) := by decide +kernel
theorem dX10_ring_1 : decode cX10_ring 1 = .ok (.getfield 54, 3) := by decide +kernel
theorem dX10_ring_4 : decode cX10_ring 4 = .ok (.iload_n 1, 1) := by decide +kernel
theorem dX10_ring_5 : decode cX10_ring 5 = .ok (.invokevirtual 123, 3) := by decide +kernel
theorem dX10_ring_8 : decode cX10_ring 8 = .ok (.ireturn, 1) := by decide +kernel
def S_X10_ring (o0 : Nat) (i1 : Int32) (μ : Me) (Q : Int32 → Me → Prop) : Prop := mok μ o0 10 ∧ ∃ t2, mgr μ o0 6 = some t2 ∧ mok μ t2 1 ∧ S_X1_ringFor t2 i1 μ (fun r6 μ4 => zb r6 ∧ Q r6 μ4)
set_option maxHeartbeats 4000000 in
set_option maxRecDepth 100000 in
theorem t_X10_ring {x : GX} (f : Fx x cX10_ring RX10 2 (rmc 3 0 0)) {o0 : Nat} {i1 : Int32} {μ : Me} {Q : Int32 → Me → Prop} (hq : Rt x (some .boolean) (qI Q)) (h : S_X10_ring o0 i1 μ Q) : G x 2 0 [(0, .ref (gB x + o0)), (1, .int i1)] [] μ 0 0 := by
  unfold S_X10_ring at h
  refine g_aload_n f 0 dX10_ring_0 rfl rfl ?_
  obtain ⟨v1, h⟩ := h
  refine g_getR f fk_X10_54 v1 dX10_ring_1 rfl h (fun t2 h => ?_)
  refine g_iload_n f 1 dX10_ring_4 rfl rfl ?_
  obtain ⟨v3, h⟩ := h
  refine g_callV f mk_X10_123 v3 (c_X1_ringFor h) dX10_ring_5 rfl rfl (Nat.le_of_ble_eq_true rfl) (rm_ok (by decide) (by decide)) ⟨Nat.le_of_ble_eq_true rfl, Nat.le_of_ble_eq_true rfl⟩ (kI fun r6 μ4 x5 h => ?_)
  exact g_zret f hq (Nat.le_of_ble_eq_true rfl) (Nat.le_of_ble_eq_true rfl) dX10_ring_8 h.1.1 h.2
theorem c_X10_ring {Ω : OM} {o0 : Nat} {i1 : Int32} {μ : Me} {Q : Int32 → Me → Prop} (h : S_X10_ring o0 i1 μ Q) : CT Ω yX10_ring cX10_ring 2 (some .boolean) (rmc 3 0 0) [.ref (oB Ω + o0), .int i1] μ (qI Q) := CT_of (by decide) rfl (by simp [lg_sl, Value.category]) (fun x hΩ f hq hi => by subst hΩ; exact t_X10_ring f hq h)
theorem dX10_due_0 : decode cX10_due 0 = .ok (.aload_n 0, 1) := by decide +kernel
theorem dX10_due_1 : decode cX10_due 1 = .ok (.getfield 61, 3) := by decide +kernel
theorem dX10_due_4 : decode cX10_due 4 = .ok (.invokevirtual 74, 3) := by decide +kernel
theorem dX10_due_7 : decode cX10_due 7 = .ok (.aload_n 0, 1) := by decide +kernel
theorem dX10_due_8 : decode cX10_due 8 = .ok (.getfield 54, 3) := by decide +kernel
theorem dX10_due_11 : decode cX10_due 11 = .ok (.iload_n 1, 1) := by decide +kernel
theorem dX10_due_12 : decode cX10_due 12 = .ok (.iload_n 2, 1) := by decide +kernel
theorem dX10_due_13 : decode cX10_due 13 = .ok (.invokevirtual 127, 3) := by decide +kernel
theorem dX10_due_16 : decode cX10_due 16 = .ok (.ireturn, 1) := by decide +kernel
def S_X10_due (o0 : Nat) (i1 : Int32) (i2 : Int32) (μ : Me) (Q : Int32 → Me → Prop) : Prop := mok μ o0 10 ∧ ∃ t2, mgr μ o0 7 = some t2 ∧ mok μ t2 2 ∧ S_X2_forget t2 μ (fun μ4 => ∃ t7, mgr μ4 o0 6 = some t7 ∧ mok μ4 t7 1 ∧ S_X1_putOff t7 i1 i2 μ4 (fun r11 μ9 => zb r11 ∧ Q r11 μ9))
set_option maxHeartbeats 4000000 in
set_option maxRecDepth 100000 in
theorem t_X10_due {x : GX} (f : Fx x cX10_due RX10 3 (rmc 3 0 0)) {o0 : Nat} {i1 : Int32} {i2 : Int32} {μ : Me} {Q : Int32 → Me → Prop} (hq : Rt x (some .boolean) (qI Q)) (h : S_X10_due o0 i1 i2 μ Q) : G x 3 0 [(0, .ref (gB x + o0)), (1, .int i1), (2, .int i2)] [] μ 0 0 := by
  unfold S_X10_due at h
  refine g_aload_n f 0 dX10_due_0 rfl rfl ?_
  obtain ⟨v1, h⟩ := h
  refine g_getR f fk_X10_61 v1 dX10_due_1 rfl h (fun t2 h => ?_)
  obtain ⟨v3, h⟩ := h
  refine g_callV f mk_X10_74 v3 (c_X2_forget h) dX10_due_4 rfl rfl (Nat.le_of_ble_eq_true rfl) (rm_ok (by decide) (by decide)) ⟨Nat.le_of_ble_eq_true rfl, Nat.le_of_ble_eq_true rfl⟩ (kV fun μ4 x5 h => ?_)
  refine g_aload_n f 0 dX10_due_7 rfl rfl ?_
  have v1 := mex_ok x5 v1
  refine g_getR f fk_X10_54 v1 dX10_due_8 rfl h (fun t7 h => ?_)
  refine g_iload_n f 1 dX10_due_11 rfl rfl ?_
  refine g_iload_n f 2 dX10_due_12 rfl rfl ?_
  obtain ⟨v8, h⟩ := h
  refine g_callV f mk_X10_127 v8 (c_X1_putOff h) dX10_due_13 rfl rfl (Nat.le_of_ble_eq_true rfl) (rm_ok (by decide) (by decide)) ⟨Nat.le_of_ble_eq_true rfl, Nat.le_of_ble_eq_true rfl⟩ (kI fun r11 μ9 x10 h => ?_)
  exact g_zret f hq (Nat.le_of_ble_eq_true rfl) (Nat.le_of_ble_eq_true rfl) dX10_due_16 h.1.1 h.2
theorem c_X10_due {Ω : OM} {o0 : Nat} {i1 : Int32} {i2 : Int32} {μ : Me} {Q : Int32 → Me → Prop} (h : S_X10_due o0 i1 i2 μ Q) : CT Ω yX10_due cX10_due 3 (some .boolean) (rmc 3 0 0) [.ref (oB Ω + o0), .int i1, .int i2] μ (qI Q) := CT_of (by decide) rfl (by simp [lg_sl, Value.category]) (fun x hΩ f hq hi => by subst hΩ; exact t_X10_due f hq h)
theorem dX10_bed_0 : decode cX10_bed 0 = .ok (.aload_n 0, 1) := by decide +kernel
theorem dX10_bed_1 : decode cX10_bed 1 = .ok (.getfield 61, 3) := by decide +kernel
theorem dX10_bed_4 : decode cX10_bed 4 = .ok (.invokevirtual 74, 3) := by decide +kernel
theorem dX10_bed_7 : decode cX10_bed 7 = .ok (.aload_n 0, 1) := by decide +kernel
theorem dX10_bed_8 : decode cX10_bed 8 = .ok (.getfield 54, 3) := by decide +kernel
theorem dX10_bed_11 : decode cX10_bed 11 = .ok (.iload_n 1, 1) := by decide +kernel
theorem dX10_bed_12 : decode cX10_bed 12 = .ok (.invokevirtual 131, 3) := by decide +kernel
theorem dX10_bed_15 : decode cX10_bed 15 = .ok (.ireturn, 1) := by decide +kernel
def S_X10_bed (o0 : Nat) (i1 : Int32) (μ : Me) (Q : Int32 → Me → Prop) : Prop := mok μ o0 10 ∧ ∃ t2, mgr μ o0 7 = some t2 ∧ mok μ t2 2 ∧ S_X2_forget t2 μ (fun μ4 => ∃ t7, mgr μ4 o0 6 = some t7 ∧ mok μ4 t7 1 ∧ S_X1_goToBed t7 i1 μ4 (fun r11 μ9 => zb r11 ∧ Q r11 μ9))
set_option maxHeartbeats 4000000 in
set_option maxRecDepth 100000 in
theorem t_X10_bed {x : GX} (f : Fx x cX10_bed RX10 2 (rmc 3 0 0)) {o0 : Nat} {i1 : Int32} {μ : Me} {Q : Int32 → Me → Prop} (hq : Rt x (some .boolean) (qI Q)) (h : S_X10_bed o0 i1 μ Q) : G x 2 0 [(0, .ref (gB x + o0)), (1, .int i1)] [] μ 0 0 := by
  unfold S_X10_bed at h
  refine g_aload_n f 0 dX10_bed_0 rfl rfl ?_
  obtain ⟨v1, h⟩ := h
  refine g_getR f fk_X10_61 v1 dX10_bed_1 rfl h (fun t2 h => ?_)
  obtain ⟨v3, h⟩ := h
  refine g_callV f mk_X10_74 v3 (c_X2_forget h) dX10_bed_4 rfl rfl (Nat.le_of_ble_eq_true rfl) (rm_ok (by decide) (by decide)) ⟨Nat.le_of_ble_eq_true rfl, Nat.le_of_ble_eq_true rfl⟩ (kV fun μ4 x5 h => ?_)
  refine g_aload_n f 0 dX10_bed_7 rfl rfl ?_
  have v1 := mex_ok x5 v1
  refine g_getR f fk_X10_54 v1 dX10_bed_8 rfl h (fun t7 h => ?_)
  refine g_iload_n f 1 dX10_bed_11 rfl rfl ?_
  obtain ⟨v8, h⟩ := h
  refine g_callV f mk_X10_131 v8 (c_X1_goToBed h) dX10_bed_12 rfl rfl (Nat.le_of_ble_eq_true rfl) (rm_ok (by decide) (by decide)) ⟨Nat.le_of_ble_eq_true rfl, Nat.le_of_ble_eq_true rfl⟩ (kI fun r11 μ9 x10 h => ?_)
  exact g_zret f hq (Nat.le_of_ble_eq_true rfl) (Nat.le_of_ble_eq_true rfl) dX10_bed_15 h.1.1 h.2
theorem c_X10_bed {Ω : OM} {o0 : Nat} {i1 : Int32} {μ : Me} {Q : Int32 → Me → Prop} (h : S_X10_bed o0 i1 μ Q) : CT Ω yX10_bed cX10_bed 2 (some .boolean) (rmc 3 0 0) [.ref (oB Ω + o0), .int i1] μ (qI Q) := CT_of (by decide) rfl (by simp [lg_sl, Value.category]) (fun x hΩ f hq hi => by subst hΩ; exact t_X10_bed f hq h)
theorem dX10_up_0 : decode cX10_up 0 = .ok (.aload_n 0, 1) := by decide +kernel
theorem dX10_up_1 : decode cX10_up 1 = .ok (.getfield 61, 3) := by decide +kernel
theorem dX10_up_4 : decode cX10_up 4 = .ok (.invokevirtual 74, 3) := by decide +kernel
theorem dX10_up_7 : decode cX10_up 7 = .ok (.aload_n 0, 1) := by decide +kernel
theorem dX10_up_8 : decode cX10_up 8 = .ok (.getfield 54, 3) := by decide +kernel
theorem dX10_up_11 : decode cX10_up 11 = .ok (.iload_n 1, 1) := by decide +kernel
theorem dX10_up_12 : decode cX10_up 12 = .ok (.invokevirtual 134, 3) := by decide +kernel
theorem dX10_up_15 : decode cX10_up 15 = .ok (.ireturn, 1) := by decide +kernel
def S_X10_up (o0 : Nat) (i1 : Int32) (μ : Me) (Q : Int32 → Me → Prop) : Prop := mok μ o0 10 ∧ ∃ t2, mgr μ o0 7 = some t2 ∧ mok μ t2 2 ∧ S_X2_forget t2 μ (fun μ4 => ∃ t7, mgr μ4 o0 6 = some t7 ∧ mok μ4 t7 1 ∧ S_X1_getUp t7 i1 μ4 (fun r11 μ9 => zb r11 ∧ Q r11 μ9))
set_option maxHeartbeats 4000000 in
set_option maxRecDepth 100000 in
theorem t_X10_up {x : GX} (f : Fx x cX10_up RX10 2 (rmc 3 0 0)) {o0 : Nat} {i1 : Int32} {μ : Me} {Q : Int32 → Me → Prop} (hq : Rt x (some .boolean) (qI Q)) (h : S_X10_up o0 i1 μ Q) : G x 2 0 [(0, .ref (gB x + o0)), (1, .int i1)] [] μ 0 0 := by
  unfold S_X10_up at h
  refine g_aload_n f 0 dX10_up_0 rfl rfl ?_
  obtain ⟨v1, h⟩ := h
  refine g_getR f fk_X10_61 v1 dX10_up_1 rfl h (fun t2 h => ?_)
  obtain ⟨v3, h⟩ := h
  refine g_callV f mk_X10_74 v3 (c_X2_forget h) dX10_up_4 rfl rfl (Nat.le_of_ble_eq_true rfl) (rm_ok (by decide) (by decide)) ⟨Nat.le_of_ble_eq_true rfl, Nat.le_of_ble_eq_true rfl⟩ (kV fun μ4 x5 h => ?_)
  refine g_aload_n f 0 dX10_up_7 rfl rfl ?_
  have v1 := mex_ok x5 v1
  refine g_getR f fk_X10_54 v1 dX10_up_8 rfl h (fun t7 h => ?_)
  refine g_iload_n f 1 dX10_up_11 rfl rfl ?_
  obtain ⟨v8, h⟩ := h
  refine g_callV f mk_X10_134 v8 (c_X1_getUp h) dX10_up_12 rfl rfl (Nat.le_of_ble_eq_true rfl) (rm_ok (by decide) (by decide)) ⟨Nat.le_of_ble_eq_true rfl, Nat.le_of_ble_eq_true rfl⟩ (kI fun r11 μ9 x10 h => ?_)
  exact g_zret f hq (Nat.le_of_ble_eq_true rfl) (Nat.le_of_ble_eq_true rfl) dX10_up_15 h.1.1 h.2
theorem c_X10_up {Ω : OM} {o0 : Nat} {i1 : Int32} {μ : Me} {Q : Int32 → Me → Prop} (h : S_X10_up o0 i1 μ Q) : CT Ω yX10_up cX10_up 2 (some .boolean) (rmc 3 0 0) [.ref (oB Ω + o0), .int i1] μ (qI Q) := CT_of (by decide) rfl (by simp [lg_sl, Value.category]) (fun x hΩ f hq hi => by subst hΩ; exact t_X10_up f hq h)
theorem dX10_day_0 : decode cX10_day 0 = .ok (.iload_n 1, 1) := by decide +kernel
theorem dX10_day_1 : decode cX10_day 1 = .ok (.iconst 1, 1) := by decide +kernel
theorem dX10_day_2 : decode cX10_day 2 = .ok (.if_icmp .lt 20, 3) := by decide +kernel
theorem dX10_day_5 : decode cX10_day 5 = .ok (.iload_n 1, 1) := by decide +kernel
theorem dX10_day_6 : decode cX10_day 6 = .ok (.bipush 60, 2) := by decide +kernel
theorem dX10_day_8 : decode cX10_day 8 = .ok (.if_icmp .gt 14, 3) := by decide +kernel
theorem dX10_day_11 : decode cX10_day 11 = .ok (.iload_n 1, 1) := by decide +kernel
theorem dX10_day_12 : decode cX10_day 12 = .ok (.aload_n 0, 1) := by decide +kernel
theorem dX10_day_13 : decode cX10_day 13 = .ok (.getfield 54, 3) := by decide +kernel
theorem dX10_day_16 : decode cX10_day 16 = .ok (.invokevirtual 137, 3) := by decide +kernel
theorem dX10_day_19 : decode cX10_day 19 = .ok (.if_icmp .le 5, 3) := by decide +kernel
theorem dX10_day_22 : decode cX10_day 22 = .ok (.iconst (-1), 1) := by decide +kernel
theorem dX10_day_23 : decode cX10_day 23 = .ok (.ireturn, 1) := by decide +kernel
theorem dX10_day_24 : decode cX10_day 24 = .ok (.aload_n 0, 1) := by decide +kernel
theorem dX10_day_25 : decode cX10_day 25 = .ok (.getfield 61, 3) := by decide +kernel
theorem dX10_day_28 : decode cX10_day 28 = .ok (.invokevirtual 74, 3) := by decide +kernel
theorem dX10_day_31 : decode cX10_day 31 = .ok (.aload_n 0, 1) := by decide +kernel
theorem dX10_day_32 : decode cX10_day 32 = .ok (.getfield 54, 3) := by decide +kernel
theorem dX10_day_35 : decode cX10_day 35 = .ok (.iload_n 1, 1) := by decide +kernel
theorem dX10_day_36 : decode cX10_day 36 = .ok (.invokevirtual 141, 3) := by decide +kernel
theorem dX10_day_39 : decode cX10_day 39 = .ok (.ireturn, 1) := by decide +kernel
def S_X10_day (o0 : Nat) (i1 : Int32) (μ : Me) (Q : Int32 → Me → Prop) : Prop := ((i1 < 1 → Q (-1) μ) ∧ (¬ i1 < 1 → ((60 < i1 → Q (-1) μ) ∧ (¬ 60 < i1 → mok μ o0 10 ∧ ∃ t2, mgr μ o0 6 = some t2 ∧ mok μ t2 1 ∧ S_X1_daysThatCanPass t2 μ (fun r6 μ4 => ((i1 ≤ r6 → ∃ t7, mgr μ4 o0 7 = some t7 ∧ mok μ4 t7 2 ∧ S_X2_forget t7 μ4 (fun μ9 => ∃ t12, mgr μ9 o0 6 = some t12 ∧ mok μ9 t12 1 ∧ S_X1_passDays t12 i1 μ9 (fun r16 μ14 => Q r16 μ14))) ∧ (¬ i1 ≤ r6 → Q (-1) μ4)))))))
set_option maxHeartbeats 4000000 in
set_option maxRecDepth 100000 in
theorem t_X10_day {x : GX} (f : Fx x cX10_day RX10 2 (rmc 6 0 0)) {o0 : Nat} {i1 : Int32} {μ : Me} {Q : Int32 → Me → Prop} (hq : Rt x (some .int) (qI Q)) (h : S_X10_day o0 i1 μ Q) : G x 2 0 [(0, .ref (gB x + o0)), (1, .int i1)] [] μ 0 0 := by
  unfold S_X10_day at h
  refine g_iload_n f 1 dX10_day_0 rfl rfl ?_
  refine g_iconst f 1 dX10_day_1 kc_1 ?_
  refine g_ic_lt f 22 dX10_day_2 rfl h (fun h => ?_) (fun h => ?_)
  · refine g_iconst f (-1) dX10_day_22 kc_m1 ?_
    exact g_iret f hq (Nat.le_of_ble_eq_true rfl) (Nat.le_of_ble_eq_true rfl) dX10_day_23 h
  · refine g_iload_n f 1 dX10_day_5 rfl rfl ?_
    refine g_bipush f 60 dX10_day_6 kb_60 ?_
    refine g_ic_gt f 22 dX10_day_8 rfl h (fun h => ?_) (fun h => ?_)
    · refine g_iconst f (-1) dX10_day_22 kc_m1 ?_
      exact g_iret f hq (Nat.le_of_ble_eq_true rfl) (Nat.le_of_ble_eq_true rfl) dX10_day_23 h
    · refine g_iload_n f 1 dX10_day_11 rfl rfl ?_
      refine g_aload_n f 0 dX10_day_12 rfl rfl ?_
      obtain ⟨v1, h⟩ := h
      refine g_getR f fk_X10_54 v1 dX10_day_13 rfl h (fun t2 h => ?_)
      obtain ⟨v3, h⟩ := h
      refine g_callV f mk_X10_137 v3 (c_X1_daysThatCanPass h) dX10_day_16 rfl rfl (Nat.le_of_ble_eq_true rfl) (rm_ok (by decide) (by decide)) ⟨Nat.le_of_ble_eq_true rfl, Nat.le_of_ble_eq_true rfl⟩ (kI fun r6 μ4 x5 h => ?_)
      refine g_ic_le f 24 dX10_day_19 rfl h (fun h => ?_) (fun h => ?_)
      · refine g_aload_n f 0 dX10_day_24 rfl rfl ?_
        have v1 := mex_ok x5 v1
        refine g_getR f fk_X10_61 v1 dX10_day_25 rfl h (fun t7 h => ?_)
        obtain ⟨v8, h⟩ := h
        refine g_callV f mk_X10_74 v8 (c_X2_forget h) dX10_day_28 rfl rfl (Nat.le_of_ble_eq_true rfl) (rm_ok (by decide) (by decide)) ⟨Nat.le_of_ble_eq_true rfl, Nat.le_of_ble_eq_true rfl⟩ (kV fun μ9 x10 h => ?_)
        refine g_aload_n f 0 dX10_day_31 rfl rfl ?_
        have v1 := mex_ok x10 v1
        refine g_getR f fk_X10_54 v1 dX10_day_32 rfl h (fun t12 h => ?_)
        refine g_iload_n f 1 dX10_day_35 rfl rfl ?_
        obtain ⟨v13, h⟩ := h
        refine g_callV f mk_X10_141 v13 (c_X1_passDays h) dX10_day_36 rfl rfl (Nat.le_of_ble_eq_true rfl) (rm_ok (by decide) (by decide)) ⟨Nat.le_of_ble_eq_true rfl, Nat.le_of_ble_eq_true rfl⟩ (kI fun r16 μ14 x15 h => ?_)
        exact g_iret f hq (Nat.le_of_ble_eq_true rfl) (Nat.le_of_ble_eq_true rfl) dX10_day_39 h
      · refine g_iconst f (-1) dX10_day_22 kc_m1 ?_
        exact g_iret f hq (Nat.le_of_ble_eq_true rfl) (Nat.le_of_ble_eq_true rfl) dX10_day_23 h
theorem c_X10_day {Ω : OM} {o0 : Nat} {i1 : Int32} {μ : Me} {Q : Int32 → Me → Prop} (h : S_X10_day o0 i1 μ Q) : CT Ω yX10_day cX10_day 2 (some .int) (rmc 6 0 0) [.ref (oB Ω + o0), .int i1] μ (qI Q) := CT_of (by decide) rfl (by simp [lg_sl, Value.category]) (fun x hΩ f hq hi => by subst hΩ; exact t_X10_day f hq h)
theorem dX10_played_0 : decode cX10_played 0 = .ok (.iload_n 1, 1) := by decide +kernel
theorem dX10_played_1 : decode cX10_played 1 = .ok (.aload_n 0, 1) := by decide +kernel
theorem dX10_played_2 : decode cX10_played 2 = .ok (.getfield 12, 3) := by decide +kernel
theorem dX10_played_5 : decode cX10_played 5 = .ok (.getfield 97, 3) := by decide +kernel
theorem dX10_played_8 : decode cX10_played 8 = .ok (.if_icmp .ge 14, 3) := by decide +kernel
theorem dX10_played_11 : decode cX10_played 11 = .ok (.aload_n 0, 1) := by decide +kernel
theorem dX10_played_12 : decode cX10_played 12 = .ok (.getfield 45, 3) := by decide +kernel
theorem dX10_played_15 : decode cX10_played 15 = .ok (.iload_n 1, 1) := by decide +kernel
theorem dX10_played_16 : decode cX10_played 16 = .ok (.invokevirtual 145, 3) := by decide +kernel
theorem dX10_played_19 : decode cX10_played 19 = .ok (.goto 4, 3) := by decide +kernel
theorem dX10_played_22 : decode cX10_played 22 = .ok (.aconst_null, 1) := by decide +kernel
theorem dX10_played_23 : decode cX10_played 23 = .ok (.astore_n 2, 1) := by decide +kernel
theorem dX10_played_24 : decode cX10_played 24 = .ok (.aload_n 2, 1) := by decide +kernel
theorem dX10_played_25 : decode cX10_played 25 = .ok (.ifnonnull 6, 3) := by decide +kernel
theorem dX10_played_28 : decode cX10_played 28 = .ok (.bipush (-2), 2) := by decide +kernel
theorem dX10_played_30 : decode cX10_played 30 = .ok (.ireturn, 1) := by decide +kernel
theorem dX10_played_31 : decode cX10_played 31 = .ok (.aload_n 0, 1) := by decide +kernel
theorem dX10_played_32 : decode cX10_played 32 = .ok (.getfield 61, 3) := by decide +kernel
theorem dX10_played_35 : decode cX10_played 35 = .ok (.invokevirtual 74, 3) := by decide +kernel
theorem dX10_played_38 : decode cX10_played 38 = .ok (.iconst 0, 1) := by decide +kernel
theorem dX10_played_39 : decode cX10_played 39 = .ok (.istore_n 3, 1) := by decide +kernel
theorem dX10_played_40 : decode cX10_played 40 = .ok (.iload_n 3, 1) := by decide +kernel
theorem dX10_played_41 : decode cX10_played 41 = .ok (.aload_n 2, 1) := by decide +kernel
theorem dX10_played_42 : decode cX10_played 42 = .ok (.getfield 149, 3) := by decide +kernel
theorem dX10_played_45 : decode cX10_played 45 = .ok (.if_icmp .ge 23, 3) := by decide +kernel
theorem dX10_played_48 : decode cX10_played 48 = .ok (.aload_n 0, 1) := by decide +kernel
theorem dX10_played_49 : decode cX10_played 49 = .ok (.getfield 54, 3) := by decide +kernel
theorem dX10_played_52 : decode cX10_played 52 = .ok (.aload_n 2, 1) := by decide +kernel
theorem dX10_played_53 : decode cX10_played 53 = .ok (.iload_n 3, 1) := by decide +kernel
theorem dX10_played_54 : decode cX10_played 54 = .ok (.invokevirtual 152, 3) := by decide +kernel
theorem dX10_played_57 : decode cX10_played 57 = .ok (.ifCond .ne 5, 3) := by decide +kernel
theorem dX10_played_60 : decode cX10_played 60 = .ok (.iload_n 3, 1) := by decide +kernel
theorem dX10_played_61 : decode cX10_played 61 = .ok (.ireturn, 1) := by decide +kernel
theorem dX10_played_62 : decode cX10_played 62 = .ok (.iinc 3 1, 3) := by decide +kernel
theorem dX10_played_65 : decode cX10_played 65 = .ok (.goto (-25), 3) := by decide +kernel
theorem dX10_played_68 : decode cX10_played 68 = .ok (.iconst (-1), 1) := by decide +kernel
theorem dX10_played_69 : decode cX10_played 69 = .ok (.ireturn, 1) := by decide +kernel
def B_X10_played_40 (o0 : Nat) (r2 : Option Nat) (i3 : Int32) (μ : Me) (K40 : Int32 → Me → Prop) (Q : Int32 → Me → Prop) : Prop := ∃ t11, r2 = some t11 ∧ mok μ t11 7 ∧ (((mgi μ t11 8) ≤ i3 → Q (-1) μ) ∧ (¬ (mgi μ t11 8) ≤ i3 → mok μ o0 10 ∧ ∃ t16, mgr μ o0 6 = some t16 ∧ mok μ t16 1 ∧ S_X1_playClause t16 t11 i3 μ (fun r20 μ18 => ((¬ r20 = 0 → K40 (i3 + 1) μ18) ∧ (r20 = 0 → Q i3 μ18)))))
set_option maxHeartbeats 4000000 in
set_option maxRecDepth 100000 in
theorem tB_X10_played_40 {x : GX} (f : Fx x cX10_played RX10 4 (rmc 7 0 0)) {o0 : Nat} {r2 : Option Nat} {i3 : Int32} {μ : Me} {Q : Int32 → Me → Prop} (hq : Rt x (some .int) (qI Q)) {K40 : Int32 → Me → Prop} (hK40 : ∀ (a3 : Int32) (ν : Me), K40 a3 ν → G x 4 40 [(0, .ref (gB x + o0)), (2, vr (gB x) r2), (3, .int a3)] [] ν 0 0) (h : B_X10_played_40 o0 r2 i3 μ K40 Q) : G x 4 40 [(0, .ref (gB x + o0)), (2, vr (gB x) r2), (3, .int i3)] [] μ 0 0 := by
  unfold B_X10_played_40 at h
  refine g_iload_n f 2 dX10_played_40 rfl rfl ?_
  refine g_aload_nQ f 1 dX10_played_41 rfl rfl ?_
  obtain ⟨t11, e12, h13⟩ := h
  subst e12
  have h := h13
  obtain ⟨v14, h⟩ := h
  refine g_getI f fk_X10_149 v14 dX10_played_42 rfl ?_
  refine g_ic_ge f 68 dX10_played_45 rfl h (fun h => ?_) (fun h => ?_)
  · refine g_iconst f (-1) dX10_played_68 kc_m1 ?_
    exact g_iret f hq (Nat.le_of_ble_eq_true rfl) (Nat.le_of_ble_eq_true rfl) dX10_played_69 h
  · refine g_aload_n f 0 dX10_played_48 rfl rfl ?_
    obtain ⟨v15, h⟩ := h
    refine g_getR f fk_X10_54 v15 dX10_played_49 rfl h (fun t16 h => ?_)
    refine g_aload_nQ f 1 dX10_played_52 rfl rfl ?_
    refine g_iload_n f 2 dX10_played_53 rfl rfl ?_
    obtain ⟨v17, h⟩ := h
    refine g_callV f mk_X10_152 v17 (c_X1_playClause h) dX10_played_54 rfl rfl (Nat.le_of_ble_eq_true rfl) (rm_ok (by decide) (by decide)) ⟨Nat.le_of_ble_eq_true rfl, Nat.le_of_ble_eq_true rfl⟩ (kI fun r20 μ18 x19 h => ?_)
    refine g_if_ne f 62 dX10_played_57 rfl h (fun h => ?_) (fun h => ?_)
    · refine h_iinc f 2 1 dX10_played_62 rfl kc_1 (by decide) ?_
      refine g_goto f 40 dX10_played_65 rfl ?_
      exact h_sub [1, 2, 0] rfl (hK40 _ _ h)
    · refine g_iload_n f 2 dX10_played_60 rfl rfl ?_
      exact g_iret f hq (Nat.le_of_ble_eq_true rfl) (Nat.le_of_ble_eq_true rfl) dX10_played_61 h
def L_X10_played_40 (o0 : Nat) (r2 : Option Nat) (i3 : Int32) (μ : Me) (Q : Int32 → Me → Prop) : Prop := ∃ I : Int32 → Me → Nat → Prop, (∃ n, I i3 μ n) ∧ ∀ (i3 : Int32) (μ : Me) (n : Nat), I i3 μ n → B_X10_played_40 o0 r2 i3 μ (fun a3 ν => ∃ n', n' < n ∧ I a3 ν n') Q
set_option maxHeartbeats 4000000 in
set_option maxRecDepth 100000 in
theorem tL_X10_played_40 {x : GX} (f : Fx x cX10_played RX10 4 (rmc 7 0 0)) {o0 : Nat} {r2 : Option Nat} {i3 : Int32} {μ : Me} {Q : Int32 → Me → Prop} (hq : Rt x (some .int) (qI Q)) (h : L_X10_played_40 o0 r2 i3 μ Q) : G x 4 40 [(0, .ref (gB x + o0)), (2, vr (gB x) r2), (3, .int i3)] [] μ 0 0 := by
  obtain ⟨I, ⟨n, hI⟩, hs⟩ := h
  induction n using Nat.strongRecOn generalizing i3 μ with
  | ind n ih => exact tB_X10_played_40 f hq (fun a3 ν hk => by obtain ⟨n2, hn, hI2⟩ := hk; exact ih n2 hn hI2) (hs _ _ _ hI)
def B_X10_played_23 (o0 : Nat) (s0 : Option Nat) (μ : Me) (Q : Int32 → Me → Prop) : Prop := ((s0 = none → Q (-2) μ) ∧ (∀ t4, s0 = some t4 → mok μ o0 10 ∧ ∃ t6, mgr μ o0 7 = some t6 ∧ mok μ t6 2 ∧ S_X2_forget t6 μ (fun μ8 => L_X10_played_40 o0 (some t4) 0 μ8 Q)))
set_option maxHeartbeats 4000000 in
set_option maxRecDepth 100000 in
theorem tB_X10_played_23 {x : GX} (f : Fx x cX10_played RX10 4 (rmc 7 0 0)) {o0 : Nat} {s0 : Option Nat} {μ : Me} {Q : Int32 → Me → Prop} (hq : Rt x (some .int) (qI Q)) (h : B_X10_played_23 o0 s0 μ Q) : G x 4 23 [(0, .ref (gB x + o0))] [vr (gB x) s0] μ 0 0 := by
  unfold B_X10_played_23 at h
  refine h_astore_n f dX10_played_23 rfl (by decide) ?_
  refine g_aload_nQ f 0 dX10_played_24 rfl rfl ?_
  cases s0 with
  | none =>
    have h := h.1 rfl
    refine g_ifnonnullN f dX10_played_25 ?_
    refine g_bipush f (-2) dX10_played_28 kb_m2 ?_
    exact g_iret f hq (Nat.le_of_ble_eq_true rfl) (Nat.le_of_ble_eq_true rfl) dX10_played_30 h
  | some t4 =>
    have h := h.2 t4 rfl
    refine g_ifnonnullS f 31 dX10_played_25 rfl ?_
    refine g_aload_n f 1 dX10_played_31 rfl rfl ?_
    obtain ⟨v5, h⟩ := h
    refine g_getR f fk_X10_61 v5 dX10_played_32 rfl h (fun t6 h => ?_)
    obtain ⟨v7, h⟩ := h
    refine g_callV f mk_X10_74 v7 (c_X2_forget h) dX10_played_35 rfl rfl (Nat.le_of_ble_eq_true rfl) (rm_ok (by decide) (by decide)) ⟨Nat.le_of_ble_eq_true rfl, Nat.le_of_ble_eq_true rfl⟩ (kV fun μ8 x9 h => ?_)
    refine g_iconst f 0 dX10_played_38 kc_0 ?_
    refine h_istore_n f dX10_played_39 rfl (by decide) ?_
    exact h_sub [2, 1, 0] rfl (tL_X10_played_40 f hq h)
def S_X10_played (o0 : Nat) (i1 : Int32) (μ : Me) (Q : Int32 → Me → Prop) : Prop := mok μ o0 10 ∧ ∃ t2, mgr μ o0 0 = some t2 ∧ mok μ t2 9 ∧ (((mgi μ t2 6) ≤ i1 → B_X10_played_23 o0 none μ Q) ∧ (¬ (mgi μ t2 6) ≤ i1 → ∃ t21, mgr μ o0 5 = some t21 ∧ mok μ t21 4 ∧ S_X4_textOf t21 i1 μ (fun r25 μ23 => B_X10_played_23 o0 r25 μ23 Q)))
set_option maxHeartbeats 4000000 in
set_option maxRecDepth 100000 in
theorem t_X10_played {x : GX} (f : Fx x cX10_played RX10 4 (rmc 7 0 0)) {o0 : Nat} {i1 : Int32} {μ : Me} {Q : Int32 → Me → Prop} (hq : Rt x (some .int) (qI Q)) (h : S_X10_played o0 i1 μ Q) : G x 4 0 [(0, .ref (gB x + o0)), (1, .int i1)] [] μ 0 0 := by
  unfold S_X10_played at h
  refine g_iload_n f 1 dX10_played_0 rfl rfl ?_
  refine g_aload_n f 0 dX10_played_1 rfl rfl ?_
  obtain ⟨v1, h⟩ := h
  refine g_getR f fk_X10_12 v1 dX10_played_2 rfl h (fun t2 h => ?_)
  obtain ⟨v3, h⟩ := h
  refine g_getI f fk_X10_97 v3 dX10_played_5 rfl ?_
  refine g_ic_ge f 22 dX10_played_8 rfl h (fun h => ?_) (fun h => ?_)
  · refine g_null f dX10_played_22 ?_
    exact h_sub [0] rfl (tB_X10_played_23 f hq h)
  · refine g_aload_n f 0 dX10_played_11 rfl rfl ?_
    refine g_getR f fk_X10_45 v1 dX10_played_12 rfl h (fun t21 h => ?_)
    refine g_iload_n f 1 dX10_played_15 rfl rfl ?_
    obtain ⟨v22, h⟩ := h
    refine g_callV f mk_X10_145 v22 (c_X4_textOf h) dX10_played_16 rfl rfl (Nat.le_of_ble_eq_true rfl) (rm_ok (by decide) (by decide)) ⟨Nat.le_of_ble_eq_true rfl, Nat.le_of_ble_eq_true rfl⟩ (kR fun r25 μ23 x24 h => ?_)
    refine g_goto f 23 dX10_played_19 rfl ?_
    exact h_sub [0] rfl (tB_X10_played_23 f hq h)
theorem c_X10_played {Ω : OM} {o0 : Nat} {i1 : Int32} {μ : Me} {Q : Int32 → Me → Prop} (h : S_X10_played o0 i1 μ Q) : CT Ω yX10_played cX10_played 4 (some .int) (rmc 7 0 0) [.ref (oB Ω + o0), .int i1] μ (qI Q) := CT_of (by decide) rfl (by simp [lg_sl, Value.category]) (fun x hΩ f hq hi => by subst hΩ; exact t_X10_played f hq h)
theorem dX10_years_0 : decode cX10_years 0 = .ok (.iload_n 1, 1) := by decide +kernel
theorem dX10_years_1 : decode cX10_years 1 = .ok (.ifCond .lt 21, 3) := by decide +kernel
theorem dX10_years_4 : decode cX10_years 4 = .ok (.iload_n 1, 1) := by decide +kernel
theorem dX10_years_5 : decode cX10_years 5 = .ok (.sipush 9999, 3) := by decide +kernel
theorem dX10_years_8 : decode cX10_years 8 = .ok (.if_icmp .gt 14, 3) := by decide +kernel
theorem dX10_years_11 : decode cX10_years 11 = .ok (.iload_n 2, 1) := by decide +kernel
theorem dX10_years_12 : decode cX10_years 12 = .ok (.iconst 1, 1) := by decide +kernel
theorem dX10_years_13 : decode cX10_years 13 = .ok (.if_icmp .lt 9, 3) := by decide +kernel
theorem dX10_years_16 : decode cX10_years 16 = .ok (.iload_n 2, 1) := by decide +kernel
theorem dX10_years_17 : decode cX10_years 17 = .ok (.bipush 40, 2) := by decide +kernel
theorem dX10_years_19 : decode cX10_years 19 = .ok (.if_icmp .le 5, 3) := by decide +kernel
theorem dX10_years_22 : decode cX10_years 22 = .ok (.iconst (-1), 1) := by decide +kernel
theorem dX10_years_23 : decode cX10_years 23 = .ok (.ireturn, 1) := by decide +kernel
theorem dX10_years_24 : decode cX10_years 24 = .ok (.aload_n 0, 1) := by decide +kernel
theorem dX10_years_25 : decode cX10_years 25 = .ok (.getfield 61, 3) := by decide +kernel
theorem dX10_years_28 : decode cX10_years 28 = .ok (.invokevirtual 74, 3) := by decide +kernel
theorem dX10_years_31 : decode cX10_years 31 = .ok (.aload_n 0, 1) := by decide +kernel
theorem dX10_years_32 : decode cX10_years 32 = .ok (.getfield 54, 3) := by decide +kernel
theorem dX10_years_35 : decode cX10_years 35 = .ok (.iload_n 1, 1) := by decide +kernel
theorem dX10_years_36 : decode cX10_years 36 = .ok (.iload_n 2, 1) := by decide +kernel
theorem dX10_years_37 : decode cX10_years 37 = .ok (.invokevirtual 156, 3) := by decide +kernel
theorem dX10_years_40 : decode cX10_years 40 = .ok (.aload_n 0, 1) := by decide +kernel
theorem dX10_years_41 : decode cX10_years 41 = .ok (.getfield 12, 3) := by decide +kernel
theorem dX10_years_44 : decode cX10_years 44 = .ok (.getfield 160, 3) := by decide +kernel
theorem dX10_years_47 : decode cX10_years 47 = .ok (.getfield 164, 3) := by decide +kernel
theorem dX10_years_50 : decode cX10_years 50 = .ok (.ireturn, 1) := by decide +kernel
def S_X10_years (o0 : Nat) (i1 : Int32) (i2 : Int32) (μ : Me) (Q : Int32 → Me → Prop) : Prop := ((i1 < 0 → Q (-1) μ) ∧ (¬ i1 < 0 → ((9999 < i1 → Q (-1) μ) ∧ (¬ 9999 < i1 → ((i2 < 1 → Q (-1) μ) ∧ (¬ i2 < 1 → ((i2 ≤ 40 → mok μ o0 10 ∧ ∃ t2, mgr μ o0 7 = some t2 ∧ mok μ t2 2 ∧ S_X2_forget t2 μ (fun μ4 => ∃ t7, mgr μ4 o0 6 = some t7 ∧ mok μ4 t7 1 ∧ S_X1_draw t7 i1 i2 μ4 (fun μ9 => ∃ t12, mgr μ9 o0 0 = some t12 ∧ mok μ9 t12 9 ∧ ∃ t14, mgr μ9 t12 14 = some t14 ∧ mok μ9 t14 3 ∧ Q (mgi μ9 t14 3) μ9))) ∧ (¬ i2 ≤ 40 → Q (-1) μ))))))))
set_option maxHeartbeats 4000000 in
set_option maxRecDepth 100000 in
theorem t_X10_years {x : GX} (f : Fx x cX10_years RX10 3 (rmc 7 0 0)) {o0 : Nat} {i1 : Int32} {i2 : Int32} {μ : Me} {Q : Int32 → Me → Prop} (hq : Rt x (some .int) (qI Q)) (h : S_X10_years o0 i1 i2 μ Q) : G x 3 0 [(0, .ref (gB x + o0)), (1, .int i1), (2, .int i2)] [] μ 0 0 := by
  unfold S_X10_years at h
  refine g_iload_n f 1 dX10_years_0 rfl rfl ?_
  refine g_if_lt f 22 dX10_years_1 rfl h (fun h => ?_) (fun h => ?_)
  · refine g_iconst f (-1) dX10_years_22 kc_m1 ?_
    exact g_iret f hq (Nat.le_of_ble_eq_true rfl) (Nat.le_of_ble_eq_true rfl) dX10_years_23 h
  · refine g_iload_n f 1 dX10_years_4 rfl rfl ?_
    refine g_sipush f 9999 dX10_years_5 ks_9999 ?_
    refine g_ic_gt f 22 dX10_years_8 rfl h (fun h => ?_) (fun h => ?_)
    · refine g_iconst f (-1) dX10_years_22 kc_m1 ?_
      exact g_iret f hq (Nat.le_of_ble_eq_true rfl) (Nat.le_of_ble_eq_true rfl) dX10_years_23 h
    · refine g_iload_n f 2 dX10_years_11 rfl rfl ?_
      refine g_iconst f 1 dX10_years_12 kc_1 ?_
      refine g_ic_lt f 22 dX10_years_13 rfl h (fun h => ?_) (fun h => ?_)
      · refine g_iconst f (-1) dX10_years_22 kc_m1 ?_
        exact g_iret f hq (Nat.le_of_ble_eq_true rfl) (Nat.le_of_ble_eq_true rfl) dX10_years_23 h
      · refine g_iload_n f 2 dX10_years_16 rfl rfl ?_
        refine g_bipush f 40 dX10_years_17 kb_40 ?_
        refine g_ic_le f 24 dX10_years_19 rfl h (fun h => ?_) (fun h => ?_)
        · refine g_aload_n f 0 dX10_years_24 rfl rfl ?_
          obtain ⟨v1, h⟩ := h
          refine g_getR f fk_X10_61 v1 dX10_years_25 rfl h (fun t2 h => ?_)
          obtain ⟨v3, h⟩ := h
          refine g_callV f mk_X10_74 v3 (c_X2_forget h) dX10_years_28 rfl rfl (Nat.le_of_ble_eq_true rfl) (rm_ok (by decide) (by decide)) ⟨Nat.le_of_ble_eq_true rfl, Nat.le_of_ble_eq_true rfl⟩ (kV fun μ4 x5 h => ?_)
          refine g_aload_n f 0 dX10_years_31 rfl rfl ?_
          have v1 := mex_ok x5 v1
          refine g_getR f fk_X10_54 v1 dX10_years_32 rfl h (fun t7 h => ?_)
          refine g_iload_n f 1 dX10_years_35 rfl rfl ?_
          refine g_iload_n f 2 dX10_years_36 rfl rfl ?_
          obtain ⟨v8, h⟩ := h
          refine g_callV f mk_X10_156 v8 (c_X1_draw h) dX10_years_37 rfl rfl (Nat.le_of_ble_eq_true rfl) (rm_ok (by decide) (by decide)) ⟨Nat.le_of_ble_eq_true rfl, Nat.le_of_ble_eq_true rfl⟩ (kV fun μ9 x10 h => ?_)
          refine g_aload_n f 0 dX10_years_40 rfl rfl ?_
          have v1 := mex_ok x10 v1
          refine g_getR f fk_X10_12 v1 dX10_years_41 rfl h (fun t12 h => ?_)
          obtain ⟨v13, h⟩ := h
          refine g_getR f fk_X10_160 v13 dX10_years_44 rfl h (fun t14 h => ?_)
          obtain ⟨v15, h⟩ := h
          refine g_getI f fk_X10_164 v15 dX10_years_47 rfl ?_
          exact g_iret f hq (Nat.le_of_ble_eq_true rfl) (Nat.le_of_ble_eq_true rfl) dX10_years_50 h
        · refine g_iconst f (-1) dX10_years_22 kc_m1 ?_
          exact g_iret f hq (Nat.le_of_ble_eq_true rfl) (Nat.le_of_ble_eq_true rfl) dX10_years_23 h
theorem c_X10_years {Ω : OM} {o0 : Nat} {i1 : Int32} {i2 : Int32} {μ : Me} {Q : Int32 → Me → Prop} (h : S_X10_years o0 i1 i2 μ Q) : CT Ω yX10_years cX10_years 3 (some .int) (rmc 7 0 0) [.ref (oB Ω + o0), .int i1, .int i2] μ (qI Q) := CT_of (by decide) rfl (by simp [lg_sl, Value.category]) (fun x hΩ f hq hi => by subst hΩ; exact t_X10_years f hq h)
theorem dX10_undo_0 : decode cX10_undo 0 = .ok (.aload_n 0, 1) := by decide +kernel
theorem dX10_undo_1 : decode cX10_undo 1 = .ok (.getfield 61, 3) := by decide +kernel
theorem dX10_undo_4 : decode cX10_undo 4 = .ok (.invokevirtual 74, 3) := by decide +kernel
theorem dX10_undo_7 : decode cX10_undo 7 = .ok (.aload_n 0, 1) := by decide +kernel
theorem dX10_undo_8 : decode cX10_undo 8 = .ok (.getfield 12, 3) := by decide +kernel
theorem dX10_undo_11 : decode cX10_undo 11 = .ok (.invokevirtual 169, 3) := by decide +kernel
theorem dX10_undo_14 : decode cX10_undo 14 = .ok (.ifCond .eq 13, 3) := by decide +kernel
theorem dX10_undo_17 : decode cX10_undo 17 = .ok (.aload_n 0, 1) := by decide +kernel
theorem dX10_undo_18 : decode cX10_undo 18 = .ok (.getfield 12, 3) := by decide +kernel
theorem dX10_undo_21 : decode cX10_undo 21 = .ok (.getfield 172, 3) := by decide +kernel
theorem dX10_undo_24 : decode cX10_undo 24 = .ok (.goto 4, 3) := by decide +kernel
theorem dX10_undo_27 : decode cX10_undo 27 = .ok (.iconst (-1), 1) := by decide +kernel
theorem dX10_undo_28 : decode cX10_undo 28 = .ok (.ireturn, 1) := by decide +kernel
def S_X10_undo (o0 : Nat) (μ : Me) (Q : Int32 → Me → Prop) : Prop := mok μ o0 10 ∧ ∃ t2, mgr μ o0 7 = some t2 ∧ mok μ t2 2 ∧ S_X2_forget t2 μ (fun μ4 => ∃ t7, mgr μ4 o0 0 = some t7 ∧ mok μ4 t7 9 ∧ S_X9_takeBack t7 μ4 (fun r11 μ9 => ((r11 = 0 → Q (-1) μ9) ∧ (¬ r11 = 0 → ∃ t12, mgr μ9 o0 0 = some t12 ∧ mok μ9 t12 9 ∧ Q (mgi μ9 t12 17) μ9))))
set_option maxHeartbeats 4000000 in
set_option maxRecDepth 100000 in
theorem t_X10_undo {x : GX} (f : Fx x cX10_undo RX10 1 (rmc 2 0 0)) {o0 : Nat} {μ : Me} {Q : Int32 → Me → Prop} (hq : Rt x (some .int) (qI Q)) (h : S_X10_undo o0 μ Q) : G x 1 0 [(0, .ref (gB x + o0))] [] μ 0 0 := by
  unfold S_X10_undo at h
  refine g_aload_n f 0 dX10_undo_0 rfl rfl ?_
  obtain ⟨v1, h⟩ := h
  refine g_getR f fk_X10_61 v1 dX10_undo_1 rfl h (fun t2 h => ?_)
  obtain ⟨v3, h⟩ := h
  refine g_callV f mk_X10_74 v3 (c_X2_forget h) dX10_undo_4 rfl rfl (Nat.le_of_ble_eq_true rfl) (rm_ok (by decide) (by decide)) ⟨Nat.le_of_ble_eq_true rfl, Nat.le_of_ble_eq_true rfl⟩ (kV fun μ4 x5 h => ?_)
  refine g_aload_n f 0 dX10_undo_7 rfl rfl ?_
  have v1 := mex_ok x5 v1
  refine g_getR f fk_X10_12 v1 dX10_undo_8 rfl h (fun t7 h => ?_)
  obtain ⟨v8, h⟩ := h
  refine g_callV f mk_X10_169 v8 (c_X9_takeBack h) dX10_undo_11 rfl rfl (Nat.le_of_ble_eq_true rfl) (rm_ok (by decide) (by decide)) ⟨Nat.le_of_ble_eq_true rfl, Nat.le_of_ble_eq_true rfl⟩ (kI fun r11 μ9 x10 h => ?_)
  refine g_if_eq f 27 dX10_undo_14 rfl h (fun h => ?_) (fun h => ?_)
  · refine g_iconst f (-1) dX10_undo_27 kc_m1 ?_
    exact g_iret f hq (Nat.le_of_ble_eq_true rfl) (Nat.le_of_ble_eq_true rfl) dX10_undo_28 h
  · refine g_aload_n f 0 dX10_undo_17 rfl rfl ?_
    have v1 := mex_ok x10 v1
    refine g_getR f fk_X10_12 v1 dX10_undo_18 rfl h (fun t12 h => ?_)
    obtain ⟨v13, h⟩ := h
    refine g_getI f fk_X10_172 v13 dX10_undo_21 rfl ?_
    refine g_goto f 28 dX10_undo_24 rfl ?_
    exact g_iret f hq (Nat.le_of_ble_eq_true rfl) (Nat.le_of_ble_eq_true rfl) dX10_undo_28 h
theorem c_X10_undo {Ω : OM} {o0 : Nat} {μ : Me} {Q : Int32 → Me → Prop} (h : S_X10_undo o0 μ Q) : CT Ω yX10_undo cX10_undo 1 (some .int) (rmc 2 0 0) [.ref (oB Ω + o0)] μ (qI Q) := CT_of (by decide) rfl (by simp [lg_sl, Value.category]) (fun x hΩ f hq hi => by subst hΩ; exact t_X10_undo f hq h)
theorem dX10_runningNow_0 : decode cX10_runningNow 0 = .ok (.aload_n 0, 1) := by decide +kernel
theorem dX10_runningNow_1 : decode cX10_runningNow 1 = .ok (.getfield 45, 3) := by decide +kernel
theorem dX10_runningNow_4 : decode cX10_runningNow 4 = .ok (.invokevirtual 227, 3) := by decide +kernel
theorem dX10_runningNow_7 : decode cX10_runningNow 7 = .ok (.aload_n 0, 1) := by decide +kernel
theorem dX10_runningNow_8 : decode cX10_runningNow 8 = .ok (.getfield 45, 3) := by decide +kernel
theorem dX10_runningNow_11 : decode cX10_runningNow 11 = .ok (.aload_n 0, 1) := by decide +kernel
theorem dX10_runningNow_12 : decode cX10_runningNow 12 = .ok (.getfield 12, 3) := by decide +kernel
theorem dX10_runningNow_15 : decode cX10_runningNow 15 = .ok (.getfield 160, 3) := by decide +kernel
theorem dX10_runningNow_18 : decode cX10_runningNow 18 = .ok (.getfield 202, 3) := by decide +kernel
theorem dX10_runningNow_21 : decode cX10_runningNow 21 = .ok (.invokevirtual 230, 3) := by decide +kernel
theorem dX10_runningNow_24 : decode cX10_runningNow 24 = .ok (.ireturn, 1) := by decide +kernel
def S_X10_runningNow (o0 : Nat) (μ : Me) (Q : Int32 → Me → Prop) : Prop := mok μ o0 10 ∧ ∃ t2, mgr μ o0 5 = some t2 ∧ mok μ t2 4 ∧ S_X4_asNow t2 μ (fun μ4 => ∃ t7, mgr μ4 o0 5 = some t7 ∧ ∃ t8, mgr μ4 o0 0 = some t8 ∧ mok μ4 t8 9 ∧ ∃ t10, mgr μ4 t8 14 = some t10 ∧ mok μ4 t10 3 ∧ mok μ4 t7 4 ∧ S_X4_runningBy t7 (mgi μ4 t10 0) μ4 (fun r15 μ13 => Q r15 μ13))
set_option maxHeartbeats 4000000 in
set_option maxRecDepth 100000 in
theorem t_X10_runningNow {x : GX} (f : Fx x cX10_runningNow RX10 1 (rmc 3 0 0)) {o0 : Nat} {μ : Me} {Q : Int32 → Me → Prop} (hq : Rt x (some .int) (qI Q)) (h : S_X10_runningNow o0 μ Q) : G x 1 0 [(0, .ref (gB x + o0))] [] μ 0 0 := by
  unfold S_X10_runningNow at h
  refine g_aload_n f 0 dX10_runningNow_0 rfl rfl ?_
  obtain ⟨v1, h⟩ := h
  refine g_getR f fk_X10_45 v1 dX10_runningNow_1 rfl h (fun t2 h => ?_)
  obtain ⟨v3, h⟩ := h
  refine g_callV f mk_X10_227 v3 (c_X4_asNow h) dX10_runningNow_4 rfl rfl (Nat.le_of_ble_eq_true rfl) (rm_ok (by decide) (by decide)) ⟨Nat.le_of_ble_eq_true rfl, Nat.le_of_ble_eq_true rfl⟩ (kV fun μ4 x5 h => ?_)
  refine g_aload_n f 0 dX10_runningNow_7 rfl rfl ?_
  have v1 := mex_ok x5 v1
  refine g_getR f fk_X10_45 v1 dX10_runningNow_8 rfl h (fun t7 h => ?_)
  refine g_aload_n f 0 dX10_runningNow_11 rfl rfl ?_
  refine g_getR f fk_X10_12 v1 dX10_runningNow_12 rfl h (fun t8 h => ?_)
  obtain ⟨v9, h⟩ := h
  refine g_getR f fk_X10_160 v9 dX10_runningNow_15 rfl h (fun t10 h => ?_)
  obtain ⟨v11, h⟩ := h
  refine g_getI f fk_X10_202 v11 dX10_runningNow_18 rfl ?_
  obtain ⟨v12, h⟩ := h
  refine g_callV f mk_X10_230 v12 (c_X4_runningBy h) dX10_runningNow_21 rfl rfl (Nat.le_of_ble_eq_true rfl) (rm_ok (by decide) (by decide)) ⟨Nat.le_of_ble_eq_true rfl, Nat.le_of_ble_eq_true rfl⟩ (kI fun r15 μ13 x14 h => ?_)
  exact g_iret f hq (Nat.le_of_ble_eq_true rfl) (Nat.le_of_ble_eq_true rfl) dX10_runningNow_24 h
theorem c_X10_runningNow {Ω : OM} {o0 : Nat} {μ : Me} {Q : Int32 → Me → Prop} (h : S_X10_runningNow o0 μ Q) : CT Ω yX10_runningNow cX10_runningNow 1 (some .int) (rmc 3 0 0) [.ref (oB Ω + o0)] μ (qI Q) := CT_of (by decide) rfl (by simp [lg_sl, Value.category]) (fun x hΩ f hq hi => by subst hΩ; exact t_X10_runningNow f hq h)
theorem dX10_takesNow_0 : decode cX10_takesNow 0 = .ok (.aload_n 0, 1) := by decide +kernel
theorem dX10_takesNow_1 : decode cX10_takesNow 1 = .ok (.getfield 45, 3) := by decide +kernel
theorem dX10_takesNow_4 : decode cX10_takesNow 4 = .ok (.iload_n 1, 1) := by decide +kernel
theorem dX10_takesNow_5 : decode cX10_takesNow 5 = .ok (.aload_n 0, 1) := by decide +kernel
theorem dX10_takesNow_6 : decode cX10_takesNow 6 = .ok (.invokevirtual 196, 3) := by decide +kernel
theorem dX10_takesNow_9 : decode cX10_takesNow 9 = .ok (.invokevirtual 287, 3) := by decide +kernel
theorem dX10_takesNow_12 : decode cX10_takesNow 12 = .ok (.ireturn, 1) := by decide +kernel
def S_X10_takesNow (o0 : Nat) (i1 : Int32) (μ : Me) (Q : Int32 → Me → Prop) : Prop := mok μ o0 10 ∧ ∃ t2, mgr μ o0 5 = some t2 ∧ S_X10_runningNow o0 μ (fun r5 μ3 => mok μ3 t2 4 ∧ S_X4_takesAmong t2 i1 r5 μ3 (fun r9 μ7 => Q r9 μ7))
set_option maxHeartbeats 4000000 in
set_option maxRecDepth 100000 in
theorem t_X10_takesNow {x : GX} (f : Fx x cX10_takesNow RX10 2 (rmc 4 0 0)) {o0 : Nat} {i1 : Int32} {μ : Me} {Q : Int32 → Me → Prop} (hq : Rt x (some .int) (qI Q)) (h : S_X10_takesNow o0 i1 μ Q) : G x 2 0 [(0, .ref (gB x + o0)), (1, .int i1)] [] μ 0 0 := by
  unfold S_X10_takesNow at h
  refine g_aload_n f 0 dX10_takesNow_0 rfl rfl ?_
  obtain ⟨v1, h⟩ := h
  refine g_getR f fk_X10_45 v1 dX10_takesNow_1 rfl h (fun t2 h => ?_)
  refine g_iload_n f 1 dX10_takesNow_4 rfl rfl ?_
  refine g_aload_n f 0 dX10_takesNow_5 rfl rfl ?_
  refine g_callV f mk_X10_196 v1 (c_X10_runningNow h) dX10_takesNow_6 rfl rfl (Nat.le_of_ble_eq_true rfl) (rm_ok (by decide) (by decide)) ⟨Nat.le_of_ble_eq_true rfl, Nat.le_of_ble_eq_true rfl⟩ (kI fun r5 μ3 x4 h => ?_)
  obtain ⟨v6, h⟩ := h
  refine g_callV f mk_X10_287 v6 (c_X4_takesAmong h) dX10_takesNow_9 rfl rfl (Nat.le_of_ble_eq_true rfl) (rm_ok (by decide) (by decide)) ⟨Nat.le_of_ble_eq_true rfl, Nat.le_of_ble_eq_true rfl⟩ (kI fun r9 μ7 x8 h => ?_)
  exact g_iret f hq (Nat.le_of_ble_eq_true rfl) (Nat.le_of_ble_eq_true rfl) dX10_takesNow_12 h
theorem c_X10_takesNow {Ω : OM} {o0 : Nat} {i1 : Int32} {μ : Me} {Q : Int32 → Me → Prop} (h : S_X10_takesNow o0 i1 μ Q) : CT Ω yX10_takesNow cX10_takesNow 2 (some .int) (rmc 4 0 0) [.ref (oB Ω + o0), .int i1] μ (qI Q) := CT_of (by decide) rfl (by simp [lg_sl, Value.category]) (fun x hΩ f hq hi => by subst hΩ; exact t_X10_takesNow f hq h)
theorem dX10_of_0 : decode cX10_of 0 = .ok (.aload_n 0, 1) := by decide +kernel
theorem dX10_of_1 : decode cX10_of 1 = .ok (.getfield 12, 3) := by decide +kernel
theorem dX10_of_4 : decode cX10_of 4 = .ok (.iload_n 1, 1) := by decide +kernel
theorem dX10_of_5 : decode cX10_of 5 = .ok (.invokevirtual 175, 3) := by decide +kernel
theorem dX10_of_8 : decode cX10_of 8 = .ok (.ifCond .ne 5, 3) := by decide +kernel
theorem dX10_of_11 : decode cX10_of 11 = .ok (.iconst (-1), 1) := by decide +kernel
theorem dX10_of_12 : decode cX10_of 12 = .ok (.ireturn, 1) := by decide +kernel
theorem dX10_of_13 : decode cX10_of 13 = .ok (.iload_n 2, 1) := by decide +kernel
theorem dX10_of_14 : decode cX10_of 14 = .ok (.tableswitch 146 0 8 #[50, 60, 70, 80, 93, 108, 121, 130, 136], 50) := by decide +kernel
theorem dX10_of_64 : decode cX10_of 64 = .ok (.aload_n 0, 1) := by decide +kernel
theorem dX10_of_65 : decode cX10_of 65 = .ok (.getfield 12, 3) := by decide +kernel
theorem dX10_of_68 : decode cX10_of 68 = .ok (.getfield 178, 3) := by decide +kernel
theorem dX10_of_71 : decode cX10_of 71 = .ok (.iload_n 1, 1) := by decide +kernel
theorem dX10_of_72 : decode cX10_of 72 = .ok (.iaload, 1) := by decide +kernel
theorem dX10_of_73 : decode cX10_of 73 = .ok (.ireturn, 1) := by decide +kernel
theorem dX10_of_74 : decode cX10_of 74 = .ok (.aload_n 0, 1) := by decide +kernel
theorem dX10_of_75 : decode cX10_of 75 = .ok (.getfield 12, 3) := by decide +kernel
theorem dX10_of_78 : decode cX10_of 78 = .ok (.getfield 181, 3) := by decide +kernel
theorem dX10_of_81 : decode cX10_of 81 = .ok (.iload_n 1, 1) := by decide +kernel
theorem dX10_of_82 : decode cX10_of 82 = .ok (.iaload, 1) := by decide +kernel
theorem dX10_of_83 : decode cX10_of 83 = .ok (.ireturn, 1) := by decide +kernel
theorem dX10_of_84 : decode cX10_of 84 = .ok (.aload_n 0, 1) := by decide +kernel
theorem dX10_of_85 : decode cX10_of 85 = .ok (.getfield 12, 3) := by decide +kernel
theorem dX10_of_88 : decode cX10_of 88 = .ok (.getfield 184, 3) := by decide +kernel
theorem dX10_of_91 : decode cX10_of 91 = .ok (.iload_n 1, 1) := by decide +kernel
theorem dX10_of_92 : decode cX10_of 92 = .ok (.iaload, 1) := by decide +kernel
theorem dX10_of_93 : decode cX10_of 93 = .ok (.ireturn, 1) := by decide +kernel
theorem dX10_of_94 : decode cX10_of 94 = .ok (.aload_n 0, 1) := by decide +kernel
theorem dX10_of_95 : decode cX10_of 95 = .ok (.getfield 12, 3) := by decide +kernel
theorem dX10_of_98 : decode cX10_of 98 = .ok (.getfield 160, 3) := by decide +kernel
theorem dX10_of_101 : decode cX10_of 101 = .ok (.getfield 187, 3) := by decide +kernel
theorem dX10_of_104 : decode cX10_of 104 = .ok (.iload_n 1, 1) := by decide +kernel
theorem dX10_of_105 : decode cX10_of 105 = .ok (.iaload, 1) := by decide +kernel
theorem dX10_of_106 : decode cX10_of 106 = .ok (.ireturn, 1) := by decide +kernel
theorem dX10_of_107 : decode cX10_of 107 = .ok (.aload_n 0, 1) := by decide +kernel
theorem dX10_of_108 : decode cX10_of 108 = .ok (.getfield 12, 3) := by decide +kernel
theorem dX10_of_111 : decode cX10_of 111 = .ok (.getfield 160, 3) := by decide +kernel
theorem dX10_of_114 : decode cX10_of 114 = .ok (.getfield 190, 3) := by decide +kernel
theorem dX10_of_117 : decode cX10_of 117 = .ok (.iload_n 1, 1) := by decide +kernel
theorem dX10_of_118 : decode cX10_of 118 = .ok (.ishr, 1) := by decide +kernel
theorem dX10_of_119 : decode cX10_of 119 = .ok (.iconst 1, 1) := by decide +kernel
theorem dX10_of_120 : decode cX10_of 120 = .ok (.iand, 1) := by decide +kernel
theorem dX10_of_121 : decode cX10_of 121 = .ok (.ireturn, 1) := by decide +kernel
theorem dX10_of_122 : decode cX10_of 122 = .ok (.aload_n 0, 1) := by decide +kernel
theorem dX10_of_123 : decode cX10_of 123 = .ok (.getfield 12, 3) := by decide +kernel
theorem dX10_of_126 : decode cX10_of 126 = .ok (.getfield 160, 3) := by decide +kernel
theorem dX10_of_129 : decode cX10_of 129 = .ok (.getfield 193, 3) := by decide +kernel
theorem dX10_of_132 : decode cX10_of 132 = .ok (.iload_n 1, 1) := by decide +kernel
theorem dX10_of_133 : decode cX10_of 133 = .ok (.iaload, 1) := by decide +kernel
theorem dX10_of_134 : decode cX10_of 134 = .ok (.ireturn, 1) := by decide +kernel
theorem dX10_of_135 : decode cX10_of 135 = .ok (.aload_n 0, 1) := by decide +kernel
theorem dX10_of_136 : decode cX10_of 136 = .ok (.invokevirtual 196, 3) := by decide +kernel
theorem dX10_of_139 : decode cX10_of 139 = .ok (.iload_n 1, 1) := by decide +kernel
theorem dX10_of_140 : decode cX10_of 140 = .ok (.ishr, 1) := by decide +kernel
theorem dX10_of_141 : decode cX10_of 141 = .ok (.iconst 1, 1) := by decide +kernel
theorem dX10_of_142 : decode cX10_of 142 = .ok (.iand, 1) := by decide +kernel
theorem dX10_of_143 : decode cX10_of 143 = .ok (.ireturn, 1) := by decide +kernel
theorem dX10_of_144 : decode cX10_of 144 = .ok (.aload_n 0, 1) := by decide +kernel
theorem dX10_of_145 : decode cX10_of 145 = .ok (.iload_n 1, 1) := by decide +kernel
theorem dX10_of_146 : decode cX10_of 146 = .ok (.invokevirtual 199, 3) := by decide +kernel
theorem dX10_of_149 : decode cX10_of 149 = .ok (.ireturn, 1) := by decide +kernel
theorem dX10_of_150 : decode cX10_of 150 = .ok (.aload_n 0, 1) := by decide +kernel
theorem dX10_of_151 : decode cX10_of 151 = .ok (.getfield 12, 3) := by decide +kernel
theorem dX10_of_154 : decode cX10_of 154 = .ok (.getfield 81, 3) := by decide +kernel
theorem dX10_of_157 : decode cX10_of 157 = .ok (.iload_n 1, 1) := by decide +kernel
theorem dX10_of_158 : decode cX10_of 158 = .ok (.iaload, 1) := by decide +kernel
theorem dX10_of_159 : decode cX10_of 159 = .ok (.ireturn, 1) := by decide +kernel
theorem dX10_of_160 : decode cX10_of 160 = .ok (.iconst (-1), 1) := by decide +kernel
theorem dX10_of_161 : decode cX10_of 161 = .ok (.ireturn, 1) := by decide +kernel
def S_X10_of (o0 : Nat) (i1 : Int32) (i2 : Int32) (μ : Me) (Q : Int32 → Me → Prop) : Prop := mok μ o0 10 ∧ ∃ t2, mgr μ o0 0 = some t2 ∧ mok μ t2 9 ∧ S_X9_isPerson t2 i1 μ (fun r6 μ4 => ((¬ r6 = 0 → ((i2 = 0 → ∃ t8, mgr μ4 o0 0 = some t8 ∧ mok μ4 t8 9 ∧ ∃ t10, mgr μ4 t8 1 = some t10 ∧ mok μ4 t10 12 ∧ vp_in i1 (mln μ4 t10) ∧ Q (mgi μ4 t10 i1.toNatClampNeg) μ4) ∧ (¬ i2 = 0 → (i2 = 1 → ∃ t13, mgr μ4 o0 0 = some t13 ∧ mok μ4 t13 9 ∧ ∃ t15, mgr μ4 t13 3 = some t15 ∧ mok μ4 t15 12 ∧ vp_in i1 (mln μ4 t15) ∧ Q (mgi μ4 t15 i1.toNatClampNeg) μ4) ∧ (¬ i2 = 1 → (i2 = 2 → ∃ t18, mgr μ4 o0 0 = some t18 ∧ mok μ4 t18 9 ∧ ∃ t20, mgr μ4 t18 4 = some t20 ∧ mok μ4 t20 12 ∧ vp_in i1 (mln μ4 t20) ∧ Q (mgi μ4 t20 i1.toNatClampNeg) μ4) ∧ (¬ i2 = 2 → (i2 = 3 → ∃ t23, mgr μ4 o0 0 = some t23 ∧ mok μ4 t23 9 ∧ ∃ t25, mgr μ4 t23 14 = some t25 ∧ mok μ4 t25 3 ∧ ∃ t27, mgr μ4 t25 5 = some t27 ∧ mok μ4 t27 12 ∧ vp_in i1 (mln μ4 t27) ∧ Q (mgi μ4 t27 i1.toNatClampNeg) μ4) ∧ (¬ i2 = 3 → (i2 = 4 → ∃ t30, mgr μ4 o0 0 = some t30 ∧ mok μ4 t30 9 ∧ ∃ t32, mgr μ4 t30 14 = some t32 ∧ mok μ4 t32 3 ∧ Q (((mgi μ4 t32 1) >>> (i1 &&& 31)) &&& 1) μ4) ∧ (¬ i2 = 4 → (i2 = 5 → ∃ t35, mgr μ4 o0 0 = some t35 ∧ mok μ4 t35 9 ∧ ∃ t37, mgr μ4 t35 14 = some t37 ∧ mok μ4 t37 3 ∧ ∃ t39, mgr μ4 t37 6 = some t39 ∧ mok μ4 t39 12 ∧ vp_in i1 (mln μ4 t39) ∧ Q (mgi μ4 t39 i1.toNatClampNeg) μ4) ∧ (¬ i2 = 5 → (i2 = 6 → S_X10_runningNow o0 μ4 (fun r44 μ42 => Q ((r44 >>> (i1 &&& 31)) &&& 1) μ42)) ∧ (¬ i2 = 6 → (i2 = 7 → S_X10_takesNow o0 i1 μ4 (fun r48 μ46 => Q r48 μ46)) ∧ (¬ i2 = 7 → (i2 = 8 → ∃ t50, mgr μ4 o0 0 = some t50 ∧ mok μ4 t50 9 ∧ ∃ t52, mgr μ4 t50 5 = some t52 ∧ mok μ4 t52 12 ∧ vp_in i1 (mln μ4 t52) ∧ Q (mgi μ4 t52 i1.toNatClampNeg) μ4) ∧ (¬ i2 = 8 → Q (-1) μ4))))))))))) ∧ (r6 = 0 → Q (-1) μ4)))
set_option maxHeartbeats 4000000 in
set_option maxRecDepth 100000 in
theorem t_X10_of {x : GX} (f : Fx x cX10_of RX10 3 (rmc 5 0 0)) {o0 : Nat} {i1 : Int32} {i2 : Int32} {μ : Me} {Q : Int32 → Me → Prop} (hq : Rt x (some .int) (qI Q)) (h : S_X10_of o0 i1 i2 μ Q) : G x 3 0 [(0, .ref (gB x + o0)), (1, .int i1), (2, .int i2)] [] μ 0 0 := by
  unfold S_X10_of at h
  refine g_aload_n f 0 dX10_of_0 rfl rfl ?_
  obtain ⟨v1, h⟩ := h
  refine g_getR f fk_X10_12 v1 dX10_of_1 rfl h (fun t2 h => ?_)
  refine g_iload_n f 1 dX10_of_4 rfl rfl ?_
  obtain ⟨v3, h⟩ := h
  refine g_callV f mk_X10_175 v3 (c_X9_isPerson h) dX10_of_5 rfl rfl (Nat.le_of_ble_eq_true rfl) (rm_ok (by decide) (by decide)) ⟨Nat.le_of_ble_eq_true rfl, Nat.le_of_ble_eq_true rfl⟩ (kI fun r6 μ4 x5 h => ?_)
  refine g_if_ne f 13 dX10_of_8 rfl h (fun h => ?_) (fun h => ?_)
  · refine g_iload_n f 2 dX10_of_13 rfl rfl ?_
    rcases dec_or h with ⟨e7, h⟩ | ⟨e7, h⟩
    · refine g_tableIn f 64 dX10_of_14 (by rw [e7] <;> decide) (by rw [e7] <;> decide) (by rw [e7] <;> rfl) rfl ?_
      refine g_aload_n f 0 dX10_of_64 rfl rfl ?_
      have v1 := mex_ok x5 v1
      refine g_getR f fk_X10_12 v1 dX10_of_65 rfl h (fun t8 h => ?_)
      obtain ⟨v9, h⟩ := h
      refine g_getR f fk_X10_178 v9 dX10_of_68 rfl h (fun t10 h => ?_)
      refine g_iload_n f 1 dX10_of_71 rfl rfl ?_
      obtain ⟨v11, h⟩ := h
      refine g_iald f v11 dX10_of_72 h (fun h => ?_)
      exact g_iret f hq (Nat.le_of_ble_eq_true rfl) (Nat.le_of_ble_eq_true rfl) dX10_of_73 h
    · skip
      rcases dec_or h with ⟨e12, h⟩ | ⟨e12, h⟩
      · refine g_tableIn f 74 dX10_of_14 (by rw [e12] <;> decide) (by rw [e12] <;> decide) (by rw [e12] <;> rfl) rfl ?_
        refine g_aload_n f 0 dX10_of_74 rfl rfl ?_
        have v1 := mex_ok x5 v1
        refine g_getR f fk_X10_12 v1 dX10_of_75 rfl h (fun t13 h => ?_)
        obtain ⟨v14, h⟩ := h
        refine g_getR f fk_X10_181 v14 dX10_of_78 rfl h (fun t15 h => ?_)
        refine g_iload_n f 1 dX10_of_81 rfl rfl ?_
        obtain ⟨v16, h⟩ := h
        refine g_iald f v16 dX10_of_82 h (fun h => ?_)
        exact g_iret f hq (Nat.le_of_ble_eq_true rfl) (Nat.le_of_ble_eq_true rfl) dX10_of_83 h
      · skip
        rcases dec_or h with ⟨e17, h⟩ | ⟨e17, h⟩
        · refine g_tableIn f 84 dX10_of_14 (by rw [e17] <;> decide) (by rw [e17] <;> decide) (by rw [e17] <;> rfl) rfl ?_
          refine g_aload_n f 0 dX10_of_84 rfl rfl ?_
          have v1 := mex_ok x5 v1
          refine g_getR f fk_X10_12 v1 dX10_of_85 rfl h (fun t18 h => ?_)
          obtain ⟨v19, h⟩ := h
          refine g_getR f fk_X10_184 v19 dX10_of_88 rfl h (fun t20 h => ?_)
          refine g_iload_n f 1 dX10_of_91 rfl rfl ?_
          obtain ⟨v21, h⟩ := h
          refine g_iald f v21 dX10_of_92 h (fun h => ?_)
          exact g_iret f hq (Nat.le_of_ble_eq_true rfl) (Nat.le_of_ble_eq_true rfl) dX10_of_93 h
        · skip
          rcases dec_or h with ⟨e22, h⟩ | ⟨e22, h⟩
          · refine g_tableIn f 94 dX10_of_14 (by rw [e22] <;> decide) (by rw [e22] <;> decide) (by rw [e22] <;> rfl) rfl ?_
            refine g_aload_n f 0 dX10_of_94 rfl rfl ?_
            have v1 := mex_ok x5 v1
            refine g_getR f fk_X10_12 v1 dX10_of_95 rfl h (fun t23 h => ?_)
            obtain ⟨v24, h⟩ := h
            refine g_getR f fk_X10_160 v24 dX10_of_98 rfl h (fun t25 h => ?_)
            obtain ⟨v26, h⟩ := h
            refine g_getR f fk_X10_187 v26 dX10_of_101 rfl h (fun t27 h => ?_)
            refine g_iload_n f 1 dX10_of_104 rfl rfl ?_
            obtain ⟨v28, h⟩ := h
            refine g_iald f v28 dX10_of_105 h (fun h => ?_)
            exact g_iret f hq (Nat.le_of_ble_eq_true rfl) (Nat.le_of_ble_eq_true rfl) dX10_of_106 h
          · skip
            rcases dec_or h with ⟨e29, h⟩ | ⟨e29, h⟩
            · refine g_tableIn f 107 dX10_of_14 (by rw [e29] <;> decide) (by rw [e29] <;> decide) (by rw [e29] <;> rfl) rfl ?_
              refine g_aload_n f 0 dX10_of_107 rfl rfl ?_
              have v1 := mex_ok x5 v1
              refine g_getR f fk_X10_12 v1 dX10_of_108 rfl h (fun t30 h => ?_)
              obtain ⟨v31, h⟩ := h
              refine g_getR f fk_X10_160 v31 dX10_of_111 rfl h (fun t32 h => ?_)
              obtain ⟨v33, h⟩ := h
              refine g_getI f fk_X10_190 v33 dX10_of_114 rfl ?_
              refine g_iload_n f 1 dX10_of_117 rfl rfl ?_
              refine g_ishr f dX10_of_118 ?_
              refine g_iconst f 1 dX10_of_119 kc_1 ?_
              refine g_iand f dX10_of_120 ?_
              exact g_iret f hq (Nat.le_of_ble_eq_true rfl) (Nat.le_of_ble_eq_true rfl) dX10_of_121 h
            · skip
              rcases dec_or h with ⟨e34, h⟩ | ⟨e34, h⟩
              · refine g_tableIn f 122 dX10_of_14 (by rw [e34] <;> decide) (by rw [e34] <;> decide) (by rw [e34] <;> rfl) rfl ?_
                refine g_aload_n f 0 dX10_of_122 rfl rfl ?_
                have v1 := mex_ok x5 v1
                refine g_getR f fk_X10_12 v1 dX10_of_123 rfl h (fun t35 h => ?_)
                obtain ⟨v36, h⟩ := h
                refine g_getR f fk_X10_160 v36 dX10_of_126 rfl h (fun t37 h => ?_)
                obtain ⟨v38, h⟩ := h
                refine g_getR f fk_X10_193 v38 dX10_of_129 rfl h (fun t39 h => ?_)
                refine g_iload_n f 1 dX10_of_132 rfl rfl ?_
                obtain ⟨v40, h⟩ := h
                refine g_iald f v40 dX10_of_133 h (fun h => ?_)
                exact g_iret f hq (Nat.le_of_ble_eq_true rfl) (Nat.le_of_ble_eq_true rfl) dX10_of_134 h
              · skip
                rcases dec_or h with ⟨e41, h⟩ | ⟨e41, h⟩
                · refine g_tableIn f 135 dX10_of_14 (by rw [e41] <;> decide) (by rw [e41] <;> decide) (by rw [e41] <;> rfl) rfl ?_
                  refine g_aload_n f 0 dX10_of_135 rfl rfl ?_
                  have v1 := mex_ok x5 v1
                  refine g_callV f mk_X10_196 v1 (c_X10_runningNow h) dX10_of_136 rfl rfl (Nat.le_of_ble_eq_true rfl) (rm_ok (by decide) (by decide)) ⟨Nat.le_of_ble_eq_true rfl, Nat.le_of_ble_eq_true rfl⟩ (kI fun r44 μ42 x43 h => ?_)
                  refine g_iload_n f 1 dX10_of_139 rfl rfl ?_
                  refine g_ishr f dX10_of_140 ?_
                  refine g_iconst f 1 dX10_of_141 kc_1 ?_
                  refine g_iand f dX10_of_142 ?_
                  exact g_iret f hq (Nat.le_of_ble_eq_true rfl) (Nat.le_of_ble_eq_true rfl) dX10_of_143 h
                · skip
                  rcases dec_or h with ⟨e45, h⟩ | ⟨e45, h⟩
                  · refine g_tableIn f 144 dX10_of_14 (by rw [e45] <;> decide) (by rw [e45] <;> decide) (by rw [e45] <;> rfl) rfl ?_
                    refine g_aload_n f 0 dX10_of_144 rfl rfl ?_
                    refine g_iload_n f 1 dX10_of_145 rfl rfl ?_
                    have v1 := mex_ok x5 v1
                    refine g_callV f mk_X10_199 v1 (c_X10_takesNow h) dX10_of_146 rfl rfl (Nat.le_of_ble_eq_true rfl) (rm_ok (by decide) (by decide)) ⟨Nat.le_of_ble_eq_true rfl, Nat.le_of_ble_eq_true rfl⟩ (kI fun r48 μ46 x47 h => ?_)
                    exact g_iret f hq (Nat.le_of_ble_eq_true rfl) (Nat.le_of_ble_eq_true rfl) dX10_of_149 h
                  · skip
                    rcases dec_or h with ⟨e49, h⟩ | ⟨e49, h⟩
                    · refine g_tableIn f 150 dX10_of_14 (by rw [e49] <;> decide) (by rw [e49] <;> decide) (by rw [e49] <;> rfl) rfl ?_
                      refine g_aload_n f 0 dX10_of_150 rfl rfl ?_
                      have v1 := mex_ok x5 v1
                      refine g_getR f fk_X10_12 v1 dX10_of_151 rfl h (fun t50 h => ?_)
                      obtain ⟨v51, h⟩ := h
                      refine g_getR f fk_X10_81 v51 dX10_of_154 rfl h (fun t52 h => ?_)
                      refine g_iload_n f 1 dX10_of_157 rfl rfl ?_
                      obtain ⟨v53, h⟩ := h
                      refine g_iald f v53 dX10_of_158 h (fun h => ?_)
                      exact g_iret f hq (Nat.le_of_ble_eq_true rfl) (Nat.le_of_ble_eq_true rfl) dX10_of_159 h
                    · skip
                      have e7 := lv_neT (a := 0) e7 (by decide)
                      have e12 := lv_neT (a := 1) e12 (by decide)
                      have e17 := lv_neT (a := 2) e17 (by decide)
                      have e22 := lv_neT (a := 3) e22 (by decide)
                      have e29 := lv_neT (a := 4) e29 (by decide)
                      have e34 := lv_neT (a := 5) e34 (by decide)
                      have e41 := lv_neT (a := 6) e41 (by decide)
                      have e45 := lv_neT (a := 7) e45 (by decide)
                      have e49 := lv_neT (a := 8) e49 (by decide)
                      refine g_tableOut f 160 dX10_of_14 (by omega) rfl ?_
                      refine g_iconst f (-1) dX10_of_160 kc_m1 ?_
                      exact g_iret f hq (Nat.le_of_ble_eq_true rfl) (Nat.le_of_ble_eq_true rfl) dX10_of_161 h
  · refine g_iconst f (-1) dX10_of_11 kc_m1 ?_
    exact g_iret f hq (Nat.le_of_ble_eq_true rfl) (Nat.le_of_ble_eq_true rfl) dX10_of_12 h
theorem c_X10_of {Ω : OM} {o0 : Nat} {i1 : Int32} {i2 : Int32} {μ : Me} {Q : Int32 → Me → Prop} (h : S_X10_of o0 i1 i2 μ Q) : CT Ω yX10_of cX10_of 3 (some .int) (rmc 5 0 0) [.ref (oB Ω + o0), .int i1, .int i2] μ (qI Q) := CT_of (by decide) rfl (by simp [lg_sl, Value.category]) (fun x hΩ f hq hi => by subst hΩ; exact t_X10_of f hq h)
theorem dX10_is_0 : decode cX10_is 0 = .ok (.iload_n 1, 1) := by decide +kernel
theorem dX10_is_1 : decode cX10_is 1 = .ok (.tableswitch 75 0 3 #[31, 42, 53, 64], 31) := by decide +kernel
theorem dX10_is_32 : decode cX10_is 32 = .ok (.aload_n 0, 1) := by decide +kernel
theorem dX10_is_33 : decode cX10_is 33 = .ok (.getfield 12, 3) := by decide +kernel
theorem dX10_is_36 : decode cX10_is 36 = .ok (.getfield 160, 3) := by decide +kernel
theorem dX10_is_39 : decode cX10_is 39 = .ok (.getfield 164, 3) := by decide +kernel
theorem dX10_is_42 : decode cX10_is 42 = .ok (.ireturn, 1) := by decide +kernel
theorem dX10_is_43 : decode cX10_is 43 = .ok (.aload_n 0, 1) := by decide +kernel
theorem dX10_is_44 : decode cX10_is 44 = .ok (.getfield 12, 3) := by decide +kernel
theorem dX10_is_47 : decode cX10_is 47 = .ok (.getfield 160, 3) := by decide +kernel
theorem dX10_is_50 : decode cX10_is 50 = .ok (.getfield 202, 3) := by decide +kernel
theorem dX10_is_53 : decode cX10_is 53 = .ok (.ireturn, 1) := by decide +kernel
theorem dX10_is_54 : decode cX10_is 54 = .ok (.aload_n 0, 1) := by decide +kernel
theorem dX10_is_55 : decode cX10_is 55 = .ok (.getfield 12, 3) := by decide +kernel
theorem dX10_is_58 : decode cX10_is 58 = .ok (.getfield 160, 3) := by decide +kernel
theorem dX10_is_61 : decode cX10_is 61 = .ok (.getfield 205, 3) := by decide +kernel
theorem dX10_is_64 : decode cX10_is 64 = .ok (.ireturn, 1) := by decide +kernel
theorem dX10_is_65 : decode cX10_is 65 = .ok (.aload_n 0, 1) := by decide +kernel
theorem dX10_is_66 : decode cX10_is 66 = .ok (.getfield 12, 3) := by decide +kernel
theorem dX10_is_69 : decode cX10_is 69 = .ok (.getfield 160, 3) := by decide +kernel
theorem dX10_is_72 : decode cX10_is 72 = .ok (.getfield 208, 3) := by decide +kernel
theorem dX10_is_75 : decode cX10_is 75 = .ok (.ireturn, 1) := by decide +kernel
theorem dX10_is_76 : decode cX10_is 76 = .ok (.bipush (-2), 2) := by decide +kernel
theorem dX10_is_78 : decode cX10_is 78 = .ok (.ireturn, 1) := by decide +kernel
def S_X10_is (o0 : Nat) (i1 : Int32) (μ : Me) (Q : Int32 → Me → Prop) : Prop := ((i1 = 0 → mok μ o0 10 ∧ ∃ t3, mgr μ o0 0 = some t3 ∧ mok μ t3 9 ∧ ∃ t5, mgr μ t3 14 = some t5 ∧ mok μ t5 3 ∧ Q (mgi μ t5 3) μ) ∧ (¬ i1 = 0 → (i1 = 1 → mok μ o0 10 ∧ ∃ t9, mgr μ o0 0 = some t9 ∧ mok μ t9 9 ∧ ∃ t11, mgr μ t9 14 = some t11 ∧ mok μ t11 3 ∧ Q (mgi μ t11 0) μ) ∧ (¬ i1 = 1 → (i1 = 2 → mok μ o0 10 ∧ ∃ t15, mgr μ o0 0 = some t15 ∧ mok μ t15 9 ∧ ∃ t17, mgr μ t15 14 = some t17 ∧ mok μ t17 3 ∧ Q (mgi μ t17 2) μ) ∧ (¬ i1 = 2 → (i1 = 3 → mok μ o0 10 ∧ ∃ t21, mgr μ o0 0 = some t21 ∧ mok μ t21 9 ∧ ∃ t23, mgr μ t21 14 = some t23 ∧ mok μ t23 3 ∧ Q (mgi μ t23 4) μ) ∧ (¬ i1 = 3 → Q (-2) μ)))))
set_option maxHeartbeats 4000000 in
set_option maxRecDepth 100000 in
theorem t_X10_is {x : GX} (f : Fx x cX10_is RX10 2 (rmc 0 0 0)) {o0 : Nat} {i1 : Int32} {μ : Me} {Q : Int32 → Me → Prop} (hq : Rt x (some .int) (qI Q)) (h : S_X10_is o0 i1 μ Q) : G x 2 0 [(0, .ref (gB x + o0)), (1, .int i1)] [] μ 0 0 := by
  unfold S_X10_is at h
  refine g_iload_n f 1 dX10_is_0 rfl rfl ?_
  rcases dec_or h with ⟨e1, h⟩ | ⟨e1, h⟩
  · refine g_tableIn f 32 dX10_is_1 (by rw [e1] <;> decide) (by rw [e1] <;> decide) (by rw [e1] <;> rfl) rfl ?_
    refine g_aload_n f 0 dX10_is_32 rfl rfl ?_
    obtain ⟨v2, h⟩ := h
    refine g_getR f fk_X10_12 v2 dX10_is_33 rfl h (fun t3 h => ?_)
    obtain ⟨v4, h⟩ := h
    refine g_getR f fk_X10_160 v4 dX10_is_36 rfl h (fun t5 h => ?_)
    obtain ⟨v6, h⟩ := h
    refine g_getI f fk_X10_164 v6 dX10_is_39 rfl ?_
    exact g_iret f hq (Nat.le_of_ble_eq_true rfl) (Nat.le_of_ble_eq_true rfl) dX10_is_42 h
  · skip
    rcases dec_or h with ⟨e7, h⟩ | ⟨e7, h⟩
    · refine g_tableIn f 43 dX10_is_1 (by rw [e7] <;> decide) (by rw [e7] <;> decide) (by rw [e7] <;> rfl) rfl ?_
      refine g_aload_n f 0 dX10_is_43 rfl rfl ?_
      obtain ⟨v8, h⟩ := h
      refine g_getR f fk_X10_12 v8 dX10_is_44 rfl h (fun t9 h => ?_)
      obtain ⟨v10, h⟩ := h
      refine g_getR f fk_X10_160 v10 dX10_is_47 rfl h (fun t11 h => ?_)
      obtain ⟨v12, h⟩ := h
      refine g_getI f fk_X10_202 v12 dX10_is_50 rfl ?_
      exact g_iret f hq (Nat.le_of_ble_eq_true rfl) (Nat.le_of_ble_eq_true rfl) dX10_is_53 h
    · skip
      rcases dec_or h with ⟨e13, h⟩ | ⟨e13, h⟩
      · refine g_tableIn f 54 dX10_is_1 (by rw [e13] <;> decide) (by rw [e13] <;> decide) (by rw [e13] <;> rfl) rfl ?_
        refine g_aload_n f 0 dX10_is_54 rfl rfl ?_
        obtain ⟨v14, h⟩ := h
        refine g_getR f fk_X10_12 v14 dX10_is_55 rfl h (fun t15 h => ?_)
        obtain ⟨v16, h⟩ := h
        refine g_getR f fk_X10_160 v16 dX10_is_58 rfl h (fun t17 h => ?_)
        obtain ⟨v18, h⟩ := h
        refine g_getI f fk_X10_205 v18 dX10_is_61 rfl ?_
        exact g_iret f hq (Nat.le_of_ble_eq_true rfl) (Nat.le_of_ble_eq_true rfl) dX10_is_64 h
      · skip
        rcases dec_or h with ⟨e19, h⟩ | ⟨e19, h⟩
        · refine g_tableIn f 65 dX10_is_1 (by rw [e19] <;> decide) (by rw [e19] <;> decide) (by rw [e19] <;> rfl) rfl ?_
          refine g_aload_n f 0 dX10_is_65 rfl rfl ?_
          obtain ⟨v20, h⟩ := h
          refine g_getR f fk_X10_12 v20 dX10_is_66 rfl h (fun t21 h => ?_)
          obtain ⟨v22, h⟩ := h
          refine g_getR f fk_X10_160 v22 dX10_is_69 rfl h (fun t23 h => ?_)
          obtain ⟨v24, h⟩ := h
          refine g_getI f fk_X10_208 v24 dX10_is_72 rfl ?_
          exact g_iret f hq (Nat.le_of_ble_eq_true rfl) (Nat.le_of_ble_eq_true rfl) dX10_is_75 h
        · skip
          have e1 := lv_neT (a := 0) e1 (by decide)
          have e7 := lv_neT (a := 1) e7 (by decide)
          have e13 := lv_neT (a := 2) e13 (by decide)
          have e19 := lv_neT (a := 3) e19 (by decide)
          refine g_tableOut f 76 dX10_is_1 (by omega) rfl ?_
          refine g_bipush f (-2) dX10_is_76 kb_m2 ?_
          exact g_iret f hq (Nat.le_of_ble_eq_true rfl) (Nat.le_of_ble_eq_true rfl) dX10_is_78 h
theorem c_X10_is {Ω : OM} {o0 : Nat} {i1 : Int32} {μ : Me} {Q : Int32 → Me → Prop} (h : S_X10_is o0 i1 μ Q) : CT Ω yX10_is cX10_is 2 (some .int) (rmc 0 0 0) [.ref (oB Ω + o0), .int i1] μ (qI Q) := CT_of (by decide) rfl (by simp [lg_sl, Value.category]) (fun x hΩ f hq hi => by subst hΩ; exact t_X10_is f hq h)
theorem dX10_book_0 : decode cX10_book 0 = .ok (.iload_n 1, 1) := by decide +kernel
theorem dX10_book_1 : decode cX10_book 1 = .ok (.iconst (-1), 1) := by decide +kernel
theorem dX10_book_2 : decode cX10_book 2 = .ok (.if_icmp .ne 14, 3) := by decide +kernel
theorem dX10_book_5 : decode cX10_book 5 = .ok (.aload_n 0, 1) := by decide +kernel
theorem dX10_book_6 : decode cX10_book 6 = .ok (.getfield 12, 3) := by decide +kernel
theorem dX10_book_9 : decode cX10_book 9 = .ok (.getfield 160, 3) := by decide +kernel
theorem dX10_book_12 : decode cX10_book 12 = .ok (.getfield 211, 3) := by decide +kernel
theorem dX10_book_15 : decode cX10_book 15 = .ok (.ireturn, 1) := by decide +kernel
theorem dX10_book_16 : decode cX10_book 16 = .ok (.iload_n 1, 1) := by decide +kernel
theorem dX10_book_17 : decode cX10_book 17 = .ok (.ifCond .lt 26, 3) := by decide +kernel
theorem dX10_book_20 : decode cX10_book 20 = .ok (.iload_n 1, 1) := by decide +kernel
theorem dX10_book_21 : decode cX10_book 21 = .ok (.aload_n 0, 1) := by decide +kernel
theorem dX10_book_22 : decode cX10_book 22 = .ok (.getfield 12, 3) := by decide +kernel
theorem dX10_book_25 : decode cX10_book 25 = .ok (.getfield 160, 3) := by decide +kernel
theorem dX10_book_28 : decode cX10_book 28 = .ok (.getfield 211, 3) := by decide +kernel
theorem dX10_book_31 : decode cX10_book 31 = .ok (.if_icmp .ge 12, 3) := by decide +kernel
theorem dX10_book_34 : decode cX10_book 34 = .ok (.iload_n 2, 1) := by decide +kernel
theorem dX10_book_35 : decode cX10_book 35 = .ok (.ifCond .lt 8, 3) := by decide +kernel
theorem dX10_book_38 : decode cX10_book 38 = .ok (.iload_n 2, 1) := by decide +kernel
theorem dX10_book_39 : decode cX10_book 39 = .ok (.iconst 3, 1) := by decide +kernel
theorem dX10_book_40 : decode cX10_book 40 = .ok (.if_icmp .le 6, 3) := by decide +kernel
theorem dX10_book_43 : decode cX10_book 43 = .ok (.bipush (-2), 2) := by decide +kernel
theorem dX10_book_45 : decode cX10_book 45 = .ok (.ireturn, 1) := by decide +kernel
theorem dX10_book_46 : decode cX10_book 46 = .ok (.aload_n 0, 1) := by decide +kernel
theorem dX10_book_47 : decode cX10_book 47 = .ok (.getfield 12, 3) := by decide +kernel
theorem dX10_book_50 : decode cX10_book 50 = .ok (.getfield 160, 3) := by decide +kernel
theorem dX10_book_53 : decode cX10_book 53 = .ok (.iload_n 1, 1) := by decide +kernel
theorem dX10_book_54 : decode cX10_book 54 = .ok (.iload_n 2, 1) := by decide +kernel
theorem dX10_book_55 : decode cX10_book 55 = .ok (.invokevirtual 214, 3) := by decide +kernel
theorem dX10_book_58 : decode cX10_book 58 = .ok (.ireturn, 1) := by decide +kernel
def S_X10_book (o0 : Nat) (i1 : Int32) (i2 : Int32) (μ : Me) (Q : Int32 → Me → Prop) : Prop := ((¬ i1 = (-1) → ((i1 < 0 → Q (-2) μ) ∧ (¬ i1 < 0 → mok μ o0 10 ∧ ∃ t2, mgr μ o0 0 = some t2 ∧ mok μ t2 9 ∧ ∃ t4, mgr μ t2 14 = some t4 ∧ mok μ t4 3 ∧ (((mgi μ t4 8) ≤ i1 → Q (-2) μ) ∧ (¬ (mgi μ t4 8) ≤ i1 → ((i2 < 0 → Q (-2) μ) ∧ (¬ i2 < 0 → ((i2 ≤ 3 → ∃ t6, mgr μ o0 0 = some t6 ∧ mok μ t6 9 ∧ ∃ t8, mgr μ t6 14 = some t8 ∧ mok μ t8 3 ∧ S_X3_written t8 i1 i2 μ (fun r12 μ10 => Q r12 μ10)) ∧ (¬ i2 ≤ 3 → Q (-2) μ))))))))) ∧ (i1 = (-1) → mok μ o0 10 ∧ ∃ t14, mgr μ o0 0 = some t14 ∧ mok μ t14 9 ∧ ∃ t16, mgr μ t14 14 = some t16 ∧ mok μ t16 3 ∧ Q (mgi μ t16 8) μ))
set_option maxHeartbeats 4000000 in
set_option maxRecDepth 100000 in
theorem t_X10_book {x : GX} (f : Fx x cX10_book RX10 3 (rmc 1 0 0)) {o0 : Nat} {i1 : Int32} {i2 : Int32} {μ : Me} {Q : Int32 → Me → Prop} (hq : Rt x (some .int) (qI Q)) (h : S_X10_book o0 i1 i2 μ Q) : G x 3 0 [(0, .ref (gB x + o0)), (1, .int i1), (2, .int i2)] [] μ 0 0 := by
  unfold S_X10_book at h
  refine g_iload_n f 1 dX10_book_0 rfl rfl ?_
  refine g_iconst f (-1) dX10_book_1 kc_m1 ?_
  refine g_ic_ne f 16 dX10_book_2 rfl h (fun h => ?_) (fun h => ?_)
  · refine g_iload_n f 1 dX10_book_16 rfl rfl ?_
    refine g_if_lt f 43 dX10_book_17 rfl h (fun h => ?_) (fun h => ?_)
    · refine g_bipush f (-2) dX10_book_43 kb_m2 ?_
      exact g_iret f hq (Nat.le_of_ble_eq_true rfl) (Nat.le_of_ble_eq_true rfl) dX10_book_45 h
    · refine g_iload_n f 1 dX10_book_20 rfl rfl ?_
      refine g_aload_n f 0 dX10_book_21 rfl rfl ?_
      obtain ⟨v1, h⟩ := h
      refine g_getR f fk_X10_12 v1 dX10_book_22 rfl h (fun t2 h => ?_)
      obtain ⟨v3, h⟩ := h
      refine g_getR f fk_X10_160 v3 dX10_book_25 rfl h (fun t4 h => ?_)
      obtain ⟨v5, h⟩ := h
      refine g_getI f fk_X10_211 v5 dX10_book_28 rfl ?_
      refine g_ic_ge f 43 dX10_book_31 rfl h (fun h => ?_) (fun h => ?_)
      · refine g_bipush f (-2) dX10_book_43 kb_m2 ?_
        exact g_iret f hq (Nat.le_of_ble_eq_true rfl) (Nat.le_of_ble_eq_true rfl) dX10_book_45 h
      · refine g_iload_n f 2 dX10_book_34 rfl rfl ?_
        refine g_if_lt f 43 dX10_book_35 rfl h (fun h => ?_) (fun h => ?_)
        · refine g_bipush f (-2) dX10_book_43 kb_m2 ?_
          exact g_iret f hq (Nat.le_of_ble_eq_true rfl) (Nat.le_of_ble_eq_true rfl) dX10_book_45 h
        · refine g_iload_n f 2 dX10_book_38 rfl rfl ?_
          refine g_iconst f 3 dX10_book_39 kc_3 ?_
          refine g_ic_le f 46 dX10_book_40 rfl h (fun h => ?_) (fun h => ?_)
          · refine g_aload_n f 0 dX10_book_46 rfl rfl ?_
            refine g_getR f fk_X10_12 v1 dX10_book_47 rfl h (fun t6 h => ?_)
            obtain ⟨v7, h⟩ := h
            refine g_getR f fk_X10_160 v7 dX10_book_50 rfl h (fun t8 h => ?_)
            refine g_iload_n f 1 dX10_book_53 rfl rfl ?_
            refine g_iload_n f 2 dX10_book_54 rfl rfl ?_
            obtain ⟨v9, h⟩ := h
            refine g_callV f mk_X10_214 v9 (c_X3_written h) dX10_book_55 rfl rfl (Nat.le_of_ble_eq_true rfl) (rm_ok (by decide) (by decide)) ⟨Nat.le_of_ble_eq_true rfl, Nat.le_of_ble_eq_true rfl⟩ (kI fun r12 μ10 x11 h => ?_)
            exact g_iret f hq (Nat.le_of_ble_eq_true rfl) (Nat.le_of_ble_eq_true rfl) dX10_book_58 h
          · refine g_bipush f (-2) dX10_book_43 kb_m2 ?_
            exact g_iret f hq (Nat.le_of_ble_eq_true rfl) (Nat.le_of_ble_eq_true rfl) dX10_book_45 h
  · refine g_aload_n f 0 dX10_book_5 rfl rfl ?_
    obtain ⟨v13, h⟩ := h
    refine g_getR f fk_X10_12 v13 dX10_book_6 rfl h (fun t14 h => ?_)
    obtain ⟨v15, h⟩ := h
    refine g_getR f fk_X10_160 v15 dX10_book_9 rfl h (fun t16 h => ?_)
    obtain ⟨v17, h⟩ := h
    refine g_getI f fk_X10_211 v17 dX10_book_12 rfl ?_
    exact g_iret f hq (Nat.le_of_ble_eq_true rfl) (Nat.le_of_ble_eq_true rfl) dX10_book_15 h
theorem c_X10_book {Ω : OM} {o0 : Nat} {i1 : Int32} {i2 : Int32} {μ : Me} {Q : Int32 → Me → Prop} (h : S_X10_book o0 i1 i2 μ Q) : CT Ω yX10_book cX10_book 3 (some .int) (rmc 1 0 0) [.ref (oB Ω + o0), .int i1, .int i2] μ (qI Q) := CT_of (by decide) rfl (by simp [lg_sl, Value.category]) (fun x hΩ f hq hi => by subst hΩ; exact t_X10_book f hq h)
theorem dX10_foretold_0 : decode cX10_foretold 0 = .ok (.iload_n 1, 1) := by decide +kernel
theorem dX10_foretold_1 : decode cX10_foretold 1 = .ok (.iconst 1, 1) := by decide +kernel
theorem dX10_foretold_2 : decode cX10_foretold 2 = .ok (.if_icmp .lt 18, 3) := by decide +kernel
theorem dX10_foretold_5 : decode cX10_foretold 5 = .ok (.iload_n 1, 1) := by decide +kernel
theorem dX10_foretold_6 : decode cX10_foretold 6 = .ok (.bipush 60, 2) := by decide +kernel
theorem dX10_foretold_8 : decode cX10_foretold 8 = .ok (.if_icmp .gt 12, 3) := by decide +kernel
theorem dX10_foretold_11 : decode cX10_foretold 11 = .ok (.iload_n 2, 1) := by decide +kernel
theorem dX10_foretold_12 : decode cX10_foretold 12 = .ok (.ifCond .lt 8, 3) := by decide +kernel
theorem dX10_foretold_15 : decode cX10_foretold 15 = .ok (.iload_n 2, 1) := by decide +kernel
theorem dX10_foretold_16 : decode cX10_foretold 16 = .ok (.iconst 2, 1) := by decide +kernel
theorem dX10_foretold_17 : decode cX10_foretold 17 = .ok (.if_icmp .le 5, 3) := by decide +kernel
theorem dX10_foretold_20 : decode cX10_foretold 20 = .ok (.iconst (-1), 1) := by decide +kernel
theorem dX10_foretold_21 : decode cX10_foretold 21 = .ok (.ireturn, 1) := by decide +kernel
theorem dX10_foretold_22 : decode cX10_foretold 22 = .ok (.aload_n 0, 1) := by decide +kernel
theorem dX10_foretold_23 : decode cX10_foretold 23 = .ok (.getfield 54, 3) := by decide +kernel
theorem dX10_foretold_26 : decode cX10_foretold 26 = .ok (.iload_n 1, 1) := by decide +kernel
theorem dX10_foretold_27 : decode cX10_foretold 27 = .ok (.iload_n 2, 1) := by decide +kernel
theorem dX10_foretold_28 : decode cX10_foretold 28 = .ok (.invokevirtual 218, 3) := by decide +kernel
theorem dX10_foretold_31 : decode cX10_foretold 31 = .ok (.ireturn, 1) := by decide +kernel
def S_X10_foretold (o0 : Nat) (i1 : Int32) (i2 : Int32) (μ : Me) (Q : Int32 → Me → Prop) : Prop := ((i1 < 1 → Q (-1) μ) ∧ (¬ i1 < 1 → ((60 < i1 → Q (-1) μ) ∧ (¬ 60 < i1 → ((i2 < 0 → Q (-1) μ) ∧ (¬ i2 < 0 → ((i2 ≤ 2 → mok μ o0 10 ∧ ∃ t2, mgr μ o0 6 = some t2 ∧ mok μ t2 1 ∧ S_X1_foretell t2 i1 i2 μ (fun r6 μ4 => Q r6 μ4)) ∧ (¬ i2 ≤ 2 → Q (-1) μ))))))))
set_option maxHeartbeats 4000000 in
set_option maxRecDepth 100000 in
theorem t_X10_foretold {x : GX} (f : Fx x cX10_foretold RX10 3 (rmc 6 0 0)) {o0 : Nat} {i1 : Int32} {i2 : Int32} {μ : Me} {Q : Int32 → Me → Prop} (hq : Rt x (some .int) (qI Q)) (h : S_X10_foretold o0 i1 i2 μ Q) : G x 3 0 [(0, .ref (gB x + o0)), (1, .int i1), (2, .int i2)] [] μ 0 0 := by
  unfold S_X10_foretold at h
  refine g_iload_n f 1 dX10_foretold_0 rfl rfl ?_
  refine g_iconst f 1 dX10_foretold_1 kc_1 ?_
  refine g_ic_lt f 20 dX10_foretold_2 rfl h (fun h => ?_) (fun h => ?_)
  · refine g_iconst f (-1) dX10_foretold_20 kc_m1 ?_
    exact g_iret f hq (Nat.le_of_ble_eq_true rfl) (Nat.le_of_ble_eq_true rfl) dX10_foretold_21 h
  · refine g_iload_n f 1 dX10_foretold_5 rfl rfl ?_
    refine g_bipush f 60 dX10_foretold_6 kb_60 ?_
    refine g_ic_gt f 20 dX10_foretold_8 rfl h (fun h => ?_) (fun h => ?_)
    · refine g_iconst f (-1) dX10_foretold_20 kc_m1 ?_
      exact g_iret f hq (Nat.le_of_ble_eq_true rfl) (Nat.le_of_ble_eq_true rfl) dX10_foretold_21 h
    · refine g_iload_n f 2 dX10_foretold_11 rfl rfl ?_
      refine g_if_lt f 20 dX10_foretold_12 rfl h (fun h => ?_) (fun h => ?_)
      · refine g_iconst f (-1) dX10_foretold_20 kc_m1 ?_
        exact g_iret f hq (Nat.le_of_ble_eq_true rfl) (Nat.le_of_ble_eq_true rfl) dX10_foretold_21 h
      · refine g_iload_n f 2 dX10_foretold_15 rfl rfl ?_
        refine g_iconst f 2 dX10_foretold_16 kc_2 ?_
        refine g_ic_le f 22 dX10_foretold_17 rfl h (fun h => ?_) (fun h => ?_)
        · refine g_aload_n f 0 dX10_foretold_22 rfl rfl ?_
          obtain ⟨v1, h⟩ := h
          refine g_getR f fk_X10_54 v1 dX10_foretold_23 rfl h (fun t2 h => ?_)
          refine g_iload_n f 1 dX10_foretold_26 rfl rfl ?_
          refine g_iload_n f 2 dX10_foretold_27 rfl rfl ?_
          obtain ⟨v3, h⟩ := h
          refine g_callV f mk_X10_218 v3 (c_X1_foretell h) dX10_foretold_28 rfl rfl (Nat.le_of_ble_eq_true rfl) (rm_ok (by decide) (by decide)) ⟨Nat.le_of_ble_eq_true rfl, Nat.le_of_ble_eq_true rfl⟩ (kI fun r6 μ4 x5 h => ?_)
          exact g_iret f hq (Nat.le_of_ble_eq_true rfl) (Nat.le_of_ble_eq_true rfl) dX10_foretold_31 h
        · refine g_iconst f (-1) dX10_foretold_20 kc_m1 ?_
          exact g_iret f hq (Nat.le_of_ble_eq_true rfl) (Nat.le_of_ble_eq_true rfl) dX10_foretold_21 h
theorem c_X10_foretold {Ω : OM} {o0 : Nat} {i1 : Int32} {i2 : Int32} {μ : Me} {Q : Int32 → Me → Prop} (h : S_X10_foretold o0 i1 i2 μ Q) : CT Ω yX10_foretold cX10_foretold 3 (some .int) (rmc 6 0 0) [.ref (oB Ω + o0), .int i1, .int i2] μ (qI Q) := CT_of (by decide) rfl (by simp [lg_sl, Value.category]) (fun x hΩ f hq hi => by subst hΩ; exact t_X10_foretold f hq h)
theorem dX10_late_0 : decode cX10_late 0 = .ok (.aload_n 0, 1) := by decide +kernel
theorem dX10_late_1 : decode cX10_late 1 = .ok (.getfield 12, 3) := by decide +kernel
theorem dX10_late_4 : decode cX10_late 4 = .ok (.iload_n 1, 1) := by decide +kernel
theorem dX10_late_5 : decode cX10_late 5 = .ok (.invokevirtual 221, 3) := by decide +kernel
theorem dX10_late_8 : decode cX10_late 8 = .ok (.ifCond .ne 5, 3) := by decide +kernel
theorem dX10_late_11 : decode cX10_late 11 = .ok (.iconst (-1), 1) := by decide +kernel
theorem dX10_late_12 : decode cX10_late 12 = .ok (.ireturn, 1) := by decide +kernel
theorem dX10_late_13 : decode cX10_late 13 = .ok (.aload_n 0, 1) := by decide +kernel
theorem dX10_late_14 : decode cX10_late 14 = .ok (.getfield 61, 3) := by decide +kernel
theorem dX10_late_17 : decode cX10_late 17 = .ok (.iload_n 1, 1) := by decide +kernel
theorem dX10_late_18 : decode cX10_late 18 = .ok (.invokevirtual 224, 3) := by decide +kernel
theorem dX10_late_21 : decode cX10_late 21 = .ok (.ireturn, 1) := by decide +kernel
def S_X10_late (o0 : Nat) (i1 : Int32) (μ : Me) (Q : Int32 → Me → Prop) : Prop := mok μ o0 10 ∧ ∃ t2, mgr μ o0 0 = some t2 ∧ mok μ t2 9 ∧ S_X9_areRings t2 i1 μ (fun r6 μ4 => ((¬ r6 = 0 → ∃ t7, mgr μ4 o0 7 = some t7 ∧ mok μ4 t7 2 ∧ S_X2_next t7 i1 μ4 (fun r11 μ9 => Q r11 μ9)) ∧ (r6 = 0 → Q (-1) μ4)))
set_option maxHeartbeats 4000000 in
set_option maxRecDepth 100000 in
theorem t_X10_late {x : GX} (f : Fx x cX10_late RX10 2 (rmc 5 0 0)) {o0 : Nat} {i1 : Int32} {μ : Me} {Q : Int32 → Me → Prop} (hq : Rt x (some .int) (qI Q)) (h : S_X10_late o0 i1 μ Q) : G x 2 0 [(0, .ref (gB x + o0)), (1, .int i1)] [] μ 0 0 := by
  unfold S_X10_late at h
  refine g_aload_n f 0 dX10_late_0 rfl rfl ?_
  obtain ⟨v1, h⟩ := h
  refine g_getR f fk_X10_12 v1 dX10_late_1 rfl h (fun t2 h => ?_)
  refine g_iload_n f 1 dX10_late_4 rfl rfl ?_
  obtain ⟨v3, h⟩ := h
  refine g_callV f mk_X10_221 v3 (c_X9_areRings h) dX10_late_5 rfl rfl (Nat.le_of_ble_eq_true rfl) (rm_ok (by decide) (by decide)) ⟨Nat.le_of_ble_eq_true rfl, Nat.le_of_ble_eq_true rfl⟩ (kI fun r6 μ4 x5 h => ?_)
  refine g_if_ne f 13 dX10_late_8 rfl h (fun h => ?_) (fun h => ?_)
  · refine g_aload_n f 0 dX10_late_13 rfl rfl ?_
    have v1 := mex_ok x5 v1
    refine g_getR f fk_X10_61 v1 dX10_late_14 rfl h (fun t7 h => ?_)
    refine g_iload_n f 1 dX10_late_17 rfl rfl ?_
    obtain ⟨v8, h⟩ := h
    refine g_callV f mk_X10_224 v8 (c_X2_next h) dX10_late_18 rfl rfl (Nat.le_of_ble_eq_true rfl) (rm_ok (by decide) (by decide)) ⟨Nat.le_of_ble_eq_true rfl, Nat.le_of_ble_eq_true rfl⟩ (kI fun r11 μ9 x10 h => ?_)
    exact g_iret f hq (Nat.le_of_ble_eq_true rfl) (Nat.le_of_ble_eq_true rfl) dX10_late_21 h
  · refine g_iconst f (-1) dX10_late_11 kc_m1 ?_
    exact g_iret f hq (Nat.le_of_ble_eq_true rfl) (Nat.le_of_ble_eq_true rfl) dX10_late_12 h
theorem c_X10_late {Ω : OM} {o0 : Nat} {i1 : Int32} {μ : Me} {Q : Int32 → Me → Prop} (h : S_X10_late o0 i1 μ Q) : CT Ω yX10_late cX10_late 2 (some .int) (rmc 5 0 0) [.ref (oB Ω + o0), .int i1] μ (qI Q) := CT_of (by decide) rfl (by simp [lg_sl, Value.category]) (fun x hΩ f hq hi => by subst hΩ; exact t_X10_late f hq h)
theorem dX10_runners_0 : decode cX10_runners 0 = .ok (.aload_n 0, 1) := by decide +kernel
theorem dX10_runners_1 : decode cX10_runners 1 = .ok (.getfield 12, 3) := by decide +kernel
theorem dX10_runners_4 : decode cX10_runners 4 = .ok (.iload_n 1, 1) := by decide +kernel
theorem dX10_runners_5 : decode cX10_runners 5 = .ok (.invokevirtual 221, 3) := by decide +kernel
theorem dX10_runners_8 : decode cX10_runners 8 = .ok (.ifCond .ne 5, 3) := by decide +kernel
theorem dX10_runners_11 : decode cX10_runners 11 = .ok (.iconst (-1), 1) := by decide +kernel
theorem dX10_runners_12 : decode cX10_runners 12 = .ok (.ireturn, 1) := by decide +kernel
theorem dX10_runners_13 : decode cX10_runners 13 = .ok (.aload_n 0, 1) := by decide +kernel
theorem dX10_runners_14 : decode cX10_runners 14 = .ok (.getfield 45, 3) := by decide +kernel
theorem dX10_runners_17 : decode cX10_runners 17 = .ok (.invokevirtual 227, 3) := by decide +kernel
theorem dX10_runners_20 : decode cX10_runners 20 = .ok (.aload_n 0, 1) := by decide +kernel
theorem dX10_runners_21 : decode cX10_runners 21 = .ok (.getfield 45, 3) := by decide +kernel
theorem dX10_runners_24 : decode cX10_runners 24 = .ok (.iload_n 1, 1) := by decide +kernel
theorem dX10_runners_25 : decode cX10_runners 25 = .ok (.invokevirtual 230, 3) := by decide +kernel
theorem dX10_runners_28 : decode cX10_runners 28 = .ok (.ireturn, 1) := by decide +kernel
def S_X10_runners (o0 : Nat) (i1 : Int32) (μ : Me) (Q : Int32 → Me → Prop) : Prop := mok μ o0 10 ∧ ∃ t2, mgr μ o0 0 = some t2 ∧ mok μ t2 9 ∧ S_X9_areRings t2 i1 μ (fun r6 μ4 => ((¬ r6 = 0 → ∃ t7, mgr μ4 o0 5 = some t7 ∧ mok μ4 t7 4 ∧ S_X4_asNow t7 μ4 (fun μ9 => ∃ t12, mgr μ9 o0 5 = some t12 ∧ mok μ9 t12 4 ∧ S_X4_runningBy t12 i1 μ9 (fun r16 μ14 => Q r16 μ14))) ∧ (r6 = 0 → Q (-1) μ4)))
set_option maxHeartbeats 4000000 in
set_option maxRecDepth 100000 in
theorem t_X10_runners {x : GX} (f : Fx x cX10_runners RX10 2 (rmc 3 0 0)) {o0 : Nat} {i1 : Int32} {μ : Me} {Q : Int32 → Me → Prop} (hq : Rt x (some .int) (qI Q)) (h : S_X10_runners o0 i1 μ Q) : G x 2 0 [(0, .ref (gB x + o0)), (1, .int i1)] [] μ 0 0 := by
  unfold S_X10_runners at h
  refine g_aload_n f 0 dX10_runners_0 rfl rfl ?_
  obtain ⟨v1, h⟩ := h
  refine g_getR f fk_X10_12 v1 dX10_runners_1 rfl h (fun t2 h => ?_)
  refine g_iload_n f 1 dX10_runners_4 rfl rfl ?_
  obtain ⟨v3, h⟩ := h
  refine g_callV f mk_X10_221 v3 (c_X9_areRings h) dX10_runners_5 rfl rfl (Nat.le_of_ble_eq_true rfl) (rm_ok (by decide) (by decide)) ⟨Nat.le_of_ble_eq_true rfl, Nat.le_of_ble_eq_true rfl⟩ (kI fun r6 μ4 x5 h => ?_)
  refine g_if_ne f 13 dX10_runners_8 rfl h (fun h => ?_) (fun h => ?_)
  · refine g_aload_n f 0 dX10_runners_13 rfl rfl ?_
    have v1 := mex_ok x5 v1
    refine g_getR f fk_X10_45 v1 dX10_runners_14 rfl h (fun t7 h => ?_)
    obtain ⟨v8, h⟩ := h
    refine g_callV f mk_X10_227 v8 (c_X4_asNow h) dX10_runners_17 rfl rfl (Nat.le_of_ble_eq_true rfl) (rm_ok (by decide) (by decide)) ⟨Nat.le_of_ble_eq_true rfl, Nat.le_of_ble_eq_true rfl⟩ (kV fun μ9 x10 h => ?_)
    refine g_aload_n f 0 dX10_runners_20 rfl rfl ?_
    have v1 := mex_ok x10 v1
    refine g_getR f fk_X10_45 v1 dX10_runners_21 rfl h (fun t12 h => ?_)
    refine g_iload_n f 1 dX10_runners_24 rfl rfl ?_
    obtain ⟨v13, h⟩ := h
    refine g_callV f mk_X10_230 v13 (c_X4_runningBy h) dX10_runners_25 rfl rfl (Nat.le_of_ble_eq_true rfl) (rm_ok (by decide) (by decide)) ⟨Nat.le_of_ble_eq_true rfl, Nat.le_of_ble_eq_true rfl⟩ (kI fun r16 μ14 x15 h => ?_)
    exact g_iret f hq (Nat.le_of_ble_eq_true rfl) (Nat.le_of_ble_eq_true rfl) dX10_runners_28 h
  · refine g_iconst f (-1) dX10_runners_11 kc_m1 ?_
    exact g_iret f hq (Nat.le_of_ble_eq_true rfl) (Nat.le_of_ble_eq_true rfl) dX10_runners_12 h
theorem c_X10_runners {Ω : OM} {o0 : Nat} {i1 : Int32} {μ : Me} {Q : Int32 → Me → Prop} (h : S_X10_runners o0 i1 μ Q) : CT Ω yX10_runners cX10_runners 2 (some .int) (rmc 3 0 0) [.ref (oB Ω + o0), .int i1] μ (qI Q) := CT_of (by decide) rfl (by simp [lg_sl, Value.category]) (fun x hΩ f hq hi => by subst hΩ; exact t_X10_runners f hq h)
theorem dX10_settled_0 : decode cX10_settled 0 = .ok (.iload_n 1, 1) := by decide +kernel
theorem dX10_settled_1 : decode cX10_settled 1 = .ok (.iconst (-1), 1) := by decide +kernel
theorem dX10_settled_2 : decode cX10_settled 2 = .ok (.if_icmp .ne 11, 3) := by decide +kernel
theorem dX10_settled_5 : decode cX10_settled 5 = .ok (.aload_n 0, 1) := by decide +kernel
theorem dX10_settled_6 : decode cX10_settled 6 = .ok (.getfield 61, 3) := by decide +kernel
theorem dX10_settled_9 : decode cX10_settled 9 = .ok (.invokevirtual 233, 3) := by decide +kernel
theorem dX10_settled_12 : decode cX10_settled 12 = .ok (.ireturn, 1) := by decide +kernel
theorem dX10_settled_13 : decode cX10_settled 13 = .ok (.aload_n 0, 1) := by decide +kernel
theorem dX10_settled_14 : decode cX10_settled 14 = .ok (.getfield 61, 3) := by decide +kernel
theorem dX10_settled_17 : decode cX10_settled 17 = .ok (.iload_n 1, 1) := by decide +kernel
theorem dX10_settled_18 : decode cX10_settled 18 = .ok (.invokevirtual 236, 3) := by decide +kernel
theorem dX10_settled_21 : decode cX10_settled 21 = .ok (.ireturn, 1) := by decide +kernel
def S_X10_settled (o0 : Nat) (i1 : Int32) (μ : Me) (Q : Int32 → Me → Prop) : Prop := ((¬ i1 = (-1) → mok μ o0 10 ∧ ∃ t2, mgr μ o0 7 = some t2 ∧ mok μ t2 2 ∧ S_X2_settledAt t2 i1 μ (fun r6 μ4 => Q r6 μ4)) ∧ (i1 = (-1) → mok μ o0 10 ∧ ∃ t8, mgr μ o0 7 = some t8 ∧ mok μ t8 2 ∧ S_X2_settledCount t8 μ (fun r12 μ10 => Q r12 μ10)))
set_option maxHeartbeats 4000000 in
set_option maxRecDepth 100000 in
theorem t_X10_settled {x : GX} (f : Fx x cX10_settled RX10 2 (rmc 7 0 0)) {o0 : Nat} {i1 : Int32} {μ : Me} {Q : Int32 → Me → Prop} (hq : Rt x (some .int) (qI Q)) (h : S_X10_settled o0 i1 μ Q) : G x 2 0 [(0, .ref (gB x + o0)), (1, .int i1)] [] μ 0 0 := by
  unfold S_X10_settled at h
  refine g_iload_n f 1 dX10_settled_0 rfl rfl ?_
  refine g_iconst f (-1) dX10_settled_1 kc_m1 ?_
  refine g_ic_ne f 13 dX10_settled_2 rfl h (fun h => ?_) (fun h => ?_)
  · refine g_aload_n f 0 dX10_settled_13 rfl rfl ?_
    obtain ⟨v1, h⟩ := h
    refine g_getR f fk_X10_61 v1 dX10_settled_14 rfl h (fun t2 h => ?_)
    refine g_iload_n f 1 dX10_settled_17 rfl rfl ?_
    obtain ⟨v3, h⟩ := h
    refine g_callV f mk_X10_236 v3 (c_X2_settledAt h) dX10_settled_18 rfl rfl (Nat.le_of_ble_eq_true rfl) (rm_ok (by decide) (by decide)) ⟨Nat.le_of_ble_eq_true rfl, Nat.le_of_ble_eq_true rfl⟩ (kI fun r6 μ4 x5 h => ?_)
    exact g_iret f hq (Nat.le_of_ble_eq_true rfl) (Nat.le_of_ble_eq_true rfl) dX10_settled_21 h
  · refine g_aload_n f 0 dX10_settled_5 rfl rfl ?_
    obtain ⟨v7, h⟩ := h
    refine g_getR f fk_X10_61 v7 dX10_settled_6 rfl h (fun t8 h => ?_)
    obtain ⟨v9, h⟩ := h
    refine g_callV f mk_X10_233 v9 (c_X2_settledCount h) dX10_settled_9 rfl rfl (Nat.le_of_ble_eq_true rfl) (rm_ok (by decide) (by decide)) ⟨Nat.le_of_ble_eq_true rfl, Nat.le_of_ble_eq_true rfl⟩ (kI fun r12 μ10 x11 h => ?_)
    exact g_iret f hq (Nat.le_of_ble_eq_true rfl) (Nat.le_of_ble_eq_true rfl) dX10_settled_12 h
theorem c_X10_settled {Ω : OM} {o0 : Nat} {i1 : Int32} {μ : Me} {Q : Int32 → Me → Prop} (h : S_X10_settled o0 i1 μ Q) : CT Ω yX10_settled cX10_settled 2 (some .int) (rmc 7 0 0) [.ref (oB Ω + o0), .int i1] μ (qI Q) := CT_of (by decide) rfl (by simp [lg_sl, Value.category]) (fun x hΩ f hq hi => by subst hΩ; exact t_X10_settled f hq h)
theorem dX10_fewest_0 : decode cX10_fewest 0 = .ok (.aload_n 0, 1) := by decide +kernel
theorem dX10_fewest_1 : decode cX10_fewest 1 = .ok (.getfield 61, 3) := by decide +kernel
theorem dX10_fewest_4 : decode cX10_fewest 4 = .ok (.iload_n 1, 1) := by decide +kernel
theorem dX10_fewest_5 : decode cX10_fewest 5 = .ok (.invokevirtual 239, 3) := by decide +kernel
theorem dX10_fewest_8 : decode cX10_fewest 8 = .ok (.ireturn, 1) := by decide +kernel
def S_X10_fewest (o0 : Nat) (i1 : Int32) (μ : Me) (Q : Int32 → Me → Prop) : Prop := mok μ o0 10 ∧ ∃ t2, mgr μ o0 7 = some t2 ∧ mok μ t2 2 ∧ S_X2_settledForFewest t2 i1 μ (fun r6 μ4 => Q r6 μ4)
set_option maxHeartbeats 4000000 in
set_option maxRecDepth 100000 in
theorem t_X10_fewest {x : GX} (f : Fx x cX10_fewest RX10 2 (rmc 7 0 0)) {o0 : Nat} {i1 : Int32} {μ : Me} {Q : Int32 → Me → Prop} (hq : Rt x (some .int) (qI Q)) (h : S_X10_fewest o0 i1 μ Q) : G x 2 0 [(0, .ref (gB x + o0)), (1, .int i1)] [] μ 0 0 := by
  unfold S_X10_fewest at h
  refine g_aload_n f 0 dX10_fewest_0 rfl rfl ?_
  obtain ⟨v1, h⟩ := h
  refine g_getR f fk_X10_61 v1 dX10_fewest_1 rfl h (fun t2 h => ?_)
  refine g_iload_n f 1 dX10_fewest_4 rfl rfl ?_
  obtain ⟨v3, h⟩ := h
  refine g_callV f mk_X10_239 v3 (c_X2_settledForFewest h) dX10_fewest_5 rfl rfl (Nat.le_of_ble_eq_true rfl) (rm_ok (by decide) (by decide)) ⟨Nat.le_of_ble_eq_true rfl, Nat.le_of_ble_eq_true rfl⟩ (kI fun r6 μ4 x5 h => ?_)
  exact g_iret f hq (Nat.le_of_ble_eq_true rfl) (Nat.le_of_ble_eq_true rfl) dX10_fewest_8 h
theorem c_X10_fewest {Ω : OM} {o0 : Nat} {i1 : Int32} {μ : Me} {Q : Int32 → Me → Prop} (h : S_X10_fewest o0 i1 μ Q) : CT Ω yX10_fewest cX10_fewest 2 (some .int) (rmc 7 0 0) [.ref (oB Ω + o0), .int i1] μ (qI Q) := CT_of (by decide) rfl (by simp [lg_sl, Value.category]) (fun x hΩ f hq hi => by subst hΩ; exact t_X10_fewest f hq h)
theorem dX10_tail_0 : decode cX10_tail 0 = .ok (.aload_n 0, 1) := by decide +kernel
theorem dX10_tail_1 : decode cX10_tail 1 = .ok (.getfield 12, 3) := by decide +kernel
theorem dX10_tail_4 : decode cX10_tail 4 = .ok (.iload_n 1, 1) := by decide +kernel
theorem dX10_tail_5 : decode cX10_tail 5 = .ok (.invokevirtual 221, 3) := by decide +kernel
theorem dX10_tail_8 : decode cX10_tail 8 = .ok (.ifCond .ne 5, 3) := by decide +kernel
theorem dX10_tail_11 : decode cX10_tail 11 = .ok (.iconst (-1), 1) := by decide +kernel
theorem dX10_tail_12 : decode cX10_tail 12 = .ok (.ireturn, 1) := by decide +kernel
theorem dX10_tail_13 : decode cX10_tail 13 = .ok (.aload_n 0, 1) := by decide +kernel
theorem dX10_tail_14 : decode cX10_tail 14 = .ok (.getfield 61, 3) := by decide +kernel
theorem dX10_tail_17 : decode cX10_tail 17 = .ok (.iload_n 1, 1) := by decide +kernel
theorem dX10_tail_18 : decode cX10_tail 18 = .ok (.invokevirtual 243, 3) := by decide +kernel
theorem dX10_tail_21 : decode cX10_tail 21 = .ok (.ireturn, 1) := by decide +kernel
def S_X10_tail (o0 : Nat) (i1 : Int32) (μ : Me) (Q : Int32 → Me → Prop) : Prop := mok μ o0 10 ∧ ∃ t2, mgr μ o0 0 = some t2 ∧ mok μ t2 9 ∧ S_X9_areRings t2 i1 μ (fun r6 μ4 => ((¬ r6 = 0 → ∃ t7, mgr μ4 o0 7 = some t7 ∧ mok μ4 t7 2 ∧ S_X2_tailOf t7 i1 μ4 (fun r11 μ9 => Q r11 μ9)) ∧ (r6 = 0 → Q (-1) μ4)))
set_option maxHeartbeats 4000000 in
set_option maxRecDepth 100000 in
theorem t_X10_tail {x : GX} (f : Fx x cX10_tail RX10 2 (rmc 7 0 0)) {o0 : Nat} {i1 : Int32} {μ : Me} {Q : Int32 → Me → Prop} (hq : Rt x (some .int) (qI Q)) (h : S_X10_tail o0 i1 μ Q) : G x 2 0 [(0, .ref (gB x + o0)), (1, .int i1)] [] μ 0 0 := by
  unfold S_X10_tail at h
  refine g_aload_n f 0 dX10_tail_0 rfl rfl ?_
  obtain ⟨v1, h⟩ := h
  refine g_getR f fk_X10_12 v1 dX10_tail_1 rfl h (fun t2 h => ?_)
  refine g_iload_n f 1 dX10_tail_4 rfl rfl ?_
  obtain ⟨v3, h⟩ := h
  refine g_callV f mk_X10_221 v3 (c_X9_areRings h) dX10_tail_5 rfl rfl (Nat.le_of_ble_eq_true rfl) (rm_ok (by decide) (by decide)) ⟨Nat.le_of_ble_eq_true rfl, Nat.le_of_ble_eq_true rfl⟩ (kI fun r6 μ4 x5 h => ?_)
  refine g_if_ne f 13 dX10_tail_8 rfl h (fun h => ?_) (fun h => ?_)
  · refine g_aload_n f 0 dX10_tail_13 rfl rfl ?_
    have v1 := mex_ok x5 v1
    refine g_getR f fk_X10_61 v1 dX10_tail_14 rfl h (fun t7 h => ?_)
    refine g_iload_n f 1 dX10_tail_17 rfl rfl ?_
    obtain ⟨v8, h⟩ := h
    refine g_callV f mk_X10_243 v8 (c_X2_tailOf h) dX10_tail_18 rfl rfl (Nat.le_of_ble_eq_true rfl) (rm_ok (by decide) (by decide)) ⟨Nat.le_of_ble_eq_true rfl, Nat.le_of_ble_eq_true rfl⟩ (kI fun r11 μ9 x10 h => ?_)
    exact g_iret f hq (Nat.le_of_ble_eq_true rfl) (Nat.le_of_ble_eq_true rfl) dX10_tail_21 h
  · refine g_iconst f (-1) dX10_tail_11 kc_m1 ?_
    exact g_iret f hq (Nat.le_of_ble_eq_true rfl) (Nat.le_of_ble_eq_true rfl) dX10_tail_12 h
theorem c_X10_tail {Ω : OM} {o0 : Nat} {i1 : Int32} {μ : Me} {Q : Int32 → Me → Prop} (h : S_X10_tail o0 i1 μ Q) : CT Ω yX10_tail cX10_tail 2 (some .int) (rmc 7 0 0) [.ref (oB Ω + o0), .int i1] μ (qI Q) := CT_of (by decide) rfl (by simp [lg_sl, Value.category]) (fun x hΩ f hq hi => by subst hΩ; exact t_X10_tail f hq h)
theorem dX10_round_0 : decode cX10_round 0 = .ok (.aload_n 0, 1) := by decide +kernel
theorem dX10_round_1 : decode cX10_round 1 = .ok (.getfield 12, 3) := by decide +kernel
theorem dX10_round_4 : decode cX10_round 4 = .ok (.iload_n 1, 1) := by decide +kernel
theorem dX10_round_5 : decode cX10_round 5 = .ok (.invokevirtual 221, 3) := by decide +kernel
theorem dX10_round_8 : decode cX10_round 8 = .ok (.ifCond .ne 5, 3) := by decide +kernel
theorem dX10_round_11 : decode cX10_round 11 = .ok (.iconst (-1), 1) := by decide +kernel
theorem dX10_round_12 : decode cX10_round 12 = .ok (.ireturn, 1) := by decide +kernel
theorem dX10_round_13 : decode cX10_round 13 = .ok (.aload_n 0, 1) := by decide +kernel
theorem dX10_round_14 : decode cX10_round 14 = .ok (.getfield 61, 3) := by decide +kernel
theorem dX10_round_17 : decode cX10_round 17 = .ok (.iload_n 1, 1) := by decide +kernel
theorem dX10_round_18 : decode cX10_round 18 = .ok (.invokevirtual 246, 3) := by decide +kernel
theorem dX10_round_21 : decode cX10_round 21 = .ok (.ireturn, 1) := by decide +kernel
def S_X10_round (o0 : Nat) (i1 : Int32) (μ : Me) (Q : Int32 → Me → Prop) : Prop := mok μ o0 10 ∧ ∃ t2, mgr μ o0 0 = some t2 ∧ mok μ t2 9 ∧ S_X9_areRings t2 i1 μ (fun r6 μ4 => ((¬ r6 = 0 → ∃ t7, mgr μ4 o0 7 = some t7 ∧ mok μ4 t7 2 ∧ S_X2_roundOf t7 i1 μ4 (fun r11 μ9 => Q r11 μ9)) ∧ (r6 = 0 → Q (-1) μ4)))
set_option maxHeartbeats 4000000 in
set_option maxRecDepth 100000 in
theorem t_X10_round {x : GX} (f : Fx x cX10_round RX10 2 (rmc 7 0 0)) {o0 : Nat} {i1 : Int32} {μ : Me} {Q : Int32 → Me → Prop} (hq : Rt x (some .int) (qI Q)) (h : S_X10_round o0 i1 μ Q) : G x 2 0 [(0, .ref (gB x + o0)), (1, .int i1)] [] μ 0 0 := by
  unfold S_X10_round at h
  refine g_aload_n f 0 dX10_round_0 rfl rfl ?_
  obtain ⟨v1, h⟩ := h
  refine g_getR f fk_X10_12 v1 dX10_round_1 rfl h (fun t2 h => ?_)
  refine g_iload_n f 1 dX10_round_4 rfl rfl ?_
  obtain ⟨v3, h⟩ := h
  refine g_callV f mk_X10_221 v3 (c_X9_areRings h) dX10_round_5 rfl rfl (Nat.le_of_ble_eq_true rfl) (rm_ok (by decide) (by decide)) ⟨Nat.le_of_ble_eq_true rfl, Nat.le_of_ble_eq_true rfl⟩ (kI fun r6 μ4 x5 h => ?_)
  refine g_if_ne f 13 dX10_round_8 rfl h (fun h => ?_) (fun h => ?_)
  · refine g_aload_n f 0 dX10_round_13 rfl rfl ?_
    have v1 := mex_ok x5 v1
    refine g_getR f fk_X10_61 v1 dX10_round_14 rfl h (fun t7 h => ?_)
    refine g_iload_n f 1 dX10_round_17 rfl rfl ?_
    obtain ⟨v8, h⟩ := h
    refine g_callV f mk_X10_246 v8 (c_X2_roundOf h) dX10_round_18 rfl rfl (Nat.le_of_ble_eq_true rfl) (rm_ok (by decide) (by decide)) ⟨Nat.le_of_ble_eq_true rfl, Nat.le_of_ble_eq_true rfl⟩ (kI fun r11 μ9 x10 h => ?_)
    exact g_iret f hq (Nat.le_of_ble_eq_true rfl) (Nat.le_of_ble_eq_true rfl) dX10_round_21 h
  · refine g_iconst f (-1) dX10_round_11 kc_m1 ?_
    exact g_iret f hq (Nat.le_of_ble_eq_true rfl) (Nat.le_of_ble_eq_true rfl) dX10_round_12 h
theorem c_X10_round {Ω : OM} {o0 : Nat} {i1 : Int32} {μ : Me} {Q : Int32 → Me → Prop} (h : S_X10_round o0 i1 μ Q) : CT Ω yX10_round cX10_round 2 (some .int) (rmc 7 0 0) [.ref (oB Ω + o0), .int i1] μ (qI Q) := CT_of (by decide) rfl (by simp [lg_sl, Value.category]) (fun x hΩ f hq hi => by subst hΩ; exact t_X10_round f hq h)
theorem dX10_rounds_0 : decode cX10_rounds 0 = .ok (.aload_n 0, 1) := by decide +kernel
theorem dX10_rounds_1 : decode cX10_rounds 1 = .ok (.getfield 61, 3) := by decide +kernel
theorem dX10_rounds_4 : decode cX10_rounds 4 = .ok (.invokevirtual 249, 3) := by decide +kernel
theorem dX10_rounds_7 : decode cX10_rounds 7 = .ok (.ireturn, 1) := by decide +kernel
def S_X10_rounds (o0 : Nat) (μ : Me) (Q : Int32 → Me → Prop) : Prop := mok μ o0 10 ∧ ∃ t2, mgr μ o0 7 = some t2 ∧ mok μ t2 2 ∧ S_X2_roundCount t2 μ (fun r6 μ4 => Q r6 μ4)
set_option maxHeartbeats 4000000 in
set_option maxRecDepth 100000 in
theorem t_X10_rounds {x : GX} (f : Fx x cX10_rounds RX10 1 (rmc 6 0 0)) {o0 : Nat} {μ : Me} {Q : Int32 → Me → Prop} (hq : Rt x (some .int) (qI Q)) (h : S_X10_rounds o0 μ Q) : G x 1 0 [(0, .ref (gB x + o0))] [] μ 0 0 := by
  unfold S_X10_rounds at h
  refine g_aload_n f 0 dX10_rounds_0 rfl rfl ?_
  obtain ⟨v1, h⟩ := h
  refine g_getR f fk_X10_61 v1 dX10_rounds_1 rfl h (fun t2 h => ?_)
  obtain ⟨v3, h⟩ := h
  refine g_callV f mk_X10_249 v3 (c_X2_roundCount h) dX10_rounds_4 rfl rfl (Nat.le_of_ble_eq_true rfl) (rm_ok (by decide) (by decide)) ⟨Nat.le_of_ble_eq_true rfl, Nat.le_of_ble_eq_true rfl⟩ (kI fun r6 μ4 x5 h => ?_)
  exact g_iret f hq (Nat.le_of_ble_eq_true rfl) (Nat.le_of_ble_eq_true rfl) dX10_rounds_7 h
theorem c_X10_rounds {Ω : OM} {o0 : Nat} {μ : Me} {Q : Int32 → Me → Prop} (h : S_X10_rounds o0 μ Q) : CT Ω yX10_rounds cX10_rounds 1 (some .int) (rmc 6 0 0) [.ref (oB Ω + o0)] μ (qI Q) := CT_of (by decide) rfl (by simp [lg_sl, Value.category]) (fun x hΩ f hq hi => by subst hΩ; exact t_X10_rounds f hq h)
theorem dX10_basin_0 : decode cX10_basin 0 = .ok (.aload_n 0, 1) := by decide +kernel
theorem dX10_basin_1 : decode cX10_basin 1 = .ok (.getfield 12, 3) := by decide +kernel
theorem dX10_basin_4 : decode cX10_basin 4 = .ok (.iload_n 1, 1) := by decide +kernel
theorem dX10_basin_5 : decode cX10_basin 5 = .ok (.invokevirtual 221, 3) := by decide +kernel
theorem dX10_basin_8 : decode cX10_basin 8 = .ok (.ifCond .ne 5, 3) := by decide +kernel
theorem dX10_basin_11 : decode cX10_basin 11 = .ok (.iconst (-1), 1) := by decide +kernel
theorem dX10_basin_12 : decode cX10_basin 12 = .ok (.ireturn, 1) := by decide +kernel
theorem dX10_basin_13 : decode cX10_basin 13 = .ok (.aload_n 0, 1) := by decide +kernel
theorem dX10_basin_14 : decode cX10_basin 14 = .ok (.getfield 61, 3) := by decide +kernel
theorem dX10_basin_17 : decode cX10_basin 17 = .ok (.iload_n 1, 1) := by decide +kernel
theorem dX10_basin_18 : decode cX10_basin 18 = .ok (.invokevirtual 252, 3) := by decide +kernel
theorem dX10_basin_21 : decode cX10_basin 21 = .ok (.ireturn, 1) := by decide +kernel
def S_X10_basin (o0 : Nat) (i1 : Int32) (μ : Me) (Q : Int32 → Me → Prop) : Prop := mok μ o0 10 ∧ ∃ t2, mgr μ o0 0 = some t2 ∧ mok μ t2 9 ∧ S_X9_areRings t2 i1 μ (fun r6 μ4 => ((¬ r6 = 0 → ∃ t7, mgr μ4 o0 7 = some t7 ∧ mok μ4 t7 2 ∧ S_X2_basinOf t7 i1 μ4 (fun r11 μ9 => Q r11 μ9)) ∧ (r6 = 0 → Q (-1) μ4)))
set_option maxHeartbeats 4000000 in
set_option maxRecDepth 100000 in
theorem t_X10_basin {x : GX} (f : Fx x cX10_basin RX10 2 (rmc 6 0 0)) {o0 : Nat} {i1 : Int32} {μ : Me} {Q : Int32 → Me → Prop} (hq : Rt x (some .int) (qI Q)) (h : S_X10_basin o0 i1 μ Q) : G x 2 0 [(0, .ref (gB x + o0)), (1, .int i1)] [] μ 0 0 := by
  unfold S_X10_basin at h
  refine g_aload_n f 0 dX10_basin_0 rfl rfl ?_
  obtain ⟨v1, h⟩ := h
  refine g_getR f fk_X10_12 v1 dX10_basin_1 rfl h (fun t2 h => ?_)
  refine g_iload_n f 1 dX10_basin_4 rfl rfl ?_
  obtain ⟨v3, h⟩ := h
  refine g_callV f mk_X10_221 v3 (c_X9_areRings h) dX10_basin_5 rfl rfl (Nat.le_of_ble_eq_true rfl) (rm_ok (by decide) (by decide)) ⟨Nat.le_of_ble_eq_true rfl, Nat.le_of_ble_eq_true rfl⟩ (kI fun r6 μ4 x5 h => ?_)
  refine g_if_ne f 13 dX10_basin_8 rfl h (fun h => ?_) (fun h => ?_)
  · refine g_aload_n f 0 dX10_basin_13 rfl rfl ?_
    have v1 := mex_ok x5 v1
    refine g_getR f fk_X10_61 v1 dX10_basin_14 rfl h (fun t7 h => ?_)
    refine g_iload_n f 1 dX10_basin_17 rfl rfl ?_
    obtain ⟨v8, h⟩ := h
    refine g_callV f mk_X10_252 v8 (c_X2_basinOf h) dX10_basin_18 rfl rfl (Nat.le_of_ble_eq_true rfl) (rm_ok (by decide) (by decide)) ⟨Nat.le_of_ble_eq_true rfl, Nat.le_of_ble_eq_true rfl⟩ (kI fun r11 μ9 x10 h => ?_)
    exact g_iret f hq (Nat.le_of_ble_eq_true rfl) (Nat.le_of_ble_eq_true rfl) dX10_basin_21 h
  · refine g_iconst f (-1) dX10_basin_11 kc_m1 ?_
    exact g_iret f hq (Nat.le_of_ble_eq_true rfl) (Nat.le_of_ble_eq_true rfl) dX10_basin_12 h
theorem c_X10_basin {Ω : OM} {o0 : Nat} {i1 : Int32} {μ : Me} {Q : Int32 → Me → Prop} (h : S_X10_basin o0 i1 μ Q) : CT Ω yX10_basin cX10_basin 2 (some .int) (rmc 6 0 0) [.ref (oB Ω + o0), .int i1] μ (qI Q) := CT_of (by decide) rfl (by simp [lg_sl, Value.category]) (fun x hΩ f hq hi => by subst hΩ; exact t_X10_basin f hq h)
theorem dX10_never_0 : decode cX10_never 0 = .ok (.aload_n 0, 1) := by decide +kernel
theorem dX10_never_1 : decode cX10_never 1 = .ok (.getfield 61, 3) := by decide +kernel
theorem dX10_never_4 : decode cX10_never 4 = .ok (.invokevirtual 255, 3) := by decide +kernel
theorem dX10_never_7 : decode cX10_never 7 = .ok (.ireturn, 1) := by decide +kernel
def S_X10_never (o0 : Nat) (μ : Me) (Q : Int32 → Me → Prop) : Prop := mok μ o0 10 ∧ ∃ t2, mgr μ o0 7 = some t2 ∧ mok μ t2 2 ∧ S_X2_neverLedTo t2 μ (fun r6 μ4 => Q r6 μ4)
set_option maxHeartbeats 4000000 in
set_option maxRecDepth 100000 in
theorem t_X10_never {x : GX} (f : Fx x cX10_never RX10 1 (rmc 6 0 0)) {o0 : Nat} {μ : Me} {Q : Int32 → Me → Prop} (hq : Rt x (some .int) (qI Q)) (h : S_X10_never o0 μ Q) : G x 1 0 [(0, .ref (gB x + o0))] [] μ 0 0 := by
  unfold S_X10_never at h
  refine g_aload_n f 0 dX10_never_0 rfl rfl ?_
  obtain ⟨v1, h⟩ := h
  refine g_getR f fk_X10_61 v1 dX10_never_1 rfl h (fun t2 h => ?_)
  obtain ⟨v3, h⟩ := h
  refine g_callV f mk_X10_255 v3 (c_X2_neverLedTo h) dX10_never_4 rfl rfl (Nat.le_of_ble_eq_true rfl) (rm_ok (by decide) (by decide)) ⟨Nat.le_of_ble_eq_true rfl, Nat.le_of_ble_eq_true rfl⟩ (kI fun r6 μ4 x5 h => ?_)
  exact g_iret f hq (Nat.le_of_ble_eq_true rfl) (Nat.le_of_ble_eq_true rfl) dX10_never_7 h
theorem c_X10_never {Ω : OM} {o0 : Nat} {μ : Me} {Q : Int32 → Me → Prop} (h : S_X10_never o0 μ Q) : CT Ω yX10_never cX10_never 1 (some .int) (rmc 6 0 0) [.ref (oB Ω + o0)] μ (qI Q) := CT_of (by decide) rfl (by simp [lg_sl, Value.category]) (fun x hΩ f hq hi => by subst hΩ; exact t_X10_never f hq h)
theorem dX10_after_0 : decode cX10_after 0 = .ok (.aload_n 0, 1) := by decide +kernel
theorem dX10_after_1 : decode cX10_after 1 = .ok (.getfield 12, 3) := by decide +kernel
theorem dX10_after_4 : decode cX10_after 4 = .ok (.iload_n 1, 1) := by decide +kernel
theorem dX10_after_5 : decode cX10_after 5 = .ok (.invokevirtual 221, 3) := by decide +kernel
theorem dX10_after_8 : decode cX10_after 8 = .ok (.ifCond .eq 13, 3) := by decide +kernel
theorem dX10_after_11 : decode cX10_after 11 = .ok (.iload_n 2, 1) := by decide +kernel
theorem dX10_after_12 : decode cX10_after 12 = .ok (.ifCond .lt 9, 3) := by decide +kernel
theorem dX10_after_15 : decode cX10_after 15 = .ok (.iload_n 2, 1) := by decide +kernel
theorem dX10_after_16 : decode cX10_after 16 = .ok (.bipush 60, 2) := by decide +kernel
theorem dX10_after_18 : decode cX10_after 18 = .ok (.if_icmp .le 5, 3) := by decide +kernel
theorem dX10_after_21 : decode cX10_after 21 = .ok (.iconst (-1), 1) := by decide +kernel
theorem dX10_after_22 : decode cX10_after 22 = .ok (.ireturn, 1) := by decide +kernel
theorem dX10_after_23 : decode cX10_after 23 = .ok (.aload_n 0, 1) := by decide +kernel
theorem dX10_after_24 : decode cX10_after 24 = .ok (.getfield 61, 3) := by decide +kernel
theorem dX10_after_27 : decode cX10_after 27 = .ok (.iload_n 1, 1) := by decide +kernel
theorem dX10_after_28 : decode cX10_after 28 = .ok (.iload_n 2, 1) := by decide +kernel
theorem dX10_after_29 : decode cX10_after 29 = .ok (.invokevirtual 258, 3) := by decide +kernel
theorem dX10_after_32 : decode cX10_after 32 = .ok (.ireturn, 1) := by decide +kernel
def S_X10_after (o0 : Nat) (i1 : Int32) (i2 : Int32) (μ : Me) (Q : Int32 → Me → Prop) : Prop := mok μ o0 10 ∧ ∃ t2, mgr μ o0 0 = some t2 ∧ mok μ t2 9 ∧ S_X9_areRings t2 i1 μ (fun r6 μ4 => ((r6 = 0 → Q (-1) μ4) ∧ (¬ r6 = 0 → ((i2 < 0 → Q (-1) μ4) ∧ (¬ i2 < 0 → ((i2 ≤ 60 → ∃ t7, mgr μ4 o0 7 = some t7 ∧ mok μ4 t7 2 ∧ S_X2_behind t7 i1 i2 μ4 (fun r11 μ9 => Q r11 μ9)) ∧ (¬ i2 ≤ 60 → Q (-1) μ4)))))))
set_option maxHeartbeats 4000000 in
set_option maxRecDepth 100000 in
theorem t_X10_after {x : GX} (f : Fx x cX10_after RX10 3 (rmc 6 0 0)) {o0 : Nat} {i1 : Int32} {i2 : Int32} {μ : Me} {Q : Int32 → Me → Prop} (hq : Rt x (some .int) (qI Q)) (h : S_X10_after o0 i1 i2 μ Q) : G x 3 0 [(0, .ref (gB x + o0)), (1, .int i1), (2, .int i2)] [] μ 0 0 := by
  unfold S_X10_after at h
  refine g_aload_n f 0 dX10_after_0 rfl rfl ?_
  obtain ⟨v1, h⟩ := h
  refine g_getR f fk_X10_12 v1 dX10_after_1 rfl h (fun t2 h => ?_)
  refine g_iload_n f 1 dX10_after_4 rfl rfl ?_
  obtain ⟨v3, h⟩ := h
  refine g_callV f mk_X10_221 v3 (c_X9_areRings h) dX10_after_5 rfl rfl (Nat.le_of_ble_eq_true rfl) (rm_ok (by decide) (by decide)) ⟨Nat.le_of_ble_eq_true rfl, Nat.le_of_ble_eq_true rfl⟩ (kI fun r6 μ4 x5 h => ?_)
  refine g_if_eq f 21 dX10_after_8 rfl h (fun h => ?_) (fun h => ?_)
  · refine g_iconst f (-1) dX10_after_21 kc_m1 ?_
    exact g_iret f hq (Nat.le_of_ble_eq_true rfl) (Nat.le_of_ble_eq_true rfl) dX10_after_22 h
  · refine g_iload_n f 2 dX10_after_11 rfl rfl ?_
    refine g_if_lt f 21 dX10_after_12 rfl h (fun h => ?_) (fun h => ?_)
    · refine g_iconst f (-1) dX10_after_21 kc_m1 ?_
      exact g_iret f hq (Nat.le_of_ble_eq_true rfl) (Nat.le_of_ble_eq_true rfl) dX10_after_22 h
    · refine g_iload_n f 2 dX10_after_15 rfl rfl ?_
      refine g_bipush f 60 dX10_after_16 kb_60 ?_
      refine g_ic_le f 23 dX10_after_18 rfl h (fun h => ?_) (fun h => ?_)
      · refine g_aload_n f 0 dX10_after_23 rfl rfl ?_
        have v1 := mex_ok x5 v1
        refine g_getR f fk_X10_61 v1 dX10_after_24 rfl h (fun t7 h => ?_)
        refine g_iload_n f 1 dX10_after_27 rfl rfl ?_
        refine g_iload_n f 2 dX10_after_28 rfl rfl ?_
        obtain ⟨v8, h⟩ := h
        refine g_callV f mk_X10_258 v8 (c_X2_behind h) dX10_after_29 rfl rfl (Nat.le_of_ble_eq_true rfl) (rm_ok (by decide) (by decide)) ⟨Nat.le_of_ble_eq_true rfl, Nat.le_of_ble_eq_true rfl⟩ (kI fun r11 μ9 x10 h => ?_)
        exact g_iret f hq (Nat.le_of_ble_eq_true rfl) (Nat.le_of_ble_eq_true rfl) dX10_after_32 h
      · refine g_iconst f (-1) dX10_after_21 kc_m1 ?_
        exact g_iret f hq (Nat.le_of_ble_eq_true rfl) (Nat.le_of_ble_eq_true rfl) dX10_after_22 h
theorem c_X10_after {Ω : OM} {o0 : Nat} {i1 : Int32} {i2 : Int32} {μ : Me} {Q : Int32 → Me → Prop} (h : S_X10_after o0 i1 i2 μ Q) : CT Ω yX10_after cX10_after 3 (some .int) (rmc 6 0 0) [.ref (oB Ω + o0), .int i1, .int i2] μ (qI Q) := CT_of (by decide) rfl (by simp [lg_sl, Value.category]) (fun x hΩ f hq hi => by subst hΩ; exact t_X10_after f hq h)
theorem dX10_times_0 : decode cX10_times 0 = .ok (.aload_n 0, 1) := by decide +kernel
theorem dX10_times_1 : decode cX10_times 1 = .ok (.getfield 12, 3) := by decide +kernel
theorem dX10_times_4 : decode cX10_times 4 = .ok (.iload_n 1, 1) := by decide +kernel
theorem dX10_times_5 : decode cX10_times 5 = .ok (.invokevirtual 221, 3) := by decide +kernel
theorem dX10_times_8 : decode cX10_times 8 = .ok (.ifCond .eq 14, 3) := by decide +kernel
theorem dX10_times_11 : decode cX10_times 11 = .ok (.aload_n 0, 1) := by decide +kernel
theorem dX10_times_12 : decode cX10_times 12 = .ok (.getfield 12, 3) := by decide +kernel
theorem dX10_times_15 : decode cX10_times 15 = .ok (.iload_n 2, 1) := by decide +kernel
theorem dX10_times_16 : decode cX10_times 16 = .ok (.invokevirtual 221, 3) := by decide +kernel
theorem dX10_times_19 : decode cX10_times 19 = .ok (.ifCond .ne 5, 3) := by decide +kernel
theorem dX10_times_22 : decode cX10_times 22 = .ok (.iconst (-1), 1) := by decide +kernel
theorem dX10_times_23 : decode cX10_times 23 = .ok (.ireturn, 1) := by decide +kernel
theorem dX10_times_24 : decode cX10_times 24 = .ok (.aload_n 0, 1) := by decide +kernel
theorem dX10_times_25 : decode cX10_times 25 = .ok (.getfield 61, 3) := by decide +kernel
theorem dX10_times_28 : decode cX10_times 28 = .ok (.iload_n 1, 1) := by decide +kernel
theorem dX10_times_29 : decode cX10_times 29 = .ok (.iload_n 2, 1) := by decide +kernel
theorem dX10_times_30 : decode cX10_times 30 = .ok (.invokevirtual 261, 3) := by decide +kernel
theorem dX10_times_33 : decode cX10_times 33 = .ok (.ireturn, 1) := by decide +kernel
def S_X10_times (o0 : Nat) (i1 : Int32) (i2 : Int32) (μ : Me) (Q : Int32 → Me → Prop) : Prop := mok μ o0 10 ∧ ∃ t2, mgr μ o0 0 = some t2 ∧ mok μ t2 9 ∧ S_X9_areRings t2 i1 μ (fun r6 μ4 => ((r6 = 0 → Q (-1) μ4) ∧ (¬ r6 = 0 → ∃ t7, mgr μ4 o0 0 = some t7 ∧ mok μ4 t7 9 ∧ S_X9_areRings t7 i2 μ4 (fun r11 μ9 => ((¬ r11 = 0 → ∃ t12, mgr μ9 o0 7 = some t12 ∧ mok μ9 t12 2 ∧ S_X2_timesTill t12 i1 i2 μ9 (fun r16 μ14 => Q r16 μ14)) ∧ (r11 = 0 → Q (-1) μ9))))))
set_option maxHeartbeats 4000000 in
set_option maxRecDepth 100000 in
theorem t_X10_times {x : GX} (f : Fx x cX10_times RX10 3 (rmc 6 0 0)) {o0 : Nat} {i1 : Int32} {i2 : Int32} {μ : Me} {Q : Int32 → Me → Prop} (hq : Rt x (some .int) (qI Q)) (h : S_X10_times o0 i1 i2 μ Q) : G x 3 0 [(0, .ref (gB x + o0)), (1, .int i1), (2, .int i2)] [] μ 0 0 := by
  unfold S_X10_times at h
  refine g_aload_n f 0 dX10_times_0 rfl rfl ?_
  obtain ⟨v1, h⟩ := h
  refine g_getR f fk_X10_12 v1 dX10_times_1 rfl h (fun t2 h => ?_)
  refine g_iload_n f 1 dX10_times_4 rfl rfl ?_
  obtain ⟨v3, h⟩ := h
  refine g_callV f mk_X10_221 v3 (c_X9_areRings h) dX10_times_5 rfl rfl (Nat.le_of_ble_eq_true rfl) (rm_ok (by decide) (by decide)) ⟨Nat.le_of_ble_eq_true rfl, Nat.le_of_ble_eq_true rfl⟩ (kI fun r6 μ4 x5 h => ?_)
  refine g_if_eq f 22 dX10_times_8 rfl h (fun h => ?_) (fun h => ?_)
  · refine g_iconst f (-1) dX10_times_22 kc_m1 ?_
    exact g_iret f hq (Nat.le_of_ble_eq_true rfl) (Nat.le_of_ble_eq_true rfl) dX10_times_23 h
  · refine g_aload_n f 0 dX10_times_11 rfl rfl ?_
    have v1 := mex_ok x5 v1
    refine g_getR f fk_X10_12 v1 dX10_times_12 rfl h (fun t7 h => ?_)
    refine g_iload_n f 2 dX10_times_15 rfl rfl ?_
    obtain ⟨v8, h⟩ := h
    refine g_callV f mk_X10_221 v8 (c_X9_areRings h) dX10_times_16 rfl rfl (Nat.le_of_ble_eq_true rfl) (rm_ok (by decide) (by decide)) ⟨Nat.le_of_ble_eq_true rfl, Nat.le_of_ble_eq_true rfl⟩ (kI fun r11 μ9 x10 h => ?_)
    refine g_if_ne f 24 dX10_times_19 rfl h (fun h => ?_) (fun h => ?_)
    · refine g_aload_n f 0 dX10_times_24 rfl rfl ?_
      have v1 := mex_ok x10 v1
      refine g_getR f fk_X10_61 v1 dX10_times_25 rfl h (fun t12 h => ?_)
      refine g_iload_n f 1 dX10_times_28 rfl rfl ?_
      refine g_iload_n f 2 dX10_times_29 rfl rfl ?_
      obtain ⟨v13, h⟩ := h
      refine g_callV f mk_X10_261 v13 (c_X2_timesTill h) dX10_times_30 rfl rfl (Nat.le_of_ble_eq_true rfl) (rm_ok (by decide) (by decide)) ⟨Nat.le_of_ble_eq_true rfl, Nat.le_of_ble_eq_true rfl⟩ (kI fun r16 μ14 x15 h => ?_)
      exact g_iret f hq (Nat.le_of_ble_eq_true rfl) (Nat.le_of_ble_eq_true rfl) dX10_times_33 h
    · refine g_iconst f (-1) dX10_times_22 kc_m1 ?_
      exact g_iret f hq (Nat.le_of_ble_eq_true rfl) (Nat.le_of_ble_eq_true rfl) dX10_times_23 h
theorem c_X10_times {Ω : OM} {o0 : Nat} {i1 : Int32} {i2 : Int32} {μ : Me} {Q : Int32 → Me → Prop} (h : S_X10_times o0 i1 i2 μ Q) : CT Ω yX10_times cX10_times 3 (some .int) (rmc 6 0 0) [.ref (oB Ω + o0), .int i1, .int i2] μ (qI Q) := CT_of (by decide) rfl (by simp [lg_sl, Value.category]) (fun x hΩ f hq hi => by subst hΩ; exact t_X10_times f hq h)
theorem dX10_apart_0 : decode cX10_apart 0 = .ok (.aload_n 0, 1) := by decide +kernel
theorem dX10_apart_1 : decode cX10_apart 1 = .ok (.getfield 12, 3) := by decide +kernel
theorem dX10_apart_4 : decode cX10_apart 4 = .ok (.iload_n 1, 1) := by decide +kernel
theorem dX10_apart_5 : decode cX10_apart 5 = .ok (.invokevirtual 221, 3) := by decide +kernel
theorem dX10_apart_8 : decode cX10_apart 8 = .ok (.ifCond .eq 14, 3) := by decide +kernel
theorem dX10_apart_11 : decode cX10_apart 11 = .ok (.aload_n 0, 1) := by decide +kernel
theorem dX10_apart_12 : decode cX10_apart 12 = .ok (.getfield 12, 3) := by decide +kernel
theorem dX10_apart_15 : decode cX10_apart 15 = .ok (.iload_n 2, 1) := by decide +kernel
theorem dX10_apart_16 : decode cX10_apart 16 = .ok (.invokevirtual 221, 3) := by decide +kernel
theorem dX10_apart_19 : decode cX10_apart 19 = .ok (.ifCond .ne 5, 3) := by decide +kernel
theorem dX10_apart_22 : decode cX10_apart 22 = .ok (.iconst (-1), 1) := by decide +kernel
theorem dX10_apart_23 : decode cX10_apart 23 = .ok (.ireturn, 1) := by decide +kernel
theorem dX10_apart_24 : decode cX10_apart 24 = .ok (.aload_n 0, 1) := by decide +kernel
theorem dX10_apart_25 : decode cX10_apart 25 = .ok (.getfield 61, 3) := by decide +kernel
theorem dX10_apart_28 : decode cX10_apart 28 = .ok (.iload_n 1, 1) := by decide +kernel
theorem dX10_apart_29 : decode cX10_apart 29 = .ok (.iload_n 2, 1) := by decide +kernel
theorem dX10_apart_30 : decode cX10_apart 30 = .ok (.invokevirtual 264, 3) := by decide +kernel
theorem dX10_apart_33 : decode cX10_apart 33 = .ok (.ireturn, 1) := by decide +kernel
def S_X10_apart (o0 : Nat) (i1 : Int32) (i2 : Int32) (μ : Me) (Q : Int32 → Me → Prop) : Prop := mok μ o0 10 ∧ ∃ t2, mgr μ o0 0 = some t2 ∧ mok μ t2 9 ∧ S_X9_areRings t2 i1 μ (fun r6 μ4 => ((r6 = 0 → Q (-1) μ4) ∧ (¬ r6 = 0 → ∃ t7, mgr μ4 o0 0 = some t7 ∧ mok μ4 t7 9 ∧ S_X9_areRings t7 i2 μ4 (fun r11 μ9 => ((¬ r11 = 0 → ∃ t12, mgr μ9 o0 7 = some t12 ∧ mok μ9 t12 2 ∧ S_X2_timesApart t12 i1 i2 μ9 (fun r16 μ14 => Q r16 μ14)) ∧ (r11 = 0 → Q (-1) μ9))))))
set_option maxHeartbeats 4000000 in
set_option maxRecDepth 100000 in
theorem t_X10_apart {x : GX} (f : Fx x cX10_apart RX10 3 (rmc 6 0 0)) {o0 : Nat} {i1 : Int32} {i2 : Int32} {μ : Me} {Q : Int32 → Me → Prop} (hq : Rt x (some .int) (qI Q)) (h : S_X10_apart o0 i1 i2 μ Q) : G x 3 0 [(0, .ref (gB x + o0)), (1, .int i1), (2, .int i2)] [] μ 0 0 := by
  unfold S_X10_apart at h
  refine g_aload_n f 0 dX10_apart_0 rfl rfl ?_
  obtain ⟨v1, h⟩ := h
  refine g_getR f fk_X10_12 v1 dX10_apart_1 rfl h (fun t2 h => ?_)
  refine g_iload_n f 1 dX10_apart_4 rfl rfl ?_
  obtain ⟨v3, h⟩ := h
  refine g_callV f mk_X10_221 v3 (c_X9_areRings h) dX10_apart_5 rfl rfl (Nat.le_of_ble_eq_true rfl) (rm_ok (by decide) (by decide)) ⟨Nat.le_of_ble_eq_true rfl, Nat.le_of_ble_eq_true rfl⟩ (kI fun r6 μ4 x5 h => ?_)
  refine g_if_eq f 22 dX10_apart_8 rfl h (fun h => ?_) (fun h => ?_)
  · refine g_iconst f (-1) dX10_apart_22 kc_m1 ?_
    exact g_iret f hq (Nat.le_of_ble_eq_true rfl) (Nat.le_of_ble_eq_true rfl) dX10_apart_23 h
  · refine g_aload_n f 0 dX10_apart_11 rfl rfl ?_
    have v1 := mex_ok x5 v1
    refine g_getR f fk_X10_12 v1 dX10_apart_12 rfl h (fun t7 h => ?_)
    refine g_iload_n f 2 dX10_apart_15 rfl rfl ?_
    obtain ⟨v8, h⟩ := h
    refine g_callV f mk_X10_221 v8 (c_X9_areRings h) dX10_apart_16 rfl rfl (Nat.le_of_ble_eq_true rfl) (rm_ok (by decide) (by decide)) ⟨Nat.le_of_ble_eq_true rfl, Nat.le_of_ble_eq_true rfl⟩ (kI fun r11 μ9 x10 h => ?_)
    refine g_if_ne f 24 dX10_apart_19 rfl h (fun h => ?_) (fun h => ?_)
    · refine g_aload_n f 0 dX10_apart_24 rfl rfl ?_
      have v1 := mex_ok x10 v1
      refine g_getR f fk_X10_61 v1 dX10_apart_25 rfl h (fun t12 h => ?_)
      refine g_iload_n f 1 dX10_apart_28 rfl rfl ?_
      refine g_iload_n f 2 dX10_apart_29 rfl rfl ?_
      obtain ⟨v13, h⟩ := h
      refine g_callV f mk_X10_264 v13 (c_X2_timesApart h) dX10_apart_30 rfl rfl (Nat.le_of_ble_eq_true rfl) (rm_ok (by decide) (by decide)) ⟨Nat.le_of_ble_eq_true rfl, Nat.le_of_ble_eq_true rfl⟩ (kI fun r16 μ14 x15 h => ?_)
      exact g_iret f hq (Nat.le_of_ble_eq_true rfl) (Nat.le_of_ble_eq_true rfl) dX10_apart_33 h
    · refine g_iconst f (-1) dX10_apart_22 kc_m1 ?_
      exact g_iret f hq (Nat.le_of_ble_eq_true rfl) (Nat.le_of_ble_eq_true rfl) dX10_apart_23 h
theorem c_X10_apart {Ω : OM} {o0 : Nat} {i1 : Int32} {i2 : Int32} {μ : Me} {Q : Int32 → Me → Prop} (h : S_X10_apart o0 i1 i2 μ Q) : CT Ω yX10_apart cX10_apart 3 (some .int) (rmc 6 0 0) [.ref (oB Ω + o0), .int i1, .int i2] μ (qI Q) := CT_of (by decide) rfl (by simp [lg_sl, Value.category]) (fun x hΩ f hq hi => by subst hΩ; exact t_X10_apart f hq h)
theorem dX10_isSettledByEachWeather_0 : decode cX10_isSettledByEachWeather 0 = .ok (.aload_n 0, 1) := by decide +kernel
theorem dX10_isSettledByEachWeather_1 : decode cX10_isSettledByEachWeather 1 = .ok (.getfield 45, 3) := by decide +kernel
theorem dX10_isSettledByEachWeather_4 : decode cX10_isSettledByEachWeather 4 = .ok (.invokevirtual 227, 3) := by decide +kernel
theorem dX10_isSettledByEachWeather_7 : decode cX10_isSettledByEachWeather 7 = .ok (.iconst 0, 1) := by decide +kernel
theorem dX10_isSettledByEachWeather_8 : decode cX10_isSettledByEachWeather 8 = .ok (.istore_n 2, 1) := by decide +kernel
theorem dX10_isSettledByEachWeather_9 : decode cX10_isSettledByEachWeather 9 = .ok (.iload_n 2, 1) := by decide +kernel
theorem dX10_isSettledByEachWeather_10 : decode cX10_isSettledByEachWeather 10 = .ok (.bipush 10, 2) := by decide +kernel
theorem dX10_isSettledByEachWeather_12 : decode cX10_isSettledByEachWeather 12 = .ok (.if_icmp .ge 31, 3) := by decide +kernel
theorem dX10_isSettledByEachWeather_15 : decode cX10_isSettledByEachWeather 15 = .ok (.aload_n 0, 1) := by decide +kernel
theorem dX10_isSettledByEachWeather_16 : decode cX10_isSettledByEachWeather 16 = .ok (.getfield 45, 3) := by decide +kernel
theorem dX10_isSettledByEachWeather_19 : decode cX10_isSettledByEachWeather 19 = .ok (.iload_n 2, 1) := by decide +kernel
theorem dX10_isSettledByEachWeather_20 : decode cX10_isSettledByEachWeather 20 = .ok (.putfield 276, 3) := by decide +kernel
theorem dX10_isSettledByEachWeather_23 : decode cX10_isSettledByEachWeather 23 = .ok (.aload_n 0, 1) := by decide +kernel
theorem dX10_isSettledByEachWeather_24 : decode cX10_isSettledByEachWeather 24 = .ok (.getfield 45, 3) := by decide +kernel
theorem dX10_isSettledByEachWeather_27 : decode cX10_isSettledByEachWeather 27 = .ok (.iload_n 1, 1) := by decide +kernel
theorem dX10_isSettledByEachWeather_28 : decode cX10_isSettledByEachWeather 28 = .ok (.invokevirtual 277, 3) := by decide +kernel
theorem dX10_isSettledByEachWeather_31 : decode cX10_isSettledByEachWeather 31 = .ok (.iload_n 1, 1) := by decide +kernel
theorem dX10_isSettledByEachWeather_32 : decode cX10_isSettledByEachWeather 32 = .ok (.if_icmp .eq 5, 3) := by decide +kernel
theorem dX10_isSettledByEachWeather_35 : decode cX10_isSettledByEachWeather 35 = .ok (.iconst 0, 1) := by decide +kernel
theorem dX10_isSettledByEachWeather_36 : decode cX10_isSettledByEachWeather 36 = .ok (.ireturn, 1) := by decide +kernel
theorem dX10_isSettledByEachWeather_37 : decode cX10_isSettledByEachWeather 37 = .ok (.iinc 2 1, 3) := by decide +kernel
theorem dX10_isSettledByEachWeather_40 : decode cX10_isSettledByEachWeather 40 = .ok (.goto (-31), 3) := by decide +kernel
theorem dX10_isSettledByEachWeather_43 : decode cX10_isSettledByEachWeather 43 = .ok (.iconst 1, 1) := by decide +kernel
theorem dX10_isSettledByEachWeather_44 : decode cX10_isSettledByEachWeather 44 = .ok (.ireturn, 1) := by decide +kernel
def B_X10_isSettledByEachWeather_9 (o0 : Nat) (i1 : Int32) (i2 : Int32) (μ : Me) (K9 : Int32 → Me → Prop) (Q : Int32 → Me → Prop) : Prop := ((10 ≤ i2 → Q 1 μ) ∧ (¬ 10 ≤ i2 → mok μ o0 10 ∧ ∃ t8, mgr μ o0 5 = some t8 ∧ mok μ t8 4 ∧ ∀ μ10, μ10 = msi μ t8 4 i2 → ∃ t11, mgr μ10 o0 5 = some t11 ∧ mok μ10 t11 4 ∧ S_X4_lateBy t11 i1 μ10 (fun r15 μ13 => ((r15 = i1 → K9 (i2 + 1) μ13) ∧ (¬ r15 = i1 → Q 0 μ13)))))
set_option maxHeartbeats 4000000 in
set_option maxRecDepth 100000 in
theorem tB_X10_isSettledByEachWeather_9 {x : GX} (f : Fx x cX10_isSettledByEachWeather RX10 3 (rmc 4 0 0)) {o0 : Nat} {i1 : Int32} {i2 : Int32} {μ : Me} {Q : Int32 → Me → Prop} (hq : Rt x (some .boolean) (qI Q)) {K9 : Int32 → Me → Prop} (hK9 : ∀ (a2 : Int32) (ν : Me), K9 a2 ν → G x 3 9 [(0, .ref (gB x + o0)), (1, .int i1), (2, .int a2)] [] ν 0 0) (h : B_X10_isSettledByEachWeather_9 o0 i1 i2 μ K9 Q) : G x 3 9 [(0, .ref (gB x + o0)), (1, .int i1), (2, .int i2)] [] μ 0 0 := by
  unfold B_X10_isSettledByEachWeather_9 at h
  refine g_iload_n f 2 dX10_isSettledByEachWeather_9 rfl rfl ?_
  refine g_bipush f 10 dX10_isSettledByEachWeather_10 kb_10 ?_
  refine g_ic_ge f 43 dX10_isSettledByEachWeather_12 rfl h (fun h => ?_) (fun h => ?_)
  · refine g_iconst f 1 dX10_isSettledByEachWeather_43 kc_1 ?_
    exact g_zret f hq (Nat.le_of_ble_eq_true rfl) (Nat.le_of_ble_eq_true rfl) dX10_isSettledByEachWeather_44 zb_1.1 h
  · refine g_aload_n f 0 dX10_isSettledByEachWeather_15 rfl rfl ?_
    obtain ⟨v7, h⟩ := h
    refine g_getR f fk_X10_45 v7 dX10_isSettledByEachWeather_16 rfl h (fun t8 h => ?_)
    refine g_iload_n f 2 dX10_isSettledByEachWeather_19 rfl rfl ?_
    obtain ⟨v9, h⟩ := h
    refine g_putI f fk_X10_276 v9 dX10_isSettledByEachWeather_20 rfl h (fun h => ?_)
    refine g_aload_n f 0 dX10_isSettledByEachWeather_23 rfl rfl ?_
    refine g_getR f fk_X10_45 v7 dX10_isSettledByEachWeather_24 rfl h (fun t11 h => ?_)
    refine g_iload_n f 1 dX10_isSettledByEachWeather_27 rfl rfl ?_
    obtain ⟨v12, h⟩ := h
    refine g_callV f mk_X10_277 v12 (c_X4_lateBy h) dX10_isSettledByEachWeather_28 rfl rfl (Nat.le_of_ble_eq_true rfl) (rm_ok (by decide) (by decide)) ⟨Nat.le_of_ble_eq_true rfl, Nat.le_of_ble_eq_true rfl⟩ (kI fun r15 μ13 x14 h => ?_)
    refine g_iload_n f 1 dX10_isSettledByEachWeather_31 rfl rfl ?_
    refine g_ic_eq f 37 dX10_isSettledByEachWeather_32 rfl h (fun h => ?_) (fun h => ?_)
    · refine h_iinc f 2 1 dX10_isSettledByEachWeather_37 rfl kc_1 (by decide) ?_
      refine g_goto f 9 dX10_isSettledByEachWeather_40 rfl ?_
      exact h_sub [1, 2, 0] rfl (hK9 _ _ h)
    · refine g_iconst f 0 dX10_isSettledByEachWeather_35 kc_0 ?_
      exact g_zret f hq (Nat.le_of_ble_eq_true rfl) (Nat.le_of_ble_eq_true rfl) dX10_isSettledByEachWeather_36 zb_0.1 h
def L_X10_isSettledByEachWeather_9 (o0 : Nat) (i1 : Int32) (i2 : Int32) (μ : Me) (Q : Int32 → Me → Prop) : Prop := ∃ I : Int32 → Me → Nat → Prop, (∃ n, I i2 μ n) ∧ ∀ (i2 : Int32) (μ : Me) (n : Nat), I i2 μ n → B_X10_isSettledByEachWeather_9 o0 i1 i2 μ (fun a2 ν => ∃ n', n' < n ∧ I a2 ν n') Q
set_option maxHeartbeats 4000000 in
set_option maxRecDepth 100000 in
theorem tL_X10_isSettledByEachWeather_9 {x : GX} (f : Fx x cX10_isSettledByEachWeather RX10 3 (rmc 4 0 0)) {o0 : Nat} {i1 : Int32} {i2 : Int32} {μ : Me} {Q : Int32 → Me → Prop} (hq : Rt x (some .boolean) (qI Q)) (h : L_X10_isSettledByEachWeather_9 o0 i1 i2 μ Q) : G x 3 9 [(0, .ref (gB x + o0)), (1, .int i1), (2, .int i2)] [] μ 0 0 := by
  obtain ⟨I, ⟨n, hI⟩, hs⟩ := h
  induction n using Nat.strongRecOn generalizing i2 μ with
  | ind n ih => exact tB_X10_isSettledByEachWeather_9 f hq (fun a2 ν hk => by obtain ⟨n2, hn, hI2⟩ := hk; exact ih n2 hn hI2) (hs _ _ _ hI)
def S_X10_isSettledByEachWeather (o0 : Nat) (i1 : Int32) (μ : Me) (Q : Int32 → Me → Prop) : Prop := mok μ o0 10 ∧ ∃ t2, mgr μ o0 5 = some t2 ∧ mok μ t2 4 ∧ S_X4_asNow t2 μ (fun μ4 => L_X10_isSettledByEachWeather_9 o0 i1 0 μ4 Q)
set_option maxHeartbeats 4000000 in
set_option maxRecDepth 100000 in
theorem t_X10_isSettledByEachWeather {x : GX} (f : Fx x cX10_isSettledByEachWeather RX10 3 (rmc 4 0 0)) {o0 : Nat} {i1 : Int32} {μ : Me} {Q : Int32 → Me → Prop} (hq : Rt x (some .boolean) (qI Q)) (h : S_X10_isSettledByEachWeather o0 i1 μ Q) : G x 3 0 [(0, .ref (gB x + o0)), (1, .int i1)] [] μ 0 0 := by
  unfold S_X10_isSettledByEachWeather at h
  refine g_aload_n f 0 dX10_isSettledByEachWeather_0 rfl rfl ?_
  obtain ⟨v1, h⟩ := h
  refine g_getR f fk_X10_45 v1 dX10_isSettledByEachWeather_1 rfl h (fun t2 h => ?_)
  obtain ⟨v3, h⟩ := h
  refine g_callV f mk_X10_227 v3 (c_X4_asNow h) dX10_isSettledByEachWeather_4 rfl rfl (Nat.le_of_ble_eq_true rfl) (rm_ok (by decide) (by decide)) ⟨Nat.le_of_ble_eq_true rfl, Nat.le_of_ble_eq_true rfl⟩ (kV fun μ4 x5 h => ?_)
  refine g_iconst f 0 dX10_isSettledByEachWeather_7 kc_0 ?_
  refine h_istore_n f dX10_isSettledByEachWeather_8 rfl (by decide) ?_
  exact h_sub [1, 2, 0] rfl (tL_X10_isSettledByEachWeather_9 f hq h)
theorem c_X10_isSettledByEachWeather {Ω : OM} {o0 : Nat} {i1 : Int32} {μ : Me} {Q : Int32 → Me → Prop} (h : S_X10_isSettledByEachWeather o0 i1 μ Q) : CT Ω yX10_isSettledByEachWeather cX10_isSettledByEachWeather 3 (some .boolean) (rmc 4 0 0) [.ref (oB Ω + o0), .int i1] μ (qI Q) := CT_of (by decide) rfl (by simp [lg_sl, Value.category]) (fun x hΩ f hq hi => by subst hΩ; exact t_X10_isSettledByEachWeather f hq h)
theorem dX10_always_0 : decode cX10_always 0 = .ok (.iconst 0, 1) := by decide +kernel
theorem dX10_always_1 : decode cX10_always 1 = .ok (.istore_n 1, 1) := by decide +kernel
theorem dX10_always_2 : decode cX10_always 2 = .ok (.iconst 0, 1) := by decide +kernel
theorem dX10_always_3 : decode cX10_always 3 = .ok (.istore_n 2, 1) := by decide +kernel
theorem dX10_always_4 : decode cX10_always 4 = .ok (.iload_n 2, 1) := by decide +kernel
theorem dX10_always_5 : decode cX10_always 5 = .ok (.aload_n 0, 1) := by decide +kernel
theorem dX10_always_6 : decode cX10_always 6 = .ok (.getfield 12, 3) := by decide +kernel
theorem dX10_always_9 : decode cX10_always 9 = .ok (.invokevirtual 267, 3) := by decide +kernel
theorem dX10_always_12 : decode cX10_always 12 = .ok (.if_icmp .ge 31, 3) := by decide +kernel
theorem dX10_always_15 : decode cX10_always 15 = .ok (.aload_n 0, 1) := by decide +kernel
theorem dX10_always_16 : decode cX10_always 16 = .ok (.getfield 61, 3) := by decide +kernel
theorem dX10_always_19 : decode cX10_always 19 = .ok (.iload_n 2, 1) := by decide +kernel
theorem dX10_always_20 : decode cX10_always 20 = .ok (.invokevirtual 270, 3) := by decide +kernel
theorem dX10_always_23 : decode cX10_always 23 = .ok (.ifCond .eq 14, 3) := by decide +kernel
theorem dX10_always_26 : decode cX10_always 26 = .ok (.aload_n 0, 1) := by decide +kernel
theorem dX10_always_27 : decode cX10_always 27 = .ok (.iload_n 2, 1) := by decide +kernel
theorem dX10_always_28 : decode cX10_always 28 = .ok (.invokevirtual 273, 3) := by decide +kernel
theorem dX10_always_31 : decode cX10_always 31 = .ok (.ifCond .eq 6, 3) := by decide +kernel
theorem dX10_always_34 : decode cX10_always 34 = .ok (.iinc 1 1, 3) := by decide +kernel
theorem dX10_always_37 : decode cX10_always 37 = .ok (.iinc 2 1, 3) := by decide +kernel
theorem dX10_always_40 : decode cX10_always 40 = .ok (.goto (-36), 3) := by decide +kernel
theorem dX10_always_43 : decode cX10_always 43 = .ok (.iload_n 1, 1) := by decide +kernel
theorem dX10_always_44 : decode cX10_always 44 = .ok (.ireturn, 1) := by decide +kernel
def B_X10_always_37 (o0 : Nat) (i1 : Int32) (i2 : Int32) (μ : Me) (K4 : Int32 → Int32 → Me → Prop) (Q : Int32 → Me → Prop) : Prop := K4 i1 (i2 + 1) μ
set_option maxHeartbeats 4000000 in
set_option maxRecDepth 100000 in
theorem tB_X10_always_37 {x : GX} (f : Fx x cX10_always RX10 3 (rmc 6 0 0)) {o0 : Nat} {i1 : Int32} {i2 : Int32} {μ : Me} {Q : Int32 → Me → Prop} (hq : Rt x (some .int) (qI Q)) {K4 : Int32 → Int32 → Me → Prop} (hK4 : ∀ (a1 : Int32) (a2 : Int32) (ν : Me), K4 a1 a2 ν → G x 3 4 [(0, .ref (gB x + o0)), (1, .int a1), (2, .int a2)] [] ν 0 0) (h : B_X10_always_37 o0 i1 i2 μ K4 Q) : G x 3 37 [(0, .ref (gB x + o0)), (1, .int i1), (2, .int i2)] [] μ 0 0 := by
  unfold B_X10_always_37 at h
  refine h_iinc f 2 1 dX10_always_37 rfl kc_1 (by decide) ?_
  refine g_goto f 4 dX10_always_40 rfl ?_
  exact h_sub [1, 2, 0] rfl (hK4 _ _ _ h)
def B_X10_always_4 (o0 : Nat) (i1 : Int32) (i2 : Int32) (μ : Me) (K4 : Int32 → Int32 → Me → Prop) (Q : Int32 → Me → Prop) : Prop := mok μ o0 10 ∧ ∃ t2, mgr μ o0 0 = some t2 ∧ mok μ t2 9 ∧ S_X9_allRings t2 μ (fun r6 μ4 => ((r6 ≤ i2 → Q i1 μ4) ∧ (¬ r6 ≤ i2 → ∃ t7, mgr μ4 o0 7 = some t7 ∧ mok μ4 t7 2 ∧ S_X2_isSettled t7 i2 μ4 (fun r11 μ9 => ((r11 = 0 → B_X10_always_37 o0 i1 i2 μ9 K4 Q) ∧ (¬ r11 = 0 → S_X10_isSettledByEachWeather o0 i2 μ9 (fun r14 μ12 => ((r14 = 0 → B_X10_always_37 o0 i1 i2 μ12 K4 Q) ∧ (¬ r14 = 0 → B_X10_always_37 o0 (i1 + 1) i2 μ12 K4 Q)))))))))
set_option maxHeartbeats 4000000 in
set_option maxRecDepth 100000 in
theorem tB_X10_always_4 {x : GX} (f : Fx x cX10_always RX10 3 (rmc 6 0 0)) {o0 : Nat} {i1 : Int32} {i2 : Int32} {μ : Me} {Q : Int32 → Me → Prop} (hq : Rt x (some .int) (qI Q)) {K4 : Int32 → Int32 → Me → Prop} (hK4 : ∀ (a1 : Int32) (a2 : Int32) (ν : Me), K4 a1 a2 ν → G x 3 4 [(0, .ref (gB x + o0)), (1, .int a1), (2, .int a2)] [] ν 0 0) (h : B_X10_always_4 o0 i1 i2 μ K4 Q) : G x 3 4 [(0, .ref (gB x + o0)), (1, .int i1), (2, .int i2)] [] μ 0 0 := by
  unfold B_X10_always_4 at h
  refine g_iload_n f 2 dX10_always_4 rfl rfl ?_
  refine g_aload_n f 0 dX10_always_5 rfl rfl ?_
  obtain ⟨v1, h⟩ := h
  refine g_getR f fk_X10_12 v1 dX10_always_6 rfl h (fun t2 h => ?_)
  obtain ⟨v3, h⟩ := h
  refine g_callV f mk_X10_267 v3 (c_X9_allRings h) dX10_always_9 rfl rfl (Nat.le_of_ble_eq_true rfl) (rm_ok (by decide) (by decide)) ⟨Nat.le_of_ble_eq_true rfl, Nat.le_of_ble_eq_true rfl⟩ (kI fun r6 μ4 x5 h => ?_)
  refine g_ic_ge f 43 dX10_always_12 rfl h (fun h => ?_) (fun h => ?_)
  · refine g_iload_n f 1 dX10_always_43 rfl rfl ?_
    exact g_iret f hq (Nat.le_of_ble_eq_true rfl) (Nat.le_of_ble_eq_true rfl) dX10_always_44 h
  · refine g_aload_n f 0 dX10_always_15 rfl rfl ?_
    have v1 := mex_ok x5 v1
    refine g_getR f fk_X10_61 v1 dX10_always_16 rfl h (fun t7 h => ?_)
    refine g_iload_n f 2 dX10_always_19 rfl rfl ?_
    obtain ⟨v8, h⟩ := h
    refine g_callV f mk_X10_270 v8 (c_X2_isSettled h) dX10_always_20 rfl rfl (Nat.le_of_ble_eq_true rfl) (rm_ok (by decide) (by decide)) ⟨Nat.le_of_ble_eq_true rfl, Nat.le_of_ble_eq_true rfl⟩ (kI fun r11 μ9 x10 h => ?_)
    refine g_if_eq f 37 dX10_always_23 rfl h (fun h => ?_) (fun h => ?_)
    · exact h_sub [0, 1, 2] rfl (tB_X10_always_37 f hq hK4 h)
    · refine g_aload_n f 0 dX10_always_26 rfl rfl ?_
      refine g_iload_n f 2 dX10_always_27 rfl rfl ?_
      have v1 := mex_ok x10 v1
      refine g_callV f mk_X10_273 v1 (c_X10_isSettledByEachWeather h) dX10_always_28 rfl rfl (Nat.le_of_ble_eq_true rfl) (rm_ok (by decide) (by decide)) ⟨Nat.le_of_ble_eq_true rfl, Nat.le_of_ble_eq_true rfl⟩ (kI fun r14 μ12 x13 h => ?_)
      refine g_if_eq f 37 dX10_always_31 rfl h (fun h => ?_) (fun h => ?_)
      · exact h_sub [0, 1, 2] rfl (tB_X10_always_37 f hq hK4 h)
      · refine h_iinc f 1 1 dX10_always_34 rfl kc_1 (by decide) ?_
        exact h_sub [1, 0, 2] rfl (tB_X10_always_37 f hq hK4 h)
def L_X10_always_4 (o0 : Nat) (i1 : Int32) (i2 : Int32) (μ : Me) (Q : Int32 → Me → Prop) : Prop := ∃ I : Int32 → Int32 → Me → Nat → Prop, (∃ n, I i1 i2 μ n) ∧ ∀ (i1 : Int32) (i2 : Int32) (μ : Me) (n : Nat), I i1 i2 μ n → B_X10_always_4 o0 i1 i2 μ (fun a1 a2 ν => ∃ n', n' < n ∧ I a1 a2 ν n') Q
set_option maxHeartbeats 4000000 in
set_option maxRecDepth 100000 in
theorem tL_X10_always_4 {x : GX} (f : Fx x cX10_always RX10 3 (rmc 6 0 0)) {o0 : Nat} {i1 : Int32} {i2 : Int32} {μ : Me} {Q : Int32 → Me → Prop} (hq : Rt x (some .int) (qI Q)) (h : L_X10_always_4 o0 i1 i2 μ Q) : G x 3 4 [(0, .ref (gB x + o0)), (1, .int i1), (2, .int i2)] [] μ 0 0 := by
  obtain ⟨I, ⟨n, hI⟩, hs⟩ := h
  induction n using Nat.strongRecOn generalizing i1 i2 μ with
  | ind n ih => exact tB_X10_always_4 f hq (fun a1 a2 ν hk => by obtain ⟨n2, hn, hI2⟩ := hk; exact ih n2 hn hI2) (hs _ _ _ _ hI)
def S_X10_always (o0 : Nat) (μ : Me) (Q : Int32 → Me → Prop) : Prop := L_X10_always_4 o0 0 0 μ Q
set_option maxHeartbeats 4000000 in
set_option maxRecDepth 100000 in
theorem t_X10_always {x : GX} (f : Fx x cX10_always RX10 3 (rmc 6 0 0)) {o0 : Nat} {μ : Me} {Q : Int32 → Me → Prop} (hq : Rt x (some .int) (qI Q)) (h : S_X10_always o0 μ Q) : G x 3 0 [(0, .ref (gB x + o0))] [] μ 0 0 := by
  unfold S_X10_always at h
  refine g_iconst f 0 dX10_always_0 kc_0 ?_
  refine h_istore_n f dX10_always_1 rfl (by decide) ?_
  refine g_iconst f 0 dX10_always_2 kc_0 ?_
  refine h_istore_n f dX10_always_3 rfl (by decide) ?_
  exact h_sub [2, 1, 0] rfl (tL_X10_always_4 f hq h)
theorem c_X10_always {Ω : OM} {o0 : Nat} {μ : Me} {Q : Int32 → Me → Prop} (h : S_X10_always o0 μ Q) : CT Ω yX10_always cX10_always 3 (some .int) (rmc 6 0 0) [.ref (oB Ω + o0)] μ (qI Q) := CT_of (by decide) rfl (by simp [lg_sl, Value.category]) (fun x hΩ f hq hi => by subst hΩ; exact t_X10_always f hq h)
theorem dX10_calm_0 : decode cX10_calm 0 = .ok (.aload_n 0, 1) := by decide +kernel
theorem dX10_calm_1 : decode cX10_calm 1 = .ok (.getfield 61, 3) := by decide +kernel
theorem dX10_calm_4 : decode cX10_calm 4 = .ok (.iload_n 1, 1) := by decide +kernel
theorem dX10_calm_5 : decode cX10_calm 5 = .ok (.invokevirtual 280, 3) := by decide +kernel
theorem dX10_calm_8 : decode cX10_calm 8 = .ok (.ireturn, 1) := by decide +kernel
def S_X10_calm (o0 : Nat) (i1 : Int32) (μ : Me) (Q : Int32 → Me → Prop) : Prop := mok μ o0 10 ∧ ∃ t2, mgr μ o0 7 = some t2 ∧ mok μ t2 2 ∧ S_X2_calmest t2 i1 μ (fun r6 μ4 => Q r6 μ4)
set_option maxHeartbeats 4000000 in
set_option maxRecDepth 100000 in
theorem t_X10_calm {x : GX} (f : Fx x cX10_calm RX10 2 (rmc 6 0 0)) {o0 : Nat} {i1 : Int32} {μ : Me} {Q : Int32 → Me → Prop} (hq : Rt x (some .int) (qI Q)) (h : S_X10_calm o0 i1 μ Q) : G x 2 0 [(0, .ref (gB x + o0)), (1, .int i1)] [] μ 0 0 := by
  unfold S_X10_calm at h
  refine g_aload_n f 0 dX10_calm_0 rfl rfl ?_
  obtain ⟨v1, h⟩ := h
  refine g_getR f fk_X10_61 v1 dX10_calm_1 rfl h (fun t2 h => ?_)
  refine g_iload_n f 1 dX10_calm_4 rfl rfl ?_
  obtain ⟨v3, h⟩ := h
  refine g_callV f mk_X10_280 v3 (c_X2_calmest h) dX10_calm_5 rfl rfl (Nat.le_of_ble_eq_true rfl) (rm_ok (by decide) (by decide)) ⟨Nat.le_of_ble_eq_true rfl, Nat.le_of_ble_eq_true rfl⟩ (kI fun r6 μ4 x5 h => ?_)
  exact g_iret f hq (Nat.le_of_ble_eq_true rfl) (Nat.le_of_ble_eq_true rfl) dX10_calm_8 h
theorem c_X10_calm {Ω : OM} {o0 : Nat} {i1 : Int32} {μ : Me} {Q : Int32 → Me → Prop} (h : S_X10_calm o0 i1 μ Q) : CT Ω yX10_calm cX10_calm 2 (some .int) (rmc 6 0 0) [.ref (oB Ω + o0), .int i1] μ (qI Q) := CT_of (by decide) rfl (by simp [lg_sl, Value.category]) (fun x hΩ f hq hi => by subst hΩ; exact t_X10_calm f hq h)
theorem dX10_helped_0 : decode cX10_helped 0 = .ok (.aload_n 0, 1) := by decide +kernel
theorem dX10_helped_1 : decode cX10_helped 1 = .ok (.getfield 12, 3) := by decide +kernel
theorem dX10_helped_4 : decode cX10_helped 4 = .ok (.iload_n 1, 1) := by decide +kernel
theorem dX10_helped_5 : decode cX10_helped 5 = .ok (.invokevirtual 221, 3) := by decide +kernel
theorem dX10_helped_8 : decode cX10_helped 8 = .ok (.ifCond .ne 5, 3) := by decide +kernel
theorem dX10_helped_11 : decode cX10_helped 11 = .ok (.iconst (-1), 1) := by decide +kernel
theorem dX10_helped_12 : decode cX10_helped 12 = .ok (.ireturn, 1) := by decide +kernel
theorem dX10_helped_13 : decode cX10_helped 13 = .ok (.aload_n 0, 1) := by decide +kernel
theorem dX10_helped_14 : decode cX10_helped 14 = .ok (.getfield 61, 3) := by decide +kernel
theorem dX10_helped_17 : decode cX10_helped 17 = .ok (.iconst 0, 1) := by decide +kernel
theorem dX10_helped_18 : decode cX10_helped 18 = .ok (.invokevirtual 224, 3) := by decide +kernel
theorem dX10_helped_21 : decode cX10_helped 21 = .ok (.istore_n 3, 1) := by decide +kernel
theorem dX10_helped_22 : decode cX10_helped 22 = .ok (.aload_n 0, 1) := by decide +kernel
theorem dX10_helped_23 : decode cX10_helped 23 = .ok (.getfield 61, 3) := by decide +kernel
theorem dX10_helped_26 : decode cX10_helped 26 = .ok (.iload_n 1, 1) := by decide +kernel
theorem dX10_helped_27 : decode cX10_helped 27 = .ok (.invokevirtual 224, 3) := by decide +kernel
theorem dX10_helped_30 : decode cX10_helped 30 = .ok (.istore 4, 2) := by decide +kernel
theorem dX10_helped_32 : decode cX10_helped 32 = .ok (.iload_n 2, 1) := by decide +kernel
theorem dX10_helped_33 : decode cX10_helped 33 = .ok (.ifCond .eq 12, 3) := by decide +kernel
theorem dX10_helped_36 : decode cX10_helped 36 = .ok (.iload 4, 2) := by decide +kernel
theorem dX10_helped_38 : decode cX10_helped 38 = .ok (.iload_n 3, 1) := by decide +kernel
theorem dX10_helped_39 : decode cX10_helped 39 = .ok (.iconst (-1), 1) := by decide +kernel
theorem dX10_helped_40 : decode cX10_helped 40 = .ok (.ixor, 1) := by decide +kernel
theorem dX10_helped_41 : decode cX10_helped 41 = .ok (.iand, 1) := by decide +kernel
theorem dX10_helped_42 : decode cX10_helped 42 = .ok (.goto 9, 3) := by decide +kernel
theorem dX10_helped_45 : decode cX10_helped 45 = .ok (.iload_n 3, 1) := by decide +kernel
theorem dX10_helped_46 : decode cX10_helped 46 = .ok (.iload 4, 2) := by decide +kernel
theorem dX10_helped_48 : decode cX10_helped 48 = .ok (.iconst (-1), 1) := by decide +kernel
theorem dX10_helped_49 : decode cX10_helped 49 = .ok (.ixor, 1) := by decide +kernel
theorem dX10_helped_50 : decode cX10_helped 50 = .ok (.iand, 1) := by decide +kernel
theorem dX10_helped_51 : decode cX10_helped 51 = .ok (.ireturn, 1) := by decide +kernel
def S_X10_helped (o0 : Nat) (i1 : Int32) (i2 : Int32) (μ : Me) (Q : Int32 → Me → Prop) : Prop := mok μ o0 10 ∧ ∃ t2, mgr μ o0 0 = some t2 ∧ mok μ t2 9 ∧ S_X9_areRings t2 i1 μ (fun r6 μ4 => ((¬ r6 = 0 → ∃ t7, mgr μ4 o0 7 = some t7 ∧ mok μ4 t7 2 ∧ S_X2_next t7 0 μ4 (fun r11 μ9 => ∃ t12, mgr μ9 o0 7 = some t12 ∧ mok μ9 t12 2 ∧ S_X2_next t12 i1 μ9 (fun r16 μ14 => ((i2 = 0 → Q (r11 &&& (r16 ^^^ (-1))) μ14) ∧ (¬ i2 = 0 → Q (r16 &&& (r11 ^^^ (-1))) μ14))))) ∧ (r6 = 0 → Q (-1) μ4)))
set_option maxHeartbeats 4000000 in
set_option maxRecDepth 100000 in
theorem t_X10_helped {x : GX} (f : Fx x cX10_helped RX10 5 (rmc 5 0 0)) {o0 : Nat} {i1 : Int32} {i2 : Int32} {μ : Me} {Q : Int32 → Me → Prop} (hq : Rt x (some .int) (qI Q)) (h : S_X10_helped o0 i1 i2 μ Q) : G x 5 0 [(0, .ref (gB x + o0)), (1, .int i1), (2, .int i2)] [] μ 0 0 := by
  unfold S_X10_helped at h
  refine g_aload_n f 0 dX10_helped_0 rfl rfl ?_
  obtain ⟨v1, h⟩ := h
  refine g_getR f fk_X10_12 v1 dX10_helped_1 rfl h (fun t2 h => ?_)
  refine g_iload_n f 1 dX10_helped_4 rfl rfl ?_
  obtain ⟨v3, h⟩ := h
  refine g_callV f mk_X10_221 v3 (c_X9_areRings h) dX10_helped_5 rfl rfl (Nat.le_of_ble_eq_true rfl) (rm_ok (by decide) (by decide)) ⟨Nat.le_of_ble_eq_true rfl, Nat.le_of_ble_eq_true rfl⟩ (kI fun r6 μ4 x5 h => ?_)
  refine g_if_ne f 13 dX10_helped_8 rfl h (fun h => ?_) (fun h => ?_)
  · refine g_aload_n f 0 dX10_helped_13 rfl rfl ?_
    have v1 := mex_ok x5 v1
    refine g_getR f fk_X10_61 v1 dX10_helped_14 rfl h (fun t7 h => ?_)
    refine g_iconst f 0 dX10_helped_17 kc_0 ?_
    obtain ⟨v8, h⟩ := h
    refine g_callV f mk_X10_224 v8 (c_X2_next h) dX10_helped_18 rfl rfl (Nat.le_of_ble_eq_true rfl) (rm_ok (by decide) (by decide)) ⟨Nat.le_of_ble_eq_true rfl, Nat.le_of_ble_eq_true rfl⟩ (kI fun r11 μ9 x10 h => ?_)
    refine h_istore_n f dX10_helped_21 rfl (by decide) ?_
    refine g_aload_n f 1 dX10_helped_22 rfl rfl ?_
    have v1 := mex_ok x10 v1
    refine g_getR f fk_X10_61 v1 dX10_helped_23 rfl h (fun t12 h => ?_)
    refine g_iload_n f 2 dX10_helped_26 rfl rfl ?_
    obtain ⟨v13, h⟩ := h
    refine g_callV f mk_X10_224 v13 (c_X2_next h) dX10_helped_27 rfl rfl (Nat.le_of_ble_eq_true rfl) (rm_ok (by decide) (by decide)) ⟨Nat.le_of_ble_eq_true rfl, Nat.le_of_ble_eq_true rfl⟩ (kI fun r16 μ14 x15 h => ?_)
    refine h_istore f dX10_helped_30 (by decide) ?_
    refine g_iload_n f 4 dX10_helped_32 rfl rfl ?_
    refine g_if_eq f 45 dX10_helped_33 rfl h (fun h => ?_) (fun h => ?_)
    · refine g_iload_n f 1 dX10_helped_45 rfl rfl ?_
      refine g_iload f 0 dX10_helped_46 rfl ?_
      refine g_iconst f (-1) dX10_helped_48 kc_m1 ?_
      refine g_ixor f dX10_helped_49 ?_
      refine g_iand f dX10_helped_50 ?_
      exact g_iret f hq (Nat.le_of_ble_eq_true rfl) (Nat.le_of_ble_eq_true rfl) dX10_helped_51 h
    · refine g_iload f 0 dX10_helped_36 rfl ?_
      refine g_iload_n f 1 dX10_helped_38 rfl rfl ?_
      refine g_iconst f (-1) dX10_helped_39 kc_m1 ?_
      refine g_ixor f dX10_helped_40 ?_
      refine g_iand f dX10_helped_41 ?_
      refine g_goto f 51 dX10_helped_42 rfl ?_
      exact g_iret f hq (Nat.le_of_ble_eq_true rfl) (Nat.le_of_ble_eq_true rfl) dX10_helped_51 h
  · refine g_iconst f (-1) dX10_helped_11 kc_m1 ?_
    exact g_iret f hq (Nat.le_of_ble_eq_true rfl) (Nat.le_of_ble_eq_true rfl) dX10_helped_12 h
theorem c_X10_helped {Ω : OM} {o0 : Nat} {i1 : Int32} {i2 : Int32} {μ : Me} {Q : Int32 → Me → Prop} (h : S_X10_helped o0 i1 i2 μ Q) : CT Ω yX10_helped cX10_helped 5 (some .int) (rmc 5 0 0) [.ref (oB Ω + o0), .int i1, .int i2] μ (qI Q) := CT_of (by decide) rfl (by simp [lg_sl, Value.category]) (fun x hΩ f hq hi => by subst hΩ; exact t_X10_helped f hq h)
