/-! contracts by program (wip/whole/gen.py) -/
theorem dX11_settle_0 : decode cX11_settle 0 = .ok (.aload_n 0, 1) := by decide +kernel
theorem dX11_settle_1 : decode cX11_settle 1 = .ok (.getfield 154, 3) := by decide +kernel
theorem dX11_settle_4 : decode cX11_settle 4 = .ok (.ifCond .le 89, 3) := by decide +kernel
theorem dX11_settle_7 : decode cX11_settle 7 = .ok (.aload_n 0, 1) := by decide +kernel
theorem dX11_settle_8 : decode cX11_settle 8 = .ok (.getfield 29, 3) := by decide +kernel
theorem dX11_settle_11 : decode cX11_settle 11 = .ok (.aload_n 0, 1) := by decide +kernel
theorem dX11_settle_12 : decode cX11_settle 12 = .ok (.getfield 154, 3) := by decide +kernel
theorem dX11_settle_15 : decode cX11_settle 15 = .ok (.iconst 1, 1) := by decide +kernel
theorem dX11_settle_16 : decode cX11_settle 16 = .ok (.isub, 1) := by decide +kernel
theorem dX11_settle_17 : decode cX11_settle 17 = .ok (.iaload, 1) := by decide +kernel
theorem dX11_settle_18 : decode cX11_settle 18 = .ok (.invokestatic 157, 3) := by decide +kernel
theorem dX11_settle_21 : decode cX11_settle 21 = .ok (.iload_n 1, 1) := by decide +kernel
theorem dX11_settle_22 : decode cX11_settle 22 = .ok (.if_icmp .lt 71, 3) := by decide +kernel
theorem dX11_settle_25 : decode cX11_settle 25 = .ok (.aload_n 0, 1) := by decide +kernel
theorem dX11_settle_26 : decode cX11_settle 26 = .ok (.dup, 1) := by decide +kernel
theorem dX11_settle_27 : decode cX11_settle 27 = .ok (.getfield 154, 3) := by decide +kernel
theorem dX11_settle_30 : decode cX11_settle 30 = .ok (.iconst 1, 1) := by decide +kernel
theorem dX11_settle_31 : decode cX11_settle 31 = .ok (.isub, 1) := by decide +kernel
theorem dX11_settle_32 : decode cX11_settle 32 = .ok (.putfield 154, 3) := by decide +kernel
theorem dX11_settle_35 : decode cX11_settle 35 = .ok (.aload_n 0, 1) := by decide +kernel
theorem dX11_settle_36 : decode cX11_settle 36 = .ok (.aload_n 0, 1) := by decide +kernel
theorem dX11_settle_37 : decode cX11_settle 37 = .ok (.getfield 29, 3) := by decide +kernel
theorem dX11_settle_40 : decode cX11_settle 40 = .ok (.aload_n 0, 1) := by decide +kernel
theorem dX11_settle_41 : decode cX11_settle 41 = .ok (.getfield 154, 3) := by decide +kernel
theorem dX11_settle_44 : decode cX11_settle 44 = .ok (.iaload, 1) := by decide +kernel
theorem dX11_settle_45 : decode cX11_settle 45 = .ok (.iconst 0, 1) := by decide +kernel
theorem dX11_settle_46 : decode cX11_settle 46 = .ok (.invokevirtual 160, 3) := by decide +kernel
theorem dX11_settle_49 : decode cX11_settle 49 = .ok (.aload_n 0, 1) := by decide +kernel
theorem dX11_settle_50 : decode cX11_settle 50 = .ok (.getfield 29, 3) := by decide +kernel
theorem dX11_settle_53 : decode cX11_settle 53 = .ok (.aload_n 0, 1) := by decide +kernel
theorem dX11_settle_54 : decode cX11_settle 54 = .ok (.getfield 154, 3) := by decide +kernel
theorem dX11_settle_57 : decode cX11_settle 57 = .ok (.iaload, 1) := by decide +kernel
theorem dX11_settle_58 : decode cX11_settle 58 = .ok (.invokestatic 157, 3) := by decide +kernel
theorem dX11_settle_61 : decode cX11_settle 61 = .ok (.bipush 7, 2) := by decide +kernel
theorem dX11_settle_63 : decode cX11_settle 63 = .ok (.if_icmp .eq 17, 3) := by decide +kernel
theorem dX11_settle_66 : decode cX11_settle 66 = .ok (.aload_n 0, 1) := by decide +kernel
theorem dX11_settle_67 : decode cX11_settle 67 = .ok (.getfield 29, 3) := by decide +kernel
theorem dX11_settle_70 : decode cX11_settle 70 = .ok (.aload_n 0, 1) := by decide +kernel
theorem dX11_settle_71 : decode cX11_settle 71 = .ok (.getfield 154, 3) := by decide +kernel
theorem dX11_settle_74 : decode cX11_settle 74 = .ok (.iaload, 1) := by decide +kernel
theorem dX11_settle_75 : decode cX11_settle 75 = .ok (.bipush 20, 2) := by decide +kernel
theorem dX11_settle_77 : decode cX11_settle 77 = .ok (.if_icmp .ne (-77), 3) := by decide +kernel
theorem dX11_settle_80 : decode cX11_settle 80 = .ok (.aload_n 0, 1) := by decide +kernel
theorem dX11_settle_81 : decode cX11_settle 81 = .ok (.dup, 1) := by decide +kernel
theorem dX11_settle_82 : decode cX11_settle 82 = .ok (.getfield 164, 3) := by decide +kernel
theorem dX11_settle_85 : decode cX11_settle 85 = .ok (.iconst 1, 1) := by decide +kernel
theorem dX11_settle_86 : decode cX11_settle 86 = .ok (.isub, 1) := by decide +kernel
theorem dX11_settle_87 : decode cX11_settle 87 = .ok (.putfield 164, 3) := by decide +kernel
theorem dX11_settle_90 : decode cX11_settle 90 = .ok (.goto (-90), 3) := by decide +kernel
theorem dX11_settle_93 : decode cX11_settle 93 = .ok (.return_, 1) := by decide +kernel
def B_X11_settle_80 (o0 : Nat) (i1 : Int32) (μ : Me) (K0 : Me → Prop) (Q : Me → Prop) : Prop := mok μ o0 11 ∧ ∀ μ19, μ19 = msi μ o0 17 ((mgi μ o0 17) - 1) → K0 μ19
set_option maxHeartbeats 4000000 in
set_option maxRecDepth 100000 in
theorem tB_X11_settle_80 {x : GX} (f : Fx x cX11_settle RX11 2 (rmc 1 0 0)) {o0 : Nat} {i1 : Int32} {μ : Me} {Q : Me → Prop} (hq : Rt x none (qV Q)) {K0 : Me → Prop} (hK0 : ∀ (ν : Me), K0 ν → G x 2 0 [(0, .ref (gB x + o0)), (1, .int i1)] [] ν 0 0) (h : B_X11_settle_80 o0 i1 μ K0 Q) : G x 2 80 [(0, .ref (gB x + o0)), (1, .int i1)] [] μ 0 0 := by
  unfold B_X11_settle_80 at h
  refine g_aload_n f 0 dX11_settle_80 rfl rfl ?_
  refine g_dup f dX11_settle_81 rfl ?_
  obtain ⟨v18, h⟩ := h
  refine g_getI f fk_X11_164 v18 dX11_settle_82 rfl ?_
  refine g_iconst f 1 dX11_settle_85 kc_1 ?_
  refine g_isub f dX11_settle_86 ?_
  refine g_putI f fk_X11_164 v18 dX11_settle_87 rfl h (fun h => ?_)
  refine g_goto f 0 dX11_settle_90 rfl ?_
  exact h_sub [0, 1] rfl (hK0 _ h)
def B_X11_settle_0 (o0 : Nat) (i1 : Int32) (μ : Me) (K0 : Me → Prop) (Q : Me → Prop) : Prop := mok μ o0 11 ∧ (((mgi μ o0 16) ≤ 0 → Q μ) ∧ (¬ (mgi μ o0 16) ≤ 0 → ∃ t2, mgr μ o0 15 = some t2 ∧ mok μ t2 12 ∧ vp_in ((mgi μ o0 16) - 1) (mln μ t2) ∧ S_X11_rank (mgi μ t2 ((mgi μ o0 16) - 1).toNatClampNeg) μ (fun r6 μ4 => ((r6 < i1 → Q μ4) ∧ (¬ r6 < i1 → ∀ μ7, μ7 = msi μ4 o0 16 ((mgi μ4 o0 16) - 1) → ∃ t8, mgr μ7 o0 15 = some t8 ∧ mok μ7 t8 12 ∧ vp_in (mgi μ7 o0 16) (mln μ7 t8) ∧ S_X11_emit o0 (mgi μ7 t8 (mgi μ7 o0 16).toNatClampNeg) 0 μ7 (fun μ10 => ∃ t13, mgr μ10 o0 15 = some t13 ∧ mok μ10 t13 12 ∧ vp_in (mgi μ10 o0 16) (mln μ10 t13) ∧ S_X11_rank (mgi μ10 t13 (mgi μ10 o0 16).toNatClampNeg) μ10 (fun r17 μ15 => ((r17 = 7 → B_X11_settle_80 o0 i1 μ15 K0 Q) ∧ (¬ r17 = 7 → ∃ t20, mgr μ15 o0 15 = some t20 ∧ mok μ15 t20 12 ∧ vp_in (mgi μ15 o0 16) (mln μ15 t20) ∧ ((¬ (mgi μ15 t20 (mgi μ15 o0 16).toNatClampNeg) = 20 → K0 μ15) ∧ ((mgi μ15 t20 (mgi μ15 o0 16).toNatClampNeg) = 20 → B_X11_settle_80 o0 i1 μ15 K0 Q)))))))))))
set_option maxHeartbeats 4000000 in
set_option maxRecDepth 100000 in
theorem tB_X11_settle_0 {x : GX} (f : Fx x cX11_settle RX11 2 (rmc 1 0 0)) {o0 : Nat} {i1 : Int32} {μ : Me} {Q : Me → Prop} (hq : Rt x none (qV Q)) {K0 : Me → Prop} (hK0 : ∀ (ν : Me), K0 ν → G x 2 0 [(0, .ref (gB x + o0)), (1, .int i1)] [] ν 0 0) (h : B_X11_settle_0 o0 i1 μ K0 Q) : G x 2 0 [(0, .ref (gB x + o0)), (1, .int i1)] [] μ 0 0 := by
  unfold B_X11_settle_0 at h
  refine g_aload_n f 0 dX11_settle_0 rfl rfl ?_
  obtain ⟨v1, h⟩ := h
  refine g_getI f fk_X11_154 v1 dX11_settle_1 rfl ?_
  refine g_if_le f 93 dX11_settle_4 rfl h (fun h => ?_) (fun h => ?_)
  · exact g_vret f hq (Nat.le_of_ble_eq_true rfl) (Nat.le_of_ble_eq_true rfl) dX11_settle_93 h
  · refine g_aload_n f 0 dX11_settle_7 rfl rfl ?_
    refine g_getR f fk_X11_29 v1 dX11_settle_8 rfl h (fun t2 h => ?_)
    refine g_aload_n f 0 dX11_settle_11 rfl rfl ?_
    refine g_getI f fk_X11_154 v1 dX11_settle_12 rfl ?_
    refine g_iconst f 1 dX11_settle_15 kc_1 ?_
    refine g_isub f dX11_settle_16 ?_
    obtain ⟨v3, h⟩ := h
    refine g_iald f v3 dX11_settle_17 h (fun h => ?_)
    refine g_callS f mk_X11_157 (c_X11_rank h) dX11_settle_18 rfl rfl (Nat.le_of_ble_eq_true rfl) (rm_ok (by decide) (by decide)) ⟨Nat.le_of_ble_eq_true rfl, Nat.le_of_ble_eq_true rfl⟩ (kI fun r6 μ4 x5 h => ?_)
    refine g_iload_n f 1 dX11_settle_21 rfl rfl ?_
    refine g_ic_lt f 93 dX11_settle_22 rfl h (fun h => ?_) (fun h => ?_)
    · exact g_vret f hq (Nat.le_of_ble_eq_true rfl) (Nat.le_of_ble_eq_true rfl) dX11_settle_93 h
    · refine g_aload_n f 0 dX11_settle_25 rfl rfl ?_
      refine g_dup f dX11_settle_26 rfl ?_
      have v1 := mex_ok x5 v1
      refine g_getI f fk_X11_154 v1 dX11_settle_27 rfl ?_
      refine g_iconst f 1 dX11_settle_30 kc_1 ?_
      refine g_isub f dX11_settle_31 ?_
      refine g_putI f fk_X11_154 v1 dX11_settle_32 rfl h (fun h => ?_)
      refine g_aload_n f 0 dX11_settle_35 rfl rfl ?_
      refine g_aload_n f 0 dX11_settle_36 rfl rfl ?_
      refine g_getR f fk_X11_29 v1 dX11_settle_37 rfl h (fun t8 h => ?_)
      refine g_aload_n f 0 dX11_settle_40 rfl rfl ?_
      refine g_getI f fk_X11_154 v1 dX11_settle_41 rfl ?_
      obtain ⟨v9, h⟩ := h
      refine g_iald f v9 dX11_settle_44 h (fun h => ?_)
      refine g_iconst f 0 dX11_settle_45 kc_0 ?_
      refine g_callV f mk_X11_160 v1 (c_X11_emit h) dX11_settle_46 rfl rfl (Nat.le_of_ble_eq_true rfl) (rm_ok (by decide) (by decide)) ⟨Nat.le_of_ble_eq_true rfl, Nat.le_of_ble_eq_true rfl⟩ (kV fun μ10 x11 h => ?_)
      refine g_aload_n f 0 dX11_settle_49 rfl rfl ?_
      have v1 := mex_ok x11 v1
      refine g_getR f fk_X11_29 v1 dX11_settle_50 rfl h (fun t13 h => ?_)
      refine g_aload_n f 0 dX11_settle_53 rfl rfl ?_
      refine g_getI f fk_X11_154 v1 dX11_settle_54 rfl ?_
      obtain ⟨v14, h⟩ := h
      refine g_iald f v14 dX11_settle_57 h (fun h => ?_)
      refine g_callS f mk_X11_157 (c_X11_rank h) dX11_settle_58 rfl rfl (Nat.le_of_ble_eq_true rfl) (rm_ok (by decide) (by decide)) ⟨Nat.le_of_ble_eq_true rfl, Nat.le_of_ble_eq_true rfl⟩ (kI fun r17 μ15 x16 h => ?_)
      refine g_bipush f 7 dX11_settle_61 kb_7 ?_
      refine g_ic_eq f 80 dX11_settle_63 rfl h (fun h => ?_) (fun h => ?_)
      · exact h_sub [0, 1] rfl (tB_X11_settle_80 f hq hK0 h)
      · refine g_aload_n f 0 dX11_settle_66 rfl rfl ?_
        have v1 := mex_ok x16 v1
        refine g_getR f fk_X11_29 v1 dX11_settle_67 rfl h (fun t20 h => ?_)
        refine g_aload_n f 0 dX11_settle_70 rfl rfl ?_
        refine g_getI f fk_X11_154 v1 dX11_settle_71 rfl ?_
        obtain ⟨v21, h⟩ := h
        refine g_iald f v21 dX11_settle_74 h (fun h => ?_)
        refine g_bipush f 20 dX11_settle_75 kb_20 ?_
        refine g_ic_ne f 0 dX11_settle_77 rfl h (fun h => ?_) (fun h => ?_)
        · exact h_sub [0, 1] rfl (hK0 _ h)
        · exact h_sub [0, 1] rfl (tB_X11_settle_80 f hq hK0 h)
def L_X11_settle_0 (o0 : Nat) (i1 : Int32) (μ : Me) (Q : Me → Prop) : Prop := ∃ I : Me → Nat → Prop, (∃ n, I μ n) ∧ ∀ (μ : Me) (n : Nat), I μ n → B_X11_settle_0 o0 i1 μ (fun ν => ∃ n', n' < n ∧ I ν n') Q
set_option maxHeartbeats 4000000 in
set_option maxRecDepth 100000 in
theorem tL_X11_settle_0 {x : GX} (f : Fx x cX11_settle RX11 2 (rmc 1 0 0)) {o0 : Nat} {i1 : Int32} {μ : Me} {Q : Me → Prop} (hq : Rt x none (qV Q)) (h : L_X11_settle_0 o0 i1 μ Q) : G x 2 0 [(0, .ref (gB x + o0)), (1, .int i1)] [] μ 0 0 := by
  obtain ⟨I, ⟨n, hI⟩, hs⟩ := h
  induction n using Nat.strongRecOn generalizing μ with
  | ind n ih => exact tB_X11_settle_0 f hq (fun ν hk => by obtain ⟨n2, hn, hI2⟩ := hk; exact ih n2 hn hI2) (hs _ _ hI)
def S_X11_settle (o0 : Nat) (i1 : Int32) (μ : Me) (Q : Me → Prop) : Prop := L_X11_settle_0 o0 i1 μ Q
set_option maxHeartbeats 4000000 in
set_option maxRecDepth 100000 in
theorem t_X11_settle {x : GX} (f : Fx x cX11_settle RX11 2 (rmc 1 0 0)) {o0 : Nat} {i1 : Int32} {μ : Me} {Q : Me → Prop} (hq : Rt x none (qV Q)) (h : S_X11_settle o0 i1 μ Q) : G x 2 0 [(0, .ref (gB x + o0)), (1, .int i1)] [] μ 0 0 := by
  unfold S_X11_settle at h
  exact h_sub [0, 1] rfl (tL_X11_settle_0 f hq h)
theorem c_X11_settle {Ω : OM} {o0 : Nat} {i1 : Int32} {μ : Me} {Q : Me → Prop} (h : S_X11_settle o0 i1 μ Q) : CT Ω yX11_settle cX11_settle 2 none (rmc 1 0 0) [.ref (oB Ω + o0), .int i1] μ (qV Q) := CT_of (by decide) rfl (by simp [lg_sl, Value.category]) (fun x hΩ f hq hi => by subst hΩ; exact t_X11_settle f hq h)
theorem dX11_partOf_0 : decode cX11_partOf 0 = .ok (.iload_n 1, 1) := by decide +kernel
theorem dX11_partOf_1 : decode cX11_partOf 1 = .ok (.tableswitch 125 40 43 #[31, 46, 78, 103], 31) := by decide +kernel
theorem dX11_partOf_32 : decode cX11_partOf 32 = .ok (.aload_n 0, 1) := by decide +kernel
theorem dX11_partOf_33 : decode cX11_partOf 33 = .ok (.getfield 102, 3) := by decide +kernel
theorem dX11_partOf_36 : decode cX11_partOf 36 = .ok (.bipush 41, 2) := by decide +kernel
theorem dX11_partOf_38 : decode cX11_partOf 38 = .ok (.if_icmp .ne 7, 3) := by decide +kernel
theorem dX11_partOf_41 : decode cX11_partOf 41 = .ok (.iconst 0, 1) := by decide +kernel
theorem dX11_partOf_42 : decode cX11_partOf 42 = .ok (.goto 4, 3) := by decide +kernel
theorem dX11_partOf_45 : decode cX11_partOf 45 = .ok (.iconst (-1), 1) := by decide +kernel
theorem dX11_partOf_46 : decode cX11_partOf 46 = .ok (.ireturn, 1) := by decide +kernel
theorem dX11_partOf_47 : decode cX11_partOf 47 = .ok (.aload_n 0, 1) := by decide +kernel
theorem dX11_partOf_48 : decode cX11_partOf 48 = .ok (.bipush 116, 2) := by decide +kernel
theorem dX11_partOf_50 : decode cX11_partOf 50 = .ok (.bipush 104, 2) := by decide +kernel
theorem dX11_partOf_52 : decode cX11_partOf 52 = .ok (.bipush 101, 2) := by decide +kernel
theorem dX11_partOf_54 : decode cX11_partOf 54 = .ok (.bipush 110, 2) := by decide +kernel
theorem dX11_partOf_56 : decode cX11_partOf 56 = .ok (.invokestatic 133, 3) := by decide +kernel
theorem dX11_partOf_59 : decode cX11_partOf 59 = .ok (.invokevirtual 191, 3) := by decide +kernel
theorem dX11_partOf_62 : decode cX11_partOf 62 = .ok (.ifCond .eq 15, 3) := by decide +kernel
theorem dX11_partOf_65 : decode cX11_partOf 65 = .ok (.aload_n 0, 1) := by decide +kernel
theorem dX11_partOf_66 : decode cX11_partOf 66 = .ok (.invokevirtual 198, 3) := by decide +kernel
theorem dX11_partOf_69 : decode cX11_partOf 69 = .ok (.ifCond .eq 8, 3) := by decide +kernel
theorem dX11_partOf_72 : decode cX11_partOf 72 = .ok (.bipush 42, 2) := by decide +kernel
theorem dX11_partOf_74 : decode cX11_partOf 74 = .ok (.goto 4, 3) := by decide +kernel
theorem dX11_partOf_77 : decode cX11_partOf 77 = .ok (.iconst (-1), 1) := by decide +kernel
theorem dX11_partOf_78 : decode cX11_partOf 78 = .ok (.ireturn, 1) := by decide +kernel
theorem dX11_partOf_79 : decode cX11_partOf 79 = .ok (.aload_n 0, 1) := by decide +kernel
theorem dX11_partOf_80 : decode cX11_partOf 80 = .ok (.bipush 101, 2) := by decide +kernel
theorem dX11_partOf_82 : decode cX11_partOf 82 = .ok (.bipush 108, 2) := by decide +kernel
theorem dX11_partOf_84 : decode cX11_partOf 84 = .ok (.bipush 115, 2) := by decide +kernel
theorem dX11_partOf_86 : decode cX11_partOf 86 = .ok (.bipush 101, 2) := by decide +kernel
theorem dX11_partOf_88 : decode cX11_partOf 88 = .ok (.invokestatic 133, 3) := by decide +kernel
theorem dX11_partOf_91 : decode cX11_partOf 91 = .ok (.invokevirtual 191, 3) := by decide +kernel
theorem dX11_partOf_94 : decode cX11_partOf 94 = .ok (.ifCond .eq 8, 3) := by decide +kernel
theorem dX11_partOf_97 : decode cX11_partOf 97 = .ok (.bipush 43, 2) := by decide +kernel
theorem dX11_partOf_99 : decode cX11_partOf 99 = .ok (.goto 4, 3) := by decide +kernel
theorem dX11_partOf_102 : decode cX11_partOf 102 = .ok (.iconst (-1), 1) := by decide +kernel
theorem dX11_partOf_103 : decode cX11_partOf 103 = .ok (.ireturn, 1) := by decide +kernel
theorem dX11_partOf_104 : decode cX11_partOf 104 = .ok (.aload_n 0, 1) := by decide +kernel
theorem dX11_partOf_105 : decode cX11_partOf 105 = .ok (.bipush 101, 2) := by decide +kernel
theorem dX11_partOf_107 : decode cX11_partOf 107 = .ok (.bipush 110, 2) := by decide +kernel
theorem dX11_partOf_109 : decode cX11_partOf 109 = .ok (.bipush 100, 2) := by decide +kernel
theorem dX11_partOf_111 : decode cX11_partOf 111 = .ok (.invokestatic 129, 3) := by decide +kernel
theorem dX11_partOf_114 : decode cX11_partOf 114 = .ok (.invokevirtual 191, 3) := by decide +kernel
theorem dX11_partOf_117 : decode cX11_partOf 117 = .ok (.ifCond .eq 7, 3) := by decide +kernel
theorem dX11_partOf_120 : decode cX11_partOf 120 = .ok (.iconst 0, 1) := by decide +kernel
theorem dX11_partOf_121 : decode cX11_partOf 121 = .ok (.goto 4, 3) := by decide +kernel
theorem dX11_partOf_124 : decode cX11_partOf 124 = .ok (.iconst (-1), 1) := by decide +kernel
theorem dX11_partOf_125 : decode cX11_partOf 125 = .ok (.ireturn, 1) := by decide +kernel
theorem dX11_partOf_126 : decode cX11_partOf 126 = .ok (.iconst (-1), 1) := by decide +kernel
theorem dX11_partOf_127 : decode cX11_partOf 127 = .ok (.ireturn, 1) := by decide +kernel
def S_X11_partOf (o0 : Nat) (i1 : Int32) (μ : Me) (Q : Int32 → Me → Prop) : Prop := ((i1 = 40 → mok μ o0 11 ∧ ((¬ (mgi μ o0 9) = 41 → Q (-1) μ) ∧ ((mgi μ o0 9) = 41 → Q 0 μ))) ∧ (¬ i1 = 40 → (i1 = 41 → S_X11_w4 116 104 101 110 μ (fun r6 μ4 => mok μ4 o0 11 ∧ S_X11_isWord o0 r6 μ4 (fun r10 μ8 => ((r10 = 0 → Q (-1) μ8) ∧ (¬ r10 = 0 → S_X11_isCompared o0 μ8 (fun r13 μ11 => ((r13 = 0 → Q (-1) μ11) ∧ (¬ r13 = 0 → Q 42 μ11)))))))) ∧ (¬ i1 = 41 → (i1 = 42 → S_X11_w4 101 108 115 101 μ (fun r17 μ15 => mok μ15 o0 11 ∧ S_X11_isWord o0 r17 μ15 (fun r21 μ19 => ((r21 = 0 → Q (-1) μ19) ∧ (¬ r21 = 0 → Q 43 μ19))))) ∧ (¬ i1 = 42 → (i1 = 43 → S_X11_w3 101 110 100 μ (fun r25 μ23 => mok μ23 o0 11 ∧ S_X11_isWord o0 r25 μ23 (fun r29 μ27 => ((r29 = 0 → Q (-1) μ27) ∧ (¬ r29 = 0 → Q 0 μ27))))) ∧ (¬ i1 = 43 → Q (-1) μ)))))
set_option maxHeartbeats 4000000 in
set_option maxRecDepth 100000 in
theorem t_X11_partOf {x : GX} (f : Fx x cX11_partOf RX11 2 (rmc 3 0 0)) {o0 : Nat} {i1 : Int32} {μ : Me} {Q : Int32 → Me → Prop} (hq : Rt x (some .int) (qI Q)) (h : S_X11_partOf o0 i1 μ Q) : G x 2 0 [(0, .ref (gB x + o0)), (1, .int i1)] [] μ 0 0 := by
  unfold S_X11_partOf at h
  refine g_iload_n f 1 dX11_partOf_0 rfl rfl ?_
  rcases dec_or h with ⟨e1, h⟩ | ⟨e1, h⟩
  · refine g_tableIn f 32 dX11_partOf_1 (by rw [e1] <;> decide) (by rw [e1] <;> decide) (by rw [e1] <;> rfl) rfl ?_
    refine g_aload_n f 0 dX11_partOf_32 rfl rfl ?_
    obtain ⟨v2, h⟩ := h
    refine g_getI f fk_X11_102 v2 dX11_partOf_33 rfl ?_
    refine g_bipush f 41 dX11_partOf_36 kb_41 ?_
    refine g_ic_ne f 45 dX11_partOf_38 rfl h (fun h => ?_) (fun h => ?_)
    · refine g_iconst f (-1) dX11_partOf_45 kc_m1 ?_
      exact g_iret f hq (Nat.le_of_ble_eq_true rfl) (Nat.le_of_ble_eq_true rfl) dX11_partOf_46 h
    · refine g_iconst f 0 dX11_partOf_41 kc_0 ?_
      refine g_goto f 46 dX11_partOf_42 rfl ?_
      exact g_iret f hq (Nat.le_of_ble_eq_true rfl) (Nat.le_of_ble_eq_true rfl) dX11_partOf_46 h
  · skip
    rcases dec_or h with ⟨e3, h⟩ | ⟨e3, h⟩
    · refine g_tableIn f 47 dX11_partOf_1 (by rw [e3] <;> decide) (by rw [e3] <;> decide) (by rw [e3] <;> rfl) rfl ?_
      refine g_aload_n f 0 dX11_partOf_47 rfl rfl ?_
      refine g_bipush f 116 dX11_partOf_48 kb_116 ?_
      refine g_bipush f 104 dX11_partOf_50 kb_104 ?_
      refine g_bipush f 101 dX11_partOf_52 kb_101 ?_
      refine g_bipush f 110 dX11_partOf_54 kb_110 ?_
      refine g_callS f mk_X11_133 (c_X11_w4 h) dX11_partOf_56 rfl rfl (Nat.le_of_ble_eq_true rfl) (rm_ok (by decide) (by decide)) ⟨Nat.le_of_ble_eq_true rfl, Nat.le_of_ble_eq_true rfl⟩ (kL fun r6 μ4 x5 h => ?_)
      obtain ⟨v7, h⟩ := h
      refine g_callV f mk_X11_191 v7 (c_X11_isWord h) dX11_partOf_59 rfl rfl (Nat.le_of_ble_eq_true rfl) (rm_ok (by decide) (by decide)) ⟨Nat.le_of_ble_eq_true rfl, Nat.le_of_ble_eq_true rfl⟩ (kI fun r10 μ8 x9 h => ?_)
      refine g_if_eq f 77 dX11_partOf_62 rfl h (fun h => ?_) (fun h => ?_)
      · refine g_iconst f (-1) dX11_partOf_77 kc_m1 ?_
        exact g_iret f hq (Nat.le_of_ble_eq_true rfl) (Nat.le_of_ble_eq_true rfl) dX11_partOf_78 h
      · refine g_aload_n f 0 dX11_partOf_65 rfl rfl ?_
        have v7 := mex_ok x9 v7
        refine g_callV f mk_X11_198 v7 (c_X11_isCompared h) dX11_partOf_66 rfl rfl (Nat.le_of_ble_eq_true rfl) (rm_ok (by decide) (by decide)) ⟨Nat.le_of_ble_eq_true rfl, Nat.le_of_ble_eq_true rfl⟩ (kI fun r13 μ11 x12 h => ?_)
        refine g_if_eq f 77 dX11_partOf_69 rfl h (fun h => ?_) (fun h => ?_)
        · refine g_iconst f (-1) dX11_partOf_77 kc_m1 ?_
          exact g_iret f hq (Nat.le_of_ble_eq_true rfl) (Nat.le_of_ble_eq_true rfl) dX11_partOf_78 h
        · refine g_bipush f 42 dX11_partOf_72 kb_42 ?_
          refine g_goto f 78 dX11_partOf_74 rfl ?_
          exact g_iret f hq (Nat.le_of_ble_eq_true rfl) (Nat.le_of_ble_eq_true rfl) dX11_partOf_78 h
    · skip
      rcases dec_or h with ⟨e14, h⟩ | ⟨e14, h⟩
      · refine g_tableIn f 79 dX11_partOf_1 (by rw [e14] <;> decide) (by rw [e14] <;> decide) (by rw [e14] <;> rfl) rfl ?_
        refine g_aload_n f 0 dX11_partOf_79 rfl rfl ?_
        refine g_bipush f 101 dX11_partOf_80 kb_101 ?_
        refine g_bipush f 108 dX11_partOf_82 kb_108 ?_
        refine g_bipush f 115 dX11_partOf_84 kb_115 ?_
        refine g_bipush f 101 dX11_partOf_86 kb_101 ?_
        refine g_callS f mk_X11_133 (c_X11_w4 h) dX11_partOf_88 rfl rfl (Nat.le_of_ble_eq_true rfl) (rm_ok (by decide) (by decide)) ⟨Nat.le_of_ble_eq_true rfl, Nat.le_of_ble_eq_true rfl⟩ (kL fun r17 μ15 x16 h => ?_)
        obtain ⟨v18, h⟩ := h
        refine g_callV f mk_X11_191 v18 (c_X11_isWord h) dX11_partOf_91 rfl rfl (Nat.le_of_ble_eq_true rfl) (rm_ok (by decide) (by decide)) ⟨Nat.le_of_ble_eq_true rfl, Nat.le_of_ble_eq_true rfl⟩ (kI fun r21 μ19 x20 h => ?_)
        refine g_if_eq f 102 dX11_partOf_94 rfl h (fun h => ?_) (fun h => ?_)
        · refine g_iconst f (-1) dX11_partOf_102 kc_m1 ?_
          exact g_iret f hq (Nat.le_of_ble_eq_true rfl) (Nat.le_of_ble_eq_true rfl) dX11_partOf_103 h
        · refine g_bipush f 43 dX11_partOf_97 kb_43 ?_
          refine g_goto f 103 dX11_partOf_99 rfl ?_
          exact g_iret f hq (Nat.le_of_ble_eq_true rfl) (Nat.le_of_ble_eq_true rfl) dX11_partOf_103 h
      · skip
        rcases dec_or h with ⟨e22, h⟩ | ⟨e22, h⟩
        · refine g_tableIn f 104 dX11_partOf_1 (by rw [e22] <;> decide) (by rw [e22] <;> decide) (by rw [e22] <;> rfl) rfl ?_
          refine g_aload_n f 0 dX11_partOf_104 rfl rfl ?_
          refine g_bipush f 101 dX11_partOf_105 kb_101 ?_
          refine g_bipush f 110 dX11_partOf_107 kb_110 ?_
          refine g_bipush f 100 dX11_partOf_109 kb_100 ?_
          refine g_callS f mk_X11_129 (c_X11_w3 h) dX11_partOf_111 rfl rfl (Nat.le_of_ble_eq_true rfl) (rm_ok (by decide) (by decide)) ⟨Nat.le_of_ble_eq_true rfl, Nat.le_of_ble_eq_true rfl⟩ (kL fun r25 μ23 x24 h => ?_)
          obtain ⟨v26, h⟩ := h
          refine g_callV f mk_X11_191 v26 (c_X11_isWord h) dX11_partOf_114 rfl rfl (Nat.le_of_ble_eq_true rfl) (rm_ok (by decide) (by decide)) ⟨Nat.le_of_ble_eq_true rfl, Nat.le_of_ble_eq_true rfl⟩ (kI fun r29 μ27 x28 h => ?_)
          refine g_if_eq f 124 dX11_partOf_117 rfl h (fun h => ?_) (fun h => ?_)
          · refine g_iconst f (-1) dX11_partOf_124 kc_m1 ?_
            exact g_iret f hq (Nat.le_of_ble_eq_true rfl) (Nat.le_of_ble_eq_true rfl) dX11_partOf_125 h
          · refine g_iconst f 0 dX11_partOf_120 kc_0 ?_
            refine g_goto f 125 dX11_partOf_121 rfl ?_
            exact g_iret f hq (Nat.le_of_ble_eq_true rfl) (Nat.le_of_ble_eq_true rfl) dX11_partOf_125 h
        · skip
          have e1 := lv_neT (a := 40) e1 (by decide)
          have e3 := lv_neT (a := 41) e3 (by decide)
          have e14 := lv_neT (a := 42) e14 (by decide)
          have e22 := lv_neT (a := 43) e22 (by decide)
          refine g_tableOut f 126 dX11_partOf_1 (by omega) rfl ?_
          refine g_iconst f (-1) dX11_partOf_126 kc_m1 ?_
          exact g_iret f hq (Nat.le_of_ble_eq_true rfl) (Nat.le_of_ble_eq_true rfl) dX11_partOf_127 h
theorem c_X11_partOf {Ω : OM} {o0 : Nat} {i1 : Int32} {μ : Me} {Q : Int32 → Me → Prop} (h : S_X11_partOf o0 i1 μ Q) : CT Ω yX11_partOf cX11_partOf 2 (some .int) (rmc 3 0 0) [.ref (oB Ω + o0), .int i1] μ (qI Q) := CT_of (by decide) rfl (by simp [lg_sl, Value.category]) (fun x hΩ f hq hi => by subst hΩ; exact t_X11_partOf f hq h)
theorem dX11_behindOne_0 : decode cX11_behindOne 0 = .ok (.aload_n 0, 1) := by decide +kernel
theorem dX11_behindOne_1 : decode cX11_behindOne 1 = .ok (.invokevirtual 204, 3) := by decide +kernel
theorem dX11_behindOne_4 : decode cX11_behindOne 4 = .ok (.istore_n 1, 1) := by decide +kernel
theorem dX11_behindOne_5 : decode cX11_behindOne 5 = .ok (.iload_n 1, 1) := by decide +kernel
theorem dX11_behindOne_6 : decode cX11_behindOne 6 = .ok (.ifCond .lt 54, 3) := by decide +kernel
theorem dX11_behindOne_9 : decode cX11_behindOne 9 = .ok (.aload_n 0, 1) := by decide +kernel
theorem dX11_behindOne_10 : decode cX11_behindOne 10 = .ok (.iload_n 1, 1) := by decide +kernel
theorem dX11_behindOne_11 : decode cX11_behindOne 11 = .ok (.invokestatic 157, 3) := by decide +kernel
theorem dX11_behindOne_14 : decode cX11_behindOne 14 = .ok (.iconst 4, 1) := by decide +kernel
theorem dX11_behindOne_15 : decode cX11_behindOne 15 = .ok (.if_icmp .ne 7, 3) := by decide +kernel
theorem dX11_behindOne_18 : decode cX11_behindOne 18 = .ok (.iconst 5, 1) := by decide +kernel
theorem dX11_behindOne_19 : decode cX11_behindOne 19 = .ok (.goto 7, 3) := by decide +kernel
theorem dX11_behindOne_22 : decode cX11_behindOne 22 = .ok (.iload_n 1, 1) := by decide +kernel
theorem dX11_behindOne_23 : decode cX11_behindOne 23 = .ok (.invokestatic 157, 3) := by decide +kernel
theorem dX11_behindOne_26 : decode cX11_behindOne 26 = .ok (.invokevirtual 185, 3) := by decide +kernel
theorem dX11_behindOne_29 : decode cX11_behindOne 29 = .ok (.aload_n 0, 1) := by decide +kernel
theorem dX11_behindOne_30 : decode cX11_behindOne 30 = .ok (.getfield 29, 3) := by decide +kernel
theorem dX11_behindOne_33 : decode cX11_behindOne 33 = .ok (.aload_n 0, 1) := by decide +kernel
theorem dX11_behindOne_34 : decode cX11_behindOne 34 = .ok (.getfield 154, 3) := by decide +kernel
theorem dX11_behindOne_37 : decode cX11_behindOne 37 = .ok (.iload_n 1, 1) := by decide +kernel
theorem dX11_behindOne_38 : decode cX11_behindOne 38 = .ok (.iastore, 1) := by decide +kernel
theorem dX11_behindOne_39 : decode cX11_behindOne 39 = .ok (.aload_n 0, 1) := by decide +kernel
theorem dX11_behindOne_40 : decode cX11_behindOne 40 = .ok (.dup, 1) := by decide +kernel
theorem dX11_behindOne_41 : decode cX11_behindOne 41 = .ok (.getfield 154, 3) := by decide +kernel
theorem dX11_behindOne_44 : decode cX11_behindOne 44 = .ok (.iconst 1, 1) := by decide +kernel
theorem dX11_behindOne_45 : decode cX11_behindOne 45 = .ok (.iadd, 1) := by decide +kernel
theorem dX11_behindOne_46 : decode cX11_behindOne 46 = .ok (.putfield 154, 3) := by decide +kernel
theorem dX11_behindOne_49 : decode cX11_behindOne 49 = .ok (.aload_n 0, 1) := by decide +kernel
theorem dX11_behindOne_50 : decode cX11_behindOne 50 = .ok (.iconst 0, 1) := by decide +kernel
theorem dX11_behindOne_51 : decode cX11_behindOne 51 = .ok (.putfield 182, 3) := by decide +kernel
theorem dX11_behindOne_54 : decode cX11_behindOne 54 = .ok (.aload_n 0, 1) := by decide +kernel
theorem dX11_behindOne_55 : decode cX11_behindOne 55 = .ok (.invokevirtual 173, 3) := by decide +kernel
theorem dX11_behindOne_58 : decode cX11_behindOne 58 = .ok (.iconst 1, 1) := by decide +kernel
theorem dX11_behindOne_59 : decode cX11_behindOne 59 = .ok (.ireturn, 1) := by decide +kernel
theorem dX11_behindOne_60 : decode cX11_behindOne 60 = .ok (.aload_n 0, 1) := by decide +kernel
theorem dX11_behindOne_61 : decode cX11_behindOne 61 = .ok (.invokevirtual 170, 3) := by decide +kernel
theorem dX11_behindOne_64 : decode cX11_behindOne 64 = .ok (.istore_n 2, 1) := by decide +kernel
theorem dX11_behindOne_65 : decode cX11_behindOne 65 = .ok (.aload_n 0, 1) := by decide +kernel
theorem dX11_behindOne_66 : decode cX11_behindOne 66 = .ok (.iload_n 2, 1) := by decide +kernel
theorem dX11_behindOne_67 : decode cX11_behindOne 67 = .ok (.invokevirtual 207, 3) := by decide +kernel
theorem dX11_behindOne_70 : decode cX11_behindOne 70 = .ok (.istore_n 3, 1) := by decide +kernel
theorem dX11_behindOne_71 : decode cX11_behindOne 71 = .ok (.iload_n 3, 1) := by decide +kernel
theorem dX11_behindOne_72 : decode cX11_behindOne 72 = .ok (.ifCond .ge 5, 3) := by decide +kernel
theorem dX11_behindOne_75 : decode cX11_behindOne 75 = .ok (.iconst 0, 1) := by decide +kernel
theorem dX11_behindOne_76 : decode cX11_behindOne 76 = .ok (.ireturn, 1) := by decide +kernel
theorem dX11_behindOne_77 : decode cX11_behindOne 77 = .ok (.aload_n 0, 1) := by decide +kernel
theorem dX11_behindOne_78 : decode cX11_behindOne 78 = .ok (.iconst 1, 1) := by decide +kernel
theorem dX11_behindOne_79 : decode cX11_behindOne 79 = .ok (.invokevirtual 185, 3) := by decide +kernel
theorem dX11_behindOne_82 : decode cX11_behindOne 82 = .ok (.aload_n 0, 1) := by decide +kernel
theorem dX11_behindOne_83 : decode cX11_behindOne 83 = .ok (.invokevirtual 173, 3) := by decide +kernel
theorem dX11_behindOne_86 : decode cX11_behindOne 86 = .ok (.iload_n 3, 1) := by decide +kernel
theorem dX11_behindOne_87 : decode cX11_behindOne 87 = .ok (.ifCond .le 20, 3) := by decide +kernel
theorem dX11_behindOne_90 : decode cX11_behindOne 90 = .ok (.aload_n 0, 1) := by decide +kernel
theorem dX11_behindOne_91 : decode cX11_behindOne 91 = .ok (.getfield 29, 3) := by decide +kernel
theorem dX11_behindOne_94 : decode cX11_behindOne 94 = .ok (.aload_n 0, 1) := by decide +kernel
theorem dX11_behindOne_95 : decode cX11_behindOne 95 = .ok (.invokevirtual 167, 3) := by decide +kernel
theorem dX11_behindOne_98 : decode cX11_behindOne 98 = .ok (.iload_n 3, 1) := by decide +kernel
theorem dX11_behindOne_99 : decode cX11_behindOne 99 = .ok (.iastore, 1) := by decide +kernel
theorem dX11_behindOne_100 : decode cX11_behindOne 100 = .ok (.aload_n 0, 1) := by decide +kernel
theorem dX11_behindOne_101 : decode cX11_behindOne 101 = .ok (.iconst 0, 1) := by decide +kernel
theorem dX11_behindOne_102 : decode cX11_behindOne 102 = .ok (.putfield 182, 3) := by decide +kernel
theorem dX11_behindOne_105 : decode cX11_behindOne 105 = .ok (.iconst 1, 1) := by decide +kernel
theorem dX11_behindOne_106 : decode cX11_behindOne 106 = .ok (.ireturn, 1) := by decide +kernel
theorem dX11_behindOne_107 : decode cX11_behindOne 107 = .ok (.aload_n 0, 1) := by decide +kernel
theorem dX11_behindOne_108 : decode cX11_behindOne 108 = .ok (.dup, 1) := by decide +kernel
theorem dX11_behindOne_109 : decode cX11_behindOne 109 = .ok (.getfield 164, 3) := by decide +kernel
theorem dX11_behindOne_112 : decode cX11_behindOne 112 = .ok (.iconst 1, 1) := by decide +kernel
theorem dX11_behindOne_113 : decode cX11_behindOne 113 = .ok (.isub, 1) := by decide +kernel
theorem dX11_behindOne_114 : decode cX11_behindOne 114 = .ok (.putfield 164, 3) := by decide +kernel
theorem dX11_behindOne_117 : decode cX11_behindOne 117 = .ok (.aload_n 0, 1) := by decide +kernel
theorem dX11_behindOne_118 : decode cX11_behindOne 118 = .ok (.dup, 1) := by decide +kernel
theorem dX11_behindOne_119 : decode cX11_behindOne 119 = .ok (.getfield 154, 3) := by decide +kernel
theorem dX11_behindOne_122 : decode cX11_behindOne 122 = .ok (.iconst 1, 1) := by decide +kernel
theorem dX11_behindOne_123 : decode cX11_behindOne 123 = .ok (.isub, 1) := by decide +kernel
theorem dX11_behindOne_124 : decode cX11_behindOne 124 = .ok (.putfield 154, 3) := by decide +kernel
theorem dX11_behindOne_127 : decode cX11_behindOne 127 = .ok (.iload_n 2, 1) := by decide +kernel
theorem dX11_behindOne_128 : decode cX11_behindOne 128 = .ok (.bipush 43, 2) := by decide +kernel
theorem dX11_behindOne_130 : decode cX11_behindOne 130 = .ok (.if_icmp .ne 9, 3) := by decide +kernel
theorem dX11_behindOne_133 : decode cX11_behindOne 133 = .ok (.aload_n 0, 1) := by decide +kernel
theorem dX11_behindOne_134 : decode cX11_behindOne 134 = .ok (.iconst 3, 1) := by decide +kernel
theorem dX11_behindOne_135 : decode cX11_behindOne 135 = .ok (.iconst 0, 1) := by decide +kernel
theorem dX11_behindOne_136 : decode cX11_behindOne 136 = .ok (.invokevirtual 160, 3) := by decide +kernel
theorem dX11_behindOne_139 : decode cX11_behindOne 139 = .ok (.aload_n 0, 1) := by decide +kernel
theorem dX11_behindOne_140 : decode cX11_behindOne 140 = .ok (.bipush 7, 2) := by decide +kernel
theorem dX11_behindOne_142 : decode cX11_behindOne 142 = .ok (.invokevirtual 185, 3) := by decide +kernel
theorem dX11_behindOne_145 : decode cX11_behindOne 145 = .ok (.iconst 1, 1) := by decide +kernel
theorem dX11_behindOne_146 : decode cX11_behindOne 146 = .ok (.ireturn, 1) := by decide +kernel
def B_X11_behindOne_139 (o0 : Nat) (μ : Me) (Q : Int32 → Me → Prop) : Prop := mok μ o0 11 ∧ S_X11_settle o0 7 μ (fun μ20 => Q 1 μ20)
set_option maxHeartbeats 4000000 in
set_option maxRecDepth 100000 in
theorem tB_X11_behindOne_139 {x : GX} (f : Fx x cX11_behindOne RX11 4 (rmc 4 0 0)) {o0 : Nat} {μ : Me} {Q : Int32 → Me → Prop} (hq : Rt x (some .boolean) (qI Q)) (h : B_X11_behindOne_139 o0 μ Q) : G x 4 139 [(0, .ref (gB x + o0))] [] μ 0 0 := by
  unfold B_X11_behindOne_139 at h
  refine g_aload_n f 0 dX11_behindOne_139 rfl rfl ?_
  refine g_bipush f 7 dX11_behindOne_140 kb_7 ?_
  obtain ⟨v19, h⟩ := h
  refine g_callV f mk_X11_185 v19 (c_X11_settle h) dX11_behindOne_142 rfl rfl (Nat.le_of_ble_eq_true rfl) (rm_ok (by decide) (by decide)) ⟨Nat.le_of_ble_eq_true rfl, Nat.le_of_ble_eq_true rfl⟩ (kV fun μ20 x21 h => ?_)
  refine g_iconst f 1 dX11_behindOne_145 kc_1 ?_
  exact g_zret f hq (Nat.le_of_ble_eq_true rfl) (Nat.le_of_ble_eq_true rfl) dX11_behindOne_146 zb_1.1 h
def B_X11_behindOne_26 (o0 : Nat) (i1 : Int32) (s0 : Int32) (s1 : Option Nat) (μ : Me) (Q : Int32 → Me → Prop) : Prop := ∃ t39, s1 = some t39 ∧ mok μ t39 11 ∧ S_X11_settle t39 s0 μ (fun μ43 => mok μ43 o0 11 ∧ ∃ t47, mgr μ43 o0 15 = some t47 ∧ mok μ43 t47 12 ∧ vp_in (mgi μ43 o0 16) (mln μ43 t47) ∧ ∀ μ49, μ49 = msi μ43 t47 (mgi μ43 o0 16).toNatClampNeg i1 → ∀ μ50, μ50 = msi μ49 o0 16 ((mgi μ49 o0 16) + 1) → ∀ μ51, μ51 = msi μ50 o0 18 0 → S_X11_nextToken o0 μ51 (fun μ52 => Q 1 μ52))
set_option maxHeartbeats 4000000 in
set_option maxRecDepth 100000 in
theorem tB_X11_behindOne_26 {x : GX} (f : Fx x cX11_behindOne RX11 4 (rmc 4 0 0)) {o0 : Nat} {i1 : Int32} {s0 : Int32} {s1 : Option Nat} {μ : Me} {Q : Int32 → Me → Prop} (hq : Rt x (some .boolean) (qI Q)) (h : B_X11_behindOne_26 o0 i1 s0 s1 μ Q) : G x 4 26 [(0, .ref (gB x + o0)), (1, .int i1)] [.int s0, vr (gB x) s1] μ 0 0 := by
  unfold B_X11_behindOne_26 at h
  obtain ⟨t39, e40, h41⟩ := h
  subst e40
  have h := h41
  obtain ⟨v42, h⟩ := h
  refine g_callV f mk_X11_185 v42 (c_X11_settle h) dX11_behindOne_26 rfl rfl (Nat.le_of_ble_eq_true rfl) (rm_ok (by decide) (by decide)) ⟨Nat.le_of_ble_eq_true rfl, Nat.le_of_ble_eq_true rfl⟩ (kV fun μ43 x44 h => ?_)
  refine g_aload_n f 0 dX11_behindOne_29 rfl rfl ?_
  obtain ⟨v46, h⟩ := h
  refine g_getR f fk_X11_29 v46 dX11_behindOne_30 rfl h (fun t47 h => ?_)
  refine g_aload_n f 0 dX11_behindOne_33 rfl rfl ?_
  refine g_getI f fk_X11_154 v46 dX11_behindOne_34 rfl ?_
  refine g_iload_n f 1 dX11_behindOne_37 rfl rfl ?_
  obtain ⟨v48, h⟩ := h
  refine g_iast f v48 dX11_behindOne_38 h (fun h => ?_)
  refine g_aload_n f 0 dX11_behindOne_39 rfl rfl ?_
  refine g_dup f dX11_behindOne_40 rfl ?_
  refine g_getI f fk_X11_154 v46 dX11_behindOne_41 rfl ?_
  refine g_iconst f 1 dX11_behindOne_44 kc_1 ?_
  refine g_iadd f dX11_behindOne_45 ?_
  refine g_putI f fk_X11_154 v46 dX11_behindOne_46 rfl h (fun h => ?_)
  refine g_aload_n f 0 dX11_behindOne_49 rfl rfl ?_
  refine g_iconst f 0 dX11_behindOne_50 kc_0 ?_
  refine g_putZ f fk_X11_182 v46 dX11_behindOne_51 rfl zb_0.1 zb_0.2 h (fun h => ?_)
  refine g_aload_n f 0 dX11_behindOne_54 rfl rfl ?_
  refine g_callV f mk_X11_173 v46 (c_X11_nextToken h) dX11_behindOne_55 rfl rfl (Nat.le_of_ble_eq_true rfl) (rm_ok (by decide) (by decide)) ⟨Nat.le_of_ble_eq_true rfl, Nat.le_of_ble_eq_true rfl⟩ (kV fun μ52 x53 h => ?_)
  refine g_iconst f 1 dX11_behindOne_58 kc_1 ?_
  exact g_zret f hq (Nat.le_of_ble_eq_true rfl) (Nat.le_of_ble_eq_true rfl) dX11_behindOne_59 zb_1.1 h
def S_X11_behindOne (o0 : Nat) (μ : Me) (Q : Int32 → Me → Prop) : Prop := mok μ o0 11 ∧ S_X11_betweenOf o0 μ (fun r4 μ2 => ((r4 < 0 → S_X11_openNow o0 μ2 (fun r7 μ5 => S_X11_partOf o0 r7 μ5 (fun r10 μ8 => ((0 ≤ r10 → S_X11_settle o0 1 μ8 (fun μ11 => S_X11_nextToken o0 μ11 (fun μ14 => ((r10 ≤ 0 → ∀ μ17, μ17 = msi μ14 o0 17 ((mgi μ14 o0 17) - 1) → ∀ μ18, μ18 = msi μ17 o0 16 ((mgi μ17 o0 16) - 1) → ((¬ r7 = 43 → B_X11_behindOne_139 o0 μ18 Q) ∧ (r7 = 43 → S_X11_emit o0 3 0 μ18 (fun μ23 => B_X11_behindOne_139 o0 μ23 Q)))) ∧ (¬ r10 ≤ 0 → ∃ t26, mgr μ14 o0 15 = some t26 ∧ S_X11_openAt o0 μ14 (fun r29 μ27 => mok μ27 t26 12 ∧ vp_in r29 (mln μ27 t26) ∧ ∀ μ31, μ31 = msi μ27 t26 r29.toNatClampNeg r10 → ∀ μ32, μ32 = msi μ31 o0 18 0 → Q 1 μ32)))))) ∧ (¬ 0 ≤ r10 → Q 0 μ8))))) ∧ (¬ r4 < 0 → S_X11_rank r4 μ2 (fun r35 μ33 => ((¬ r35 = 4 → S_X11_rank r4 μ33 (fun r38 μ36 => B_X11_behindOne_26 o0 r4 r38 (some o0) μ36 Q)) ∧ (r35 = 4 → B_X11_behindOne_26 o0 r4 5 (some o0) μ33 Q))))))
set_option maxHeartbeats 4000000 in
set_option maxRecDepth 100000 in
theorem t_X11_behindOne {x : GX} (f : Fx x cX11_behindOne RX11 4 (rmc 4 0 0)) {o0 : Nat} {μ : Me} {Q : Int32 → Me → Prop} (hq : Rt x (some .boolean) (qI Q)) (h : S_X11_behindOne o0 μ Q) : G x 4 0 [(0, .ref (gB x + o0))] [] μ 0 0 := by
  unfold S_X11_behindOne at h
  refine g_aload_n f 0 dX11_behindOne_0 rfl rfl ?_
  obtain ⟨v1, h⟩ := h
  refine g_callV f mk_X11_204 v1 (c_X11_betweenOf h) dX11_behindOne_1 rfl rfl (Nat.le_of_ble_eq_true rfl) (rm_ok (by decide) (by decide)) ⟨Nat.le_of_ble_eq_true rfl, Nat.le_of_ble_eq_true rfl⟩ (kI fun r4 μ2 x3 h => ?_)
  refine h_istore_n f dX11_behindOne_4 rfl (by decide) ?_
  refine g_iload_n f 0 dX11_behindOne_5 rfl rfl ?_
  refine g_if_lt f 60 dX11_behindOne_6 rfl h (fun h => ?_) (fun h => ?_)
  · refine g_aload_n f 1 dX11_behindOne_60 rfl rfl ?_
    have v1 := mex_ok x3 v1
    refine g_callV f mk_X11_170 v1 (c_X11_openNow h) dX11_behindOne_61 rfl rfl (Nat.le_of_ble_eq_true rfl) (rm_ok (by decide) (by decide)) ⟨Nat.le_of_ble_eq_true rfl, Nat.le_of_ble_eq_true rfl⟩ (kI fun r7 μ5 x6 h => ?_)
    refine h_istore_n f dX11_behindOne_64 rfl (by decide) ?_
    refine g_aload_n f 2 dX11_behindOne_65 rfl rfl ?_
    refine g_iload_n f 0 dX11_behindOne_66 rfl rfl ?_
    have v1 := mex_ok x6 v1
    refine g_callV f mk_X11_207 v1 (c_X11_partOf h) dX11_behindOne_67 rfl rfl (Nat.le_of_ble_eq_true rfl) (rm_ok (by decide) (by decide)) ⟨Nat.le_of_ble_eq_true rfl, Nat.le_of_ble_eq_true rfl⟩ (kI fun r10 μ8 x9 h => ?_)
    refine h_istore_n f dX11_behindOne_70 rfl (by decide) ?_
    refine g_iload_n f 0 dX11_behindOne_71 rfl rfl ?_
    refine g_if_ge f 77 dX11_behindOne_72 rfl h (fun h => ?_) (fun h => ?_)
    · refine g_aload_n f 3 dX11_behindOne_77 rfl rfl ?_
      refine g_iconst f 1 dX11_behindOne_78 kc_1 ?_
      have v1 := mex_ok x9 v1
      refine g_callV f mk_X11_185 v1 (c_X11_settle h) dX11_behindOne_79 rfl rfl (Nat.le_of_ble_eq_true rfl) (rm_ok (by decide) (by decide)) ⟨Nat.le_of_ble_eq_true rfl, Nat.le_of_ble_eq_true rfl⟩ (kV fun μ11 x12 h => ?_)
      refine g_aload_n f 3 dX11_behindOne_82 rfl rfl ?_
      have v1 := mex_ok x12 v1
      refine g_callV f mk_X11_173 v1 (c_X11_nextToken h) dX11_behindOne_83 rfl rfl (Nat.le_of_ble_eq_true rfl) (rm_ok (by decide) (by decide)) ⟨Nat.le_of_ble_eq_true rfl, Nat.le_of_ble_eq_true rfl⟩ (kV fun μ14 x15 h => ?_)
      refine g_iload_n f 0 dX11_behindOne_86 rfl rfl ?_
      refine g_if_le f 107 dX11_behindOne_87 rfl h (fun h => ?_) (fun h => ?_)
      · refine g_aload_n f 3 dX11_behindOne_107 rfl rfl ?_
        refine g_dup f dX11_behindOne_108 rfl ?_
        have v1 := mex_ok x15 v1
        refine g_getI f fk_X11_164 v1 dX11_behindOne_109 rfl ?_
        refine g_iconst f 1 dX11_behindOne_112 kc_1 ?_
        refine g_isub f dX11_behindOne_113 ?_
        refine g_putI f fk_X11_164 v1 dX11_behindOne_114 rfl h (fun h => ?_)
        refine g_aload_n f 3 dX11_behindOne_117 rfl rfl ?_
        refine g_dup f dX11_behindOne_118 rfl ?_
        refine g_getI f fk_X11_154 v1 dX11_behindOne_119 rfl ?_
        refine g_iconst f 1 dX11_behindOne_122 kc_1 ?_
        refine g_isub f dX11_behindOne_123 ?_
        refine g_putI f fk_X11_154 v1 dX11_behindOne_124 rfl h (fun h => ?_)
        refine g_iload_n f 1 dX11_behindOne_127 rfl rfl ?_
        refine g_bipush f 43 dX11_behindOne_128 kb_43 ?_
        refine g_ic_ne f 139 dX11_behindOne_130 rfl h (fun h => ?_) (fun h => ?_)
        · exact h_sub [3] rfl (tB_X11_behindOne_139 f hq h)
        · refine g_aload_n f 3 dX11_behindOne_133 rfl rfl ?_
          refine g_iconst f 3 dX11_behindOne_134 kc_3 ?_
          refine g_iconst f 0 dX11_behindOne_135 kc_0 ?_
          refine g_callV f mk_X11_160 v1 (c_X11_emit h) dX11_behindOne_136 rfl rfl (Nat.le_of_ble_eq_true rfl) (rm_ok (by decide) (by decide)) ⟨Nat.le_of_ble_eq_true rfl, Nat.le_of_ble_eq_true rfl⟩ (kV fun μ23 x24 h => ?_)
          exact h_sub [3] rfl (tB_X11_behindOne_139 f hq h)
      · refine g_aload_n f 3 dX11_behindOne_90 rfl rfl ?_
        have v1 := mex_ok x15 v1
        refine g_getR f fk_X11_29 v1 dX11_behindOne_91 rfl h (fun t26 h => ?_)
        refine g_aload_n f 3 dX11_behindOne_94 rfl rfl ?_
        refine g_callV f mk_X11_167 v1 (c_X11_openAt h) dX11_behindOne_95 rfl rfl (Nat.le_of_ble_eq_true rfl) (rm_ok (by decide) (by decide)) ⟨Nat.le_of_ble_eq_true rfl, Nat.le_of_ble_eq_true rfl⟩ (kI fun r29 μ27 x28 h => ?_)
        refine g_iload_n f 0 dX11_behindOne_98 rfl rfl ?_
        obtain ⟨v30, h⟩ := h
        refine g_iast f v30 dX11_behindOne_99 h (fun h => ?_)
        refine g_aload_n f 3 dX11_behindOne_100 rfl rfl ?_
        refine g_iconst f 0 dX11_behindOne_101 kc_0 ?_
        have v1 := mex_ok x28 v1
        refine g_putZ f fk_X11_182 v1 dX11_behindOne_102 rfl zb_0.1 zb_0.2 h (fun h => ?_)
        refine g_iconst f 1 dX11_behindOne_105 kc_1 ?_
        exact g_zret f hq (Nat.le_of_ble_eq_true rfl) (Nat.le_of_ble_eq_true rfl) dX11_behindOne_106 zb_1.1 h
    · refine g_iconst f 0 dX11_behindOne_75 kc_0 ?_
      exact g_zret f hq (Nat.le_of_ble_eq_true rfl) (Nat.le_of_ble_eq_true rfl) dX11_behindOne_76 zb_0.1 h
  · refine g_aload_n f 1 dX11_behindOne_9 rfl rfl ?_
    refine g_iload_n f 0 dX11_behindOne_10 rfl rfl ?_
    refine g_callS f mk_X11_157 (c_X11_rank h) dX11_behindOne_11 rfl rfl (Nat.le_of_ble_eq_true rfl) (rm_ok (by decide) (by decide)) ⟨Nat.le_of_ble_eq_true rfl, Nat.le_of_ble_eq_true rfl⟩ (kI fun r35 μ33 x34 h => ?_)
    refine g_iconst f 4 dX11_behindOne_14 kc_4 ?_
    refine g_ic_ne f 22 dX11_behindOne_15 rfl h (fun h => ?_) (fun h => ?_)
    · refine g_iload_n f 0 dX11_behindOne_22 rfl rfl ?_
      refine g_callS f mk_X11_157 (c_X11_rank h) dX11_behindOne_23 rfl rfl (Nat.le_of_ble_eq_true rfl) (rm_ok (by decide) (by decide)) ⟨Nat.le_of_ble_eq_true rfl, Nat.le_of_ble_eq_true rfl⟩ (kI fun r38 μ36 x37 h => ?_)
      exact h_sub [1, 0] rfl (tB_X11_behindOne_26 f hq h)
    · refine g_iconst f 5 dX11_behindOne_18 kc_5 ?_
      refine g_goto f 26 dX11_behindOne_19 rfl ?_
      exact h_sub [1, 0] rfl (tB_X11_behindOne_26 f hq h)
theorem c_X11_behindOne {Ω : OM} {o0 : Nat} {μ : Me} {Q : Int32 → Me → Prop} (h : S_X11_behindOne o0 μ Q) : CT Ω yX11_behindOne cX11_behindOne 4 (some .boolean) (rmc 4 0 0) [.ref (oB Ω + o0)] μ (qI Q) := CT_of (by decide) rfl (by simp [lg_sl, Value.category]) (fun x hΩ f hq hi => by subst hΩ; exact t_X11_behindOne f hq h)
theorem dX11_isWeather_0 : decode cX11_isWeather 0 = .ok (.aload_n 0, 1) := by decide +kernel
theorem dX11_isWeather_1 : decode cX11_isWeather 1 = .ok (.getfield 102, 3) := by decide +kernel
theorem dX11_isWeather_4 : decode cX11_isWeather 4 = .ok (.iconst 2, 1) := by decide +kernel
theorem dX11_isWeather_5 : decode cX11_isWeather 5 = .ok (.if_icmp .ne 124, 3) := by decide +kernel
theorem dX11_isWeather_8 : decode cX11_isWeather 8 = .ok (.aload_n 0, 1) := by decide +kernel
theorem dX11_isWeather_9 : decode cX11_isWeather 9 = .ok (.getfield 92, 3) := by decide +kernel
theorem dX11_isWeather_12 : decode cX11_isWeather 12 = .ok (.aload_n 0, 1) := by decide +kernel
theorem dX11_isWeather_13 : decode cX11_isWeather 13 = .ok (.getfield 99, 3) := by decide +kernel
theorem dX11_isWeather_16 : decode cX11_isWeather 16 = .ok (.isub, 1) := by decide +kernel
theorem dX11_isWeather_17 : decode cX11_isWeather 17 = .ok (.bipush 7, 2) := by decide +kernel
theorem dX11_isWeather_19 : decode cX11_isWeather 19 = .ok (.if_icmp .ne 110, 3) := by decide +kernel
theorem dX11_isWeather_22 : decode cX11_isWeather 22 = .ok (.aload_n 0, 1) := by decide +kernel
theorem dX11_isWeather_23 : decode cX11_isWeather 23 = .ok (.aload_n 0, 1) := by decide +kernel
theorem dX11_isWeather_24 : decode cX11_isWeather 24 = .ok (.getfield 99, 3) := by decide +kernel
theorem dX11_isWeather_27 : decode cX11_isWeather 27 = .ok (.invokevirtual 95, 3) := by decide +kernel
theorem dX11_isWeather_30 : decode cX11_isWeather 30 = .ok (.aload_n 0, 1) := by decide +kernel
theorem dX11_isWeather_31 : decode cX11_isWeather 31 = .ok (.aload_n 0, 1) := by decide +kernel
theorem dX11_isWeather_32 : decode cX11_isWeather 32 = .ok (.getfield 99, 3) := by decide +kernel
theorem dX11_isWeather_35 : decode cX11_isWeather 35 = .ok (.iconst 1, 1) := by decide +kernel
theorem dX11_isWeather_36 : decode cX11_isWeather 36 = .ok (.iadd, 1) := by decide +kernel
theorem dX11_isWeather_37 : decode cX11_isWeather 37 = .ok (.invokevirtual 95, 3) := by decide +kernel
theorem dX11_isWeather_40 : decode cX11_isWeather 40 = .ok (.aload_n 0, 1) := by decide +kernel
theorem dX11_isWeather_41 : decode cX11_isWeather 41 = .ok (.aload_n 0, 1) := by decide +kernel
theorem dX11_isWeather_42 : decode cX11_isWeather 42 = .ok (.getfield 99, 3) := by decide +kernel
theorem dX11_isWeather_45 : decode cX11_isWeather 45 = .ok (.iconst 2, 1) := by decide +kernel
theorem dX11_isWeather_46 : decode cX11_isWeather 46 = .ok (.iadd, 1) := by decide +kernel
theorem dX11_isWeather_47 : decode cX11_isWeather 47 = .ok (.invokevirtual 95, 3) := by decide +kernel
theorem dX11_isWeather_50 : decode cX11_isWeather 50 = .ok (.aload_n 0, 1) := by decide +kernel
theorem dX11_isWeather_51 : decode cX11_isWeather 51 = .ok (.aload_n 0, 1) := by decide +kernel
theorem dX11_isWeather_52 : decode cX11_isWeather 52 = .ok (.getfield 99, 3) := by decide +kernel
theorem dX11_isWeather_55 : decode cX11_isWeather 55 = .ok (.iconst 3, 1) := by decide +kernel
theorem dX11_isWeather_56 : decode cX11_isWeather 56 = .ok (.iadd, 1) := by decide +kernel
theorem dX11_isWeather_57 : decode cX11_isWeather 57 = .ok (.invokevirtual 95, 3) := by decide +kernel
theorem dX11_isWeather_60 : decode cX11_isWeather 60 = .ok (.invokestatic 133, 3) := by decide +kernel
theorem dX11_isWeather_63 : decode cX11_isWeather 63 = .ok (.bipush 119, 2) := by decide +kernel
theorem dX11_isWeather_65 : decode cX11_isWeather 65 = .ok (.bipush 101, 2) := by decide +kernel
theorem dX11_isWeather_67 : decode cX11_isWeather 67 = .ok (.bipush 97, 2) := by decide +kernel
theorem dX11_isWeather_69 : decode cX11_isWeather 69 = .ok (.bipush 116, 2) := by decide +kernel
theorem dX11_isWeather_71 : decode cX11_isWeather 71 = .ok (.invokestatic 133, 3) := by decide +kernel
theorem dX11_isWeather_74 : decode cX11_isWeather 74 = .ok (.lcmp, 1) := by decide +kernel
theorem dX11_isWeather_75 : decode cX11_isWeather 75 = .ok (.ifCond .ne 54, 3) := by decide +kernel
theorem dX11_isWeather_78 : decode cX11_isWeather 78 = .ok (.aload_n 0, 1) := by decide +kernel
theorem dX11_isWeather_79 : decode cX11_isWeather 79 = .ok (.aload_n 0, 1) := by decide +kernel
theorem dX11_isWeather_80 : decode cX11_isWeather 80 = .ok (.getfield 99, 3) := by decide +kernel
theorem dX11_isWeather_83 : decode cX11_isWeather 83 = .ok (.iconst 4, 1) := by decide +kernel
theorem dX11_isWeather_84 : decode cX11_isWeather 84 = .ok (.iadd, 1) := by decide +kernel
theorem dX11_isWeather_85 : decode cX11_isWeather 85 = .ok (.invokevirtual 95, 3) := by decide +kernel
theorem dX11_isWeather_88 : decode cX11_isWeather 88 = .ok (.aload_n 0, 1) := by decide +kernel
theorem dX11_isWeather_89 : decode cX11_isWeather 89 = .ok (.aload_n 0, 1) := by decide +kernel
theorem dX11_isWeather_90 : decode cX11_isWeather 90 = .ok (.getfield 99, 3) := by decide +kernel
theorem dX11_isWeather_93 : decode cX11_isWeather 93 = .ok (.iconst 5, 1) := by decide +kernel
theorem dX11_isWeather_94 : decode cX11_isWeather 94 = .ok (.iadd, 1) := by decide +kernel
theorem dX11_isWeather_95 : decode cX11_isWeather 95 = .ok (.invokevirtual 95, 3) := by decide +kernel
theorem dX11_isWeather_98 : decode cX11_isWeather 98 = .ok (.aload_n 0, 1) := by decide +kernel
theorem dX11_isWeather_99 : decode cX11_isWeather 99 = .ok (.aload_n 0, 1) := by decide +kernel
theorem dX11_isWeather_100 : decode cX11_isWeather 100 = .ok (.getfield 99, 3) := by decide +kernel
theorem dX11_isWeather_103 : decode cX11_isWeather 103 = .ok (.bipush 6, 2) := by decide +kernel
theorem dX11_isWeather_105 : decode cX11_isWeather 105 = .ok (.iadd, 1) := by decide +kernel
theorem dX11_isWeather_106 : decode cX11_isWeather 106 = .ok (.invokevirtual 95, 3) := by decide +kernel
theorem dX11_isWeather_109 : decode cX11_isWeather 109 = .ok (.invokestatic 129, 3) := by decide +kernel
theorem dX11_isWeather_112 : decode cX11_isWeather 112 = .ok (.bipush 104, 2) := by decide +kernel
theorem dX11_isWeather_114 : decode cX11_isWeather 114 = .ok (.bipush 101, 2) := by decide +kernel
theorem dX11_isWeather_116 : decode cX11_isWeather 116 = .ok (.bipush 114, 2) := by decide +kernel
theorem dX11_isWeather_118 : decode cX11_isWeather 118 = .ok (.invokestatic 129, 3) := by decide +kernel
theorem dX11_isWeather_121 : decode cX11_isWeather 121 = .ok (.lcmp, 1) := by decide +kernel
theorem dX11_isWeather_122 : decode cX11_isWeather 122 = .ok (.ifCond .ne 7, 3) := by decide +kernel
theorem dX11_isWeather_125 : decode cX11_isWeather 125 = .ok (.iconst 1, 1) := by decide +kernel
theorem dX11_isWeather_126 : decode cX11_isWeather 126 = .ok (.goto 4, 3) := by decide +kernel
theorem dX11_isWeather_129 : decode cX11_isWeather 129 = .ok (.iconst 0, 1) := by decide +kernel
theorem dX11_isWeather_130 : decode cX11_isWeather 130 = .ok (.ireturn, 1) := by decide +kernel
def S_X11_isWeather (o0 : Nat) (μ : Me) (Q : Int32 → Me → Prop) : Prop := mok μ o0 11 ∧ ((¬ (mgi μ o0 9) = 2 → Q 0 μ) ∧ ((mgi μ o0 9) = 2 → ((¬ ((mgi μ o0 7) - (mgi μ o0 8)) = 7 → Q 0 μ) ∧ (((mgi μ o0 7) - (mgi μ o0 8)) = 7 → S_X11_byteAt o0 (mgi μ o0 8) μ (fun r4 μ2 => S_X11_byteAt o0 ((mgi μ2 o0 8) + 1) μ2 (fun r7 μ5 => S_X11_byteAt o0 ((mgi μ5 o0 8) + 2) μ5 (fun r10 μ8 => S_X11_byteAt o0 ((mgi μ8 o0 8) + 3) μ8 (fun r13 μ11 => S_X11_w4 r4 r7 r10 r13 μ11 (fun r16 μ14 => S_X11_w4 119 101 97 116 μ14 (fun r19 μ17 => ((¬ (lg_cmp r16 r19) = 0 → Q 0 μ17) ∧ ((lg_cmp r16 r19) = 0 → S_X11_byteAt o0 ((mgi μ17 o0 8) + 4) μ17 (fun r22 μ20 => S_X11_byteAt o0 ((mgi μ20 o0 8) + 5) μ20 (fun r25 μ23 => S_X11_byteAt o0 ((mgi μ23 o0 8) + 6) μ23 (fun r28 μ26 => S_X11_w3 r22 r25 r28 μ26 (fun r31 μ29 => S_X11_w3 104 101 114 μ29 (fun r34 μ32 => ((¬ (lg_cmp r31 r34) = 0 → Q 0 μ32) ∧ ((lg_cmp r31 r34) = 0 → Q 1 μ32)))))))))))))))))))
set_option maxHeartbeats 4000000 in
set_option maxRecDepth 100000 in
theorem t_X11_isWeather {x : GX} (f : Fx x cX11_isWeather RX11 1 (rmc 3 0 0)) {o0 : Nat} {μ : Me} {Q : Int32 → Me → Prop} (hq : Rt x (some .boolean) (qI Q)) (h : S_X11_isWeather o0 μ Q) : G x 1 0 [(0, .ref (gB x + o0))] [] μ 0 0 := by
  unfold S_X11_isWeather at h
  refine g_aload_n f 0 dX11_isWeather_0 rfl rfl ?_
  obtain ⟨v1, h⟩ := h
  refine g_getI f fk_X11_102 v1 dX11_isWeather_1 rfl ?_
  refine g_iconst f 2 dX11_isWeather_4 kc_2 ?_
  refine g_ic_ne f 129 dX11_isWeather_5 rfl h (fun h => ?_) (fun h => ?_)
  · refine g_iconst f 0 dX11_isWeather_129 kc_0 ?_
    exact g_zret f hq (Nat.le_of_ble_eq_true rfl) (Nat.le_of_ble_eq_true rfl) dX11_isWeather_130 zb_0.1 h
  · refine g_aload_n f 0 dX11_isWeather_8 rfl rfl ?_
    refine g_getI f fk_X11_92 v1 dX11_isWeather_9 rfl ?_
    refine g_aload_n f 0 dX11_isWeather_12 rfl rfl ?_
    refine g_getI f fk_X11_99 v1 dX11_isWeather_13 rfl ?_
    refine g_isub f dX11_isWeather_16 ?_
    refine g_bipush f 7 dX11_isWeather_17 kb_7 ?_
    refine g_ic_ne f 129 dX11_isWeather_19 rfl h (fun h => ?_) (fun h => ?_)
    · refine g_iconst f 0 dX11_isWeather_129 kc_0 ?_
      exact g_zret f hq (Nat.le_of_ble_eq_true rfl) (Nat.le_of_ble_eq_true rfl) dX11_isWeather_130 zb_0.1 h
    · refine g_aload_n f 0 dX11_isWeather_22 rfl rfl ?_
      refine g_aload_n f 0 dX11_isWeather_23 rfl rfl ?_
      refine g_getI f fk_X11_99 v1 dX11_isWeather_24 rfl ?_
      refine g_callV f mk_X11_95 v1 (c_X11_byteAt h) dX11_isWeather_27 rfl rfl (Nat.le_of_ble_eq_true rfl) (rm_ok (by decide) (by decide)) ⟨Nat.le_of_ble_eq_true rfl, Nat.le_of_ble_eq_true rfl⟩ (kI fun r4 μ2 x3 h => ?_)
      refine g_aload_n f 0 dX11_isWeather_30 rfl rfl ?_
      refine g_aload_n f 0 dX11_isWeather_31 rfl rfl ?_
      have v1 := mex_ok x3 v1
      refine g_getI f fk_X11_99 v1 dX11_isWeather_32 rfl ?_
      refine g_iconst f 1 dX11_isWeather_35 kc_1 ?_
      refine g_iadd f dX11_isWeather_36 ?_
      refine g_callV f mk_X11_95 v1 (c_X11_byteAt h) dX11_isWeather_37 rfl rfl (Nat.le_of_ble_eq_true rfl) (rm_ok (by decide) (by decide)) ⟨Nat.le_of_ble_eq_true rfl, Nat.le_of_ble_eq_true rfl⟩ (kI fun r7 μ5 x6 h => ?_)
      refine g_aload_n f 0 dX11_isWeather_40 rfl rfl ?_
      refine g_aload_n f 0 dX11_isWeather_41 rfl rfl ?_
      have v1 := mex_ok x6 v1
      refine g_getI f fk_X11_99 v1 dX11_isWeather_42 rfl ?_
      refine g_iconst f 2 dX11_isWeather_45 kc_2 ?_
      refine g_iadd f dX11_isWeather_46 ?_
      refine g_callV f mk_X11_95 v1 (c_X11_byteAt h) dX11_isWeather_47 rfl rfl (Nat.le_of_ble_eq_true rfl) (rm_ok (by decide) (by decide)) ⟨Nat.le_of_ble_eq_true rfl, Nat.le_of_ble_eq_true rfl⟩ (kI fun r10 μ8 x9 h => ?_)
      refine g_aload_n f 0 dX11_isWeather_50 rfl rfl ?_
      refine g_aload_n f 0 dX11_isWeather_51 rfl rfl ?_
      have v1 := mex_ok x9 v1
      refine g_getI f fk_X11_99 v1 dX11_isWeather_52 rfl ?_
      refine g_iconst f 3 dX11_isWeather_55 kc_3 ?_
      refine g_iadd f dX11_isWeather_56 ?_
      refine g_callV f mk_X11_95 v1 (c_X11_byteAt h) dX11_isWeather_57 rfl rfl (Nat.le_of_ble_eq_true rfl) (rm_ok (by decide) (by decide)) ⟨Nat.le_of_ble_eq_true rfl, Nat.le_of_ble_eq_true rfl⟩ (kI fun r13 μ11 x12 h => ?_)
      refine g_callS f mk_X11_133 (c_X11_w4 h) dX11_isWeather_60 rfl rfl (Nat.le_of_ble_eq_true rfl) (rm_ok (by decide) (by decide)) ⟨Nat.le_of_ble_eq_true rfl, Nat.le_of_ble_eq_true rfl⟩ (kL fun r16 μ14 x15 h => ?_)
      refine g_bipush f 119 dX11_isWeather_63 kb_119 ?_
      refine g_bipush f 101 dX11_isWeather_65 kb_101 ?_
      refine g_bipush f 97 dX11_isWeather_67 kb_97 ?_
      refine g_bipush f 116 dX11_isWeather_69 kb_116 ?_
      refine g_callS f mk_X11_133 (c_X11_w4 h) dX11_isWeather_71 rfl rfl (Nat.le_of_ble_eq_true rfl) (rm_ok (by decide) (by decide)) ⟨Nat.le_of_ble_eq_true rfl, Nat.le_of_ble_eq_true rfl⟩ (kL fun r19 μ17 x18 h => ?_)
      refine g_lcmp f dX11_isWeather_74 ?_
      refine g_if_ne f 129 dX11_isWeather_75 rfl h (fun h => ?_) (fun h => ?_)
      · refine g_iconst f 0 dX11_isWeather_129 kc_0 ?_
        exact g_zret f hq (Nat.le_of_ble_eq_true rfl) (Nat.le_of_ble_eq_true rfl) dX11_isWeather_130 zb_0.1 h
      · refine g_aload_n f 0 dX11_isWeather_78 rfl rfl ?_
        refine g_aload_n f 0 dX11_isWeather_79 rfl rfl ?_
        have v1 := mex_ok x12 v1
        have v1 := mex_ok x15 v1
        have v1 := mex_ok x18 v1
        refine g_getI f fk_X11_99 v1 dX11_isWeather_80 rfl ?_
        refine g_iconst f 4 dX11_isWeather_83 kc_4 ?_
        refine g_iadd f dX11_isWeather_84 ?_
        refine g_callV f mk_X11_95 v1 (c_X11_byteAt h) dX11_isWeather_85 rfl rfl (Nat.le_of_ble_eq_true rfl) (rm_ok (by decide) (by decide)) ⟨Nat.le_of_ble_eq_true rfl, Nat.le_of_ble_eq_true rfl⟩ (kI fun r22 μ20 x21 h => ?_)
        refine g_aload_n f 0 dX11_isWeather_88 rfl rfl ?_
        refine g_aload_n f 0 dX11_isWeather_89 rfl rfl ?_
        have v1 := mex_ok x21 v1
        refine g_getI f fk_X11_99 v1 dX11_isWeather_90 rfl ?_
        refine g_iconst f 5 dX11_isWeather_93 kc_5 ?_
        refine g_iadd f dX11_isWeather_94 ?_
        refine g_callV f mk_X11_95 v1 (c_X11_byteAt h) dX11_isWeather_95 rfl rfl (Nat.le_of_ble_eq_true rfl) (rm_ok (by decide) (by decide)) ⟨Nat.le_of_ble_eq_true rfl, Nat.le_of_ble_eq_true rfl⟩ (kI fun r25 μ23 x24 h => ?_)
        refine g_aload_n f 0 dX11_isWeather_98 rfl rfl ?_
        refine g_aload_n f 0 dX11_isWeather_99 rfl rfl ?_
        have v1 := mex_ok x24 v1
        refine g_getI f fk_X11_99 v1 dX11_isWeather_100 rfl ?_
        refine g_bipush f 6 dX11_isWeather_103 kb_6 ?_
        refine g_iadd f dX11_isWeather_105 ?_
        refine g_callV f mk_X11_95 v1 (c_X11_byteAt h) dX11_isWeather_106 rfl rfl (Nat.le_of_ble_eq_true rfl) (rm_ok (by decide) (by decide)) ⟨Nat.le_of_ble_eq_true rfl, Nat.le_of_ble_eq_true rfl⟩ (kI fun r28 μ26 x27 h => ?_)
        refine g_callS f mk_X11_129 (c_X11_w3 h) dX11_isWeather_109 rfl rfl (Nat.le_of_ble_eq_true rfl) (rm_ok (by decide) (by decide)) ⟨Nat.le_of_ble_eq_true rfl, Nat.le_of_ble_eq_true rfl⟩ (kL fun r31 μ29 x30 h => ?_)
        refine g_bipush f 104 dX11_isWeather_112 kb_104 ?_
        refine g_bipush f 101 dX11_isWeather_114 kb_101 ?_
        refine g_bipush f 114 dX11_isWeather_116 kb_114 ?_
        refine g_callS f mk_X11_129 (c_X11_w3 h) dX11_isWeather_118 rfl rfl (Nat.le_of_ble_eq_true rfl) (rm_ok (by decide) (by decide)) ⟨Nat.le_of_ble_eq_true rfl, Nat.le_of_ble_eq_true rfl⟩ (kL fun r34 μ32 x33 h => ?_)
        refine g_lcmp f dX11_isWeather_121 ?_
        refine g_if_ne f 129 dX11_isWeather_122 rfl h (fun h => ?_) (fun h => ?_)
        · refine g_iconst f 0 dX11_isWeather_129 kc_0 ?_
          exact g_zret f hq (Nat.le_of_ble_eq_true rfl) (Nat.le_of_ble_eq_true rfl) dX11_isWeather_130 zb_0.1 h
        · refine g_iconst f 1 dX11_isWeather_125 kc_1 ?_
          refine g_goto f 130 dX11_isWeather_126 rfl ?_
          exact g_zret f hq (Nat.le_of_ble_eq_true rfl) (Nat.le_of_ble_eq_true rfl) dX11_isWeather_130 zb_1.1 h
theorem c_X11_isWeather {Ω : OM} {o0 : Nat} {μ : Me} {Q : Int32 → Me → Prop} (h : S_X11_isWeather o0 μ Q) : CT Ω yX11_isWeather cX11_isWeather 1 (some .boolean) (rmc 3 0 0) [.ref (oB Ω + o0)] μ (qI Q) := CT_of (by decide) rfl (by simp [lg_sl, Value.category]) (fun x hΩ f hq hi => by subst hΩ; exact t_X11_isWeather f hq h)
theorem dX11_nameOf_0 : decode cX11_nameOf 0 = .ok (.aload_n 0, 1) := by decide +kernel
theorem dX11_nameOf_1 : decode cX11_nameOf 1 = .ok (.getfield 102, 3) := by decide +kernel
theorem dX11_nameOf_4 : decode cX11_nameOf 4 = .ok (.iconst 2, 1) := by decide +kernel
theorem dX11_nameOf_5 : decode cX11_nameOf 5 = .ok (.if_icmp .eq 5, 3) := by decide +kernel
theorem dX11_nameOf_8 : decode cX11_nameOf 8 = .ok (.iconst (-1), 1) := by decide +kernel
theorem dX11_nameOf_9 : decode cX11_nameOf 9 = .ok (.ireturn, 1) := by decide +kernel
theorem dX11_nameOf_10 : decode cX11_nameOf 10 = .ok (.aload_n 0, 1) := by decide +kernel
theorem dX11_nameOf_11 : decode cX11_nameOf 11 = .ok (.getfield 116, 3) := by decide +kernel
theorem dX11_nameOf_14 : decode cX11_nameOf 14 = .ok (.bipush 100, 2) := by decide +kernel
theorem dX11_nameOf_16 : decode cX11_nameOf 16 = .ok (.bipush 97, 2) := by decide +kernel
theorem dX11_nameOf_18 : decode cX11_nameOf 18 = .ok (.bipush 121, 2) := by decide +kernel
theorem dX11_nameOf_20 : decode cX11_nameOf 20 = .ok (.invokestatic 129, 3) := by decide +kernel
theorem dX11_nameOf_23 : decode cX11_nameOf 23 = .ok (.lcmp, 1) := by decide +kernel
theorem dX11_nameOf_24 : decode cX11_nameOf 24 = .ok (.ifCond .ne 5, 3) := by decide +kernel
theorem dX11_nameOf_27 : decode cX11_nameOf 27 = .ok (.iconst 0, 1) := by decide +kernel
theorem dX11_nameOf_28 : decode cX11_nameOf 28 = .ok (.ireturn, 1) := by decide +kernel
theorem dX11_nameOf_29 : decode cX11_nameOf 29 = .ok (.aload_n 0, 1) := by decide +kernel
theorem dX11_nameOf_30 : decode cX11_nameOf 30 = .ok (.invokevirtual 147, 3) := by decide +kernel
theorem dX11_nameOf_33 : decode cX11_nameOf 33 = .ok (.ifCond .eq 5, 3) := by decide +kernel
theorem dX11_nameOf_36 : decode cX11_nameOf 36 = .ok (.iconst 1, 1) := by decide +kernel
theorem dX11_nameOf_37 : decode cX11_nameOf 37 = .ok (.ireturn, 1) := by decide +kernel
theorem dX11_nameOf_38 : decode cX11_nameOf 38 = .ok (.aload_n 0, 1) := by decide +kernel
theorem dX11_nameOf_39 : decode cX11_nameOf 39 = .ok (.getfield 116, 3) := by decide +kernel
theorem dX11_nameOf_42 : decode cX11_nameOf 42 = .ok (.bipush 119, 2) := by decide +kernel
theorem dX11_nameOf_44 : decode cX11_nameOf 44 = .ok (.bipush 104, 2) := by decide +kernel
theorem dX11_nameOf_46 : decode cX11_nameOf 46 = .ok (.bipush 111, 2) := by decide +kernel
theorem dX11_nameOf_48 : decode cX11_nameOf 48 = .ok (.invokestatic 129, 3) := by decide +kernel
theorem dX11_nameOf_51 : decode cX11_nameOf 51 = .ok (.lcmp, 1) := by decide +kernel
theorem dX11_nameOf_52 : decode cX11_nameOf 52 = .ok (.ifCond .ne 5, 3) := by decide +kernel
theorem dX11_nameOf_55 : decode cX11_nameOf 55 = .ok (.iconst 2, 1) := by decide +kernel
theorem dX11_nameOf_56 : decode cX11_nameOf 56 = .ok (.ireturn, 1) := by decide +kernel
theorem dX11_nameOf_57 : decode cX11_nameOf 57 = .ok (.aload_n 0, 1) := by decide +kernel
theorem dX11_nameOf_58 : decode cX11_nameOf 58 = .ok (.getfield 116, 3) := by decide +kernel
theorem dX11_nameOf_61 : decode cX11_nameOf 61 = .ok (.bipush 114, 2) := by decide +kernel
theorem dX11_nameOf_63 : decode cX11_nameOf 63 = .ok (.bipush 111, 2) := by decide +kernel
theorem dX11_nameOf_65 : decode cX11_nameOf 65 = .ok (.bipush 97, 2) := by decide +kernel
theorem dX11_nameOf_67 : decode cX11_nameOf 67 = .ok (.bipush 100, 2) := by decide +kernel
theorem dX11_nameOf_69 : decode cX11_nameOf 69 = .ok (.invokestatic 133, 3) := by decide +kernel
theorem dX11_nameOf_72 : decode cX11_nameOf 72 = .ok (.lcmp, 1) := by decide +kernel
theorem dX11_nameOf_73 : decode cX11_nameOf 73 = .ok (.ifCond .ne 5, 3) := by decide +kernel
theorem dX11_nameOf_76 : decode cX11_nameOf 76 = .ok (.iconst 3, 1) := by decide +kernel
theorem dX11_nameOf_77 : decode cX11_nameOf 77 = .ok (.ireturn, 1) := by decide +kernel
theorem dX11_nameOf_78 : decode cX11_nameOf 78 = .ok (.aload_n 0, 1) := by decide +kernel
theorem dX11_nameOf_79 : decode cX11_nameOf 79 = .ok (.getfield 116, 3) := by decide +kernel
theorem dX11_nameOf_82 : decode cX11_nameOf 82 = .ok (.bipush 119, 2) := by decide +kernel
theorem dX11_nameOf_84 : decode cX11_nameOf 84 = .ok (.bipush 97, 2) := by decide +kernel
theorem dX11_nameOf_86 : decode cX11_nameOf 86 = .ok (.bipush 108, 2) := by decide +kernel
theorem dX11_nameOf_88 : decode cX11_nameOf 88 = .ok (.bipush 107, 2) := by decide +kernel
theorem dX11_nameOf_90 : decode cX11_nameOf 90 = .ok (.invokestatic 133, 3) := by decide +kernel
theorem dX11_nameOf_93 : decode cX11_nameOf 93 = .ok (.lcmp, 1) := by decide +kernel
theorem dX11_nameOf_94 : decode cX11_nameOf 94 = .ok (.ifCond .ne 5, 3) := by decide +kernel
theorem dX11_nameOf_97 : decode cX11_nameOf 97 = .ok (.iconst 4, 1) := by decide +kernel
theorem dX11_nameOf_98 : decode cX11_nameOf 98 = .ok (.ireturn, 1) := by decide +kernel
theorem dX11_nameOf_99 : decode cX11_nameOf 99 = .ok (.aload_n 0, 1) := by decide +kernel
theorem dX11_nameOf_100 : decode cX11_nameOf 100 = .ok (.getfield 116, 3) := by decide +kernel
theorem dX11_nameOf_103 : decode cX11_nameOf 103 = .ok (.bipush 114, 2) := by decide +kernel
theorem dX11_nameOf_105 : decode cX11_nameOf 105 = .ok (.bipush 117, 2) := by decide +kernel
theorem dX11_nameOf_107 : decode cX11_nameOf 107 = .ok (.bipush 110, 2) := by decide +kernel
theorem dX11_nameOf_109 : decode cX11_nameOf 109 = .ok (.invokestatic 129, 3) := by decide +kernel
theorem dX11_nameOf_112 : decode cX11_nameOf 112 = .ok (.lcmp, 1) := by decide +kernel
theorem dX11_nameOf_113 : decode cX11_nameOf 113 = .ok (.ifCond .ne 5, 3) := by decide +kernel
theorem dX11_nameOf_116 : decode cX11_nameOf 116 = .ok (.iconst 5, 1) := by decide +kernel
theorem dX11_nameOf_117 : decode cX11_nameOf 117 = .ok (.ireturn, 1) := by decide +kernel
theorem dX11_nameOf_118 : decode cX11_nameOf 118 = .ok (.aload_n 0, 1) := by decide +kernel
theorem dX11_nameOf_119 : decode cX11_nameOf 119 = .ok (.getfield 116, 3) := by decide +kernel
theorem dX11_nameOf_122 : decode cX11_nameOf 122 = .ok (.bipush 100, 2) := by decide +kernel
theorem dX11_nameOf_124 : decode cX11_nameOf 124 = .ok (.bipush 117, 2) := by decide +kernel
theorem dX11_nameOf_126 : decode cX11_nameOf 126 = .ok (.bipush 101, 2) := by decide +kernel
theorem dX11_nameOf_128 : decode cX11_nameOf 128 = .ok (.invokestatic 129, 3) := by decide +kernel
theorem dX11_nameOf_131 : decode cX11_nameOf 131 = .ok (.lcmp, 1) := by decide +kernel
theorem dX11_nameOf_132 : decode cX11_nameOf 132 = .ok (.ifCond .ne 6, 3) := by decide +kernel
theorem dX11_nameOf_135 : decode cX11_nameOf 135 = .ok (.bipush 6, 2) := by decide +kernel
theorem dX11_nameOf_137 : decode cX11_nameOf 137 = .ok (.ireturn, 1) := by decide +kernel
theorem dX11_nameOf_138 : decode cX11_nameOf 138 = .ok (.aload_n 0, 1) := by decide +kernel
theorem dX11_nameOf_139 : decode cX11_nameOf 139 = .ok (.getfield 116, 3) := by decide +kernel
theorem dX11_nameOf_142 : decode cX11_nameOf 142 = .ok (.bipush 104, 2) := by decide +kernel
theorem dX11_nameOf_144 : decode cX11_nameOf 144 = .ok (.bipush 101, 2) := by decide +kernel
theorem dX11_nameOf_146 : decode cX11_nameOf 146 = .ok (.bipush 97, 2) := by decide +kernel
theorem dX11_nameOf_148 : decode cX11_nameOf 148 = .ok (.bipush 114, 2) := by decide +kernel
theorem dX11_nameOf_150 : decode cX11_nameOf 150 = .ok (.bipush 100, 2) := by decide +kernel
theorem dX11_nameOf_152 : decode cX11_nameOf 152 = .ok (.invokestatic 137, 3) := by decide +kernel
theorem dX11_nameOf_155 : decode cX11_nameOf 155 = .ok (.lcmp, 1) := by decide +kernel
theorem dX11_nameOf_156 : decode cX11_nameOf 156 = .ok (.ifCond .ne 6, 3) := by decide +kernel
theorem dX11_nameOf_159 : decode cX11_nameOf 159 = .ok (.bipush 7, 2) := by decide +kernel
theorem dX11_nameOf_161 : decode cX11_nameOf 161 = .ok (.ireturn, 1) := by decide +kernel
theorem dX11_nameOf_162 : decode cX11_nameOf 162 = .ok (.aload_n 0, 1) := by decide +kernel
theorem dX11_nameOf_163 : decode cX11_nameOf 163 = .ok (.getfield 116, 3) := by decide +kernel
theorem dX11_nameOf_166 : decode cX11_nameOf 166 = .ok (.bipush 102, 2) := by decide +kernel
theorem dX11_nameOf_168 : decode cX11_nameOf 168 = .ok (.bipush 97, 2) := by decide +kernel
theorem dX11_nameOf_170 : decode cX11_nameOf 170 = .ok (.bipush 115, 2) := by decide +kernel
theorem dX11_nameOf_172 : decode cX11_nameOf 172 = .ok (.bipush 116, 2) := by decide +kernel
theorem dX11_nameOf_174 : decode cX11_nameOf 174 = .ok (.invokestatic 133, 3) := by decide +kernel
theorem dX11_nameOf_177 : decode cX11_nameOf 177 = .ok (.lcmp, 1) := by decide +kernel
theorem dX11_nameOf_178 : decode cX11_nameOf 178 = .ok (.ifCond .ne 8, 3) := by decide +kernel
theorem dX11_nameOf_181 : decode cX11_nameOf 181 = .ok (.bipush 8, 2) := by decide +kernel
theorem dX11_nameOf_183 : decode cX11_nameOf 183 = .ok (.goto 26, 3) := by decide +kernel
theorem dX11_nameOf_186 : decode cX11_nameOf 186 = .ok (.aload_n 0, 1) := by decide +kernel
theorem dX11_nameOf_187 : decode cX11_nameOf 187 = .ok (.getfield 116, 3) := by decide +kernel
theorem dX11_nameOf_190 : decode cX11_nameOf 190 = .ok (.bipush 106, 2) := by decide +kernel
theorem dX11_nameOf_192 : decode cX11_nameOf 192 = .ok (.bipush 97, 2) := by decide +kernel
theorem dX11_nameOf_194 : decode cX11_nameOf 194 = .ok (.bipush 109, 2) := by decide +kernel
theorem dX11_nameOf_196 : decode cX11_nameOf 196 = .ok (.invokestatic 129, 3) := by decide +kernel
theorem dX11_nameOf_199 : decode cX11_nameOf 199 = .ok (.lcmp, 1) := by decide +kernel
theorem dX11_nameOf_200 : decode cX11_nameOf 200 = .ok (.ifCond .ne 8, 3) := by decide +kernel
theorem dX11_nameOf_203 : decode cX11_nameOf 203 = .ok (.bipush 9, 2) := by decide +kernel
theorem dX11_nameOf_205 : decode cX11_nameOf 205 = .ok (.goto 4, 3) := by decide +kernel
theorem dX11_nameOf_208 : decode cX11_nameOf 208 = .ok (.iconst (-1), 1) := by decide +kernel
theorem dX11_nameOf_209 : decode cX11_nameOf 209 = .ok (.ireturn, 1) := by decide +kernel
def S_X11_nameOf (o0 : Nat) (μ : Me) (Q : Int32 → Me → Prop) : Prop := mok μ o0 11 ∧ (((mgi μ o0 9) = 2 → S_X11_w3 100 97 121 μ (fun r4 μ2 => ((¬ (lg_cmp (mgl μ o0 11) r4) = 0 → S_X11_isWeather o0 μ2 (fun r7 μ5 => ((r7 = 0 → S_X11_w3 119 104 111 μ5 (fun r10 μ8 => ((¬ (lg_cmp (mgl μ5 o0 11) r10) = 0 → S_X11_w4 114 111 97 100 μ8 (fun r13 μ11 => ((¬ (lg_cmp (mgl μ8 o0 11) r13) = 0 → S_X11_w4 119 97 108 107 μ11 (fun r16 μ14 => ((¬ (lg_cmp (mgl μ11 o0 11) r16) = 0 → S_X11_w3 114 117 110 μ14 (fun r19 μ17 => ((¬ (lg_cmp (mgl μ14 o0 11) r19) = 0 → S_X11_w3 100 117 101 μ17 (fun r22 μ20 => ((¬ (lg_cmp (mgl μ17 o0 11) r22) = 0 → S_X11_w5 104 101 97 114 100 μ20 (fun r25 μ23 => ((¬ (lg_cmp (mgl μ20 o0 11) r25) = 0 → S_X11_w4 102 97 115 116 μ23 (fun r28 μ26 => ((¬ (lg_cmp (mgl μ23 o0 11) r28) = 0 → S_X11_w3 106 97 109 μ26 (fun r31 μ29 => ((¬ (lg_cmp (mgl μ26 o0 11) r31) = 0 → Q (-1) μ29) ∧ ((lg_cmp (mgl μ26 o0 11) r31) = 0 → Q 9 μ29)))) ∧ ((lg_cmp (mgl μ23 o0 11) r28) = 0 → Q 8 μ26)))) ∧ ((lg_cmp (mgl μ20 o0 11) r25) = 0 → Q 7 μ23)))) ∧ ((lg_cmp (mgl μ17 o0 11) r22) = 0 → Q 6 μ20)))) ∧ ((lg_cmp (mgl μ14 o0 11) r19) = 0 → Q 5 μ17)))) ∧ ((lg_cmp (mgl μ11 o0 11) r16) = 0 → Q 4 μ14)))) ∧ ((lg_cmp (mgl μ8 o0 11) r13) = 0 → Q 3 μ11)))) ∧ ((lg_cmp (mgl μ5 o0 11) r10) = 0 → Q 2 μ8)))) ∧ (¬ r7 = 0 → Q 1 μ5)))) ∧ ((lg_cmp (mgl μ o0 11) r4) = 0 → Q 0 μ2)))) ∧ (¬ (mgi μ o0 9) = 2 → Q (-1) μ))
set_option maxHeartbeats 4000000 in
set_option maxRecDepth 100000 in
theorem t_X11_nameOf {x : GX} (f : Fx x cX11_nameOf RX11 1 (rmc 4 0 0)) {o0 : Nat} {μ : Me} {Q : Int32 → Me → Prop} (hq : Rt x (some .int) (qI Q)) (h : S_X11_nameOf o0 μ Q) : G x 1 0 [(0, .ref (gB x + o0))] [] μ 0 0 := by
  unfold S_X11_nameOf at h
  refine g_aload_n f 0 dX11_nameOf_0 rfl rfl ?_
  obtain ⟨v1, h⟩ := h
  refine g_getI f fk_X11_102 v1 dX11_nameOf_1 rfl ?_
  refine g_iconst f 2 dX11_nameOf_4 kc_2 ?_
  refine g_ic_eq f 10 dX11_nameOf_5 rfl h (fun h => ?_) (fun h => ?_)
  · refine g_aload_n f 0 dX11_nameOf_10 rfl rfl ?_
    refine g_getL f fk_X11_116 v1 dX11_nameOf_11 rfl ?_
    refine g_bipush f 100 dX11_nameOf_14 kb_100 ?_
    refine g_bipush f 97 dX11_nameOf_16 kb_97 ?_
    refine g_bipush f 121 dX11_nameOf_18 kb_121 ?_
    refine g_callS f mk_X11_129 (c_X11_w3 h) dX11_nameOf_20 rfl rfl (Nat.le_of_ble_eq_true rfl) (rm_ok (by decide) (by decide)) ⟨Nat.le_of_ble_eq_true rfl, Nat.le_of_ble_eq_true rfl⟩ (kL fun r4 μ2 x3 h => ?_)
    refine g_lcmp f dX11_nameOf_23 ?_
    refine g_if_ne f 29 dX11_nameOf_24 rfl h (fun h => ?_) (fun h => ?_)
    · refine g_aload_n f 0 dX11_nameOf_29 rfl rfl ?_
      have v1 := mex_ok x3 v1
      refine g_callV f mk_X11_147 v1 (c_X11_isWeather h) dX11_nameOf_30 rfl rfl (Nat.le_of_ble_eq_true rfl) (rm_ok (by decide) (by decide)) ⟨Nat.le_of_ble_eq_true rfl, Nat.le_of_ble_eq_true rfl⟩ (kI fun r7 μ5 x6 h => ?_)
      refine g_if_eq f 38 dX11_nameOf_33 rfl h (fun h => ?_) (fun h => ?_)
      · refine g_aload_n f 0 dX11_nameOf_38 rfl rfl ?_
        have v1 := mex_ok x6 v1
        refine g_getL f fk_X11_116 v1 dX11_nameOf_39 rfl ?_
        refine g_bipush f 119 dX11_nameOf_42 kb_119 ?_
        refine g_bipush f 104 dX11_nameOf_44 kb_104 ?_
        refine g_bipush f 111 dX11_nameOf_46 kb_111 ?_
        refine g_callS f mk_X11_129 (c_X11_w3 h) dX11_nameOf_48 rfl rfl (Nat.le_of_ble_eq_true rfl) (rm_ok (by decide) (by decide)) ⟨Nat.le_of_ble_eq_true rfl, Nat.le_of_ble_eq_true rfl⟩ (kL fun r10 μ8 x9 h => ?_)
        refine g_lcmp f dX11_nameOf_51 ?_
        refine g_if_ne f 57 dX11_nameOf_52 rfl h (fun h => ?_) (fun h => ?_)
        · refine g_aload_n f 0 dX11_nameOf_57 rfl rfl ?_
          have v1 := mex_ok x9 v1
          refine g_getL f fk_X11_116 v1 dX11_nameOf_58 rfl ?_
          refine g_bipush f 114 dX11_nameOf_61 kb_114 ?_
          refine g_bipush f 111 dX11_nameOf_63 kb_111 ?_
          refine g_bipush f 97 dX11_nameOf_65 kb_97 ?_
          refine g_bipush f 100 dX11_nameOf_67 kb_100 ?_
          refine g_callS f mk_X11_133 (c_X11_w4 h) dX11_nameOf_69 rfl rfl (Nat.le_of_ble_eq_true rfl) (rm_ok (by decide) (by decide)) ⟨Nat.le_of_ble_eq_true rfl, Nat.le_of_ble_eq_true rfl⟩ (kL fun r13 μ11 x12 h => ?_)
          refine g_lcmp f dX11_nameOf_72 ?_
          refine g_if_ne f 78 dX11_nameOf_73 rfl h (fun h => ?_) (fun h => ?_)
          · refine g_aload_n f 0 dX11_nameOf_78 rfl rfl ?_
            have v1 := mex_ok x12 v1
            refine g_getL f fk_X11_116 v1 dX11_nameOf_79 rfl ?_
            refine g_bipush f 119 dX11_nameOf_82 kb_119 ?_
            refine g_bipush f 97 dX11_nameOf_84 kb_97 ?_
            refine g_bipush f 108 dX11_nameOf_86 kb_108 ?_
            refine g_bipush f 107 dX11_nameOf_88 kb_107 ?_
            refine g_callS f mk_X11_133 (c_X11_w4 h) dX11_nameOf_90 rfl rfl (Nat.le_of_ble_eq_true rfl) (rm_ok (by decide) (by decide)) ⟨Nat.le_of_ble_eq_true rfl, Nat.le_of_ble_eq_true rfl⟩ (kL fun r16 μ14 x15 h => ?_)
            refine g_lcmp f dX11_nameOf_93 ?_
            refine g_if_ne f 99 dX11_nameOf_94 rfl h (fun h => ?_) (fun h => ?_)
            · refine g_aload_n f 0 dX11_nameOf_99 rfl rfl ?_
              have v1 := mex_ok x15 v1
              refine g_getL f fk_X11_116 v1 dX11_nameOf_100 rfl ?_
              refine g_bipush f 114 dX11_nameOf_103 kb_114 ?_
              refine g_bipush f 117 dX11_nameOf_105 kb_117 ?_
              refine g_bipush f 110 dX11_nameOf_107 kb_110 ?_
              refine g_callS f mk_X11_129 (c_X11_w3 h) dX11_nameOf_109 rfl rfl (Nat.le_of_ble_eq_true rfl) (rm_ok (by decide) (by decide)) ⟨Nat.le_of_ble_eq_true rfl, Nat.le_of_ble_eq_true rfl⟩ (kL fun r19 μ17 x18 h => ?_)
              refine g_lcmp f dX11_nameOf_112 ?_
              refine g_if_ne f 118 dX11_nameOf_113 rfl h (fun h => ?_) (fun h => ?_)
              · refine g_aload_n f 0 dX11_nameOf_118 rfl rfl ?_
                have v1 := mex_ok x18 v1
                refine g_getL f fk_X11_116 v1 dX11_nameOf_119 rfl ?_
                refine g_bipush f 100 dX11_nameOf_122 kb_100 ?_
                refine g_bipush f 117 dX11_nameOf_124 kb_117 ?_
                refine g_bipush f 101 dX11_nameOf_126 kb_101 ?_
                refine g_callS f mk_X11_129 (c_X11_w3 h) dX11_nameOf_128 rfl rfl (Nat.le_of_ble_eq_true rfl) (rm_ok (by decide) (by decide)) ⟨Nat.le_of_ble_eq_true rfl, Nat.le_of_ble_eq_true rfl⟩ (kL fun r22 μ20 x21 h => ?_)
                refine g_lcmp f dX11_nameOf_131 ?_
                refine g_if_ne f 138 dX11_nameOf_132 rfl h (fun h => ?_) (fun h => ?_)
                · refine g_aload_n f 0 dX11_nameOf_138 rfl rfl ?_
                  have v1 := mex_ok x21 v1
                  refine g_getL f fk_X11_116 v1 dX11_nameOf_139 rfl ?_
                  refine g_bipush f 104 dX11_nameOf_142 kb_104 ?_
                  refine g_bipush f 101 dX11_nameOf_144 kb_101 ?_
                  refine g_bipush f 97 dX11_nameOf_146 kb_97 ?_
                  refine g_bipush f 114 dX11_nameOf_148 kb_114 ?_
                  refine g_bipush f 100 dX11_nameOf_150 kb_100 ?_
                  refine g_callS f mk_X11_137 (c_X11_w5 h) dX11_nameOf_152 rfl rfl (Nat.le_of_ble_eq_true rfl) (rm_ok (by decide) (by decide)) ⟨Nat.le_of_ble_eq_true rfl, Nat.le_of_ble_eq_true rfl⟩ (kL fun r25 μ23 x24 h => ?_)
                  refine g_lcmp f dX11_nameOf_155 ?_
                  refine g_if_ne f 162 dX11_nameOf_156 rfl h (fun h => ?_) (fun h => ?_)
                  · refine g_aload_n f 0 dX11_nameOf_162 rfl rfl ?_
                    have v1 := mex_ok x24 v1
                    refine g_getL f fk_X11_116 v1 dX11_nameOf_163 rfl ?_
                    refine g_bipush f 102 dX11_nameOf_166 kb_102 ?_
                    refine g_bipush f 97 dX11_nameOf_168 kb_97 ?_
                    refine g_bipush f 115 dX11_nameOf_170 kb_115 ?_
                    refine g_bipush f 116 dX11_nameOf_172 kb_116 ?_
                    refine g_callS f mk_X11_133 (c_X11_w4 h) dX11_nameOf_174 rfl rfl (Nat.le_of_ble_eq_true rfl) (rm_ok (by decide) (by decide)) ⟨Nat.le_of_ble_eq_true rfl, Nat.le_of_ble_eq_true rfl⟩ (kL fun r28 μ26 x27 h => ?_)
                    refine g_lcmp f dX11_nameOf_177 ?_
                    refine g_if_ne f 186 dX11_nameOf_178 rfl h (fun h => ?_) (fun h => ?_)
                    · refine g_aload_n f 0 dX11_nameOf_186 rfl rfl ?_
                      have v1 := mex_ok x27 v1
                      refine g_getL f fk_X11_116 v1 dX11_nameOf_187 rfl ?_
                      refine g_bipush f 106 dX11_nameOf_190 kb_106 ?_
                      refine g_bipush f 97 dX11_nameOf_192 kb_97 ?_
                      refine g_bipush f 109 dX11_nameOf_194 kb_109 ?_
                      refine g_callS f mk_X11_129 (c_X11_w3 h) dX11_nameOf_196 rfl rfl (Nat.le_of_ble_eq_true rfl) (rm_ok (by decide) (by decide)) ⟨Nat.le_of_ble_eq_true rfl, Nat.le_of_ble_eq_true rfl⟩ (kL fun r31 μ29 x30 h => ?_)
                      refine g_lcmp f dX11_nameOf_199 ?_
                      refine g_if_ne f 208 dX11_nameOf_200 rfl h (fun h => ?_) (fun h => ?_)
                      · refine g_iconst f (-1) dX11_nameOf_208 kc_m1 ?_
                        exact g_iret f hq (Nat.le_of_ble_eq_true rfl) (Nat.le_of_ble_eq_true rfl) dX11_nameOf_209 h
                      · refine g_bipush f 9 dX11_nameOf_203 kb_9 ?_
                        refine g_goto f 209 dX11_nameOf_205 rfl ?_
                        exact g_iret f hq (Nat.le_of_ble_eq_true rfl) (Nat.le_of_ble_eq_true rfl) dX11_nameOf_209 h
                    · refine g_bipush f 8 dX11_nameOf_181 kb_8 ?_
                      refine g_goto f 209 dX11_nameOf_183 rfl ?_
                      exact g_iret f hq (Nat.le_of_ble_eq_true rfl) (Nat.le_of_ble_eq_true rfl) dX11_nameOf_209 h
                  · refine g_bipush f 7 dX11_nameOf_159 kb_7 ?_
                    exact g_iret f hq (Nat.le_of_ble_eq_true rfl) (Nat.le_of_ble_eq_true rfl) dX11_nameOf_161 h
                · refine g_bipush f 6 dX11_nameOf_135 kb_6 ?_
                  exact g_iret f hq (Nat.le_of_ble_eq_true rfl) (Nat.le_of_ble_eq_true rfl) dX11_nameOf_137 h
              · refine g_iconst f 5 dX11_nameOf_116 kc_5 ?_
                exact g_iret f hq (Nat.le_of_ble_eq_true rfl) (Nat.le_of_ble_eq_true rfl) dX11_nameOf_117 h
            · refine g_iconst f 4 dX11_nameOf_97 kc_4 ?_
              exact g_iret f hq (Nat.le_of_ble_eq_true rfl) (Nat.le_of_ble_eq_true rfl) dX11_nameOf_98 h
          · refine g_iconst f 3 dX11_nameOf_76 kc_3 ?_
            exact g_iret f hq (Nat.le_of_ble_eq_true rfl) (Nat.le_of_ble_eq_true rfl) dX11_nameOf_77 h
        · refine g_iconst f 2 dX11_nameOf_55 kc_2 ?_
          exact g_iret f hq (Nat.le_of_ble_eq_true rfl) (Nat.le_of_ble_eq_true rfl) dX11_nameOf_56 h
      · refine g_iconst f 1 dX11_nameOf_36 kc_1 ?_
        exact g_iret f hq (Nat.le_of_ble_eq_true rfl) (Nat.le_of_ble_eq_true rfl) dX11_nameOf_37 h
    · refine g_iconst f 0 dX11_nameOf_27 kc_0 ?_
      exact g_iret f hq (Nat.le_of_ble_eq_true rfl) (Nat.le_of_ble_eq_true rfl) dX11_nameOf_28 h
  · refine g_iconst f (-1) dX11_nameOf_8 kc_m1 ?_
    exact g_iret f hq (Nat.le_of_ble_eq_true rfl) (Nat.le_of_ble_eq_true rfl) dX11_nameOf_9 h
theorem c_X11_nameOf {Ω : OM} {o0 : Nat} {μ : Me} {Q : Int32 → Me → Prop} (h : S_X11_nameOf o0 μ Q) : CT Ω yX11_nameOf cX11_nameOf 1 (some .int) (rmc 4 0 0) [.ref (oB Ω + o0)] μ (qI Q) := CT_of (by decide) rfl (by simp [lg_sl, Value.category]) (fun x hΩ f hq hi => by subst hΩ; exact t_X11_nameOf f hq h)
theorem dX11_isOf_0 : decode cX11_isOf 0 = .ok (.iload_n 1, 1) := by decide +kernel
theorem dX11_isOf_1 : decode cX11_isOf 1 = .ok (.bipush 7, 2) := by decide +kernel
theorem dX11_isOf_3 : decode cX11_isOf 3 = .ok (.if_icmp .lt 27, 3) := by decide +kernel
theorem dX11_isOf_6 : decode cX11_isOf 6 = .ok (.iload_n 1, 1) := by decide +kernel
theorem dX11_isOf_7 : decode cX11_isOf 7 = .ok (.bipush 7, 2) := by decide +kernel
theorem dX11_isOf_9 : decode cX11_isOf 9 = .ok (.if_icmp .ne 13, 3) := by decide +kernel
theorem dX11_isOf_12 : decode cX11_isOf 12 = .ok (.aload_n 0, 1) := by decide +kernel
theorem dX11_isOf_13 : decode cX11_isOf 13 = .ok (.getfield 151, 3) := by decide +kernel
theorem dX11_isOf_16 : decode cX11_isOf 16 = .ok (.ifCond .ne 18, 3) := by decide +kernel
theorem dX11_isOf_19 : decode cX11_isOf 19 = .ok (.goto 11, 3) := by decide +kernel
theorem dX11_isOf_22 : decode cX11_isOf 22 = .ok (.aload_n 0, 1) := by decide +kernel
theorem dX11_isOf_23 : decode cX11_isOf 23 = .ok (.getfield 151, 3) := by decide +kernel
theorem dX11_isOf_26 : decode cX11_isOf 26 = .ok (.iconst 1, 1) := by decide +kernel
theorem dX11_isOf_27 : decode cX11_isOf 27 = .ok (.if_icmp .ne 7, 3) := by decide +kernel
theorem dX11_isOf_30 : decode cX11_isOf 30 = .ok (.iconst 1, 1) := by decide +kernel
theorem dX11_isOf_31 : decode cX11_isOf 31 = .ok (.goto 4, 3) := by decide +kernel
theorem dX11_isOf_34 : decode cX11_isOf 34 = .ok (.iconst 0, 1) := by decide +kernel
theorem dX11_isOf_35 : decode cX11_isOf 35 = .ok (.ireturn, 1) := by decide +kernel
def S_X11_isOf (o0 : Nat) (i1 : Int32) (μ : Me) (Q : Int32 → Me → Prop) : Prop := ((i1 < 7 → Q 1 μ) ∧ (¬ i1 < 7 → ((¬ i1 = 7 → mok μ o0 11 ∧ ((¬ (mgi μ o0 14) = 1 → Q 0 μ) ∧ ((mgi μ o0 14) = 1 → Q 1 μ))) ∧ (i1 = 7 → mok μ o0 11 ∧ ((¬ (mgi μ o0 14) = 0 → Q 0 μ) ∧ ((mgi μ o0 14) = 0 → Q 1 μ))))))
set_option maxHeartbeats 4000000 in
set_option maxRecDepth 100000 in
theorem t_X11_isOf {x : GX} (f : Fx x cX11_isOf RX11 2 (rmc 0 0 0)) {o0 : Nat} {i1 : Int32} {μ : Me} {Q : Int32 → Me → Prop} (hq : Rt x (some .boolean) (qI Q)) (h : S_X11_isOf o0 i1 μ Q) : G x 2 0 [(0, .ref (gB x + o0)), (1, .int i1)] [] μ 0 0 := by
  unfold S_X11_isOf at h
  refine g_iload_n f 1 dX11_isOf_0 rfl rfl ?_
  refine g_bipush f 7 dX11_isOf_1 kb_7 ?_
  refine g_ic_lt f 30 dX11_isOf_3 rfl h (fun h => ?_) (fun h => ?_)
  · refine g_iconst f 1 dX11_isOf_30 kc_1 ?_
    refine g_goto f 35 dX11_isOf_31 rfl ?_
    exact g_zret f hq (Nat.le_of_ble_eq_true rfl) (Nat.le_of_ble_eq_true rfl) dX11_isOf_35 zb_1.1 h
  · refine g_iload_n f 1 dX11_isOf_6 rfl rfl ?_
    refine g_bipush f 7 dX11_isOf_7 kb_7 ?_
    refine g_ic_ne f 22 dX11_isOf_9 rfl h (fun h => ?_) (fun h => ?_)
    · refine g_aload_n f 0 dX11_isOf_22 rfl rfl ?_
      obtain ⟨v1, h⟩ := h
      refine g_getI f fk_X11_151 v1 dX11_isOf_23 rfl ?_
      refine g_iconst f 1 dX11_isOf_26 kc_1 ?_
      refine g_ic_ne f 34 dX11_isOf_27 rfl h (fun h => ?_) (fun h => ?_)
      · refine g_iconst f 0 dX11_isOf_34 kc_0 ?_
        exact g_zret f hq (Nat.le_of_ble_eq_true rfl) (Nat.le_of_ble_eq_true rfl) dX11_isOf_35 zb_0.1 h
      · refine g_iconst f 1 dX11_isOf_30 kc_1 ?_
        refine g_goto f 35 dX11_isOf_31 rfl ?_
        exact g_zret f hq (Nat.le_of_ble_eq_true rfl) (Nat.le_of_ble_eq_true rfl) dX11_isOf_35 zb_1.1 h
    · refine g_aload_n f 0 dX11_isOf_12 rfl rfl ?_
      obtain ⟨v2, h⟩ := h
      refine g_getI f fk_X11_151 v2 dX11_isOf_13 rfl ?_
      refine g_if_ne f 34 dX11_isOf_16 rfl h (fun h => ?_) (fun h => ?_)
      · refine g_iconst f 0 dX11_isOf_34 kc_0 ?_
        exact g_zret f hq (Nat.le_of_ble_eq_true rfl) (Nat.le_of_ble_eq_true rfl) dX11_isOf_35 zb_0.1 h
      · refine g_goto f 30 dX11_isOf_19 rfl ?_
        refine g_iconst f 1 dX11_isOf_30 kc_1 ?_
        refine g_goto f 35 dX11_isOf_31 rfl ?_
        exact g_zret f hq (Nat.le_of_ble_eq_true rfl) (Nat.le_of_ble_eq_true rfl) dX11_isOf_35 zb_1.1 h
theorem c_X11_isOf {Ω : OM} {o0 : Nat} {i1 : Int32} {μ : Me} {Q : Int32 → Me → Prop} (h : S_X11_isOf o0 i1 μ Q) : CT Ω yX11_isOf cX11_isOf 2 (some .boolean) (rmc 0 0 0) [.ref (oB Ω + o0), .int i1] μ (qI Q) := CT_of (by decide) rfl (by simp [lg_sl, Value.category]) (fun x hΩ f hq hi => by subst hΩ; exact t_X11_isOf f hq h)
theorem dX11_opened_0 : decode cX11_opened 0 = .ok (.aload_n 0, 1) := by decide +kernel
theorem dX11_opened_1 : decode cX11_opened 1 = .ok (.getfield 164, 3) := by decide +kernel
theorem dX11_opened_4 : decode cX11_opened 4 = .ok (.bipush 8, 2) := by decide +kernel
theorem dX11_opened_6 : decode cX11_opened 6 = .ok (.if_icmp .ne 5, 3) := by decide +kernel
theorem dX11_opened_9 : decode cX11_opened 9 = .ok (.iconst 3, 1) := by decide +kernel
theorem dX11_opened_10 : decode cX11_opened 10 = .ok (.ireturn, 1) := by decide +kernel
theorem dX11_opened_11 : decode cX11_opened 11 = .ok (.aload_n 0, 1) := by decide +kernel
theorem dX11_opened_12 : decode cX11_opened 12 = .ok (.dup, 1) := by decide +kernel
theorem dX11_opened_13 : decode cX11_opened 13 = .ok (.getfield 164, 3) := by decide +kernel
theorem dX11_opened_16 : decode cX11_opened 16 = .ok (.iconst 1, 1) := by decide +kernel
theorem dX11_opened_17 : decode cX11_opened 17 = .ok (.iadd, 1) := by decide +kernel
theorem dX11_opened_18 : decode cX11_opened 18 = .ok (.putfield 164, 3) := by decide +kernel
theorem dX11_opened_21 : decode cX11_opened 21 = .ok (.aload_n 0, 1) := by decide +kernel
theorem dX11_opened_22 : decode cX11_opened 22 = .ok (.getfield 29, 3) := by decide +kernel
theorem dX11_opened_25 : decode cX11_opened 25 = .ok (.aload_n 0, 1) := by decide +kernel
theorem dX11_opened_26 : decode cX11_opened 26 = .ok (.getfield 154, 3) := by decide +kernel
theorem dX11_opened_29 : decode cX11_opened 29 = .ok (.iload_n 1, 1) := by decide +kernel
theorem dX11_opened_30 : decode cX11_opened 30 = .ok (.iastore, 1) := by decide +kernel
theorem dX11_opened_31 : decode cX11_opened 31 = .ok (.aload_n 0, 1) := by decide +kernel
theorem dX11_opened_32 : decode cX11_opened 32 = .ok (.dup, 1) := by decide +kernel
theorem dX11_opened_33 : decode cX11_opened 33 = .ok (.getfield 154, 3) := by decide +kernel
theorem dX11_opened_36 : decode cX11_opened 36 = .ok (.iconst 1, 1) := by decide +kernel
theorem dX11_opened_37 : decode cX11_opened 37 = .ok (.iadd, 1) := by decide +kernel
theorem dX11_opened_38 : decode cX11_opened 38 = .ok (.putfield 154, 3) := by decide +kernel
theorem dX11_opened_41 : decode cX11_opened 41 = .ok (.aload_n 0, 1) := by decide +kernel
theorem dX11_opened_42 : decode cX11_opened 42 = .ok (.invokevirtual 173, 3) := by decide +kernel
theorem dX11_opened_45 : decode cX11_opened 45 = .ok (.iconst 0, 1) := by decide +kernel
theorem dX11_opened_46 : decode cX11_opened 46 = .ok (.ireturn, 1) := by decide +kernel
def S_X11_opened (o0 : Nat) (i1 : Int32) (μ : Me) (Q : Int32 → Me → Prop) : Prop := mok μ o0 11 ∧ ((¬ (mgi μ o0 17) = 8 → ∀ μ2, μ2 = msi μ o0 17 ((mgi μ o0 17) + 1) → ∃ t3, mgr μ2 o0 15 = some t3 ∧ mok μ2 t3 12 ∧ vp_in (mgi μ2 o0 16) (mln μ2 t3) ∧ ∀ μ5, μ5 = msi μ2 t3 (mgi μ2 o0 16).toNatClampNeg i1 → ∀ μ6, μ6 = msi μ5 o0 16 ((mgi μ5 o0 16) + 1) → S_X11_nextToken o0 μ6 (fun μ7 => Q 0 μ7)) ∧ ((mgi μ o0 17) = 8 → Q 3 μ))
set_option maxHeartbeats 4000000 in
set_option maxRecDepth 100000 in
theorem t_X11_opened {x : GX} (f : Fx x cX11_opened RX11 2 (rmc 2 0 0)) {o0 : Nat} {i1 : Int32} {μ : Me} {Q : Int32 → Me → Prop} (hq : Rt x (some .int) (qI Q)) (h : S_X11_opened o0 i1 μ Q) : G x 2 0 [(0, .ref (gB x + o0)), (1, .int i1)] [] μ 0 0 := by
  unfold S_X11_opened at h
  refine g_aload_n f 0 dX11_opened_0 rfl rfl ?_
  obtain ⟨v1, h⟩ := h
  refine g_getI f fk_X11_164 v1 dX11_opened_1 rfl ?_
  refine g_bipush f 8 dX11_opened_4 kb_8 ?_
  refine g_ic_ne f 11 dX11_opened_6 rfl h (fun h => ?_) (fun h => ?_)
  · refine g_aload_n f 0 dX11_opened_11 rfl rfl ?_
    refine g_dup f dX11_opened_12 rfl ?_
    refine g_getI f fk_X11_164 v1 dX11_opened_13 rfl ?_
    refine g_iconst f 1 dX11_opened_16 kc_1 ?_
    refine g_iadd f dX11_opened_17 ?_
    refine g_putI f fk_X11_164 v1 dX11_opened_18 rfl h (fun h => ?_)
    refine g_aload_n f 0 dX11_opened_21 rfl rfl ?_
    refine g_getR f fk_X11_29 v1 dX11_opened_22 rfl h (fun t3 h => ?_)
    refine g_aload_n f 0 dX11_opened_25 rfl rfl ?_
    refine g_getI f fk_X11_154 v1 dX11_opened_26 rfl ?_
    refine g_iload_n f 1 dX11_opened_29 rfl rfl ?_
    obtain ⟨v4, h⟩ := h
    refine g_iast f v4 dX11_opened_30 h (fun h => ?_)
    refine g_aload_n f 0 dX11_opened_31 rfl rfl ?_
    refine g_dup f dX11_opened_32 rfl ?_
    refine g_getI f fk_X11_154 v1 dX11_opened_33 rfl ?_
    refine g_iconst f 1 dX11_opened_36 kc_1 ?_
    refine g_iadd f dX11_opened_37 ?_
    refine g_putI f fk_X11_154 v1 dX11_opened_38 rfl h (fun h => ?_)
    refine g_aload_n f 0 dX11_opened_41 rfl rfl ?_
    refine g_callV f mk_X11_173 v1 (c_X11_nextToken h) dX11_opened_42 rfl rfl (Nat.le_of_ble_eq_true rfl) (rm_ok (by decide) (by decide)) ⟨Nat.le_of_ble_eq_true rfl, Nat.le_of_ble_eq_true rfl⟩ (kV fun μ7 x8 h => ?_)
    refine g_iconst f 0 dX11_opened_45 kc_0 ?_
    exact g_iret f hq (Nat.le_of_ble_eq_true rfl) (Nat.le_of_ble_eq_true rfl) dX11_opened_46 h
  · refine g_iconst f 3 dX11_opened_9 kc_3 ?_
    exact g_iret f hq (Nat.le_of_ble_eq_true rfl) (Nat.le_of_ble_eq_true rfl) dX11_opened_10 h
theorem c_X11_opened {Ω : OM} {o0 : Nat} {i1 : Int32} {μ : Me} {Q : Int32 → Me → Prop} (h : S_X11_opened o0 i1 μ Q) : CT Ω yX11_opened cX11_opened 2 (some .int) (rmc 2 0 0) [.ref (oB Ω + o0), .int i1] μ (qI Q) := CT_of (by decide) rfl (by simp [lg_sl, Value.category]) (fun x hΩ f hq hi => by subst hΩ; exact t_X11_opened f hq h)
theorem dX11_isAskAhead_0 : decode cX11_isAskAhead 0 = .ok (.aload_n 0, 1) := by decide +kernel
theorem dX11_isAskAhead_1 : decode cX11_isAskAhead 1 = .ok (.invokevirtual 170, 3) := by decide +kernel
theorem dX11_isAskAhead_4 : decode cX11_isAskAhead 4 = .ok (.bipush 41, 2) := by decide +kernel
theorem dX11_isAskAhead_6 : decode cX11_isAskAhead 6 = .ok (.if_icmp .ne 45, 3) := by decide +kernel
theorem dX11_isAskAhead_9 : decode cX11_isAskAhead 9 = .ok (.aload_n 0, 1) := by decide +kernel
theorem dX11_isAskAhead_10 : decode cX11_isAskAhead 10 = .ok (.getfield 29, 3) := by decide +kernel
theorem dX11_isAskAhead_13 : decode cX11_isAskAhead 13 = .ok (.aload_n 0, 1) := by decide +kernel
theorem dX11_isAskAhead_14 : decode cX11_isAskAhead 14 = .ok (.getfield 154, 3) := by decide +kernel
theorem dX11_isAskAhead_17 : decode cX11_isAskAhead 17 = .ok (.iconst 1, 1) := by decide +kernel
theorem dX11_isAskAhead_18 : decode cX11_isAskAhead 18 = .ok (.isub, 1) := by decide +kernel
theorem dX11_isAskAhead_19 : decode cX11_isAskAhead 19 = .ok (.iaload, 1) := by decide +kernel
theorem dX11_isAskAhead_20 : decode cX11_isAskAhead 20 = .ok (.bipush 40, 2) := by decide +kernel
theorem dX11_isAskAhead_22 : decode cX11_isAskAhead 22 = .ok (.if_icmp .ge 25, 3) := by decide +kernel
theorem dX11_isAskAhead_25 : decode cX11_isAskAhead 25 = .ok (.aload_n 0, 1) := by decide +kernel
theorem dX11_isAskAhead_26 : decode cX11_isAskAhead 26 = .ok (.getfield 29, 3) := by decide +kernel
theorem dX11_isAskAhead_29 : decode cX11_isAskAhead 29 = .ok (.aload_n 0, 1) := by decide +kernel
theorem dX11_isAskAhead_30 : decode cX11_isAskAhead 30 = .ok (.getfield 154, 3) := by decide +kernel
theorem dX11_isAskAhead_33 : decode cX11_isAskAhead 33 = .ok (.iconst 1, 1) := by decide +kernel
theorem dX11_isAskAhead_34 : decode cX11_isAskAhead 34 = .ok (.isub, 1) := by decide +kernel
theorem dX11_isAskAhead_35 : decode cX11_isAskAhead 35 = .ok (.iaload, 1) := by decide +kernel
theorem dX11_isAskAhead_36 : decode cX11_isAskAhead 36 = .ok (.invokestatic 157, 3) := by decide +kernel
theorem dX11_isAskAhead_39 : decode cX11_isAskAhead 39 = .ok (.iconst 1, 1) := by decide +kernel
theorem dX11_isAskAhead_40 : decode cX11_isAskAhead 40 = .ok (.iconst 3, 1) := by decide +kernel
theorem dX11_isAskAhead_41 : decode cX11_isAskAhead 41 = .ok (.invokestatic 66, 3) := by decide +kernel
theorem dX11_isAskAhead_44 : decode cX11_isAskAhead 44 = .ok (.ifCond .eq 7, 3) := by decide +kernel
theorem dX11_isAskAhead_47 : decode cX11_isAskAhead 47 = .ok (.iconst 1, 1) := by decide +kernel
theorem dX11_isAskAhead_48 : decode cX11_isAskAhead 48 = .ok (.goto 4, 3) := by decide +kernel
theorem dX11_isAskAhead_51 : decode cX11_isAskAhead 51 = .ok (.iconst 0, 1) := by decide +kernel
theorem dX11_isAskAhead_52 : decode cX11_isAskAhead 52 = .ok (.ireturn, 1) := by decide +kernel
def S_X11_isAskAhead (o0 : Nat) (μ : Me) (Q : Int32 → Me → Prop) : Prop := mok μ o0 11 ∧ S_X11_openNow o0 μ (fun r4 μ2 => ((¬ r4 = 41 → Q 0 μ2) ∧ (r4 = 41 → ∃ t5, mgr μ2 o0 15 = some t5 ∧ mok μ2 t5 12 ∧ vp_in ((mgi μ2 o0 16) - 1) (mln μ2 t5) ∧ ((40 ≤ (mgi μ2 t5 ((mgi μ2 o0 16) - 1).toNatClampNeg) → Q 1 μ2) ∧ (¬ 40 ≤ (mgi μ2 t5 ((mgi μ2 o0 16) - 1).toNatClampNeg) → ∃ t7, mgr μ2 o0 15 = some t7 ∧ mok μ2 t7 12 ∧ vp_in ((mgi μ2 o0 16) - 1) (mln μ2 t7) ∧ S_X11_rank (mgi μ2 t7 ((mgi μ2 o0 16) - 1).toNatClampNeg) μ2 (fun r11 μ9 => S_X11_isIn r11 1 3 μ9 (fun r14 μ12 => ((r14 = 0 → Q 0 μ12) ∧ (¬ r14 = 0 → Q 1 μ12)))))))))
set_option maxHeartbeats 4000000 in
set_option maxRecDepth 100000 in
theorem t_X11_isAskAhead {x : GX} (f : Fx x cX11_isAskAhead RX11 1 (rmc 2 0 0)) {o0 : Nat} {μ : Me} {Q : Int32 → Me → Prop} (hq : Rt x (some .boolean) (qI Q)) (h : S_X11_isAskAhead o0 μ Q) : G x 1 0 [(0, .ref (gB x + o0))] [] μ 0 0 := by
  unfold S_X11_isAskAhead at h
  refine g_aload_n f 0 dX11_isAskAhead_0 rfl rfl ?_
  obtain ⟨v1, h⟩ := h
  refine g_callV f mk_X11_170 v1 (c_X11_openNow h) dX11_isAskAhead_1 rfl rfl (Nat.le_of_ble_eq_true rfl) (rm_ok (by decide) (by decide)) ⟨Nat.le_of_ble_eq_true rfl, Nat.le_of_ble_eq_true rfl⟩ (kI fun r4 μ2 x3 h => ?_)
  refine g_bipush f 41 dX11_isAskAhead_4 kb_41 ?_
  refine g_ic_ne f 51 dX11_isAskAhead_6 rfl h (fun h => ?_) (fun h => ?_)
  · refine g_iconst f 0 dX11_isAskAhead_51 kc_0 ?_
    exact g_zret f hq (Nat.le_of_ble_eq_true rfl) (Nat.le_of_ble_eq_true rfl) dX11_isAskAhead_52 zb_0.1 h
  · refine g_aload_n f 0 dX11_isAskAhead_9 rfl rfl ?_
    have v1 := mex_ok x3 v1
    refine g_getR f fk_X11_29 v1 dX11_isAskAhead_10 rfl h (fun t5 h => ?_)
    refine g_aload_n f 0 dX11_isAskAhead_13 rfl rfl ?_
    refine g_getI f fk_X11_154 v1 dX11_isAskAhead_14 rfl ?_
    refine g_iconst f 1 dX11_isAskAhead_17 kc_1 ?_
    refine g_isub f dX11_isAskAhead_18 ?_
    obtain ⟨v6, h⟩ := h
    refine g_iald f v6 dX11_isAskAhead_19 h (fun h => ?_)
    refine g_bipush f 40 dX11_isAskAhead_20 kb_40 ?_
    refine g_ic_ge f 47 dX11_isAskAhead_22 rfl h (fun h => ?_) (fun h => ?_)
    · refine g_iconst f 1 dX11_isAskAhead_47 kc_1 ?_
      refine g_goto f 52 dX11_isAskAhead_48 rfl ?_
      exact g_zret f hq (Nat.le_of_ble_eq_true rfl) (Nat.le_of_ble_eq_true rfl) dX11_isAskAhead_52 zb_1.1 h
    · refine g_aload_n f 0 dX11_isAskAhead_25 rfl rfl ?_
      refine g_getR f fk_X11_29 v1 dX11_isAskAhead_26 rfl h (fun t7 h => ?_)
      refine g_aload_n f 0 dX11_isAskAhead_29 rfl rfl ?_
      refine g_getI f fk_X11_154 v1 dX11_isAskAhead_30 rfl ?_
      refine g_iconst f 1 dX11_isAskAhead_33 kc_1 ?_
      refine g_isub f dX11_isAskAhead_34 ?_
      obtain ⟨v8, h⟩ := h
      refine g_iald f v8 dX11_isAskAhead_35 h (fun h => ?_)
      refine g_callS f mk_X11_157 (c_X11_rank h) dX11_isAskAhead_36 rfl rfl (Nat.le_of_ble_eq_true rfl) (rm_ok (by decide) (by decide)) ⟨Nat.le_of_ble_eq_true rfl, Nat.le_of_ble_eq_true rfl⟩ (kI fun r11 μ9 x10 h => ?_)
      refine g_iconst f 1 dX11_isAskAhead_39 kc_1 ?_
      refine g_iconst f 3 dX11_isAskAhead_40 kc_3 ?_
      refine g_callS f mk_X11_66 (c_X11_isIn h) dX11_isAskAhead_41 rfl rfl (Nat.le_of_ble_eq_true rfl) (rm_ok (by decide) (by decide)) ⟨Nat.le_of_ble_eq_true rfl, Nat.le_of_ble_eq_true rfl⟩ (kI fun r14 μ12 x13 h => ?_)
      refine g_if_eq f 51 dX11_isAskAhead_44 rfl h (fun h => ?_) (fun h => ?_)
      · refine g_iconst f 0 dX11_isAskAhead_51 kc_0 ?_
        exact g_zret f hq (Nat.le_of_ble_eq_true rfl) (Nat.le_of_ble_eq_true rfl) dX11_isAskAhead_52 zb_0.1 h
      · refine g_iconst f 1 dX11_isAskAhead_47 kc_1 ?_
        refine g_goto f 52 dX11_isAskAhead_48 rfl ?_
        exact g_zret f hq (Nat.le_of_ble_eq_true rfl) (Nat.le_of_ble_eq_true rfl) dX11_isAskAhead_52 zb_1.1 h
theorem c_X11_isAskAhead {Ω : OM} {o0 : Nat} {μ : Me} {Q : Int32 → Me → Prop} (h : S_X11_isAskAhead o0 μ Q) : CT Ω yX11_isAskAhead cX11_isAskAhead 1 (some .boolean) (rmc 2 0 0) [.ref (oB Ω + o0)] μ (qI Q) := CT_of (by decide) rfl (by simp [lg_sl, Value.category]) (fun x hΩ f hq hi => by subst hΩ; exact t_X11_isAskAhead f hq h)
theorem dX11_beginOne_0 : decode cX11_beginOne 0 = .ok (.aload_n 0, 1) := by decide +kernel
theorem dX11_beginOne_1 : decode cX11_beginOne 1 = .ok (.getfield 102, 3) := by decide +kernel
theorem dX11_beginOne_4 : decode cX11_beginOne 4 = .ok (.iconst 1, 1) := by decide +kernel
theorem dX11_beginOne_5 : decode cX11_beginOne 5 = .ok (.if_icmp .ne 15, 3) := by decide +kernel
theorem dX11_beginOne_8 : decode cX11_beginOne 8 = .ok (.aload_n 0, 1) := by decide +kernel
theorem dX11_beginOne_9 : decode cX11_beginOne 9 = .ok (.getfield 109, 3) := by decide +kernel
theorem dX11_beginOne_12 : decode cX11_beginOne 12 = .ok (.sipush 9999, 3) := by decide +kernel
theorem dX11_beginOne_15 : decode cX11_beginOne 15 = .ok (.if_icmp .le 5, 3) := by decide +kernel
theorem dX11_beginOne_18 : decode cX11_beginOne 18 = .ok (.iconst 2, 1) := by decide +kernel
theorem dX11_beginOne_19 : decode cX11_beginOne 19 = .ok (.ireturn, 1) := by decide +kernel
theorem dX11_beginOne_20 : decode cX11_beginOne 20 = .ok (.aload_n 0, 1) := by decide +kernel
theorem dX11_beginOne_21 : decode cX11_beginOne 21 = .ok (.invokevirtual 176, 3) := by decide +kernel
theorem dX11_beginOne_24 : decode cX11_beginOne 24 = .ok (.istore_n 1, 1) := by decide +kernel
theorem dX11_beginOne_25 : decode cX11_beginOne 25 = .ok (.iload_n 1, 1) := by decide +kernel
theorem dX11_beginOne_26 : decode cX11_beginOne 26 = .ok (.ifCond .lt 13, 3) := by decide +kernel
theorem dX11_beginOne_29 : decode cX11_beginOne 29 = .ok (.aload_n 0, 1) := by decide +kernel
theorem dX11_beginOne_30 : decode cX11_beginOne 30 = .ok (.iload_n 1, 1) := by decide +kernel
theorem dX11_beginOne_31 : decode cX11_beginOne 31 = .ok (.invokevirtual 179, 3) := by decide +kernel
theorem dX11_beginOne_34 : decode cX11_beginOne 34 = .ok (.ifCond .ne 5, 3) := by decide +kernel
theorem dX11_beginOne_37 : decode cX11_beginOne 37 = .ok (.iconst 5, 1) := by decide +kernel
theorem dX11_beginOne_38 : decode cX11_beginOne 38 = .ok (.ireturn, 1) := by decide +kernel
theorem dX11_beginOne_39 : decode cX11_beginOne 39 = .ok (.aload_n 0, 1) := by decide +kernel
theorem dX11_beginOne_40 : decode cX11_beginOne 40 = .ok (.getfield 102, 3) := by decide +kernel
theorem dX11_beginOne_43 : decode cX11_beginOne 43 = .ok (.iconst 1, 1) := by decide +kernel
theorem dX11_beginOne_44 : decode cX11_beginOne 44 = .ok (.if_icmp .eq 7, 3) := by decide +kernel
theorem dX11_beginOne_47 : decode cX11_beginOne 47 = .ok (.iload_n 1, 1) := by decide +kernel
theorem dX11_beginOne_48 : decode cX11_beginOne 48 = .ok (.ifCond .lt 53, 3) := by decide +kernel
theorem dX11_beginOne_51 : decode cX11_beginOne 51 = .ok (.aload_n 0, 1) := by decide +kernel
theorem dX11_beginOne_52 : decode cX11_beginOne 52 = .ok (.aload_n 0, 1) := by decide +kernel
theorem dX11_beginOne_53 : decode cX11_beginOne 53 = .ok (.getfield 102, 3) := by decide +kernel
theorem dX11_beginOne_56 : decode cX11_beginOne 56 = .ok (.iconst 1, 1) := by decide +kernel
theorem dX11_beginOne_57 : decode cX11_beginOne 57 = .ok (.if_icmp .ne 7, 3) := by decide +kernel
theorem dX11_beginOne_60 : decode cX11_beginOne 60 = .ok (.iconst 0, 1) := by decide +kernel
theorem dX11_beginOne_61 : decode cX11_beginOne 61 = .ok (.goto 4, 3) := by decide +kernel
theorem dX11_beginOne_64 : decode cX11_beginOne 64 = .ok (.iconst 1, 1) := by decide +kernel
theorem dX11_beginOne_65 : decode cX11_beginOne 65 = .ok (.aload_n 0, 1) := by decide +kernel
theorem dX11_beginOne_66 : decode cX11_beginOne 66 = .ok (.getfield 102, 3) := by decide +kernel
theorem dX11_beginOne_69 : decode cX11_beginOne 69 = .ok (.iconst 1, 1) := by decide +kernel
theorem dX11_beginOne_70 : decode cX11_beginOne 70 = .ok (.if_icmp .ne 10, 3) := by decide +kernel
theorem dX11_beginOne_73 : decode cX11_beginOne 73 = .ok (.aload_n 0, 1) := by decide +kernel
theorem dX11_beginOne_74 : decode cX11_beginOne 74 = .ok (.getfield 109, 3) := by decide +kernel
theorem dX11_beginOne_77 : decode cX11_beginOne 77 = .ok (.goto 4, 3) := by decide +kernel
theorem dX11_beginOne_80 : decode cX11_beginOne 80 = .ok (.iload_n 1, 1) := by decide +kernel
theorem dX11_beginOne_81 : decode cX11_beginOne 81 = .ok (.invokevirtual 160, 3) := by decide +kernel
theorem dX11_beginOne_84 : decode cX11_beginOne 84 = .ok (.aload_n 0, 1) := by decide +kernel
theorem dX11_beginOne_85 : decode cX11_beginOne 85 = .ok (.invokevirtual 173, 3) := by decide +kernel
theorem dX11_beginOne_88 : decode cX11_beginOne 88 = .ok (.aload_n 0, 1) := by decide +kernel
theorem dX11_beginOne_89 : decode cX11_beginOne 89 = .ok (.iconst 1, 1) := by decide +kernel
theorem dX11_beginOne_90 : decode cX11_beginOne 90 = .ok (.putfield 182, 3) := by decide +kernel
theorem dX11_beginOne_93 : decode cX11_beginOne 93 = .ok (.aload_n 0, 1) := by decide +kernel
theorem dX11_beginOne_94 : decode cX11_beginOne 94 = .ok (.bipush 7, 2) := by decide +kernel
theorem dX11_beginOne_96 : decode cX11_beginOne 96 = .ok (.invokevirtual 185, 3) := by decide +kernel
theorem dX11_beginOne_99 : decode cX11_beginOne 99 = .ok (.iconst 0, 1) := by decide +kernel
theorem dX11_beginOne_100 : decode cX11_beginOne 100 = .ok (.ireturn, 1) := by decide +kernel
theorem dX11_beginOne_101 : decode cX11_beginOne 101 = .ok (.aload_n 0, 1) := by decide +kernel
theorem dX11_beginOne_102 : decode cX11_beginOne 102 = .ok (.getfield 102, 3) := by decide +kernel
theorem dX11_beginOne_105 : decode cX11_beginOne 105 = .ok (.bipush 40, 2) := by decide +kernel
theorem dX11_beginOne_107 : decode cX11_beginOne 107 = .ok (.if_icmp .ne 10, 3) := by decide +kernel
theorem dX11_beginOne_110 : decode cX11_beginOne 110 = .ok (.aload_n 0, 1) := by decide +kernel
theorem dX11_beginOne_111 : decode cX11_beginOne 111 = .ok (.bipush 40, 2) := by decide +kernel
theorem dX11_beginOne_113 : decode cX11_beginOne 113 = .ok (.invokevirtual 188, 3) := by decide +kernel
theorem dX11_beginOne_116 : decode cX11_beginOne 116 = .ok (.ireturn, 1) := by decide +kernel
theorem dX11_beginOne_117 : decode cX11_beginOne 117 = .ok (.aload_n 0, 1) := by decide +kernel
theorem dX11_beginOne_118 : decode cX11_beginOne 118 = .ok (.getfield 102, 3) := by decide +kernel
theorem dX11_beginOne_121 : decode cX11_beginOne 121 = .ok (.bipush 45, 2) := by decide +kernel
theorem dX11_beginOne_123 : decode cX11_beginOne 123 = .ok (.if_icmp .ne 9, 3) := by decide +kernel
theorem dX11_beginOne_126 : decode cX11_beginOne 126 = .ok (.aload_n 0, 1) := by decide +kernel
theorem dX11_beginOne_127 : decode cX11_beginOne 127 = .ok (.iconst 5, 1) := by decide +kernel
theorem dX11_beginOne_128 : decode cX11_beginOne 128 = .ok (.invokevirtual 188, 3) := by decide +kernel
theorem dX11_beginOne_131 : decode cX11_beginOne 131 = .ok (.ireturn, 1) := by decide +kernel
theorem dX11_beginOne_132 : decode cX11_beginOne 132 = .ok (.aload_n 0, 1) := by decide +kernel
theorem dX11_beginOne_133 : decode cX11_beginOne 133 = .ok (.bipush 114, 2) := by decide +kernel
theorem dX11_beginOne_135 : decode cX11_beginOne 135 = .ok (.bipush 105, 2) := by decide +kernel
theorem dX11_beginOne_137 : decode cX11_beginOne 137 = .ok (.bipush 110, 2) := by decide +kernel
theorem dX11_beginOne_139 : decode cX11_beginOne 139 = .ok (.bipush 103, 2) := by decide +kernel
theorem dX11_beginOne_141 : decode cX11_beginOne 141 = .ok (.bipush 115, 2) := by decide +kernel
theorem dX11_beginOne_143 : decode cX11_beginOne 143 = .ok (.invokestatic 137, 3) := by decide +kernel
theorem dX11_beginOne_146 : decode cX11_beginOne 146 = .ok (.invokevirtual 191, 3) := by decide +kernel
theorem dX11_beginOne_149 : decode cX11_beginOne 149 = .ok (.ifCond .eq 9, 3) := by decide +kernel
theorem dX11_beginOne_152 : decode cX11_beginOne 152 = .ok (.aload_n 0, 1) := by decide +kernel
theorem dX11_beginOne_153 : decode cX11_beginOne 153 = .ok (.iconst 2, 1) := by decide +kernel
theorem dX11_beginOne_154 : decode cX11_beginOne 154 = .ok (.invokevirtual 188, 3) := by decide +kernel
theorem dX11_beginOne_157 : decode cX11_beginOne 157 = .ok (.ireturn, 1) := by decide +kernel
theorem dX11_beginOne_158 : decode cX11_beginOne 158 = .ok (.aload_n 0, 1) := by decide +kernel
theorem dX11_beginOne_159 : decode cX11_beginOne 159 = .ok (.bipush 105, 2) := by decide +kernel
theorem dX11_beginOne_161 : decode cX11_beginOne 161 = .ok (.bipush 102, 2) := by decide +kernel
theorem dX11_beginOne_163 : decode cX11_beginOne 163 = .ok (.invokestatic 125, 3) := by decide +kernel
theorem dX11_beginOne_166 : decode cX11_beginOne 166 = .ok (.invokevirtual 191, 3) := by decide +kernel
theorem dX11_beginOne_169 : decode cX11_beginOne 169 = .ok (.ifCond .eq 10, 3) := by decide +kernel
theorem dX11_beginOne_172 : decode cX11_beginOne 172 = .ok (.aload_n 0, 1) := by decide +kernel
theorem dX11_beginOne_173 : decode cX11_beginOne 173 = .ok (.bipush 41, 2) := by decide +kernel
theorem dX11_beginOne_175 : decode cX11_beginOne 175 = .ok (.invokevirtual 188, 3) := by decide +kernel
theorem dX11_beginOne_178 : decode cX11_beginOne 178 = .ok (.ireturn, 1) := by decide +kernel
theorem dX11_beginOne_179 : decode cX11_beginOne 179 = .ok (.aload_n 0, 1) := by decide +kernel
theorem dX11_beginOne_180 : decode cX11_beginOne 180 = .ok (.bipush 110, 2) := by decide +kernel
theorem dX11_beginOne_182 : decode cX11_beginOne 182 = .ok (.bipush 111, 2) := by decide +kernel
theorem dX11_beginOne_184 : decode cX11_beginOne 184 = .ok (.bipush 116, 2) := by decide +kernel
theorem dX11_beginOne_186 : decode cX11_beginOne 186 = .ok (.invokestatic 129, 3) := by decide +kernel
theorem dX11_beginOne_189 : decode cX11_beginOne 189 = .ok (.invokevirtual 191, 3) := by decide +kernel
theorem dX11_beginOne_192 : decode cX11_beginOne 192 = .ok (.ifCond .eq 19, 3) := by decide +kernel
theorem dX11_beginOne_195 : decode cX11_beginOne 195 = .ok (.aload_n 0, 1) := by decide +kernel
theorem dX11_beginOne_196 : decode cX11_beginOne 196 = .ok (.invokevirtual 195, 3) := by decide +kernel
theorem dX11_beginOne_199 : decode cX11_beginOne 199 = .ok (.ifCond .eq 12, 3) := by decide +kernel
theorem dX11_beginOne_202 : decode cX11_beginOne 202 = .ok (.aload_n 0, 1) := by decide +kernel
theorem dX11_beginOne_203 : decode cX11_beginOne 203 = .ok (.bipush 20, 2) := by decide +kernel
theorem dX11_beginOne_205 : decode cX11_beginOne 205 = .ok (.invokevirtual 188, 3) := by decide +kernel
theorem dX11_beginOne_208 : decode cX11_beginOne 208 = .ok (.goto 4, 3) := by decide +kernel
theorem dX11_beginOne_211 : decode cX11_beginOne 211 = .ok (.iconst 1, 1) := by decide +kernel
theorem dX11_beginOne_212 : decode cX11_beginOne 212 = .ok (.ireturn, 1) := by decide +kernel
def B_X11_beginOne_81 (o0 : Nat) (s0 : Int32) (s1 : Int32) (s2 : Option Nat) (μ : Me) (Q : Int32 → Me → Prop) : Prop := ∃ t9, s2 = some t9 ∧ mok μ t9 11 ∧ S_X11_emit t9 s1 s0 μ (fun μ13 => mok μ13 o0 11 ∧ S_X11_nextToken o0 μ13 (fun μ17 => ∀ μ20, μ20 = msi μ17 o0 18 1 → S_X11_settle o0 7 μ20 (fun μ21 => Q 0 μ21)))
set_option maxHeartbeats 4000000 in
set_option maxRecDepth 100000 in
theorem tB_X11_beginOne_81 {x : GX} (f : Fx x cX11_beginOne RX11 2 (rmc 5 0 0)) {o0 : Nat} {s0 : Int32} {s1 : Int32} {s2 : Option Nat} {μ : Me} {Q : Int32 → Me → Prop} (hq : Rt x (some .int) (qI Q)) (h : B_X11_beginOne_81 o0 s0 s1 s2 μ Q) : G x 2 81 [(0, .ref (gB x + o0))] [.int s0, .int s1, vr (gB x) s2] μ 0 0 := by
  unfold B_X11_beginOne_81 at h
  obtain ⟨t9, e10, h11⟩ := h
  subst e10
  have h := h11
  obtain ⟨v12, h⟩ := h
  refine g_callV f mk_X11_160 v12 (c_X11_emit h) dX11_beginOne_81 rfl rfl (Nat.le_of_ble_eq_true rfl) (rm_ok (by decide) (by decide)) ⟨Nat.le_of_ble_eq_true rfl, Nat.le_of_ble_eq_true rfl⟩ (kV fun μ13 x14 h => ?_)
  refine g_aload_n f 0 dX11_beginOne_84 rfl rfl ?_
  obtain ⟨v16, h⟩ := h
  refine g_callV f mk_X11_173 v16 (c_X11_nextToken h) dX11_beginOne_85 rfl rfl (Nat.le_of_ble_eq_true rfl) (rm_ok (by decide) (by decide)) ⟨Nat.le_of_ble_eq_true rfl, Nat.le_of_ble_eq_true rfl⟩ (kV fun μ17 x18 h => ?_)
  refine g_aload_n f 0 dX11_beginOne_88 rfl rfl ?_
  refine g_iconst f 1 dX11_beginOne_89 kc_1 ?_
  have v16 := mex_ok x18 v16
  refine g_putZ f fk_X11_182 v16 dX11_beginOne_90 rfl zb_1.1 zb_1.2 h (fun h => ?_)
  refine g_aload_n f 0 dX11_beginOne_93 rfl rfl ?_
  refine g_bipush f 7 dX11_beginOne_94 kb_7 ?_
  refine g_callV f mk_X11_185 v16 (c_X11_settle h) dX11_beginOne_96 rfl rfl (Nat.le_of_ble_eq_true rfl) (rm_ok (by decide) (by decide)) ⟨Nat.le_of_ble_eq_true rfl, Nat.le_of_ble_eq_true rfl⟩ (kV fun μ21 x22 h => ?_)
  refine g_iconst f 0 dX11_beginOne_99 kc_0 ?_
  exact g_iret f hq (Nat.le_of_ble_eq_true rfl) (Nat.le_of_ble_eq_true rfl) dX11_beginOne_100 h
def B_X11_beginOne_65 (o0 : Nat) (i1 : Int32) (s0 : Int32) (s1 : Option Nat) (μ : Me) (Q : Int32 → Me → Prop) : Prop := mok μ o0 11 ∧ ((¬ (mgi μ o0 9) = 1 → B_X11_beginOne_81 o0 i1 s0 s1 μ Q) ∧ ((mgi μ o0 9) = 1 → B_X11_beginOne_81 o0 (mgi μ o0 10) s0 s1 μ Q))
set_option maxHeartbeats 4000000 in
set_option maxRecDepth 100000 in
theorem tB_X11_beginOne_65 {x : GX} (f : Fx x cX11_beginOne RX11 2 (rmc 5 0 0)) {o0 : Nat} {i1 : Int32} {s0 : Int32} {s1 : Option Nat} {μ : Me} {Q : Int32 → Me → Prop} (hq : Rt x (some .int) (qI Q)) (h : B_X11_beginOne_65 o0 i1 s0 s1 μ Q) : G x 2 65 [(0, .ref (gB x + o0)), (1, .int i1)] [.int s0, vr (gB x) s1] μ 0 0 := by
  unfold B_X11_beginOne_65 at h
  refine g_aload_n f 0 dX11_beginOne_65 rfl rfl ?_
  obtain ⟨v8, h⟩ := h
  refine g_getI f fk_X11_102 v8 dX11_beginOne_66 rfl ?_
  refine g_iconst f 1 dX11_beginOne_69 kc_1 ?_
  refine g_ic_ne f 80 dX11_beginOne_70 rfl h (fun h => ?_) (fun h => ?_)
  · refine g_iload_n f 1 dX11_beginOne_80 rfl rfl ?_
    exact h_sub [0] rfl (tB_X11_beginOne_81 f hq h)
  · refine g_aload_n f 0 dX11_beginOne_73 rfl rfl ?_
    refine g_getI f fk_X11_109 v8 dX11_beginOne_74 rfl ?_
    refine g_goto f 81 dX11_beginOne_77 rfl ?_
    exact h_sub [0] rfl (tB_X11_beginOne_81 f hq h)
def B_X11_beginOne_51 (o0 : Nat) (i1 : Int32) (μ : Me) (Q : Int32 → Me → Prop) : Prop := mok μ o0 11 ∧ ((¬ (mgi μ o0 9) = 1 → B_X11_beginOne_65 o0 i1 1 (some o0) μ Q) ∧ ((mgi μ o0 9) = 1 → B_X11_beginOne_65 o0 i1 0 (some o0) μ Q))
set_option maxHeartbeats 4000000 in
set_option maxRecDepth 100000 in
theorem tB_X11_beginOne_51 {x : GX} (f : Fx x cX11_beginOne RX11 2 (rmc 5 0 0)) {o0 : Nat} {i1 : Int32} {μ : Me} {Q : Int32 → Me → Prop} (hq : Rt x (some .int) (qI Q)) (h : B_X11_beginOne_51 o0 i1 μ Q) : G x 2 51 [(0, .ref (gB x + o0)), (1, .int i1)] [] μ 0 0 := by
  unfold B_X11_beginOne_51 at h
  refine g_aload_n f 0 dX11_beginOne_51 rfl rfl ?_
  refine g_aload_n f 0 dX11_beginOne_52 rfl rfl ?_
  obtain ⟨v7, h⟩ := h
  refine g_getI f fk_X11_102 v7 dX11_beginOne_53 rfl ?_
  refine g_iconst f 1 dX11_beginOne_56 kc_1 ?_
  refine g_ic_ne f 64 dX11_beginOne_57 rfl h (fun h => ?_) (fun h => ?_)
  · refine g_iconst f 1 dX11_beginOne_64 kc_1 ?_
    exact h_sub [0, 1] rfl (tB_X11_beginOne_65 f hq h)
  · refine g_iconst f 0 dX11_beginOne_60 kc_0 ?_
    refine g_goto f 65 dX11_beginOne_61 rfl ?_
    exact h_sub [0, 1] rfl (tB_X11_beginOne_65 f hq h)
def B_X11_beginOne_39 (o0 : Nat) (i1 : Int32) (μ : Me) (Q : Int32 → Me → Prop) : Prop := mok μ o0 11 ∧ (((mgi μ o0 9) = 1 → B_X11_beginOne_51 o0 i1 μ Q) ∧ (¬ (mgi μ o0 9) = 1 → ((i1 < 0 → ((¬ (mgi μ o0 9) = 40 → ((¬ (mgi μ o0 9) = 45 → S_X11_w5 114 105 110 103 115 μ (fun r26 μ24 => S_X11_isWord o0 r26 μ24 (fun r29 μ27 => ((r29 = 0 → S_X11_w2 105 102 μ27 (fun r32 μ30 => S_X11_isWord o0 r32 μ30 (fun r35 μ33 => ((r35 = 0 → S_X11_w3 110 111 116 μ33 (fun r38 μ36 => S_X11_isWord o0 r38 μ36 (fun r41 μ39 => ((r41 = 0 → Q 1 μ39) ∧ (¬ r41 = 0 → S_X11_isAskAhead o0 μ39 (fun r44 μ42 => ((r44 = 0 → Q 1 μ42) ∧ (¬ r44 = 0 → S_X11_opened o0 20 μ42 (fun r47 μ45 => Q r47 μ45))))))))) ∧ (¬ r35 = 0 → S_X11_opened o0 41 μ33 (fun r50 μ48 => Q r50 μ48)))))) ∧ (¬ r29 = 0 → S_X11_opened o0 2 μ27 (fun r53 μ51 => Q r53 μ51)))))) ∧ ((mgi μ o0 9) = 45 → S_X11_opened o0 5 μ (fun r56 μ54 => Q r56 μ54)))) ∧ ((mgi μ o0 9) = 40 → S_X11_opened o0 40 μ (fun r59 μ57 => Q r59 μ57)))) ∧ (¬ i1 < 0 → B_X11_beginOne_51 o0 i1 μ Q))))
set_option maxHeartbeats 4000000 in
set_option maxRecDepth 100000 in
theorem tB_X11_beginOne_39 {x : GX} (f : Fx x cX11_beginOne RX11 2 (rmc 5 0 0)) {o0 : Nat} {i1 : Int32} {μ : Me} {Q : Int32 → Me → Prop} (hq : Rt x (some .int) (qI Q)) (h : B_X11_beginOne_39 o0 i1 μ Q) : G x 2 39 [(0, .ref (gB x + o0)), (1, .int i1)] [] μ 0 0 := by
  unfold B_X11_beginOne_39 at h
  refine g_aload_n f 0 dX11_beginOne_39 rfl rfl ?_
  obtain ⟨v6, h⟩ := h
  refine g_getI f fk_X11_102 v6 dX11_beginOne_40 rfl ?_
  refine g_iconst f 1 dX11_beginOne_43 kc_1 ?_
  refine g_ic_eq f 51 dX11_beginOne_44 rfl h (fun h => ?_) (fun h => ?_)
  · exact h_sub [0, 1] rfl (tB_X11_beginOne_51 f hq h)
  · refine g_iload_n f 1 dX11_beginOne_47 rfl rfl ?_
    refine g_if_lt f 101 dX11_beginOne_48 rfl h (fun h => ?_) (fun h => ?_)
    · refine g_aload_n f 0 dX11_beginOne_101 rfl rfl ?_
      refine g_getI f fk_X11_102 v6 dX11_beginOne_102 rfl ?_
      refine g_bipush f 40 dX11_beginOne_105 kb_40 ?_
      refine g_ic_ne f 117 dX11_beginOne_107 rfl h (fun h => ?_) (fun h => ?_)
      · refine g_aload_n f 0 dX11_beginOne_117 rfl rfl ?_
        refine g_getI f fk_X11_102 v6 dX11_beginOne_118 rfl ?_
        refine g_bipush f 45 dX11_beginOne_121 kb_45 ?_
        refine g_ic_ne f 132 dX11_beginOne_123 rfl h (fun h => ?_) (fun h => ?_)
        · refine g_aload_n f 0 dX11_beginOne_132 rfl rfl ?_
          refine g_bipush f 114 dX11_beginOne_133 kb_114 ?_
          refine g_bipush f 105 dX11_beginOne_135 kb_105 ?_
          refine g_bipush f 110 dX11_beginOne_137 kb_110 ?_
          refine g_bipush f 103 dX11_beginOne_139 kb_103 ?_
          refine g_bipush f 115 dX11_beginOne_141 kb_115 ?_
          refine g_callS f mk_X11_137 (c_X11_w5 h) dX11_beginOne_143 rfl rfl (Nat.le_of_ble_eq_true rfl) (rm_ok (by decide) (by decide)) ⟨Nat.le_of_ble_eq_true rfl, Nat.le_of_ble_eq_true rfl⟩ (kL fun r26 μ24 x25 h => ?_)
          have v6 := mex_ok x25 v6
          refine g_callV f mk_X11_191 v6 (c_X11_isWord h) dX11_beginOne_146 rfl rfl (Nat.le_of_ble_eq_true rfl) (rm_ok (by decide) (by decide)) ⟨Nat.le_of_ble_eq_true rfl, Nat.le_of_ble_eq_true rfl⟩ (kI fun r29 μ27 x28 h => ?_)
          refine g_if_eq f 158 dX11_beginOne_149 rfl h (fun h => ?_) (fun h => ?_)
          · refine g_aload_n f 0 dX11_beginOne_158 rfl rfl ?_
            refine g_bipush f 105 dX11_beginOne_159 kb_105 ?_
            refine g_bipush f 102 dX11_beginOne_161 kb_102 ?_
            refine g_callS f mk_X11_125 (c_X11_w2 h) dX11_beginOne_163 rfl rfl (Nat.le_of_ble_eq_true rfl) (rm_ok (by decide) (by decide)) ⟨Nat.le_of_ble_eq_true rfl, Nat.le_of_ble_eq_true rfl⟩ (kL fun r32 μ30 x31 h => ?_)
            have v6 := mex_ok x28 v6
            have v6 := mex_ok x31 v6
            refine g_callV f mk_X11_191 v6 (c_X11_isWord h) dX11_beginOne_166 rfl rfl (Nat.le_of_ble_eq_true rfl) (rm_ok (by decide) (by decide)) ⟨Nat.le_of_ble_eq_true rfl, Nat.le_of_ble_eq_true rfl⟩ (kI fun r35 μ33 x34 h => ?_)
            refine g_if_eq f 179 dX11_beginOne_169 rfl h (fun h => ?_) (fun h => ?_)
            · refine g_aload_n f 0 dX11_beginOne_179 rfl rfl ?_
              refine g_bipush f 110 dX11_beginOne_180 kb_110 ?_
              refine g_bipush f 111 dX11_beginOne_182 kb_111 ?_
              refine g_bipush f 116 dX11_beginOne_184 kb_116 ?_
              refine g_callS f mk_X11_129 (c_X11_w3 h) dX11_beginOne_186 rfl rfl (Nat.le_of_ble_eq_true rfl) (rm_ok (by decide) (by decide)) ⟨Nat.le_of_ble_eq_true rfl, Nat.le_of_ble_eq_true rfl⟩ (kL fun r38 μ36 x37 h => ?_)
              have v6 := mex_ok x34 v6
              have v6 := mex_ok x37 v6
              refine g_callV f mk_X11_191 v6 (c_X11_isWord h) dX11_beginOne_189 rfl rfl (Nat.le_of_ble_eq_true rfl) (rm_ok (by decide) (by decide)) ⟨Nat.le_of_ble_eq_true rfl, Nat.le_of_ble_eq_true rfl⟩ (kI fun r41 μ39 x40 h => ?_)
              refine g_if_eq f 211 dX11_beginOne_192 rfl h (fun h => ?_) (fun h => ?_)
              · refine g_iconst f 1 dX11_beginOne_211 kc_1 ?_
                exact g_iret f hq (Nat.le_of_ble_eq_true rfl) (Nat.le_of_ble_eq_true rfl) dX11_beginOne_212 h
              · refine g_aload_n f 0 dX11_beginOne_195 rfl rfl ?_
                have v6 := mex_ok x40 v6
                refine g_callV f mk_X11_195 v6 (c_X11_isAskAhead h) dX11_beginOne_196 rfl rfl (Nat.le_of_ble_eq_true rfl) (rm_ok (by decide) (by decide)) ⟨Nat.le_of_ble_eq_true rfl, Nat.le_of_ble_eq_true rfl⟩ (kI fun r44 μ42 x43 h => ?_)
                refine g_if_eq f 211 dX11_beginOne_199 rfl h (fun h => ?_) (fun h => ?_)
                · refine g_iconst f 1 dX11_beginOne_211 kc_1 ?_
                  exact g_iret f hq (Nat.le_of_ble_eq_true rfl) (Nat.le_of_ble_eq_true rfl) dX11_beginOne_212 h
                · refine g_aload_n f 0 dX11_beginOne_202 rfl rfl ?_
                  refine g_bipush f 20 dX11_beginOne_203 kb_20 ?_
                  have v6 := mex_ok x43 v6
                  refine g_callV f mk_X11_188 v6 (c_X11_opened h) dX11_beginOne_205 rfl rfl (Nat.le_of_ble_eq_true rfl) (rm_ok (by decide) (by decide)) ⟨Nat.le_of_ble_eq_true rfl, Nat.le_of_ble_eq_true rfl⟩ (kI fun r47 μ45 x46 h => ?_)
                  refine g_goto f 212 dX11_beginOne_208 rfl ?_
                  exact g_iret f hq (Nat.le_of_ble_eq_true rfl) (Nat.le_of_ble_eq_true rfl) dX11_beginOne_212 h
            · refine g_aload_n f 0 dX11_beginOne_172 rfl rfl ?_
              refine g_bipush f 41 dX11_beginOne_173 kb_41 ?_
              have v6 := mex_ok x34 v6
              refine g_callV f mk_X11_188 v6 (c_X11_opened h) dX11_beginOne_175 rfl rfl (Nat.le_of_ble_eq_true rfl) (rm_ok (by decide) (by decide)) ⟨Nat.le_of_ble_eq_true rfl, Nat.le_of_ble_eq_true rfl⟩ (kI fun r50 μ48 x49 h => ?_)
              exact g_iret f hq (Nat.le_of_ble_eq_true rfl) (Nat.le_of_ble_eq_true rfl) dX11_beginOne_178 h
          · refine g_aload_n f 0 dX11_beginOne_152 rfl rfl ?_
            refine g_iconst f 2 dX11_beginOne_153 kc_2 ?_
            have v6 := mex_ok x28 v6
            refine g_callV f mk_X11_188 v6 (c_X11_opened h) dX11_beginOne_154 rfl rfl (Nat.le_of_ble_eq_true rfl) (rm_ok (by decide) (by decide)) ⟨Nat.le_of_ble_eq_true rfl, Nat.le_of_ble_eq_true rfl⟩ (kI fun r53 μ51 x52 h => ?_)
            exact g_iret f hq (Nat.le_of_ble_eq_true rfl) (Nat.le_of_ble_eq_true rfl) dX11_beginOne_157 h
        · refine g_aload_n f 0 dX11_beginOne_126 rfl rfl ?_
          refine g_iconst f 5 dX11_beginOne_127 kc_5 ?_
          refine g_callV f mk_X11_188 v6 (c_X11_opened h) dX11_beginOne_128 rfl rfl (Nat.le_of_ble_eq_true rfl) (rm_ok (by decide) (by decide)) ⟨Nat.le_of_ble_eq_true rfl, Nat.le_of_ble_eq_true rfl⟩ (kI fun r56 μ54 x55 h => ?_)
          exact g_iret f hq (Nat.le_of_ble_eq_true rfl) (Nat.le_of_ble_eq_true rfl) dX11_beginOne_131 h
      · refine g_aload_n f 0 dX11_beginOne_110 rfl rfl ?_
        refine g_bipush f 40 dX11_beginOne_111 kb_40 ?_
        refine g_callV f mk_X11_188 v6 (c_X11_opened h) dX11_beginOne_113 rfl rfl (Nat.le_of_ble_eq_true rfl) (rm_ok (by decide) (by decide)) ⟨Nat.le_of_ble_eq_true rfl, Nat.le_of_ble_eq_true rfl⟩ (kI fun r59 μ57 x58 h => ?_)
        exact g_iret f hq (Nat.le_of_ble_eq_true rfl) (Nat.le_of_ble_eq_true rfl) dX11_beginOne_116 h
    · exact h_sub [0, 1] rfl (tB_X11_beginOne_51 f hq h)
def B_X11_beginOne_20 (o0 : Nat) (μ : Me) (Q : Int32 → Me → Prop) : Prop := mok μ o0 11 ∧ S_X11_nameOf o0 μ (fun r5 μ3 => ((r5 < 0 → B_X11_beginOne_39 o0 r5 μ3 Q) ∧ (¬ r5 < 0 → S_X11_isOf o0 r5 μ3 (fun r62 μ60 => ((¬ r62 = 0 → B_X11_beginOne_39 o0 r5 μ60 Q) ∧ (r62 = 0 → Q 5 μ60))))))
set_option maxHeartbeats 4000000 in
set_option maxRecDepth 100000 in
theorem tB_X11_beginOne_20 {x : GX} (f : Fx x cX11_beginOne RX11 2 (rmc 5 0 0)) {o0 : Nat} {μ : Me} {Q : Int32 → Me → Prop} (hq : Rt x (some .int) (qI Q)) (h : B_X11_beginOne_20 o0 μ Q) : G x 2 20 [(0, .ref (gB x + o0))] [] μ 0 0 := by
  unfold B_X11_beginOne_20 at h
  refine g_aload_n f 0 dX11_beginOne_20 rfl rfl ?_
  obtain ⟨v2, h⟩ := h
  refine g_callV f mk_X11_176 v2 (c_X11_nameOf h) dX11_beginOne_21 rfl rfl (Nat.le_of_ble_eq_true rfl) (rm_ok (by decide) (by decide)) ⟨Nat.le_of_ble_eq_true rfl, Nat.le_of_ble_eq_true rfl⟩ (kI fun r5 μ3 x4 h => ?_)
  refine h_istore_n f dX11_beginOne_24 rfl (by decide) ?_
  refine g_iload_n f 0 dX11_beginOne_25 rfl rfl ?_
  refine g_if_lt f 39 dX11_beginOne_26 rfl h (fun h => ?_) (fun h => ?_)
  · exact h_sub [1, 0] rfl (tB_X11_beginOne_39 f hq h)
  · refine g_aload_n f 1 dX11_beginOne_29 rfl rfl ?_
    refine g_iload_n f 0 dX11_beginOne_30 rfl rfl ?_
    have v2 := mex_ok x4 v2
    refine g_callV f mk_X11_179 v2 (c_X11_isOf h) dX11_beginOne_31 rfl rfl (Nat.le_of_ble_eq_true rfl) (rm_ok (by decide) (by decide)) ⟨Nat.le_of_ble_eq_true rfl, Nat.le_of_ble_eq_true rfl⟩ (kI fun r62 μ60 x61 h => ?_)
    refine g_if_ne f 39 dX11_beginOne_34 rfl h (fun h => ?_) (fun h => ?_)
    · exact h_sub [1, 0] rfl (tB_X11_beginOne_39 f hq h)
    · refine g_iconst f 5 dX11_beginOne_37 kc_5 ?_
      exact g_iret f hq (Nat.le_of_ble_eq_true rfl) (Nat.le_of_ble_eq_true rfl) dX11_beginOne_38 h
def S_X11_beginOne (o0 : Nat) (μ : Me) (Q : Int32 → Me → Prop) : Prop := mok μ o0 11 ∧ ((¬ (mgi μ o0 9) = 1 → B_X11_beginOne_20 o0 μ Q) ∧ ((mgi μ o0 9) = 1 → (((mgi μ o0 10) ≤ 9999 → B_X11_beginOne_20 o0 μ Q) ∧ (¬ (mgi μ o0 10) ≤ 9999 → Q 2 μ))))
set_option maxHeartbeats 4000000 in
set_option maxRecDepth 100000 in
theorem t_X11_beginOne {x : GX} (f : Fx x cX11_beginOne RX11 2 (rmc 5 0 0)) {o0 : Nat} {μ : Me} {Q : Int32 → Me → Prop} (hq : Rt x (some .int) (qI Q)) (h : S_X11_beginOne o0 μ Q) : G x 2 0 [(0, .ref (gB x + o0))] [] μ 0 0 := by
  unfold S_X11_beginOne at h
  refine g_aload_n f 0 dX11_beginOne_0 rfl rfl ?_
  obtain ⟨v1, h⟩ := h
  refine g_getI f fk_X11_102 v1 dX11_beginOne_1 rfl ?_
  refine g_iconst f 1 dX11_beginOne_4 kc_1 ?_
  refine g_ic_ne f 20 dX11_beginOne_5 rfl h (fun h => ?_) (fun h => ?_)
  · exact h_sub [0] rfl (tB_X11_beginOne_20 f hq h)
  · refine g_aload_n f 0 dX11_beginOne_8 rfl rfl ?_
    refine g_getI f fk_X11_109 v1 dX11_beginOne_9 rfl ?_
    refine g_sipush f 9999 dX11_beginOne_12 ks_9999 ?_
    refine g_ic_le f 20 dX11_beginOne_15 rfl h (fun h => ?_) (fun h => ?_)
    · exact h_sub [0] rfl (tB_X11_beginOne_20 f hq h)
    · refine g_iconst f 2 dX11_beginOne_18 kc_2 ?_
      exact g_iret f hq (Nat.le_of_ble_eq_true rfl) (Nat.le_of_ble_eq_true rfl) dX11_beginOne_19 h
theorem c_X11_beginOne {Ω : OM} {o0 : Nat} {μ : Me} {Q : Int32 → Me → Prop} (h : S_X11_beginOne o0 μ Q) : CT Ω yX11_beginOne cX11_beginOne 2 (some .int) (rmc 5 0 0) [.ref (oB Ω + o0)] μ (qI Q) := CT_of (by decide) rfl (by simp [lg_sl, Value.category]) (fun x hΩ f hq hi => by subst hΩ; exact t_X11_beginOne f hq h)
theorem dX11_summed_0 : decode cX11_summed 0 = .ok (.aload_n 0, 1) := by decide +kernel
theorem dX11_summed_1 : decode cX11_summed 1 = .ok (.iconst 0, 1) := by decide +kernel
theorem dX11_summed_2 : decode cX11_summed 2 = .ok (.putfield 154, 3) := by decide +kernel
theorem dX11_summed_5 : decode cX11_summed 5 = .ok (.aload_n 0, 1) := by decide +kernel
theorem dX11_summed_6 : decode cX11_summed 6 = .ok (.iconst 0, 1) := by decide +kernel
theorem dX11_summed_7 : decode cX11_summed 7 = .ok (.putfield 164, 3) := by decide +kernel
theorem dX11_summed_10 : decode cX11_summed 10 = .ok (.aload_n 0, 1) := by decide +kernel
theorem dX11_summed_11 : decode cX11_summed 11 = .ok (.iconst 0, 1) := by decide +kernel
theorem dX11_summed_12 : decode cX11_summed 12 = .ok (.putfield 182, 3) := by decide +kernel
theorem dX11_summed_15 : decode cX11_summed 15 = .ok (.aload_n 0, 1) := by decide +kernel
theorem dX11_summed_16 : decode cX11_summed 16 = .ok (.getfield 182, 3) := by decide +kernel
theorem dX11_summed_19 : decode cX11_summed 19 = .ok (.ifCond .eq 29, 3) := by decide +kernel
theorem dX11_summed_22 : decode cX11_summed 22 = .ok (.aload_n 0, 1) := by decide +kernel
theorem dX11_summed_23 : decode cX11_summed 23 = .ok (.invokevirtual 210, 3) := by decide +kernel
theorem dX11_summed_26 : decode cX11_summed 26 = .ok (.ifCond .eq 6, 3) := by decide +kernel
theorem dX11_summed_29 : decode cX11_summed 29 = .ok (.goto (-14), 3) := by decide +kernel
theorem dX11_summed_32 : decode cX11_summed 32 = .ok (.aload_n 0, 1) := by decide +kernel
theorem dX11_summed_33 : decode cX11_summed 33 = .ok (.invokevirtual 170, 3) := by decide +kernel
theorem dX11_summed_36 : decode cX11_summed 36 = .ok (.ifCond .lt 5, 3) := by decide +kernel
theorem dX11_summed_39 : decode cX11_summed 39 = .ok (.iconst 1, 1) := by decide +kernel
theorem dX11_summed_40 : decode cX11_summed 40 = .ok (.ireturn, 1) := by decide +kernel
theorem dX11_summed_41 : decode cX11_summed 41 = .ok (.aload_n 0, 1) := by decide +kernel
theorem dX11_summed_42 : decode cX11_summed 42 = .ok (.iconst 1, 1) := by decide +kernel
theorem dX11_summed_43 : decode cX11_summed 43 = .ok (.invokevirtual 185, 3) := by decide +kernel
theorem dX11_summed_46 : decode cX11_summed 46 = .ok (.iconst 0, 1) := by decide +kernel
theorem dX11_summed_47 : decode cX11_summed 47 = .ok (.ireturn, 1) := by decide +kernel
theorem dX11_summed_48 : decode cX11_summed 48 = .ok (.aload_n 0, 1) := by decide +kernel
theorem dX11_summed_49 : decode cX11_summed 49 = .ok (.invokevirtual 213, 3) := by decide +kernel
theorem dX11_summed_52 : decode cX11_summed 52 = .ok (.istore_n 1, 1) := by decide +kernel
theorem dX11_summed_53 : decode cX11_summed 53 = .ok (.iload_n 1, 1) := by decide +kernel
theorem dX11_summed_54 : decode cX11_summed 54 = .ok (.ifCond .eq 5, 3) := by decide +kernel
theorem dX11_summed_57 : decode cX11_summed 57 = .ok (.iload_n 1, 1) := by decide +kernel
theorem dX11_summed_58 : decode cX11_summed 58 = .ok (.ireturn, 1) := by decide +kernel
theorem dX11_summed_59 : decode cX11_summed 59 = .ok (.goto (-44), 3) := by decide +kernel
def B_X11_summed_15 (o0 : Nat) (μ : Me) (K15 : Me → Prop) (Q : Int32 → Me → Prop) : Prop := mok μ o0 11 ∧ (((mgi μ o0 18) = 0 → S_X11_beginOne o0 μ (fun r8 μ6 => ((r8 = 0 → K15 μ6) ∧ (¬ r8 = 0 → Q r8 μ6)))) ∧ (¬ (mgi μ o0 18) = 0 → S_X11_behindOne o0 μ (fun r11 μ9 => ((r11 = 0 → S_X11_openNow o0 μ9 (fun r14 μ12 => ((r14 < 0 → S_X11_settle o0 1 μ12 (fun μ15 => Q 0 μ15)) ∧ (¬ r14 < 0 → Q 1 μ12)))) ∧ (¬ r11 = 0 → K15 μ9)))))
set_option maxHeartbeats 4000000 in
set_option maxRecDepth 100000 in
theorem tB_X11_summed_15 {x : GX} (f : Fx x cX11_summed RX11 2 (rmc 6 0 0)) {o0 : Nat} {μ : Me} {Q : Int32 → Me → Prop} (hq : Rt x (some .int) (qI Q)) {K15 : Me → Prop} (hK15 : ∀ (ν : Me), K15 ν → G x 2 15 [(0, .ref (gB x + o0))] [] ν 0 0) (h : B_X11_summed_15 o0 μ K15 Q) : G x 2 15 [(0, .ref (gB x + o0))] [] μ 0 0 := by
  unfold B_X11_summed_15 at h
  refine g_aload_n f 0 dX11_summed_15 rfl rfl ?_
  obtain ⟨v5, h⟩ := h
  refine g_getI f fk_X11_182 v5 dX11_summed_16 rfl ?_
  refine g_if_eq f 48 dX11_summed_19 rfl h (fun h => ?_) (fun h => ?_)
  · refine g_aload_n f 0 dX11_summed_48 rfl rfl ?_
    refine g_callV f mk_X11_213 v5 (c_X11_beginOne h) dX11_summed_49 rfl rfl (Nat.le_of_ble_eq_true rfl) (rm_ok (by decide) (by decide)) ⟨Nat.le_of_ble_eq_true rfl, Nat.le_of_ble_eq_true rfl⟩ (kI fun r8 μ6 x7 h => ?_)
    refine h_istore_n f dX11_summed_52 rfl (by decide) ?_
    refine g_iload_n f 0 dX11_summed_53 rfl rfl ?_
    refine g_if_eq f 59 dX11_summed_54 rfl h (fun h => ?_) (fun h => ?_)
    · refine g_goto f 15 dX11_summed_59 rfl ?_
      exact h_sub [1] rfl (hK15 _ h)
    · refine g_iload_n f 0 dX11_summed_57 rfl rfl ?_
      exact g_iret f hq (Nat.le_of_ble_eq_true rfl) (Nat.le_of_ble_eq_true rfl) dX11_summed_58 h
  · refine g_aload_n f 0 dX11_summed_22 rfl rfl ?_
    refine g_callV f mk_X11_210 v5 (c_X11_behindOne h) dX11_summed_23 rfl rfl (Nat.le_of_ble_eq_true rfl) (rm_ok (by decide) (by decide)) ⟨Nat.le_of_ble_eq_true rfl, Nat.le_of_ble_eq_true rfl⟩ (kI fun r11 μ9 x10 h => ?_)
    refine g_if_eq f 32 dX11_summed_26 rfl h (fun h => ?_) (fun h => ?_)
    · refine g_aload_n f 0 dX11_summed_32 rfl rfl ?_
      have v5 := mex_ok x10 v5
      refine g_callV f mk_X11_170 v5 (c_X11_openNow h) dX11_summed_33 rfl rfl (Nat.le_of_ble_eq_true rfl) (rm_ok (by decide) (by decide)) ⟨Nat.le_of_ble_eq_true rfl, Nat.le_of_ble_eq_true rfl⟩ (kI fun r14 μ12 x13 h => ?_)
      refine g_if_lt f 41 dX11_summed_36 rfl h (fun h => ?_) (fun h => ?_)
      · refine g_aload_n f 0 dX11_summed_41 rfl rfl ?_
        refine g_iconst f 1 dX11_summed_42 kc_1 ?_
        have v5 := mex_ok x13 v5
        refine g_callV f mk_X11_185 v5 (c_X11_settle h) dX11_summed_43 rfl rfl (Nat.le_of_ble_eq_true rfl) (rm_ok (by decide) (by decide)) ⟨Nat.le_of_ble_eq_true rfl, Nat.le_of_ble_eq_true rfl⟩ (kV fun μ15 x16 h => ?_)
        refine g_iconst f 0 dX11_summed_46 kc_0 ?_
        exact g_iret f hq (Nat.le_of_ble_eq_true rfl) (Nat.le_of_ble_eq_true rfl) dX11_summed_47 h
      · refine g_iconst f 1 dX11_summed_39 kc_1 ?_
        exact g_iret f hq (Nat.le_of_ble_eq_true rfl) (Nat.le_of_ble_eq_true rfl) dX11_summed_40 h
    · refine g_goto f 15 dX11_summed_29 rfl ?_
      exact h_sub [0] rfl (hK15 _ h)
def L_X11_summed_15 (o0 : Nat) (μ : Me) (Q : Int32 → Me → Prop) : Prop := ∃ I : Me → Nat → Prop, (∃ n, I μ n) ∧ ∀ (μ : Me) (n : Nat), I μ n → B_X11_summed_15 o0 μ (fun ν => ∃ n', n' < n ∧ I ν n') Q
set_option maxHeartbeats 4000000 in
set_option maxRecDepth 100000 in
theorem tL_X11_summed_15 {x : GX} (f : Fx x cX11_summed RX11 2 (rmc 6 0 0)) {o0 : Nat} {μ : Me} {Q : Int32 → Me → Prop} (hq : Rt x (some .int) (qI Q)) (h : L_X11_summed_15 o0 μ Q) : G x 2 15 [(0, .ref (gB x + o0))] [] μ 0 0 := by
  obtain ⟨I, ⟨n, hI⟩, hs⟩ := h
  induction n using Nat.strongRecOn generalizing μ with
  | ind n ih => exact tB_X11_summed_15 f hq (fun ν hk => by obtain ⟨n2, hn, hI2⟩ := hk; exact ih n2 hn hI2) (hs _ _ hI)
def S_X11_summed (o0 : Nat) (μ : Me) (Q : Int32 → Me → Prop) : Prop := mok μ o0 11 ∧ ∀ μ2, μ2 = msi μ o0 16 0 → ∀ μ3, μ3 = msi μ2 o0 17 0 → ∀ μ4, μ4 = msi μ3 o0 18 0 → L_X11_summed_15 o0 μ4 Q
set_option maxHeartbeats 4000000 in
set_option maxRecDepth 100000 in
theorem t_X11_summed {x : GX} (f : Fx x cX11_summed RX11 2 (rmc 6 0 0)) {o0 : Nat} {μ : Me} {Q : Int32 → Me → Prop} (hq : Rt x (some .int) (qI Q)) (h : S_X11_summed o0 μ Q) : G x 2 0 [(0, .ref (gB x + o0))] [] μ 0 0 := by
  unfold S_X11_summed at h
  refine g_aload_n f 0 dX11_summed_0 rfl rfl ?_
  refine g_iconst f 0 dX11_summed_1 kc_0 ?_
  obtain ⟨v1, h⟩ := h
  refine g_putI f fk_X11_154 v1 dX11_summed_2 rfl h (fun h => ?_)
  refine g_aload_n f 0 dX11_summed_5 rfl rfl ?_
  refine g_iconst f 0 dX11_summed_6 kc_0 ?_
  refine g_putI f fk_X11_164 v1 dX11_summed_7 rfl h (fun h => ?_)
  refine g_aload_n f 0 dX11_summed_10 rfl rfl ?_
  refine g_iconst f 0 dX11_summed_11 kc_0 ?_
  refine g_putZ f fk_X11_182 v1 dX11_summed_12 rfl zb_0.1 zb_0.2 h (fun h => ?_)
  exact h_sub [0] rfl (tL_X11_summed_15 f hq h)
theorem c_X11_summed {Ω : OM} {o0 : Nat} {μ : Me} {Q : Int32 → Me → Prop} (h : S_X11_summed o0 μ Q) : CT Ω yX11_summed cX11_summed 2 (some .int) (rmc 6 0 0) [.ref (oB Ω + o0)] μ (qI Q) := CT_of (by decide) rfl (by simp [lg_sl, Value.category]) (fun x hΩ f hq hi => by subst hΩ; exact t_X11_summed f hq h)
theorem dX11_lawClause_0 : decode cX11_lawClause 0 = .ok (.aload_n 0, 1) := by decide +kernel
theorem dX11_lawClause_1 : decode cX11_lawClause 1 = .ok (.getfield 16, 3) := by decide +kernel
theorem dX11_lawClause_4 : decode cX11_lawClause 4 = .ok (.iload_n 1, 1) := by decide +kernel
theorem dX11_lawClause_5 : decode cX11_lawClause 5 = .ok (.iconst 1, 1) := by decide +kernel
theorem dX11_lawClause_6 : decode cX11_lawClause 6 = .ok (.iadd, 1) := by decide +kernel
theorem dX11_lawClause_7 : decode cX11_lawClause 7 = .ok (.aload_n 0, 1) := by decide +kernel
theorem dX11_lawClause_8 : decode cX11_lawClause 8 = .ok (.getfield 144, 3) := by decide +kernel
theorem dX11_lawClause_11 : decode cX11_lawClause 11 = .ok (.iastore, 1) := by decide +kernel
theorem dX11_lawClause_12 : decode cX11_lawClause 12 = .ok (.aload_n 0, 1) := by decide +kernel
theorem dX11_lawClause_13 : decode cX11_lawClause 13 = .ok (.invokevirtual 220, 3) := by decide +kernel
theorem dX11_lawClause_16 : decode cX11_lawClause 16 = .ok (.istore_n 2, 1) := by decide +kernel
theorem dX11_lawClause_17 : decode cX11_lawClause 17 = .ok (.aload_n 0, 1) := by decide +kernel
theorem dX11_lawClause_18 : decode cX11_lawClause 18 = .ok (.getfield 16, 3) := by decide +kernel
theorem dX11_lawClause_21 : decode cX11_lawClause 21 = .ok (.iload_n 1, 1) := by decide +kernel
theorem dX11_lawClause_22 : decode cX11_lawClause 22 = .ok (.iconst 2, 1) := by decide +kernel
theorem dX11_lawClause_23 : decode cX11_lawClause 23 = .ok (.iadd, 1) := by decide +kernel
theorem dX11_lawClause_24 : decode cX11_lawClause 24 = .ok (.aload_n 0, 1) := by decide +kernel
theorem dX11_lawClause_25 : decode cX11_lawClause 25 = .ok (.getfield 144, 3) := by decide +kernel
theorem dX11_lawClause_28 : decode cX11_lawClause 28 = .ok (.iastore, 1) := by decide +kernel
theorem dX11_lawClause_29 : decode cX11_lawClause 29 = .ok (.iload_n 2, 1) := by decide +kernel
theorem dX11_lawClause_30 : decode cX11_lawClause 30 = .ok (.ireturn, 1) := by decide +kernel
def S_X11_lawClause (o0 : Nat) (i1 : Int32) (μ : Me) (Q : Int32 → Me → Prop) : Prop := mok μ o0 11 ∧ ∃ t2, mgr μ o0 2 = some t2 ∧ mok μ t2 12 ∧ vp_in (i1 + 1) (mln μ t2) ∧ ∀ μ4, μ4 = msi μ t2 (i1 + 1).toNatClampNeg (mgi μ o0 13) → S_X11_summed o0 μ4 (fun r7 μ5 => ∃ t8, mgr μ5 o0 2 = some t8 ∧ mok μ5 t8 12 ∧ vp_in (i1 + 2) (mln μ5 t8) ∧ ∀ μ10, μ10 = msi μ5 t8 (i1 + 2).toNatClampNeg (mgi μ5 o0 13) → Q r7 μ10)
set_option maxHeartbeats 4000000 in
set_option maxRecDepth 100000 in
theorem t_X11_lawClause {x : GX} (f : Fx x cX11_lawClause RX11 3 (rmc 7 0 0)) {o0 : Nat} {i1 : Int32} {μ : Me} {Q : Int32 → Me → Prop} (hq : Rt x (some .int) (qI Q)) (h : S_X11_lawClause o0 i1 μ Q) : G x 3 0 [(0, .ref (gB x + o0)), (1, .int i1)] [] μ 0 0 := by
  unfold S_X11_lawClause at h
  refine g_aload_n f 0 dX11_lawClause_0 rfl rfl ?_
  obtain ⟨v1, h⟩ := h
  refine g_getR f fk_X11_16 v1 dX11_lawClause_1 rfl h (fun t2 h => ?_)
  refine g_iload_n f 1 dX11_lawClause_4 rfl rfl ?_
  refine g_iconst f 1 dX11_lawClause_5 kc_1 ?_
  refine g_iadd f dX11_lawClause_6 ?_
  refine g_aload_n f 0 dX11_lawClause_7 rfl rfl ?_
  refine g_getI f fk_X11_144 v1 dX11_lawClause_8 rfl ?_
  obtain ⟨v3, h⟩ := h
  refine g_iast f v3 dX11_lawClause_11 h (fun h => ?_)
  refine g_aload_n f 0 dX11_lawClause_12 rfl rfl ?_
  refine g_callV f mk_X11_220 v1 (c_X11_summed h) dX11_lawClause_13 rfl rfl (Nat.le_of_ble_eq_true rfl) (rm_ok (by decide) (by decide)) ⟨Nat.le_of_ble_eq_true rfl, Nat.le_of_ble_eq_true rfl⟩ (kI fun r7 μ5 x6 h => ?_)
  refine h_istore_n f dX11_lawClause_16 rfl (by decide) ?_
  refine g_aload_n f 1 dX11_lawClause_17 rfl rfl ?_
  have v1 := mex_ok x6 v1
  refine g_getR f fk_X11_16 v1 dX11_lawClause_18 rfl h (fun t8 h => ?_)
  refine g_iload_n f 2 dX11_lawClause_21 rfl rfl ?_
  refine g_iconst f 2 dX11_lawClause_22 kc_2 ?_
  refine g_iadd f dX11_lawClause_23 ?_
  refine g_aload_n f 1 dX11_lawClause_24 rfl rfl ?_
  refine g_getI f fk_X11_144 v1 dX11_lawClause_25 rfl ?_
  obtain ⟨v9, h⟩ := h
  refine g_iast f v9 dX11_lawClause_28 h (fun h => ?_)
  refine g_iload_n f 0 dX11_lawClause_29 rfl rfl ?_
  exact g_iret f hq (Nat.le_of_ble_eq_true rfl) (Nat.le_of_ble_eq_true rfl) dX11_lawClause_30 h
theorem c_X11_lawClause {Ω : OM} {o0 : Nat} {i1 : Int32} {μ : Me} {Q : Int32 → Me → Prop} (h : S_X11_lawClause o0 i1 μ Q) : CT Ω yX11_lawClause cX11_lawClause 3 (some .int) (rmc 7 0 0) [.ref (oB Ω + o0), .int i1] μ (qI Q) := CT_of (by decide) rfl (by simp [lg_sl, Value.category]) (fun x hΩ f hq hi => by subst hΩ; exact t_X11_lawClause f hq h)
theorem dX11_body_0 : decode cX11_body 0 = .ok (.iload_n 1, 1) := by decide +kernel
theorem dX11_body_1 : decode cX11_body 1 = .ok (.tableswitch 96 2 7 #[39, 45, 57, 63, 74, 85], 39) := by decide +kernel
theorem dX11_body_40 : decode cX11_body 40 = .ok (.aload_n 0, 1) := by decide +kernel
theorem dX11_body_41 : decode cX11_body 41 = .ok (.iload_n 2, 1) := by decide +kernel
theorem dX11_body_42 : decode cX11_body 42 = .ok (.invokevirtual 227, 3) := by decide +kernel
theorem dX11_body_45 : decode cX11_body 45 = .ok (.ireturn, 1) := by decide +kernel
theorem dX11_body_46 : decode cX11_body 46 = .ok (.aload_n 0, 1) := by decide +kernel
theorem dX11_body_47 : decode cX11_body 47 = .ok (.iload_n 2, 1) := by decide +kernel
theorem dX11_body_48 : decode cX11_body 48 = .ok (.iconst 1, 1) := by decide +kernel
theorem dX11_body_49 : decode cX11_body 49 = .ok (.iadd, 1) := by decide +kernel
theorem dX11_body_50 : decode cX11_body 50 = .ok (.iconst 0, 1) := by decide +kernel
theorem dX11_body_51 : decode cX11_body 51 = .ok (.sipush 255, 3) := by decide +kernel
theorem dX11_body_54 : decode cX11_body 54 = .ok (.invokevirtual 216, 3) := by decide +kernel
theorem dX11_body_57 : decode cX11_body 57 = .ok (.ireturn, 1) := by decide +kernel
theorem dX11_body_58 : decode cX11_body 58 = .ok (.aload_n 0, 1) := by decide +kernel
theorem dX11_body_59 : decode cX11_body 59 = .ok (.iload_n 2, 1) := by decide +kernel
theorem dX11_body_60 : decode cX11_body 60 = .ok (.invokevirtual 230, 3) := by decide +kernel
theorem dX11_body_63 : decode cX11_body 63 = .ok (.ireturn, 1) := by decide +kernel
theorem dX11_body_64 : decode cX11_body 64 = .ok (.aload_n 0, 1) := by decide +kernel
theorem dX11_body_65 : decode cX11_body 65 = .ok (.iload_n 2, 1) := by decide +kernel
theorem dX11_body_66 : decode cX11_body 66 = .ok (.iconst 1, 1) := by decide +kernel
theorem dX11_body_67 : decode cX11_body 67 = .ok (.iadd, 1) := by decide +kernel
theorem dX11_body_68 : decode cX11_body 68 = .ok (.iconst 0, 1) := by decide +kernel
theorem dX11_body_69 : decode cX11_body 69 = .ok (.bipush 7, 2) := by decide +kernel
theorem dX11_body_71 : decode cX11_body 71 = .ok (.invokevirtual 216, 3) := by decide +kernel
theorem dX11_body_74 : decode cX11_body 74 = .ok (.ireturn, 1) := by decide +kernel
theorem dX11_body_75 : decode cX11_body 75 = .ok (.aload_n 0, 1) := by decide +kernel
theorem dX11_body_76 : decode cX11_body 76 = .ok (.iload_n 2, 1) := by decide +kernel
theorem dX11_body_77 : decode cX11_body 77 = .ok (.iconst 1, 1) := by decide +kernel
theorem dX11_body_78 : decode cX11_body 78 = .ok (.iadd, 1) := by decide +kernel
theorem dX11_body_79 : decode cX11_body 79 = .ok (.iconst 0, 1) := by decide +kernel
theorem dX11_body_80 : decode cX11_body 80 = .ok (.bipush 7, 2) := by decide +kernel
theorem dX11_body_82 : decode cX11_body 82 = .ok (.invokevirtual 216, 3) := by decide +kernel
theorem dX11_body_85 : decode cX11_body 85 = .ok (.ireturn, 1) := by decide +kernel
theorem dX11_body_86 : decode cX11_body 86 = .ok (.aload_n 0, 1) := by decide +kernel
theorem dX11_body_87 : decode cX11_body 87 = .ok (.iload_n 2, 1) := by decide +kernel
theorem dX11_body_88 : decode cX11_body 88 = .ok (.iconst 1, 1) := by decide +kernel
theorem dX11_body_89 : decode cX11_body 89 = .ok (.iadd, 1) := by decide +kernel
theorem dX11_body_90 : decode cX11_body 90 = .ok (.iconst 1, 1) := by decide +kernel
theorem dX11_body_91 : decode cX11_body 91 = .ok (.bipush 60, 2) := by decide +kernel
theorem dX11_body_93 : decode cX11_body 93 = .ok (.invokevirtual 216, 3) := by decide +kernel
theorem dX11_body_96 : decode cX11_body 96 = .ok (.ireturn, 1) := by decide +kernel
theorem dX11_body_97 : decode cX11_body 97 = .ok (.aload_n 0, 1) := by decide +kernel
theorem dX11_body_98 : decode cX11_body 98 = .ok (.iload_n 2, 1) := by decide +kernel
theorem dX11_body_99 : decode cX11_body 99 = .ok (.invokevirtual 233, 3) := by decide +kernel
theorem dX11_body_102 : decode cX11_body 102 = .ok (.ireturn, 1) := by decide +kernel
def S_X11_body (o0 : Nat) (i1 : Int32) (i2 : Int32) (μ : Me) (Q : Int32 → Me → Prop) : Prop := ((i1 = 2 → mok μ o0 11 ∧ S_X11_personClause o0 i2 μ (fun r5 μ3 => Q r5 μ3)) ∧ (¬ i1 = 2 → (i1 = 3 → mok μ o0 11 ∧ S_X11_figure o0 (i2 + 1) 0 255 μ (fun r10 μ8 => Q r10 μ8)) ∧ (¬ i1 = 3 → (i1 = 4 → mok μ o0 11 ∧ S_X11_dueClause o0 i2 μ (fun r15 μ13 => Q r15 μ13)) ∧ (¬ i1 = 4 → (i1 = 5 → mok μ o0 11 ∧ S_X11_figure o0 (i2 + 1) 0 7 μ (fun r20 μ18 => Q r20 μ18)) ∧ (¬ i1 = 5 → (i1 = 6 → mok μ o0 11 ∧ S_X11_figure o0 (i2 + 1) 0 7 μ (fun r25 μ23 => Q r25 μ23)) ∧ (¬ i1 = 6 → (i1 = 7 → mok μ o0 11 ∧ S_X11_figure o0 (i2 + 1) 1 60 μ (fun r30 μ28 => Q r30 μ28)) ∧ (¬ i1 = 7 → mok μ o0 11 ∧ S_X11_lawClause o0 i2 μ (fun r34 μ32 => Q r34 μ32))))))))
set_option maxHeartbeats 4000000 in
set_option maxRecDepth 100000 in
theorem t_X11_body {x : GX} (f : Fx x cX11_body RX11 3 (rmc 8 0 0)) {o0 : Nat} {i1 : Int32} {i2 : Int32} {μ : Me} {Q : Int32 → Me → Prop} (hq : Rt x (some .int) (qI Q)) (h : S_X11_body o0 i1 i2 μ Q) : G x 3 0 [(0, .ref (gB x + o0)), (1, .int i1), (2, .int i2)] [] μ 0 0 := by
  unfold S_X11_body at h
  refine g_iload_n f 1 dX11_body_0 rfl rfl ?_
  rcases dec_or h with ⟨e1, h⟩ | ⟨e1, h⟩
  · refine g_tableIn f 40 dX11_body_1 (by rw [e1] <;> decide) (by rw [e1] <;> decide) (by rw [e1] <;> rfl) rfl ?_
    refine g_aload_n f 0 dX11_body_40 rfl rfl ?_
    refine g_iload_n f 2 dX11_body_41 rfl rfl ?_
    obtain ⟨v2, h⟩ := h
    refine g_callV f mk_X11_227 v2 (c_X11_personClause h) dX11_body_42 rfl rfl (Nat.le_of_ble_eq_true rfl) (rm_ok (by decide) (by decide)) ⟨Nat.le_of_ble_eq_true rfl, Nat.le_of_ble_eq_true rfl⟩ (kI fun r5 μ3 x4 h => ?_)
    exact g_iret f hq (Nat.le_of_ble_eq_true rfl) (Nat.le_of_ble_eq_true rfl) dX11_body_45 h
  · skip
    rcases dec_or h with ⟨e6, h⟩ | ⟨e6, h⟩
    · refine g_tableIn f 46 dX11_body_1 (by rw [e6] <;> decide) (by rw [e6] <;> decide) (by rw [e6] <;> rfl) rfl ?_
      refine g_aload_n f 0 dX11_body_46 rfl rfl ?_
      refine g_iload_n f 2 dX11_body_47 rfl rfl ?_
      refine g_iconst f 1 dX11_body_48 kc_1 ?_
      refine g_iadd f dX11_body_49 ?_
      refine g_iconst f 0 dX11_body_50 kc_0 ?_
      refine g_sipush f 255 dX11_body_51 ks_255 ?_
      obtain ⟨v7, h⟩ := h
      refine g_callV f mk_X11_216 v7 (c_X11_figure h) dX11_body_54 rfl rfl (Nat.le_of_ble_eq_true rfl) (rm_ok (by decide) (by decide)) ⟨Nat.le_of_ble_eq_true rfl, Nat.le_of_ble_eq_true rfl⟩ (kI fun r10 μ8 x9 h => ?_)
      exact g_iret f hq (Nat.le_of_ble_eq_true rfl) (Nat.le_of_ble_eq_true rfl) dX11_body_57 h
    · skip
      rcases dec_or h with ⟨e11, h⟩ | ⟨e11, h⟩
      · refine g_tableIn f 58 dX11_body_1 (by rw [e11] <;> decide) (by rw [e11] <;> decide) (by rw [e11] <;> rfl) rfl ?_
        refine g_aload_n f 0 dX11_body_58 rfl rfl ?_
        refine g_iload_n f 2 dX11_body_59 rfl rfl ?_
        obtain ⟨v12, h⟩ := h
        refine g_callV f mk_X11_230 v12 (c_X11_dueClause h) dX11_body_60 rfl rfl (Nat.le_of_ble_eq_true rfl) (rm_ok (by decide) (by decide)) ⟨Nat.le_of_ble_eq_true rfl, Nat.le_of_ble_eq_true rfl⟩ (kI fun r15 μ13 x14 h => ?_)
        exact g_iret f hq (Nat.le_of_ble_eq_true rfl) (Nat.le_of_ble_eq_true rfl) dX11_body_63 h
      · skip
        rcases dec_or h with ⟨e16, h⟩ | ⟨e16, h⟩
        · refine g_tableIn f 64 dX11_body_1 (by rw [e16] <;> decide) (by rw [e16] <;> decide) (by rw [e16] <;> rfl) rfl ?_
          refine g_aload_n f 0 dX11_body_64 rfl rfl ?_
          refine g_iload_n f 2 dX11_body_65 rfl rfl ?_
          refine g_iconst f 1 dX11_body_66 kc_1 ?_
          refine g_iadd f dX11_body_67 ?_
          refine g_iconst f 0 dX11_body_68 kc_0 ?_
          refine g_bipush f 7 dX11_body_69 kb_7 ?_
          obtain ⟨v17, h⟩ := h
          refine g_callV f mk_X11_216 v17 (c_X11_figure h) dX11_body_71 rfl rfl (Nat.le_of_ble_eq_true rfl) (rm_ok (by decide) (by decide)) ⟨Nat.le_of_ble_eq_true rfl, Nat.le_of_ble_eq_true rfl⟩ (kI fun r20 μ18 x19 h => ?_)
          exact g_iret f hq (Nat.le_of_ble_eq_true rfl) (Nat.le_of_ble_eq_true rfl) dX11_body_74 h
        · skip
          rcases dec_or h with ⟨e21, h⟩ | ⟨e21, h⟩
          · refine g_tableIn f 75 dX11_body_1 (by rw [e21] <;> decide) (by rw [e21] <;> decide) (by rw [e21] <;> rfl) rfl ?_
            refine g_aload_n f 0 dX11_body_75 rfl rfl ?_
            refine g_iload_n f 2 dX11_body_76 rfl rfl ?_
            refine g_iconst f 1 dX11_body_77 kc_1 ?_
            refine g_iadd f dX11_body_78 ?_
            refine g_iconst f 0 dX11_body_79 kc_0 ?_
            refine g_bipush f 7 dX11_body_80 kb_7 ?_
            obtain ⟨v22, h⟩ := h
            refine g_callV f mk_X11_216 v22 (c_X11_figure h) dX11_body_82 rfl rfl (Nat.le_of_ble_eq_true rfl) (rm_ok (by decide) (by decide)) ⟨Nat.le_of_ble_eq_true rfl, Nat.le_of_ble_eq_true rfl⟩ (kI fun r25 μ23 x24 h => ?_)
            exact g_iret f hq (Nat.le_of_ble_eq_true rfl) (Nat.le_of_ble_eq_true rfl) dX11_body_85 h
          · skip
            rcases dec_or h with ⟨e26, h⟩ | ⟨e26, h⟩
            · refine g_tableIn f 86 dX11_body_1 (by rw [e26] <;> decide) (by rw [e26] <;> decide) (by rw [e26] <;> rfl) rfl ?_
              refine g_aload_n f 0 dX11_body_86 rfl rfl ?_
              refine g_iload_n f 2 dX11_body_87 rfl rfl ?_
              refine g_iconst f 1 dX11_body_88 kc_1 ?_
              refine g_iadd f dX11_body_89 ?_
              refine g_iconst f 1 dX11_body_90 kc_1 ?_
              refine g_bipush f 60 dX11_body_91 kb_60 ?_
              obtain ⟨v27, h⟩ := h
              refine g_callV f mk_X11_216 v27 (c_X11_figure h) dX11_body_93 rfl rfl (Nat.le_of_ble_eq_true rfl) (rm_ok (by decide) (by decide)) ⟨Nat.le_of_ble_eq_true rfl, Nat.le_of_ble_eq_true rfl⟩ (kI fun r30 μ28 x29 h => ?_)
              exact g_iret f hq (Nat.le_of_ble_eq_true rfl) (Nat.le_of_ble_eq_true rfl) dX11_body_96 h
            · skip
              have e1 := lv_neT (a := 2) e1 (by decide)
              have e6 := lv_neT (a := 3) e6 (by decide)
              have e11 := lv_neT (a := 4) e11 (by decide)
              have e16 := lv_neT (a := 5) e16 (by decide)
              have e21 := lv_neT (a := 6) e21 (by decide)
              have e26 := lv_neT (a := 7) e26 (by decide)
              refine g_tableOut f 97 dX11_body_1 (by omega) rfl ?_
              refine g_aload_n f 0 dX11_body_97 rfl rfl ?_
              refine g_iload_n f 2 dX11_body_98 rfl rfl ?_
              obtain ⟨v31, h⟩ := h
              refine g_callV f mk_X11_233 v31 (c_X11_lawClause h) dX11_body_99 rfl rfl (Nat.le_of_ble_eq_true rfl) (rm_ok (by decide) (by decide)) ⟨Nat.le_of_ble_eq_true rfl, Nat.le_of_ble_eq_true rfl⟩ (kI fun r34 μ32 x33 h => ?_)
              exact g_iret f hq (Nat.le_of_ble_eq_true rfl) (Nat.le_of_ble_eq_true rfl) dX11_body_102 h
theorem c_X11_body {Ω : OM} {o0 : Nat} {i1 : Int32} {i2 : Int32} {μ : Me} {Q : Int32 → Me → Prop} (h : S_X11_body o0 i1 i2 μ Q) : CT Ω yX11_body cX11_body 3 (some .int) (rmc 8 0 0) [.ref (oB Ω + o0), .int i1, .int i2] μ (qI Q) := CT_of (by decide) rfl (by simp [lg_sl, Value.category]) (fun x hΩ f hq hi => by subst hΩ; exact t_X11_body f hq h)
theorem dX11_clause_0 : decode cX11_clause 0 = .ok (.aload_n 0, 1) := by decide +kernel
theorem dX11_clause_1 : decode cX11_clause 1 = .ok (.invokevirtual 240, 3) := by decide +kernel
theorem dX11_clause_4 : decode cX11_clause 4 = .ok (.istore_n 1, 1) := by decide +kernel
theorem dX11_clause_5 : decode cX11_clause 5 = .ok (.iload_n 1, 1) := by decide +kernel
theorem dX11_clause_6 : decode cX11_clause 6 = .ok (.ifCond .ge 5, 3) := by decide +kernel
theorem dX11_clause_9 : decode cX11_clause 9 = .ok (.iconst 1, 1) := by decide +kernel
theorem dX11_clause_10 : decode cX11_clause 10 = .ok (.ireturn, 1) := by decide +kernel
theorem dX11_clause_11 : decode cX11_clause 11 = .ok (.iload_n 1, 1) := by decide +kernel
theorem dX11_clause_12 : decode cX11_clause 12 = .ok (.iconst 1, 1) := by decide +kernel
theorem dX11_clause_13 : decode cX11_clause 13 = .ok (.if_icmp .gt 16, 3) := by decide +kernel
theorem dX11_clause_16 : decode cX11_clause 16 = .ok (.aload_n 0, 1) := by decide +kernel
theorem dX11_clause_17 : decode cX11_clause 17 = .ok (.getfield 243, 3) := by decide +kernel
theorem dX11_clause_20 : decode cX11_clause 20 = .ok (.iload_n 1, 1) := by decide +kernel
theorem dX11_clause_21 : decode cX11_clause 21 = .ok (.invokestatic 246, 3) := by decide +kernel
theorem dX11_clause_24 : decode cX11_clause 24 = .ok (.ifCond .eq 5, 3) := by decide +kernel
theorem dX11_clause_27 : decode cX11_clause 27 = .ok (.iconst 4, 1) := by decide +kernel
theorem dX11_clause_28 : decode cX11_clause 28 = .ok (.ireturn, 1) := by decide +kernel
theorem dX11_clause_29 : decode cX11_clause 29 = .ok (.aload_n 0, 1) := by decide +kernel
theorem dX11_clause_30 : decode cX11_clause 30 = .ok (.getfield 16, 3) := by decide +kernel
theorem dX11_clause_33 : decode cX11_clause 33 = .ok (.aload_n 0, 1) := by decide +kernel
theorem dX11_clause_34 : decode cX11_clause 34 = .ok (.getfield 141, 3) := by decide +kernel
theorem dX11_clause_37 : decode cX11_clause 37 = .ok (.iaload, 1) := by decide +kernel
theorem dX11_clause_38 : decode cX11_clause 38 = .ok (.istore_n 2, 1) := by decide +kernel
theorem dX11_clause_39 : decode cX11_clause 39 = .ok (.iload_n 2, 1) := by decide +kernel
theorem dX11_clause_40 : decode cX11_clause 40 = .ok (.bipush 24, 2) := by decide +kernel
theorem dX11_clause_42 : decode cX11_clause 42 = .ok (.if_icmp .ne 6, 3) := by decide +kernel
theorem dX11_clause_45 : decode cX11_clause 45 = .ok (.bipush 6, 2) := by decide +kernel
theorem dX11_clause_47 : decode cX11_clause 47 = .ok (.ireturn, 1) := by decide +kernel
theorem dX11_clause_48 : decode cX11_clause 48 = .ok (.iload_n 1, 1) := by decide +kernel
theorem dX11_clause_49 : decode cX11_clause 49 = .ok (.iconst 1, 1) := by decide +kernel
theorem dX11_clause_50 : decode cX11_clause 50 = .ok (.if_icmp .gt 15, 3) := by decide +kernel
theorem dX11_clause_53 : decode cX11_clause 53 = .ok (.aload_n 0, 1) := by decide +kernel
theorem dX11_clause_54 : decode cX11_clause 54 = .ok (.dup, 1) := by decide +kernel
theorem dX11_clause_55 : decode cX11_clause 55 = .ok (.getfield 243, 3) := by decide +kernel
theorem dX11_clause_58 : decode cX11_clause 58 = .ok (.iconst 1, 1) := by decide +kernel
theorem dX11_clause_59 : decode cX11_clause 59 = .ok (.iload_n 1, 1) := by decide +kernel
theorem dX11_clause_60 : decode cX11_clause 60 = .ok (.ishl, 1) := by decide +kernel
theorem dX11_clause_61 : decode cX11_clause 61 = .ok (.ior, 1) := by decide +kernel
theorem dX11_clause_62 : decode cX11_clause 62 = .ok (.putfield 243, 3) := by decide +kernel
theorem dX11_clause_65 : decode cX11_clause 65 = .ok (.aload_n 0, 1) := by decide +kernel
theorem dX11_clause_66 : decode cX11_clause 66 = .ok (.iload_n 1, 1) := by decide +kernel
theorem dX11_clause_67 : decode cX11_clause 67 = .ok (.putfield 151, 3) := by decide +kernel
theorem dX11_clause_70 : decode cX11_clause 70 = .ok (.aload_n 0, 1) := by decide +kernel
theorem dX11_clause_71 : decode cX11_clause 71 = .ok (.invokevirtual 173, 3) := by decide +kernel
theorem dX11_clause_74 : decode cX11_clause 74 = .ok (.aload_n 0, 1) := by decide +kernel
theorem dX11_clause_75 : decode cX11_clause 75 = .ok (.getfield 141, 3) := by decide +kernel
theorem dX11_clause_78 : decode cX11_clause 78 = .ok (.iconst 1, 1) := by decide +kernel
theorem dX11_clause_79 : decode cX11_clause 79 = .ok (.iadd, 1) := by decide +kernel
theorem dX11_clause_80 : decode cX11_clause 80 = .ok (.iconst 5, 1) := by decide +kernel
theorem dX11_clause_81 : decode cX11_clause 81 = .ok (.iload_n 2, 1) := by decide +kernel
theorem dX11_clause_82 : decode cX11_clause 82 = .ok (.imul, 1) := by decide +kernel
theorem dX11_clause_83 : decode cX11_clause 83 = .ok (.iadd, 1) := by decide +kernel
theorem dX11_clause_84 : decode cX11_clause 84 = .ok (.istore_n 3, 1) := by decide +kernel
theorem dX11_clause_85 : decode cX11_clause 85 = .ok (.aload_n 0, 1) := by decide +kernel
theorem dX11_clause_86 : decode cX11_clause 86 = .ok (.getfield 16, 3) := by decide +kernel
theorem dX11_clause_89 : decode cX11_clause 89 = .ok (.iload_n 3, 1) := by decide +kernel
theorem dX11_clause_90 : decode cX11_clause 90 = .ok (.iload_n 1, 1) := by decide +kernel
theorem dX11_clause_91 : decode cX11_clause 91 = .ok (.iastore, 1) := by decide +kernel
theorem dX11_clause_92 : decode cX11_clause 92 = .ok (.aload_n 0, 1) := by decide +kernel
theorem dX11_clause_93 : decode cX11_clause 93 = .ok (.iload_n 1, 1) := by decide +kernel
theorem dX11_clause_94 : decode cX11_clause 94 = .ok (.iload_n 3, 1) := by decide +kernel
theorem dX11_clause_95 : decode cX11_clause 95 = .ok (.invokevirtual 250, 3) := by decide +kernel
theorem dX11_clause_98 : decode cX11_clause 98 = .ok (.istore 4, 2) := by decide +kernel
theorem dX11_clause_100 : decode cX11_clause 100 = .ok (.iload 4, 2) := by decide +kernel
theorem dX11_clause_102 : decode cX11_clause 102 = .ok (.ifCond .eq 6, 3) := by decide +kernel
theorem dX11_clause_105 : decode cX11_clause 105 = .ok (.iload 4, 2) := by decide +kernel
theorem dX11_clause_107 : decode cX11_clause 107 = .ok (.ireturn, 1) := by decide +kernel
theorem dX11_clause_108 : decode cX11_clause 108 = .ok (.aload_n 0, 1) := by decide +kernel
theorem dX11_clause_109 : decode cX11_clause 109 = .ok (.getfield 16, 3) := by decide +kernel
theorem dX11_clause_112 : decode cX11_clause 112 = .ok (.aload_n 0, 1) := by decide +kernel
theorem dX11_clause_113 : decode cX11_clause 113 = .ok (.getfield 141, 3) := by decide +kernel
theorem dX11_clause_116 : decode cX11_clause 116 = .ok (.dup2, 1) := by decide +kernel
theorem dX11_clause_117 : decode cX11_clause 117 = .ok (.iaload, 1) := by decide +kernel
theorem dX11_clause_118 : decode cX11_clause 118 = .ok (.iconst 1, 1) := by decide +kernel
theorem dX11_clause_119 : decode cX11_clause 119 = .ok (.iadd, 1) := by decide +kernel
theorem dX11_clause_120 : decode cX11_clause 120 = .ok (.iastore, 1) := by decide +kernel
theorem dX11_clause_121 : decode cX11_clause 121 = .ok (.aload_n 0, 1) := by decide +kernel
theorem dX11_clause_122 : decode cX11_clause 122 = .ok (.getfield 102, 3) := by decide +kernel
theorem dX11_clause_125 : decode cX11_clause 125 = .ok (.bipush 59, 2) := by decide +kernel
theorem dX11_clause_127 : decode cX11_clause 127 = .ok (.if_icmp .eq 5, 3) := by decide +kernel
theorem dX11_clause_130 : decode cX11_clause 130 = .ok (.iconst 1, 1) := by decide +kernel
theorem dX11_clause_131 : decode cX11_clause 131 = .ok (.ireturn, 1) := by decide +kernel
theorem dX11_clause_132 : decode cX11_clause 132 = .ok (.aload_n 0, 1) := by decide +kernel
theorem dX11_clause_133 : decode cX11_clause 133 = .ok (.invokevirtual 173, 3) := by decide +kernel
theorem dX11_clause_136 : decode cX11_clause 136 = .ok (.iconst 0, 1) := by decide +kernel
theorem dX11_clause_137 : decode cX11_clause 137 = .ok (.ireturn, 1) := by decide +kernel
def B_X11_clause_65 (o0 : Nat) (i1 : Int32) (i2 : Int32) (μ : Me) (Q : Int32 → Me → Prop) : Prop := mok μ o0 11 ∧ ∀ μ9, μ9 = msi μ o0 14 i1 → S_X11_nextToken o0 μ9 (fun μ10 => ∃ t13, mgr μ10 o0 2 = some t13 ∧ mok μ10 t13 12 ∧ vp_in (((mgi μ10 o0 12) + 1) + (5 * i2)) (mln μ10 t13) ∧ ∀ μ15, μ15 = msi μ10 t13 (((mgi μ10 o0 12) + 1) + (5 * i2)).toNatClampNeg i1 → S_X11_body o0 i1 (((mgi μ10 o0 12) + 1) + (5 * i2)) μ15 (fun r18 μ16 => ((r18 = 0 → ∃ t19, mgr μ16 o0 2 = some t19 ∧ mok μ16 t19 12 ∧ vp_in (mgi μ16 o0 12) (mln μ16 t19) ∧ vp_in (mgi μ16 o0 12) (mln μ16 t19) ∧ ∀ μ21, μ21 = msi μ16 t19 (mgi μ16 o0 12).toNatClampNeg ((mgi μ16 t19 (mgi μ16 o0 12).toNatClampNeg) + 1) → (((mgi μ21 o0 9) = 59 → S_X11_nextToken o0 μ21 (fun μ22 => Q 0 μ22)) ∧ (¬ (mgi μ21 o0 9) = 59 → Q 1 μ21))) ∧ (¬ r18 = 0 → Q r18 μ16))))
set_option maxHeartbeats 4000000 in
set_option maxRecDepth 100000 in
theorem tB_X11_clause_65 {x : GX} (f : Fx x cX11_clause RX11 5 (rmc 9 0 0)) {o0 : Nat} {i1 : Int32} {i2 : Int32} {μ : Me} {Q : Int32 → Me → Prop} (hq : Rt x (some .int) (qI Q)) (h : B_X11_clause_65 o0 i1 i2 μ Q) : G x 5 65 [(0, .ref (gB x + o0)), (1, .int i1), (2, .int i2)] [] μ 0 0 := by
  unfold B_X11_clause_65 at h
  refine g_aload_n f 0 dX11_clause_65 rfl rfl ?_
  refine g_iload_n f 1 dX11_clause_66 rfl rfl ?_
  obtain ⟨v8, h⟩ := h
  refine g_putI f fk_X11_151 v8 dX11_clause_67 rfl h (fun h => ?_)
  refine g_aload_n f 0 dX11_clause_70 rfl rfl ?_
  refine g_callV f mk_X11_173 v8 (c_X11_nextToken h) dX11_clause_71 rfl rfl (Nat.le_of_ble_eq_true rfl) (rm_ok (by decide) (by decide)) ⟨Nat.le_of_ble_eq_true rfl, Nat.le_of_ble_eq_true rfl⟩ (kV fun μ10 x11 h => ?_)
  refine g_aload_n f 0 dX11_clause_74 rfl rfl ?_
  have v8 := mex_ok x11 v8
  refine g_getI f fk_X11_141 v8 dX11_clause_75 rfl ?_
  refine g_iconst f 1 dX11_clause_78 kc_1 ?_
  refine g_iadd f dX11_clause_79 ?_
  refine g_iconst f 5 dX11_clause_80 kc_5 ?_
  refine g_iload_n f 2 dX11_clause_81 rfl rfl ?_
  refine g_imul f dX11_clause_82 ?_
  refine g_iadd f dX11_clause_83 ?_
  refine h_istore_n f dX11_clause_84 rfl (by decide) ?_
  refine g_aload_n f 1 dX11_clause_85 rfl rfl ?_
  refine g_getR f fk_X11_16 v8 dX11_clause_86 rfl h (fun t13 h => ?_)
  refine g_iload_n f 0 dX11_clause_89 rfl rfl ?_
  refine g_iload_n f 2 dX11_clause_90 rfl rfl ?_
  obtain ⟨v14, h⟩ := h
  refine g_iast f v14 dX11_clause_91 h (fun h => ?_)
  refine g_aload_n f 1 dX11_clause_92 rfl rfl ?_
  refine g_iload_n f 2 dX11_clause_93 rfl rfl ?_
  refine g_iload_n f 0 dX11_clause_94 rfl rfl ?_
  refine g_callV f mk_X11_250 v8 (c_X11_body h) dX11_clause_95 rfl rfl (Nat.le_of_ble_eq_true rfl) (rm_ok (by decide) (by decide)) ⟨Nat.le_of_ble_eq_true rfl, Nat.le_of_ble_eq_true rfl⟩ (kI fun r18 μ16 x17 h => ?_)
  refine h_istore f dX11_clause_98 (by decide) ?_
  refine g_iload f 0 dX11_clause_100 rfl ?_
  refine g_if_eq f 108 dX11_clause_102 rfl h (fun h => ?_) (fun h => ?_)
  · refine g_aload_n f 2 dX11_clause_108 rfl rfl ?_
    have v8 := mex_ok x17 v8
    refine g_getR f fk_X11_16 v8 dX11_clause_109 rfl h (fun t19 h => ?_)
    refine g_aload_n f 2 dX11_clause_112 rfl rfl ?_
    refine g_getI f fk_X11_141 v8 dX11_clause_113 rfl ?_
    refine g_dup2_11 f dX11_clause_116 rfl rfl ?_
    obtain ⟨v20, h⟩ := h
    refine g_iald f v20 dX11_clause_117 h (fun h => ?_)
    refine g_iconst f 1 dX11_clause_118 kc_1 ?_
    refine g_iadd f dX11_clause_119 ?_
    refine g_iast f v20 dX11_clause_120 h (fun h => ?_)
    refine g_aload_n f 2 dX11_clause_121 rfl rfl ?_
    refine g_getI f fk_X11_102 v8 dX11_clause_122 rfl ?_
    refine g_bipush f 59 dX11_clause_125 kb_59 ?_
    refine g_ic_eq f 132 dX11_clause_127 rfl h (fun h => ?_) (fun h => ?_)
    · refine g_aload_n f 2 dX11_clause_132 rfl rfl ?_
      refine g_callV f mk_X11_173 v8 (c_X11_nextToken h) dX11_clause_133 rfl rfl (Nat.le_of_ble_eq_true rfl) (rm_ok (by decide) (by decide)) ⟨Nat.le_of_ble_eq_true rfl, Nat.le_of_ble_eq_true rfl⟩ (kV fun μ22 x23 h => ?_)
      refine g_iconst f 0 dX11_clause_136 kc_0 ?_
      exact g_iret f hq (Nat.le_of_ble_eq_true rfl) (Nat.le_of_ble_eq_true rfl) dX11_clause_137 h
    · refine g_iconst f 1 dX11_clause_130 kc_1 ?_
      exact g_iret f hq (Nat.le_of_ble_eq_true rfl) (Nat.le_of_ble_eq_true rfl) dX11_clause_131 h
  · refine g_iload f 0 dX11_clause_105 rfl ?_
    exact g_iret f hq (Nat.le_of_ble_eq_true rfl) (Nat.le_of_ble_eq_true rfl) dX11_clause_107 h
def B_X11_clause_29 (o0 : Nat) (i1 : Int32) (μ : Me) (Q : Int32 → Me → Prop) : Prop := mok μ o0 11 ∧ ∃ t6, mgr μ o0 2 = some t6 ∧ mok μ t6 12 ∧ vp_in (mgi μ o0 12) (mln μ t6) ∧ ((¬ (mgi μ t6 (mgi μ o0 12).toNatClampNeg) = 24 → ((1 < i1 → B_X11_clause_65 o0 i1 (mgi μ t6 (mgi μ o0 12).toNatClampNeg) μ Q) ∧ (¬ 1 < i1 → ∀ μ25, μ25 = msi μ o0 19 ((mgi μ o0 19) ||| (1 <<< (i1 &&& 31))) → B_X11_clause_65 o0 i1 (mgi μ t6 (mgi μ o0 12).toNatClampNeg) μ25 Q))) ∧ ((mgi μ t6 (mgi μ o0 12).toNatClampNeg) = 24 → Q 6 μ))
set_option maxHeartbeats 4000000 in
set_option maxRecDepth 100000 in
theorem tB_X11_clause_29 {x : GX} (f : Fx x cX11_clause RX11 5 (rmc 9 0 0)) {o0 : Nat} {i1 : Int32} {μ : Me} {Q : Int32 → Me → Prop} (hq : Rt x (some .int) (qI Q)) (h : B_X11_clause_29 o0 i1 μ Q) : G x 5 29 [(0, .ref (gB x + o0)), (1, .int i1)] [] μ 0 0 := by
  unfold B_X11_clause_29 at h
  refine g_aload_n f 0 dX11_clause_29 rfl rfl ?_
  obtain ⟨v5, h⟩ := h
  refine g_getR f fk_X11_16 v5 dX11_clause_30 rfl h (fun t6 h => ?_)
  refine g_aload_n f 0 dX11_clause_33 rfl rfl ?_
  refine g_getI f fk_X11_141 v5 dX11_clause_34 rfl ?_
  obtain ⟨v7, h⟩ := h
  refine g_iald f v7 dX11_clause_37 h (fun h => ?_)
  refine h_istore_n f dX11_clause_38 rfl (by decide) ?_
  refine g_iload_n f 0 dX11_clause_39 rfl rfl ?_
  refine g_bipush f 24 dX11_clause_40 kb_24 ?_
  refine g_ic_ne f 48 dX11_clause_42 rfl h (fun h => ?_) (fun h => ?_)
  · refine g_iload_n f 2 dX11_clause_48 rfl rfl ?_
    refine g_iconst f 1 dX11_clause_49 kc_1 ?_
    refine g_ic_gt f 65 dX11_clause_50 rfl h (fun h => ?_) (fun h => ?_)
    · exact h_sub [1, 2, 0] rfl (tB_X11_clause_65 f hq h)
    · refine g_aload_n f 1 dX11_clause_53 rfl rfl ?_
      refine g_dup f dX11_clause_54 rfl ?_
      refine g_getI f fk_X11_243 v5 dX11_clause_55 rfl ?_
      refine g_iconst f 1 dX11_clause_58 kc_1 ?_
      refine g_iload_n f 2 dX11_clause_59 rfl rfl ?_
      refine g_ishl f dX11_clause_60 ?_
      refine g_ior f dX11_clause_61 ?_
      refine g_putI f fk_X11_243 v5 dX11_clause_62 rfl h (fun h => ?_)
      exact h_sub [1, 2, 0] rfl (tB_X11_clause_65 f hq h)
  · refine g_bipush f 6 dX11_clause_45 kb_6 ?_
    exact g_iret f hq (Nat.le_of_ble_eq_true rfl) (Nat.le_of_ble_eq_true rfl) dX11_clause_47 h
def S_X11_clause (o0 : Nat) (μ : Me) (Q : Int32 → Me → Prop) : Prop := mok μ o0 11 ∧ S_X11_sortOf o0 μ (fun r4 μ2 => ((0 ≤ r4 → ((1 < r4 → B_X11_clause_29 o0 r4 μ2 Q) ∧ (¬ 1 < r4 → S_X11_has (mgi μ2 o0 19) r4 μ2 (fun r28 μ26 => ((r28 = 0 → B_X11_clause_29 o0 r4 μ26 Q) ∧ (¬ r28 = 0 → Q 4 μ26)))))) ∧ (¬ 0 ≤ r4 → Q 1 μ2)))
set_option maxHeartbeats 4000000 in
set_option maxRecDepth 100000 in
theorem t_X11_clause {x : GX} (f : Fx x cX11_clause RX11 5 (rmc 9 0 0)) {o0 : Nat} {μ : Me} {Q : Int32 → Me → Prop} (hq : Rt x (some .int) (qI Q)) (h : S_X11_clause o0 μ Q) : G x 5 0 [(0, .ref (gB x + o0))] [] μ 0 0 := by
  unfold S_X11_clause at h
  refine g_aload_n f 0 dX11_clause_0 rfl rfl ?_
  obtain ⟨v1, h⟩ := h
  refine g_callV f mk_X11_240 v1 (c_X11_sortOf h) dX11_clause_1 rfl rfl (Nat.le_of_ble_eq_true rfl) (rm_ok (by decide) (by decide)) ⟨Nat.le_of_ble_eq_true rfl, Nat.le_of_ble_eq_true rfl⟩ (kI fun r4 μ2 x3 h => ?_)
  refine h_istore_n f dX11_clause_4 rfl (by decide) ?_
  refine g_iload_n f 0 dX11_clause_5 rfl rfl ?_
  refine g_if_ge f 11 dX11_clause_6 rfl h (fun h => ?_) (fun h => ?_)
  · refine g_iload_n f 0 dX11_clause_11 rfl rfl ?_
    refine g_iconst f 1 dX11_clause_12 kc_1 ?_
    refine g_ic_gt f 29 dX11_clause_13 rfl h (fun h => ?_) (fun h => ?_)
    · exact h_sub [1, 0] rfl (tB_X11_clause_29 f hq h)
    · refine g_aload_n f 1 dX11_clause_16 rfl rfl ?_
      have v1 := mex_ok x3 v1
      refine g_getI f fk_X11_243 v1 dX11_clause_17 rfl ?_
      refine g_iload_n f 0 dX11_clause_20 rfl rfl ?_
      refine g_callS f mk_X11_246 (c_X11_has h) dX11_clause_21 rfl rfl (Nat.le_of_ble_eq_true rfl) (rm_ok (by decide) (by decide)) ⟨Nat.le_of_ble_eq_true rfl, Nat.le_of_ble_eq_true rfl⟩ (kI fun r28 μ26 x27 h => ?_)
      refine g_if_eq f 29 dX11_clause_24 rfl h (fun h => ?_) (fun h => ?_)
      · exact h_sub [1, 0] rfl (tB_X11_clause_29 f hq h)
      · refine g_iconst f 4 dX11_clause_27 kc_4 ?_
        exact g_iret f hq (Nat.le_of_ble_eq_true rfl) (Nat.le_of_ble_eq_true rfl) dX11_clause_28 h
  · refine g_iconst f 1 dX11_clause_9 kc_1 ?_
    exact g_iret f hq (Nat.le_of_ble_eq_true rfl) (Nat.le_of_ble_eq_true rfl) dX11_clause_10 h
theorem c_X11_clause {Ω : OM} {o0 : Nat} {μ : Me} {Q : Int32 → Me → Prop} (h : S_X11_clause o0 μ Q) : CT Ω yX11_clause cX11_clause 5 (some .int) (rmc 9 0 0) [.ref (oB Ω + o0)] μ (qI Q) := CT_of (by decide) rfl (by simp [lg_sl, Value.category]) (fun x hΩ f hq hi => by subst hΩ; exact t_X11_clause f hq h)
theorem dX11_readText_0 : decode cX11_readText 0 = .ok (.aload_n 0, 1) := by decide +kernel
theorem dX11_readText_1 : decode cX11_readText 1 = .ok (.sipush 729, 3) := by decide +kernel
theorem dX11_readText_4 : decode cX11_readText 4 = .ok (.aload_n 0, 1) := by decide +kernel
theorem dX11_readText_5 : decode cX11_readText 5 = .ok (.getfield 7, 3) := by decide +kernel
theorem dX11_readText_8 : decode cX11_readText 8 = .ok (.iconst 1, 1) := by decide +kernel
theorem dX11_readText_9 : decode cX11_readText 9 = .ok (.iaload, 1) := by decide +kernel
theorem dX11_readText_10 : decode cX11_readText 10 = .ok (.imul, 1) := by decide +kernel
theorem dX11_readText_11 : decode cX11_readText 11 = .ok (.putfield 141, 3) := by decide +kernel
theorem dX11_readText_14 : decode cX11_readText 14 = .ok (.aload_n 0, 1) := by decide +kernel
theorem dX11_readText_15 : decode cX11_readText 15 = .ok (.getfield 16, 3) := by decide +kernel
theorem dX11_readText_18 : decode cX11_readText 18 = .ok (.aload_n 0, 1) := by decide +kernel
theorem dX11_readText_19 : decode cX11_readText 19 = .ok (.getfield 141, 3) := by decide +kernel
theorem dX11_readText_22 : decode cX11_readText 22 = .ok (.iconst 0, 1) := by decide +kernel
theorem dX11_readText_23 : decode cX11_readText 23 = .ok (.iastore, 1) := by decide +kernel
theorem dX11_readText_24 : decode cX11_readText 24 = .ok (.aload_n 0, 1) := by decide +kernel
theorem dX11_readText_25 : decode cX11_readText 25 = .ok (.iconst 0, 1) := by decide +kernel
theorem dX11_readText_26 : decode cX11_readText 26 = .ok (.putfield 144, 3) := by decide +kernel
theorem dX11_readText_29 : decode cX11_readText 29 = .ok (.aload_n 0, 1) := by decide +kernel
theorem dX11_readText_30 : decode cX11_readText 30 = .ok (.iconst 0, 1) := by decide +kernel
theorem dX11_readText_31 : decode cX11_readText 31 = .ok (.putfield 243, 3) := by decide +kernel
theorem dX11_readText_34 : decode cX11_readText 34 = .ok (.aload_n 0, 1) := by decide +kernel
theorem dX11_readText_35 : decode cX11_readText 35 = .ok (.iconst 0, 1) := by decide +kernel
theorem dX11_readText_36 : decode cX11_readText 36 = .ok (.putfield 92, 3) := by decide +kernel
theorem dX11_readText_39 : decode cX11_readText 39 = .ok (.aload_n 0, 1) := by decide +kernel
theorem dX11_readText_40 : decode cX11_readText 40 = .ok (.invokevirtual 173, 3) := by decide +kernel
theorem dX11_readText_43 : decode cX11_readText 43 = .ok (.aload_n 0, 1) := by decide +kernel
theorem dX11_readText_44 : decode cX11_readText 44 = .ok (.getfield 102, 3) := by decide +kernel
theorem dX11_readText_47 : decode cX11_readText 47 = .ok (.ifCond .eq 17, 3) := by decide +kernel
theorem dX11_readText_50 : decode cX11_readText 50 = .ok (.aload_n 0, 1) := by decide +kernel
theorem dX11_readText_51 : decode cX11_readText 51 = .ok (.invokevirtual 253, 3) := by decide +kernel
theorem dX11_readText_54 : decode cX11_readText 54 = .ok (.istore_n 1, 1) := by decide +kernel
theorem dX11_readText_55 : decode cX11_readText 55 = .ok (.iload_n 1, 1) := by decide +kernel
theorem dX11_readText_56 : decode cX11_readText 56 = .ok (.ifCond .eq 5, 3) := by decide +kernel
theorem dX11_readText_59 : decode cX11_readText 59 = .ok (.iload_n 1, 1) := by decide +kernel
theorem dX11_readText_60 : decode cX11_readText 60 = .ok (.ireturn, 1) := by decide +kernel
theorem dX11_readText_61 : decode cX11_readText 61 = .ok (.goto (-18), 3) := by decide +kernel
theorem dX11_readText_64 : decode cX11_readText 64 = .ok (.iconst 0, 1) := by decide +kernel
theorem dX11_readText_65 : decode cX11_readText 65 = .ok (.ireturn, 1) := by decide +kernel
def B_X11_readText_43 (o0 : Nat) (μ : Me) (K43 : Me → Prop) (Q : Int32 → Me → Prop) : Prop := mok μ o0 11 ∧ (((mgi μ o0 9) = 0 → Q 0 μ) ∧ (¬ (mgi μ o0 9) = 0 → S_X11_clause o0 μ (fun r17 μ15 => ((r17 = 0 → K43 μ15) ∧ (¬ r17 = 0 → Q r17 μ15)))))
set_option maxHeartbeats 4000000 in
set_option maxRecDepth 100000 in
theorem tB_X11_readText_43 {x : GX} (f : Fx x cX11_readText RX11 2 (rmc 10 0 0)) {o0 : Nat} {μ : Me} {Q : Int32 → Me → Prop} (hq : Rt x (some .int) (qI Q)) {K43 : Me → Prop} (hK43 : ∀ (ν : Me), K43 ν → G x 2 43 [(0, .ref (gB x + o0))] [] ν 0 0) (h : B_X11_readText_43 o0 μ K43 Q) : G x 2 43 [(0, .ref (gB x + o0))] [] μ 0 0 := by
  unfold B_X11_readText_43 at h
  refine g_aload_n f 0 dX11_readText_43 rfl rfl ?_
  obtain ⟨v14, h⟩ := h
  refine g_getI f fk_X11_102 v14 dX11_readText_44 rfl ?_
  refine g_if_eq f 64 dX11_readText_47 rfl h (fun h => ?_) (fun h => ?_)
  · refine g_iconst f 0 dX11_readText_64 kc_0 ?_
    exact g_iret f hq (Nat.le_of_ble_eq_true rfl) (Nat.le_of_ble_eq_true rfl) dX11_readText_65 h
  · refine g_aload_n f 0 dX11_readText_50 rfl rfl ?_
    refine g_callV f mk_X11_253 v14 (c_X11_clause h) dX11_readText_51 rfl rfl (Nat.le_of_ble_eq_true rfl) (rm_ok (by decide) (by decide)) ⟨Nat.le_of_ble_eq_true rfl, Nat.le_of_ble_eq_true rfl⟩ (kI fun r17 μ15 x16 h => ?_)
    refine h_istore_n f dX11_readText_54 rfl (by decide) ?_
    refine g_iload_n f 0 dX11_readText_55 rfl rfl ?_
    refine g_if_eq f 61 dX11_readText_56 rfl h (fun h => ?_) (fun h => ?_)
    · refine g_goto f 43 dX11_readText_61 rfl ?_
      exact h_sub [1] rfl (hK43 _ h)
    · refine g_iload_n f 0 dX11_readText_59 rfl rfl ?_
      exact g_iret f hq (Nat.le_of_ble_eq_true rfl) (Nat.le_of_ble_eq_true rfl) dX11_readText_60 h
def L_X11_readText_43 (o0 : Nat) (μ : Me) (Q : Int32 → Me → Prop) : Prop := ∃ I : Me → Nat → Prop, (∃ n, I μ n) ∧ ∀ (μ : Me) (n : Nat), I μ n → B_X11_readText_43 o0 μ (fun ν => ∃ n', n' < n ∧ I ν n') Q
set_option maxHeartbeats 4000000 in
set_option maxRecDepth 100000 in
theorem tL_X11_readText_43 {x : GX} (f : Fx x cX11_readText RX11 2 (rmc 10 0 0)) {o0 : Nat} {μ : Me} {Q : Int32 → Me → Prop} (hq : Rt x (some .int) (qI Q)) (h : L_X11_readText_43 o0 μ Q) : G x 2 43 [(0, .ref (gB x + o0))] [] μ 0 0 := by
  obtain ⟨I, ⟨n, hI⟩, hs⟩ := h
  induction n using Nat.strongRecOn generalizing μ with
  | ind n ih => exact tB_X11_readText_43 f hq (fun ν hk => by obtain ⟨n2, hn, hI2⟩ := hk; exact ih n2 hn hI2) (hs _ _ hI)
def S_X11_readText (o0 : Nat) (μ : Me) (Q : Int32 → Me → Prop) : Prop := mok μ o0 11 ∧ ∃ t2, mgr μ o0 0 = some t2 ∧ mok μ t2 12 ∧ vp_in (1 : Int32) (mln μ t2) ∧ ∀ μ4, μ4 = msi μ o0 12 (729 * (mgi μ t2 (1 : Int32).toNatClampNeg)) → ∃ t5, mgr μ4 o0 2 = some t5 ∧ mok μ4 t5 12 ∧ vp_in (mgi μ4 o0 12) (mln μ4 t5) ∧ ∀ μ7, μ7 = msi μ4 t5 (mgi μ4 o0 12).toNatClampNeg 0 → ∀ μ8, μ8 = msi μ7 o0 13 0 → ∀ μ9, μ9 = msi μ8 o0 19 0 → ∀ μ10, μ10 = msi μ9 o0 7 0 → S_X11_nextToken o0 μ10 (fun μ11 => L_X11_readText_43 o0 μ11 Q)
set_option maxHeartbeats 4000000 in
set_option maxRecDepth 100000 in
theorem t_X11_readText {x : GX} (f : Fx x cX11_readText RX11 2 (rmc 10 0 0)) {o0 : Nat} {μ : Me} {Q : Int32 → Me → Prop} (hq : Rt x (some .int) (qI Q)) (h : S_X11_readText o0 μ Q) : G x 2 0 [(0, .ref (gB x + o0))] [] μ 0 0 := by
  unfold S_X11_readText at h
  refine g_aload_n f 0 dX11_readText_0 rfl rfl ?_
  refine g_sipush f 729 dX11_readText_1 ks_729 ?_
  refine g_aload_n f 0 dX11_readText_4 rfl rfl ?_
  obtain ⟨v1, h⟩ := h
  refine g_getR f fk_X11_7 v1 dX11_readText_5 rfl h (fun t2 h => ?_)
  refine g_iconst f 1 dX11_readText_8 kc_1 ?_
  obtain ⟨v3, h⟩ := h
  refine g_iald f v3 dX11_readText_9 h (fun h => ?_)
  refine g_imul f dX11_readText_10 ?_
  refine g_putI f fk_X11_141 v1 dX11_readText_11 rfl h (fun h => ?_)
  refine g_aload_n f 0 dX11_readText_14 rfl rfl ?_
  refine g_getR f fk_X11_16 v1 dX11_readText_15 rfl h (fun t5 h => ?_)
  refine g_aload_n f 0 dX11_readText_18 rfl rfl ?_
  refine g_getI f fk_X11_141 v1 dX11_readText_19 rfl ?_
  refine g_iconst f 0 dX11_readText_22 kc_0 ?_
  obtain ⟨v6, h⟩ := h
  refine g_iast f v6 dX11_readText_23 h (fun h => ?_)
  refine g_aload_n f 0 dX11_readText_24 rfl rfl ?_
  refine g_iconst f 0 dX11_readText_25 kc_0 ?_
  refine g_putI f fk_X11_144 v1 dX11_readText_26 rfl h (fun h => ?_)
  refine g_aload_n f 0 dX11_readText_29 rfl rfl ?_
  refine g_iconst f 0 dX11_readText_30 kc_0 ?_
  refine g_putI f fk_X11_243 v1 dX11_readText_31 rfl h (fun h => ?_)
  refine g_aload_n f 0 dX11_readText_34 rfl rfl ?_
  refine g_iconst f 0 dX11_readText_35 kc_0 ?_
  refine g_putI f fk_X11_92 v1 dX11_readText_36 rfl h (fun h => ?_)
  refine g_aload_n f 0 dX11_readText_39 rfl rfl ?_
  refine g_callV f mk_X11_173 v1 (c_X11_nextToken h) dX11_readText_40 rfl rfl (Nat.le_of_ble_eq_true rfl) (rm_ok (by decide) (by decide)) ⟨Nat.le_of_ble_eq_true rfl, Nat.le_of_ble_eq_true rfl⟩ (kV fun μ11 x12 h => ?_)
  exact h_sub [0] rfl (tL_X11_readText_43 f hq h)
theorem c_X11_readText {Ω : OM} {o0 : Nat} {μ : Me} {Q : Int32 → Me → Prop} (h : S_X11_readText o0 μ Q) : CT Ω yX11_readText cX11_readText 2 (some .int) (rmc 10 0 0) [.ref (oB Ω + o0)] μ (qI Q) := CT_of (by decide) rfl (by simp [lg_sl, Value.category]) (fun x hΩ f hq hi => by subst hΩ; exact t_X11_readText f hq h)
theorem dX11_text_0 : decode cX11_text 0 = .ok (.aload_n 0, 1) := by decide +kernel
theorem dX11_text_1 : decode cX11_text 1 = .ok (.getfield 7, 3) := by decide +kernel
theorem dX11_text_4 : decode cX11_text 4 = .ok (.iconst 1, 1) := by decide +kernel
theorem dX11_text_5 : decode cX11_text 5 = .ok (.iaload, 1) := by decide +kernel
theorem dX11_text_6 : decode cX11_text 6 = .ok (.iconst 4, 1) := by decide +kernel
theorem dX11_text_7 : decode cX11_text 7 = .ok (.if_icmp .ne 5, 3) := by decide +kernel
theorem dX11_text_10 : decode cX11_text 10 = .ok (.iconst (-1), 1) := by decide +kernel
theorem dX11_text_11 : decode cX11_text 11 = .ok (.ireturn, 1) := by decide +kernel
theorem dX11_text_12 : decode cX11_text 12 = .ok (.aload_n 0, 1) := by decide +kernel
theorem dX11_text_13 : decode cX11_text 13 = .ok (.aload_n 0, 1) := by decide +kernel
theorem dX11_text_14 : decode cX11_text 14 = .ok (.invokevirtual 256, 3) := by decide +kernel
theorem dX11_text_17 : decode cX11_text 17 = .ok (.putfield 22, 3) := by decide +kernel
theorem dX11_text_20 : decode cX11_text 20 = .ok (.aload_n 0, 1) := by decide +kernel
theorem dX11_text_21 : decode cX11_text 21 = .ok (.aload_n 0, 1) := by decide +kernel
theorem dX11_text_22 : decode cX11_text 22 = .ok (.getfield 22, 3) := by decide +kernel
theorem dX11_text_25 : decode cX11_text 25 = .ok (.ifCond .ne 7, 3) := by decide +kernel
theorem dX11_text_28 : decode cX11_text 28 = .ok (.iconst (-1), 1) := by decide +kernel
theorem dX11_text_29 : decode cX11_text 29 = .ok (.goto 7, 3) := by decide +kernel
theorem dX11_text_32 : decode cX11_text 32 = .ok (.aload_n 0, 1) := by decide +kernel
theorem dX11_text_33 : decode cX11_text 33 = .ok (.getfield 99, 3) := by decide +kernel
theorem dX11_text_36 : decode cX11_text 36 = .ok (.putfield 26, 3) := by decide +kernel
theorem dX11_text_39 : decode cX11_text 39 = .ok (.aload_n 0, 1) := by decide +kernel
theorem dX11_text_40 : decode cX11_text 40 = .ok (.iconst 0, 1) := by decide +kernel
theorem dX11_text_41 : decode cX11_text 41 = .ok (.putfield 86, 3) := by decide +kernel
theorem dX11_text_44 : decode cX11_text 44 = .ok (.aload_n 0, 1) := by decide +kernel
theorem dX11_text_45 : decode cX11_text 45 = .ok (.getfield 22, 3) := by decide +kernel
theorem dX11_text_48 : decode cX11_text 48 = .ok (.ifCond .eq 5, 3) := by decide +kernel
theorem dX11_text_51 : decode cX11_text 51 = .ok (.iconst (-1), 1) := by decide +kernel
theorem dX11_text_52 : decode cX11_text 52 = .ok (.ireturn, 1) := by decide +kernel
theorem dX11_text_53 : decode cX11_text 53 = .ok (.aload_n 0, 1) := by decide +kernel
theorem dX11_text_54 : decode cX11_text 54 = .ok (.getfield 7, 3) := by decide +kernel
theorem dX11_text_57 : decode cX11_text 57 = .ok (.iconst 1, 1) := by decide +kernel
theorem dX11_text_58 : decode cX11_text 58 = .ok (.dup2, 1) := by decide +kernel
theorem dX11_text_59 : decode cX11_text 59 = .ok (.iaload, 1) := by decide +kernel
theorem dX11_text_60 : decode cX11_text 60 = .ok (.iconst 1, 1) := by decide +kernel
theorem dX11_text_61 : decode cX11_text 61 = .ok (.iadd, 1) := by decide +kernel
theorem dX11_text_62 : decode cX11_text 62 = .ok (.iastore, 1) := by decide +kernel
theorem dX11_text_63 : decode cX11_text 63 = .ok (.aload_n 0, 1) := by decide +kernel
theorem dX11_text_64 : decode cX11_text 64 = .ok (.getfield 7, 3) := by decide +kernel
theorem dX11_text_67 : decode cX11_text 67 = .ok (.iconst 1, 1) := by decide +kernel
theorem dX11_text_68 : decode cX11_text 68 = .ok (.iaload, 1) := by decide +kernel
theorem dX11_text_69 : decode cX11_text 69 = .ok (.iconst 1, 1) := by decide +kernel
theorem dX11_text_70 : decode cX11_text 70 = .ok (.isub, 1) := by decide +kernel
theorem dX11_text_71 : decode cX11_text 71 = .ok (.ireturn, 1) := by decide +kernel
def B_X11_text_36 (o0 : Nat) (s0 : Int32) (s1 : Option Nat) (μ : Me) (Q : Int32 → Me → Prop) : Prop := ∃ t8, s1 = some t8 ∧ mok μ t8 11 ∧ ∀ μ12, μ12 = msi μ t8 6 s0 → mok μ12 o0 11 ∧ ∀ μ14, μ14 = msi μ12 o0 4 0 → (((mgi μ14 o0 5) = 0 → ∃ t15, mgr μ14 o0 0 = some t15 ∧ mok μ14 t15 12 ∧ vp_in (1 : Int32) (mln μ14 t15) ∧ vp_in (1 : Int32) (mln μ14 t15) ∧ ∀ μ17, μ17 = msi μ14 t15 (1 : Int32).toNatClampNeg ((mgi μ14 t15 (1 : Int32).toNatClampNeg) + 1) → ∃ t18, mgr μ17 o0 0 = some t18 ∧ mok μ17 t18 12 ∧ vp_in (1 : Int32) (mln μ17 t18) ∧ Q ((mgi μ17 t18 (1 : Int32).toNatClampNeg) - 1) μ17) ∧ (¬ (mgi μ14 o0 5) = 0 → Q (-1) μ14))
set_option maxHeartbeats 4000000 in
set_option maxRecDepth 100000 in
theorem tB_X11_text_36 {x : GX} (f : Fx x cX11_text RX11 1 (rmc 11 0 0)) {o0 : Nat} {s0 : Int32} {s1 : Option Nat} {μ : Me} {Q : Int32 → Me → Prop} (hq : Rt x (some .int) (qI Q)) (h : B_X11_text_36 o0 s0 s1 μ Q) : G x 1 36 [(0, .ref (gB x + o0))] [.int s0, vr (gB x) s1] μ 0 0 := by
  unfold B_X11_text_36 at h
  obtain ⟨t8, e9, h10⟩ := h
  subst e9
  have h := h10
  obtain ⟨v11, h⟩ := h
  refine g_putI f fk_X11_26 v11 dX11_text_36 rfl h (fun h => ?_)
  refine g_aload_n f 0 dX11_text_39 rfl rfl ?_
  refine g_iconst f 0 dX11_text_40 kc_0 ?_
  obtain ⟨v13, h⟩ := h
  refine g_putI f fk_X11_86 v13 dX11_text_41 rfl h (fun h => ?_)
  refine g_aload_n f 0 dX11_text_44 rfl rfl ?_
  refine g_getI f fk_X11_22 v13 dX11_text_45 rfl ?_
  refine g_if_eq f 53 dX11_text_48 rfl h (fun h => ?_) (fun h => ?_)
  · refine g_aload_n f 0 dX11_text_53 rfl rfl ?_
    refine g_getR f fk_X11_7 v13 dX11_text_54 rfl h (fun t15 h => ?_)
    refine g_iconst f 1 dX11_text_57 kc_1 ?_
    refine g_dup2_11 f dX11_text_58 rfl rfl ?_
    obtain ⟨v16, h⟩ := h
    refine g_iald f v16 dX11_text_59 h (fun h => ?_)
    refine g_iconst f 1 dX11_text_60 kc_1 ?_
    refine g_iadd f dX11_text_61 ?_
    refine g_iast f v16 dX11_text_62 h (fun h => ?_)
    refine g_aload_n f 0 dX11_text_63 rfl rfl ?_
    refine g_getR f fk_X11_7 v13 dX11_text_64 rfl h (fun t18 h => ?_)
    refine g_iconst f 1 dX11_text_67 kc_1 ?_
    obtain ⟨v19, h⟩ := h
    refine g_iald f v19 dX11_text_68 h (fun h => ?_)
    refine g_iconst f 1 dX11_text_69 kc_1 ?_
    refine g_isub f dX11_text_70 ?_
    exact g_iret f hq (Nat.le_of_ble_eq_true rfl) (Nat.le_of_ble_eq_true rfl) dX11_text_71 h
  · refine g_iconst f (-1) dX11_text_51 kc_m1 ?_
    exact g_iret f hq (Nat.le_of_ble_eq_true rfl) (Nat.le_of_ble_eq_true rfl) dX11_text_52 h
def S_X11_text (o0 : Nat) (μ : Me) (Q : Int32 → Me → Prop) : Prop := mok μ o0 11 ∧ ∃ t2, mgr μ o0 0 = some t2 ∧ mok μ t2 12 ∧ vp_in (1 : Int32) (mln μ t2) ∧ ((¬ (mgi μ t2 (1 : Int32).toNatClampNeg) = 4 → S_X11_readText o0 μ (fun r6 μ4 => ∀ μ7, μ7 = msi μ4 o0 5 r6 → ((¬ (mgi μ7 o0 5) = 0 → B_X11_text_36 o0 (mgi μ7 o0 8) (some o0) μ7 Q) ∧ ((mgi μ7 o0 5) = 0 → B_X11_text_36 o0 (-1) (some o0) μ7 Q)))) ∧ ((mgi μ t2 (1 : Int32).toNatClampNeg) = 4 → Q (-1) μ))
set_option maxHeartbeats 4000000 in
set_option maxRecDepth 100000 in
theorem t_X11_text {x : GX} (f : Fx x cX11_text RX11 1 (rmc 11 0 0)) {o0 : Nat} {μ : Me} {Q : Int32 → Me → Prop} (hq : Rt x (some .int) (qI Q)) (h : S_X11_text o0 μ Q) : G x 1 0 [(0, .ref (gB x + o0))] [] μ 0 0 := by
  unfold S_X11_text at h
  refine g_aload_n f 0 dX11_text_0 rfl rfl ?_
  obtain ⟨v1, h⟩ := h
  refine g_getR f fk_X11_7 v1 dX11_text_1 rfl h (fun t2 h => ?_)
  refine g_iconst f 1 dX11_text_4 kc_1 ?_
  obtain ⟨v3, h⟩ := h
  refine g_iald f v3 dX11_text_5 h (fun h => ?_)
  refine g_iconst f 4 dX11_text_6 kc_4 ?_
  refine g_ic_ne f 12 dX11_text_7 rfl h (fun h => ?_) (fun h => ?_)
  · refine g_aload_n f 0 dX11_text_12 rfl rfl ?_
    refine g_aload_n f 0 dX11_text_13 rfl rfl ?_
    refine g_callV f mk_X11_256 v1 (c_X11_readText h) dX11_text_14 rfl rfl (Nat.le_of_ble_eq_true rfl) (rm_ok (by decide) (by decide)) ⟨Nat.le_of_ble_eq_true rfl, Nat.le_of_ble_eq_true rfl⟩ (kI fun r6 μ4 x5 h => ?_)
    have v1 := mex_ok x5 v1
    refine g_putI f fk_X11_22 v1 dX11_text_17 rfl h (fun h => ?_)
    refine g_aload_n f 0 dX11_text_20 rfl rfl ?_
    refine g_aload_n f 0 dX11_text_21 rfl rfl ?_
    refine g_getI f fk_X11_22 v1 dX11_text_22 rfl ?_
    refine g_if_ne f 32 dX11_text_25 rfl h (fun h => ?_) (fun h => ?_)
    · refine g_aload_n f 0 dX11_text_32 rfl rfl ?_
      refine g_getI f fk_X11_99 v1 dX11_text_33 rfl ?_
      exact h_sub [0] rfl (tB_X11_text_36 f hq h)
    · refine g_iconst f (-1) dX11_text_28 kc_m1 ?_
      refine g_goto f 36 dX11_text_29 rfl ?_
      exact h_sub [0] rfl (tB_X11_text_36 f hq h)
  · refine g_iconst f (-1) dX11_text_10 kc_m1 ?_
    exact g_iret f hq (Nat.le_of_ble_eq_true rfl) (Nat.le_of_ble_eq_true rfl) dX11_text_11 h
theorem c_X11_text {Ω : OM} {o0 : Nat} {μ : Me} {Q : Int32 → Me → Prop} (h : S_X11_text o0 μ Q) : CT Ω yX11_text cX11_text 1 (some .int) (rmc 11 0 0) [.ref (oB Ω + o0)] μ (qI Q) := CT_of (by decide) rfl (by simp [lg_sl, Value.category]) (fun x hΩ f hq hi => by subst hΩ; exact t_X11_text f hq h)
theorem dX11_fault_0 : decode cX11_fault 0 = .ok (.iload_n 1, 1) := by decide +kernel
theorem dX11_fault_1 : decode cX11_fault 1 = .ok (.ifCond .ne 10, 3) := by decide +kernel
theorem dX11_fault_4 : decode cX11_fault 4 = .ok (.aload_n 0, 1) := by decide +kernel
theorem dX11_fault_5 : decode cX11_fault 5 = .ok (.getfield 22, 3) := by decide +kernel
theorem dX11_fault_8 : decode cX11_fault 8 = .ok (.goto 16, 3) := by decide +kernel
theorem dX11_fault_11 : decode cX11_fault 11 = .ok (.iload_n 1, 1) := by decide +kernel
theorem dX11_fault_12 : decode cX11_fault 12 = .ok (.iconst 1, 1) := by decide +kernel
theorem dX11_fault_13 : decode cX11_fault 13 = .ok (.if_icmp .ne 10, 3) := by decide +kernel
theorem dX11_fault_16 : decode cX11_fault 16 = .ok (.aload_n 0, 1) := by decide +kernel
theorem dX11_fault_17 : decode cX11_fault 17 = .ok (.getfield 26, 3) := by decide +kernel
theorem dX11_fault_20 : decode cX11_fault 20 = .ok (.goto 4, 3) := by decide +kernel
theorem dX11_fault_23 : decode cX11_fault 23 = .ok (.iconst (-1), 1) := by decide +kernel
theorem dX11_fault_24 : decode cX11_fault 24 = .ok (.ireturn, 1) := by decide +kernel
def S_X11_fault (o0 : Nat) (i1 : Int32) (μ : Me) (Q : Int32 → Me → Prop) : Prop := ((¬ i1 = 0 → ((¬ i1 = 1 → Q (-1) μ) ∧ (i1 = 1 → mok μ o0 11 ∧ Q (mgi μ o0 6) μ))) ∧ (i1 = 0 → mok μ o0 11 ∧ Q (mgi μ o0 5) μ))
set_option maxHeartbeats 4000000 in
set_option maxRecDepth 100000 in
theorem t_X11_fault {x : GX} (f : Fx x cX11_fault RX11 2 (rmc 0 0 0)) {o0 : Nat} {i1 : Int32} {μ : Me} {Q : Int32 → Me → Prop} (hq : Rt x (some .int) (qI Q)) (h : S_X11_fault o0 i1 μ Q) : G x 2 0 [(0, .ref (gB x + o0)), (1, .int i1)] [] μ 0 0 := by
  unfold S_X11_fault at h
  refine g_iload_n f 1 dX11_fault_0 rfl rfl ?_
  refine g_if_ne f 11 dX11_fault_1 rfl h (fun h => ?_) (fun h => ?_)
  · refine g_iload_n f 1 dX11_fault_11 rfl rfl ?_
    refine g_iconst f 1 dX11_fault_12 kc_1 ?_
    refine g_ic_ne f 23 dX11_fault_13 rfl h (fun h => ?_) (fun h => ?_)
    · refine g_iconst f (-1) dX11_fault_23 kc_m1 ?_
      exact g_iret f hq (Nat.le_of_ble_eq_true rfl) (Nat.le_of_ble_eq_true rfl) dX11_fault_24 h
    · refine g_aload_n f 0 dX11_fault_16 rfl rfl ?_
      obtain ⟨v1, h⟩ := h
      refine g_getI f fk_X11_26 v1 dX11_fault_17 rfl ?_
      refine g_goto f 24 dX11_fault_20 rfl ?_
      exact g_iret f hq (Nat.le_of_ble_eq_true rfl) (Nat.le_of_ble_eq_true rfl) dX11_fault_24 h
  · refine g_aload_n f 0 dX11_fault_4 rfl rfl ?_
    obtain ⟨v2, h⟩ := h
    refine g_getI f fk_X11_22 v2 dX11_fault_5 rfl ?_
    refine g_goto f 24 dX11_fault_8 rfl ?_
    exact g_iret f hq (Nat.le_of_ble_eq_true rfl) (Nat.le_of_ble_eq_true rfl) dX11_fault_24 h
theorem c_X11_fault {Ω : OM} {o0 : Nat} {i1 : Int32} {μ : Me} {Q : Int32 → Me → Prop} (h : S_X11_fault o0 i1 μ Q) : CT Ω yX11_fault cX11_fault 2 (some .int) (rmc 0 0 0) [.ref (oB Ω + o0), .int i1] μ (qI Q) := CT_of (by decide) rfl (by simp [lg_sl, Value.category]) (fun x hΩ f hq hi => by subst hΩ; exact t_X11_fault f hq h)
theorem dX11_by_0 : decode cX11_by 0 = .ok (.iload_n 1, 1) := by decide +kernel
theorem dX11_by_1 : decode cX11_by 1 = .ok (.iconst (-1), 1) := by decide +kernel
theorem dX11_by_2 : decode cX11_by 2 = .ok (.aload_n 0, 1) := by decide +kernel
theorem dX11_by_3 : decode cX11_by 3 = .ok (.getfield 7, 3) := by decide +kernel
theorem dX11_by_6 : decode cX11_by 6 = .ok (.iconst 1, 1) := by decide +kernel
theorem dX11_by_7 : decode cX11_by 7 = .ok (.iaload, 1) := by decide +kernel
theorem dX11_by_8 : decode cX11_by 8 = .ok (.iconst 1, 1) := by decide +kernel
theorem dX11_by_9 : decode cX11_by 9 = .ok (.isub, 1) := by decide +kernel
theorem dX11_by_10 : decode cX11_by 10 = .ok (.invokestatic 66, 3) := by decide +kernel
theorem dX11_by_13 : decode cX11_by 13 = .ok (.ifCond .ne 5, 3) := by decide +kernel
theorem dX11_by_16 : decode cX11_by 16 = .ok (.iconst 0, 1) := by decide +kernel
theorem dX11_by_17 : decode cX11_by 17 = .ok (.ireturn, 1) := by decide +kernel
theorem dX11_by_18 : decode cX11_by 18 = .ok (.aload_n 0, 1) := by decide +kernel
theorem dX11_by_19 : decode cX11_by 19 = .ok (.getfield 7, 3) := by decide +kernel
theorem dX11_by_22 : decode cX11_by 22 = .ok (.iconst 2, 1) := by decide +kernel
theorem dX11_by_23 : decode cX11_by 23 = .ok (.iload_n 1, 1) := by decide +kernel
theorem dX11_by_24 : decode cX11_by 24 = .ok (.iastore, 1) := by decide +kernel
theorem dX11_by_25 : decode cX11_by 25 = .ok (.iconst 1, 1) := by decide +kernel
theorem dX11_by_26 : decode cX11_by 26 = .ok (.ireturn, 1) := by decide +kernel
def S_X11_by (o0 : Nat) (i1 : Int32) (μ : Me) (Q : Int32 → Me → Prop) : Prop := mok μ o0 11 ∧ ∃ t2, mgr μ o0 0 = some t2 ∧ mok μ t2 12 ∧ vp_in (1 : Int32) (mln μ t2) ∧ S_X11_isIn i1 (-1) ((mgi μ t2 (1 : Int32).toNatClampNeg) - 1) μ (fun r6 μ4 => ((¬ r6 = 0 → ∃ t7, mgr μ4 o0 0 = some t7 ∧ mok μ4 t7 12 ∧ vp_in (2 : Int32) (mln μ4 t7) ∧ ∀ μ9, μ9 = msi μ4 t7 (2 : Int32).toNatClampNeg i1 → Q 1 μ9) ∧ (r6 = 0 → Q 0 μ4)))
set_option maxHeartbeats 4000000 in
set_option maxRecDepth 100000 in
theorem t_X11_by {x : GX} (f : Fx x cX11_by RX11 2 (rmc 1 0 0)) {o0 : Nat} {i1 : Int32} {μ : Me} {Q : Int32 → Me → Prop} (hq : Rt x (some .boolean) (qI Q)) (h : S_X11_by o0 i1 μ Q) : G x 2 0 [(0, .ref (gB x + o0)), (1, .int i1)] [] μ 0 0 := by
  unfold S_X11_by at h
  refine g_iload_n f 1 dX11_by_0 rfl rfl ?_
  refine g_iconst f (-1) dX11_by_1 kc_m1 ?_
  refine g_aload_n f 0 dX11_by_2 rfl rfl ?_
  obtain ⟨v1, h⟩ := h
  refine g_getR f fk_X11_7 v1 dX11_by_3 rfl h (fun t2 h => ?_)
  refine g_iconst f 1 dX11_by_6 kc_1 ?_
  obtain ⟨v3, h⟩ := h
  refine g_iald f v3 dX11_by_7 h (fun h => ?_)
  refine g_iconst f 1 dX11_by_8 kc_1 ?_
  refine g_isub f dX11_by_9 ?_
  refine g_callS f mk_X11_66 (c_X11_isIn h) dX11_by_10 rfl rfl (Nat.le_of_ble_eq_true rfl) (rm_ok (by decide) (by decide)) ⟨Nat.le_of_ble_eq_true rfl, Nat.le_of_ble_eq_true rfl⟩ (kI fun r6 μ4 x5 h => ?_)
  refine g_if_ne f 18 dX11_by_13 rfl h (fun h => ?_) (fun h => ?_)
  · refine g_aload_n f 0 dX11_by_18 rfl rfl ?_
    have v1 := mex_ok x5 v1
    refine g_getR f fk_X11_7 v1 dX11_by_19 rfl h (fun t7 h => ?_)
    refine g_iconst f 2 dX11_by_22 kc_2 ?_
    refine g_iload_n f 1 dX11_by_23 rfl rfl ?_
    obtain ⟨v8, h⟩ := h
    refine g_iast f v8 dX11_by_24 h (fun h => ?_)
    refine g_iconst f 1 dX11_by_25 kc_1 ?_
    exact g_zret f hq (Nat.le_of_ble_eq_true rfl) (Nat.le_of_ble_eq_true rfl) dX11_by_26 zb_1.1 h
  · refine g_iconst f 0 dX11_by_16 kc_0 ?_
    exact g_zret f hq (Nat.le_of_ble_eq_true rfl) (Nat.le_of_ble_eq_true rfl) dX11_by_17 zb_0.1 h
theorem c_X11_by {Ω : OM} {o0 : Nat} {i1 : Int32} {μ : Me} {Q : Int32 → Me → Prop} (h : S_X11_by o0 i1 μ Q) : CT Ω yX11_by cX11_by 2 (some .boolean) (rmc 1 0 0) [.ref (oB Ω + o0), .int i1] μ (qI Q) := CT_of (by decide) rfl (by simp [lg_sl, Value.category]) (fun x hΩ f hq hi => by subst hΩ; exact t_X11_by f hq h)
theorem dX11_undo_0 : decode cX11_undo 0 = .ok (.aload_n 0, 1) := by decide +kernel
theorem dX11_undo_1 : decode cX11_undo 1 = .ok (.getfield 7, 3) := by decide +kernel
theorem dX11_undo_4 : decode cX11_undo 4 = .ok (.iconst 3, 1) := by decide +kernel
theorem dX11_undo_5 : decode cX11_undo 5 = .ok (.iaload, 1) := by decide +kernel
theorem dX11_undo_6 : decode cX11_undo 6 = .ok (.ifCond .ne 5, 3) := by decide +kernel
theorem dX11_undo_9 : decode cX11_undo 9 = .ok (.iconst (-1), 1) := by decide +kernel
theorem dX11_undo_10 : decode cX11_undo 10 = .ok (.ireturn, 1) := by decide +kernel
theorem dX11_undo_11 : decode cX11_undo 11 = .ok (.aload_n 0, 1) := by decide +kernel
theorem dX11_undo_12 : decode cX11_undo 12 = .ok (.getfield 7, 3) := by decide +kernel
theorem dX11_undo_15 : decode cX11_undo 15 = .ok (.iconst 3, 1) := by decide +kernel
theorem dX11_undo_16 : decode cX11_undo 16 = .ok (.dup2, 1) := by decide +kernel
theorem dX11_undo_17 : decode cX11_undo 17 = .ok (.iaload, 1) := by decide +kernel
theorem dX11_undo_18 : decode cX11_undo 18 = .ok (.iconst 1, 1) := by decide +kernel
theorem dX11_undo_19 : decode cX11_undo 19 = .ok (.isub, 1) := by decide +kernel
theorem dX11_undo_20 : decode cX11_undo 20 = .ok (.iastore, 1) := by decide +kernel
theorem dX11_undo_21 : decode cX11_undo 21 = .ok (.bipush 107, 2) := by decide +kernel
theorem dX11_undo_23 : decode cX11_undo 23 = .ok (.bipush 90, 2) := by decide +kernel
theorem dX11_undo_25 : decode cX11_undo 25 = .ok (.aload_n 0, 1) := by decide +kernel
theorem dX11_undo_26 : decode cX11_undo 26 = .ok (.getfield 7, 3) := by decide +kernel
theorem dX11_undo_29 : decode cX11_undo 29 = .ok (.iconst 3, 1) := by decide +kernel
theorem dX11_undo_30 : decode cX11_undo 30 = .ok (.iaload, 1) := by decide +kernel
theorem dX11_undo_31 : decode cX11_undo 31 = .ok (.imul, 1) := by decide +kernel
theorem dX11_undo_32 : decode cX11_undo 32 = .ok (.iadd, 1) := by decide +kernel
theorem dX11_undo_33 : decode cX11_undo 33 = .ok (.istore_n 1, 1) := by decide +kernel
theorem dX11_undo_34 : decode cX11_undo 34 = .ok (.iconst 0, 1) := by decide +kernel
theorem dX11_undo_35 : decode cX11_undo 35 = .ok (.istore_n 2, 1) := by decide +kernel
theorem dX11_undo_36 : decode cX11_undo 36 = .ok (.iload_n 2, 1) := by decide +kernel
theorem dX11_undo_37 : decode cX11_undo 37 = .ok (.iconst 5, 1) := by decide +kernel
theorem dX11_undo_38 : decode cX11_undo 38 = .ok (.if_icmp .ge 28, 3) := by decide +kernel
theorem dX11_undo_41 : decode cX11_undo 41 = .ok (.aload_n 0, 1) := by decide +kernel
theorem dX11_undo_42 : decode cX11_undo 42 = .ok (.getfield 7, 3) := by decide +kernel
theorem dX11_undo_45 : decode cX11_undo 45 = .ok (.bipush 6, 2) := by decide +kernel
theorem dX11_undo_47 : decode cX11_undo 47 = .ok (.iload_n 2, 1) := by decide +kernel
theorem dX11_undo_48 : decode cX11_undo 48 = .ok (.iadd, 1) := by decide +kernel
theorem dX11_undo_49 : decode cX11_undo 49 = .ok (.aload_n 0, 1) := by decide +kernel
theorem dX11_undo_50 : decode cX11_undo 50 = .ok (.getfield 7, 3) := by decide +kernel
theorem dX11_undo_53 : decode cX11_undo 53 = .ok (.iload_n 1, 1) := by decide +kernel
theorem dX11_undo_54 : decode cX11_undo 54 = .ok (.iconst 1, 1) := by decide +kernel
theorem dX11_undo_55 : decode cX11_undo 55 = .ok (.iadd, 1) := by decide +kernel
theorem dX11_undo_56 : decode cX11_undo 56 = .ok (.iload_n 2, 1) := by decide +kernel
theorem dX11_undo_57 : decode cX11_undo 57 = .ok (.iadd, 1) := by decide +kernel
theorem dX11_undo_58 : decode cX11_undo 58 = .ok (.iaload, 1) := by decide +kernel
theorem dX11_undo_59 : decode cX11_undo 59 = .ok (.iastore, 1) := by decide +kernel
theorem dX11_undo_60 : decode cX11_undo 60 = .ok (.iinc 2 1, 3) := by decide +kernel
theorem dX11_undo_63 : decode cX11_undo 63 = .ok (.goto (-27), 3) := by decide +kernel
theorem dX11_undo_66 : decode cX11_undo 66 = .ok (.iconst 0, 1) := by decide +kernel
theorem dX11_undo_67 : decode cX11_undo 67 = .ok (.istore_n 2, 1) := by decide +kernel
theorem dX11_undo_68 : decode cX11_undo 68 = .ok (.iload_n 2, 1) := by decide +kernel
theorem dX11_undo_69 : decode cX11_undo 69 = .ok (.aload_n 0, 1) := by decide +kernel
theorem dX11_undo_70 : decode cX11_undo 70 = .ok (.getfield 7, 3) := by decide +kernel
theorem dX11_undo_73 : decode cX11_undo 73 = .ok (.iconst 0, 1) := by decide +kernel
theorem dX11_undo_74 : decode cX11_undo 74 = .ok (.iaload, 1) := by decide +kernel
theorem dX11_undo_75 : decode cX11_undo 75 = .ok (.if_icmp .ge 68, 3) := by decide +kernel
theorem dX11_undo_78 : decode cX11_undo 78 = .ok (.iload_n 2, 1) := by decide +kernel
theorem dX11_undo_79 : decode cX11_undo 79 = .ok (.aload_n 0, 1) := by decide +kernel
theorem dX11_undo_80 : decode cX11_undo 80 = .ok (.getfield 7, 3) := by decide +kernel
theorem dX11_undo_83 : decode cX11_undo 83 = .ok (.iload_n 1, 1) := by decide +kernel
theorem dX11_undo_84 : decode cX11_undo 84 = .ok (.iaload, 1) := by decide +kernel
theorem dX11_undo_85 : decode cX11_undo 85 = .ok (.if_icmp .lt 8, 3) := by decide +kernel
theorem dX11_undo_88 : decode cX11_undo 88 = .ok (.aload_n 0, 1) := by decide +kernel
theorem dX11_undo_89 : decode cX11_undo 89 = .ok (.iload_n 2, 1) := by decide +kernel
theorem dX11_undo_90 : decode cX11_undo 90 = .ok (.invokevirtual 82, 3) := by decide +kernel
theorem dX11_undo_93 : decode cX11_undo 93 = .ok (.iconst 0, 1) := by decide +kernel
theorem dX11_undo_94 : decode cX11_undo 94 = .ok (.istore_n 3, 1) := by decide +kernel
theorem dX11_undo_95 : decode cX11_undo 95 = .ok (.iload_n 3, 1) := by decide +kernel
theorem dX11_undo_96 : decode cX11_undo 96 = .ok (.iconst 3, 1) := by decide +kernel
theorem dX11_undo_97 : decode cX11_undo 97 = .ok (.if_icmp .ge 40, 3) := by decide +kernel
theorem dX11_undo_100 : decode cX11_undo 100 = .ok (.iload_n 2, 1) := by decide +kernel
theorem dX11_undo_101 : decode cX11_undo 101 = .ok (.aload_n 0, 1) := by decide +kernel
theorem dX11_undo_102 : decode cX11_undo 102 = .ok (.getfield 7, 3) := by decide +kernel
theorem dX11_undo_105 : decode cX11_undo 105 = .ok (.iload_n 1, 1) := by decide +kernel
theorem dX11_undo_106 : decode cX11_undo 106 = .ok (.iaload, 1) := by decide +kernel
theorem dX11_undo_107 : decode cX11_undo 107 = .ok (.if_icmp .ge 30, 3) := by decide +kernel
theorem dX11_undo_110 : decode cX11_undo 110 = .ok (.aload_n 0, 1) := by decide +kernel
theorem dX11_undo_111 : decode cX11_undo 111 = .ok (.iload_n 2, 1) := by decide +kernel
theorem dX11_undo_112 : decode cX11_undo 112 = .ok (.iload_n 3, 1) := by decide +kernel
theorem dX11_undo_113 : decode cX11_undo 113 = .ok (.aload_n 0, 1) := by decide +kernel
theorem dX11_undo_114 : decode cX11_undo 114 = .ok (.getfield 7, 3) := by decide +kernel
theorem dX11_undo_117 : decode cX11_undo 117 = .ok (.iload_n 1, 1) := by decide +kernel
theorem dX11_undo_118 : decode cX11_undo 118 = .ok (.bipush 6, 2) := by decide +kernel
theorem dX11_undo_120 : decode cX11_undo 120 = .ok (.iadd, 1) := by decide +kernel
theorem dX11_undo_121 : decode cX11_undo 121 = .ok (.iconst 3, 1) := by decide +kernel
theorem dX11_undo_122 : decode cX11_undo 122 = .ok (.iload_n 2, 1) := by decide +kernel
theorem dX11_undo_123 : decode cX11_undo 123 = .ok (.imul, 1) := by decide +kernel
theorem dX11_undo_124 : decode cX11_undo 124 = .ok (.iadd, 1) := by decide +kernel
theorem dX11_undo_125 : decode cX11_undo 125 = .ok (.iload_n 3, 1) := by decide +kernel
theorem dX11_undo_126 : decode cX11_undo 126 = .ok (.iadd, 1) := by decide +kernel
theorem dX11_undo_127 : decode cX11_undo 127 = .ok (.iaload, 1) := by decide +kernel
theorem dX11_undo_128 : decode cX11_undo 128 = .ok (.invokevirtual 78, 3) := by decide +kernel
theorem dX11_undo_131 : decode cX11_undo 131 = .ok (.iinc 3 1, 3) := by decide +kernel
theorem dX11_undo_134 : decode cX11_undo 134 = .ok (.goto (-39), 3) := by decide +kernel
theorem dX11_undo_137 : decode cX11_undo 137 = .ok (.iinc 2 1, 3) := by decide +kernel
theorem dX11_undo_140 : decode cX11_undo 140 = .ok (.goto (-72), 3) := by decide +kernel
theorem dX11_undo_143 : decode cX11_undo 143 = .ok (.iconst 0, 1) := by decide +kernel
theorem dX11_undo_144 : decode cX11_undo 144 = .ok (.istore_n 2, 1) := by decide +kernel
theorem dX11_undo_145 : decode cX11_undo 145 = .ok (.iload_n 2, 1) := by decide +kernel
theorem dX11_undo_146 : decode cX11_undo 146 = .ok (.bipush 60, 2) := by decide +kernel
theorem dX11_undo_148 : decode cX11_undo 148 = .ok (.if_icmp .ge 30, 3) := by decide +kernel
theorem dX11_undo_151 : decode cX11_undo 151 = .ok (.aload_n 0, 1) := by decide +kernel
theorem dX11_undo_152 : decode cX11_undo 152 = .ok (.getfield 7, 3) := by decide +kernel
theorem dX11_undo_155 : decode cX11_undo 155 = .ok (.sipush 2807, 3) := by decide +kernel
theorem dX11_undo_158 : decode cX11_undo 158 = .ok (.iload_n 2, 1) := by decide +kernel
theorem dX11_undo_159 : decode cX11_undo 159 = .ok (.iadd, 1) := by decide +kernel
theorem dX11_undo_160 : decode cX11_undo 160 = .ok (.aload_n 0, 1) := by decide +kernel
theorem dX11_undo_161 : decode cX11_undo 161 = .ok (.getfield 7, 3) := by decide +kernel
theorem dX11_undo_164 : decode cX11_undo 164 = .ok (.iload_n 1, 1) := by decide +kernel
theorem dX11_undo_165 : decode cX11_undo 165 = .ok (.bipush 30, 2) := by decide +kernel
theorem dX11_undo_167 : decode cX11_undo 167 = .ok (.iadd, 1) := by decide +kernel
theorem dX11_undo_168 : decode cX11_undo 168 = .ok (.iload_n 2, 1) := by decide +kernel
theorem dX11_undo_169 : decode cX11_undo 169 = .ok (.iadd, 1) := by decide +kernel
theorem dX11_undo_170 : decode cX11_undo 170 = .ok (.iaload, 1) := by decide +kernel
theorem dX11_undo_171 : decode cX11_undo 171 = .ok (.iastore, 1) := by decide +kernel
theorem dX11_undo_172 : decode cX11_undo 172 = .ok (.iinc 2 1, 3) := by decide +kernel
theorem dX11_undo_175 : decode cX11_undo 175 = .ok (.goto (-30), 3) := by decide +kernel
theorem dX11_undo_178 : decode cX11_undo 178 = .ok (.aload_n 0, 1) := by decide +kernel
theorem dX11_undo_179 : decode cX11_undo 179 = .ok (.getfield 7, 3) := by decide +kernel
theorem dX11_undo_182 : decode cX11_undo 182 = .ok (.iconst 3, 1) := by decide +kernel
theorem dX11_undo_183 : decode cX11_undo 183 = .ok (.iaload, 1) := by decide +kernel
theorem dX11_undo_184 : decode cX11_undo 184 = .ok (.ireturn, 1) := by decide +kernel
def B_X11_undo_145 (o0 : Nat) (i1 : Int32) (i2 : Int32) (μ : Me) (K145 : Int32 → Me → Prop) (Q : Int32 → Me → Prop) : Prop := ((60 ≤ i2 → mok μ o0 11 ∧ ∃ t13, mgr μ o0 0 = some t13 ∧ mok μ t13 12 ∧ vp_in (3 : Int32) (mln μ t13) ∧ Q (mgi μ t13 (3 : Int32).toNatClampNeg) μ) ∧ (¬ 60 ≤ i2 → mok μ o0 11 ∧ ∃ t16, mgr μ o0 0 = some t16 ∧ ∃ t17, mgr μ o0 0 = some t17 ∧ mok μ t17 12 ∧ vp_in ((i1 + 30) + i2) (mln μ t17) ∧ mok μ t16 12 ∧ vp_in (2807 + i2) (mln μ t16) ∧ ∀ μ20, μ20 = msi μ t16 (2807 + i2).toNatClampNeg (mgi μ t17 ((i1 + 30) + i2).toNatClampNeg) → K145 (i2 + 1) μ20))
set_option maxHeartbeats 4000000 in
set_option maxRecDepth 100000 in
theorem tB_X11_undo_145 {x : GX} (f : Fx x cX11_undo RX11 4 (rmc 2 0 0)) {o0 : Nat} {i1 : Int32} {i2 : Int32} {μ : Me} {Q : Int32 → Me → Prop} (hq : Rt x (some .int) (qI Q)) {K145 : Int32 → Me → Prop} (hK145 : ∀ (a2 : Int32) (ν : Me), K145 a2 ν → G x 4 145 [(0, .ref (gB x + o0)), (1, .int i1), (2, .int a2)] [] ν 0 0) (h : B_X11_undo_145 o0 i1 i2 μ K145 Q) : G x 4 145 [(0, .ref (gB x + o0)), (1, .int i1), (2, .int i2)] [] μ 0 0 := by
  unfold B_X11_undo_145 at h
  refine g_iload_n f 2 dX11_undo_145 rfl rfl ?_
  refine g_bipush f 60 dX11_undo_146 kb_60 ?_
  refine g_ic_ge f 178 dX11_undo_148 rfl h (fun h => ?_) (fun h => ?_)
  · refine g_aload_n f 0 dX11_undo_178 rfl rfl ?_
    obtain ⟨v12, h⟩ := h
    refine g_getR f fk_X11_7 v12 dX11_undo_179 rfl h (fun t13 h => ?_)
    refine g_iconst f 3 dX11_undo_182 kc_3 ?_
    obtain ⟨v14, h⟩ := h
    refine g_iald f v14 dX11_undo_183 h (fun h => ?_)
    exact g_iret f hq (Nat.le_of_ble_eq_true rfl) (Nat.le_of_ble_eq_true rfl) dX11_undo_184 h
  · refine g_aload_n f 0 dX11_undo_151 rfl rfl ?_
    obtain ⟨v15, h⟩ := h
    refine g_getR f fk_X11_7 v15 dX11_undo_152 rfl h (fun t16 h => ?_)
    refine g_sipush f 2807 dX11_undo_155 ks_2807 ?_
    refine g_iload_n f 2 dX11_undo_158 rfl rfl ?_
    refine g_iadd f dX11_undo_159 ?_
    refine g_aload_n f 0 dX11_undo_160 rfl rfl ?_
    refine g_getR f fk_X11_7 v15 dX11_undo_161 rfl h (fun t17 h => ?_)
    refine g_iload_n f 1 dX11_undo_164 rfl rfl ?_
    refine g_bipush f 30 dX11_undo_165 kb_30 ?_
    refine g_iadd f dX11_undo_167 ?_
    refine g_iload_n f 2 dX11_undo_168 rfl rfl ?_
    refine g_iadd f dX11_undo_169 ?_
    obtain ⟨v18, h⟩ := h
    refine g_iald f v18 dX11_undo_170 h (fun h => ?_)
    obtain ⟨v19, h⟩ := h
    refine g_iast f v19 dX11_undo_171 h (fun h => ?_)
    refine h_iinc f 2 1 dX11_undo_172 rfl kc_1 (by decide) ?_
    refine g_goto f 145 dX11_undo_175 rfl ?_
    exact h_sub [1, 2, 0] rfl (hK145 _ _ h)
def L_X11_undo_145 (o0 : Nat) (i1 : Int32) (i2 : Int32) (μ : Me) (Q : Int32 → Me → Prop) : Prop := ∃ I : Int32 → Me → Nat → Prop, (∃ n, I i2 μ n) ∧ ∀ (i2 : Int32) (μ : Me) (n : Nat), I i2 μ n → B_X11_undo_145 o0 i1 i2 μ (fun a2 ν => ∃ n', n' < n ∧ I a2 ν n') Q
set_option maxHeartbeats 4000000 in
set_option maxRecDepth 100000 in
theorem tL_X11_undo_145 {x : GX} (f : Fx x cX11_undo RX11 4 (rmc 2 0 0)) {o0 : Nat} {i1 : Int32} {i2 : Int32} {μ : Me} {Q : Int32 → Me → Prop} (hq : Rt x (some .int) (qI Q)) (h : L_X11_undo_145 o0 i1 i2 μ Q) : G x 4 145 [(0, .ref (gB x + o0)), (1, .int i1), (2, .int i2)] [] μ 0 0 := by
  obtain ⟨I, ⟨n, hI⟩, hs⟩ := h
  induction n using Nat.strongRecOn generalizing i2 μ with
  | ind n ih => exact tB_X11_undo_145 f hq (fun a2 ν hk => by obtain ⟨n2, hn, hI2⟩ := hk; exact ih n2 hn hI2) (hs _ _ _ hI)
def B_X11_undo_137 (o0 : Nat) (i1 : Int32) (i2 : Int32) (μ : Me) (K68 : Int32 → Me → Prop) (Q : Int32 → Me → Prop) : Prop := K68 (i2 + 1) μ
set_option maxHeartbeats 4000000 in
set_option maxRecDepth 100000 in
theorem tB_X11_undo_137 {x : GX} (f : Fx x cX11_undo RX11 4 (rmc 2 0 0)) {o0 : Nat} {i1 : Int32} {i2 : Int32} {μ : Me} {Q : Int32 → Me → Prop} (hq : Rt x (some .int) (qI Q)) {K68 : Int32 → Me → Prop} (hK68 : ∀ (a2 : Int32) (ν : Me), K68 a2 ν → G x 4 68 [(0, .ref (gB x + o0)), (1, .int i1), (2, .int a2)] [] ν 0 0) (h : B_X11_undo_137 o0 i1 i2 μ K68 Q) : G x 4 137 [(0, .ref (gB x + o0)), (1, .int i1), (2, .int i2)] [] μ 0 0 := by
  unfold B_X11_undo_137 at h
  refine h_iinc f 2 1 dX11_undo_137 rfl kc_1 (by decide) ?_
  refine g_goto f 68 dX11_undo_140 rfl ?_
  exact h_sub [1, 2, 0] rfl (hK68 _ _ h)
def B_X11_undo_95 (o0 : Nat) (i1 : Int32) (i2 : Int32) (i3 : Int32) (μ : Me) (K68 : Int32 → Me → Prop) (K95 : Int32 → Me → Prop) (Q : Int32 → Me → Prop) : Prop := ((3 ≤ i3 → B_X11_undo_137 o0 i1 i2 μ K68 Q) ∧ (¬ 3 ≤ i3 → mok μ o0 11 ∧ ∃ t24, mgr μ o0 0 = some t24 ∧ mok μ t24 12 ∧ vp_in i1 (mln μ t24) ∧ (((mgi μ t24 i1.toNatClampNeg) ≤ i2 → B_X11_undo_137 o0 i1 i2 μ K68 Q) ∧ (¬ (mgi μ t24 i1.toNatClampNeg) ≤ i2 → ∃ t26, mgr μ o0 0 = some t26 ∧ mok μ t26 12 ∧ vp_in (((i1 + 6) + (3 * i2)) + i3) (mln μ t26) ∧ S_X11_put o0 i2 i3 (mgi μ t26 (((i1 + 6) + (3 * i2)) + i3).toNatClampNeg) μ (fun μ28 => K95 (i3 + 1) μ28)))))
set_option maxHeartbeats 4000000 in
set_option maxRecDepth 100000 in
theorem tB_X11_undo_95 {x : GX} (f : Fx x cX11_undo RX11 4 (rmc 2 0 0)) {o0 : Nat} {i1 : Int32} {i2 : Int32} {i3 : Int32} {μ : Me} {Q : Int32 → Me → Prop} (hq : Rt x (some .int) (qI Q)) {K68 : Int32 → Me → Prop} {K95 : Int32 → Me → Prop} (hK68 : ∀ (a2 : Int32) (ν : Me), K68 a2 ν → G x 4 68 [(0, .ref (gB x + o0)), (1, .int i1), (2, .int a2)] [] ν 0 0) (hK95 : ∀ (a3 : Int32) (ν : Me), K95 a3 ν → G x 4 95 [(0, .ref (gB x + o0)), (1, .int i1), (2, .int i2), (3, .int a3)] [] ν 0 0) (h : B_X11_undo_95 o0 i1 i2 i3 μ K68 K95 Q) : G x 4 95 [(0, .ref (gB x + o0)), (1, .int i1), (2, .int i2), (3, .int i3)] [] μ 0 0 := by
  unfold B_X11_undo_95 at h
  refine g_iload_n f 3 dX11_undo_95 rfl rfl ?_
  refine g_iconst f 3 dX11_undo_96 kc_3 ?_
  refine g_ic_ge f 137 dX11_undo_97 rfl h (fun h => ?_) (fun h => ?_)
  · exact h_sub [0, 1, 2] rfl (tB_X11_undo_137 f hq hK68 h)
  · refine g_iload_n f 2 dX11_undo_100 rfl rfl ?_
    refine g_aload_n f 0 dX11_undo_101 rfl rfl ?_
    obtain ⟨v23, h⟩ := h
    refine g_getR f fk_X11_7 v23 dX11_undo_102 rfl h (fun t24 h => ?_)
    refine g_iload_n f 1 dX11_undo_105 rfl rfl ?_
    obtain ⟨v25, h⟩ := h
    refine g_iald f v25 dX11_undo_106 h (fun h => ?_)
    refine g_ic_ge f 137 dX11_undo_107 rfl h (fun h => ?_) (fun h => ?_)
    · exact h_sub [0, 1, 2] rfl (tB_X11_undo_137 f hq hK68 h)
    · refine g_aload_n f 0 dX11_undo_110 rfl rfl ?_
      refine g_iload_n f 2 dX11_undo_111 rfl rfl ?_
      refine g_iload_n f 3 dX11_undo_112 rfl rfl ?_
      refine g_aload_n f 0 dX11_undo_113 rfl rfl ?_
      refine g_getR f fk_X11_7 v23 dX11_undo_114 rfl h (fun t26 h => ?_)
      refine g_iload_n f 1 dX11_undo_117 rfl rfl ?_
      refine g_bipush f 6 dX11_undo_118 kb_6 ?_
      refine g_iadd f dX11_undo_120 ?_
      refine g_iconst f 3 dX11_undo_121 kc_3 ?_
      refine g_iload_n f 2 dX11_undo_122 rfl rfl ?_
      refine g_imul f dX11_undo_123 ?_
      refine g_iadd f dX11_undo_124 ?_
      refine g_iload_n f 3 dX11_undo_125 rfl rfl ?_
      refine g_iadd f dX11_undo_126 ?_
      obtain ⟨v27, h⟩ := h
      refine g_iald f v27 dX11_undo_127 h (fun h => ?_)
      refine g_callV f mk_X11_78 v23 (c_X11_put h) dX11_undo_128 rfl rfl (Nat.le_of_ble_eq_true rfl) (rm_ok (by decide) (by decide)) ⟨Nat.le_of_ble_eq_true rfl, Nat.le_of_ble_eq_true rfl⟩ (kV fun μ28 x29 h => ?_)
      refine h_iinc f 3 1 dX11_undo_131 rfl kc_1 (by decide) ?_
      refine g_goto f 95 dX11_undo_134 rfl ?_
      exact h_sub [1, 2, 3, 0] rfl (hK95 _ _ h)
def L_X11_undo_95 (o0 : Nat) (i1 : Int32) (i2 : Int32) (i3 : Int32) (μ : Me) (K68 : Int32 → Me → Prop) (Q : Int32 → Me → Prop) : Prop := ∃ I : Int32 → Me → Nat → Prop, (∃ n, I i3 μ n) ∧ ∀ (i3 : Int32) (μ : Me) (n : Nat), I i3 μ n → B_X11_undo_95 o0 i1 i2 i3 μ K68 (fun a3 ν => ∃ n', n' < n ∧ I a3 ν n') Q
set_option maxHeartbeats 4000000 in
set_option maxRecDepth 100000 in
theorem tL_X11_undo_95 {x : GX} (f : Fx x cX11_undo RX11 4 (rmc 2 0 0)) {o0 : Nat} {i1 : Int32} {i2 : Int32} {i3 : Int32} {μ : Me} {Q : Int32 → Me → Prop} (hq : Rt x (some .int) (qI Q)) {K68 : Int32 → Me → Prop} (hK68 : ∀ (a2 : Int32) (ν : Me), K68 a2 ν → G x 4 68 [(0, .ref (gB x + o0)), (1, .int i1), (2, .int a2)] [] ν 0 0) (h : L_X11_undo_95 o0 i1 i2 i3 μ K68 Q) : G x 4 95 [(0, .ref (gB x + o0)), (1, .int i1), (2, .int i2), (3, .int i3)] [] μ 0 0 := by
  obtain ⟨I, ⟨n, hI⟩, hs⟩ := h
  induction n using Nat.strongRecOn generalizing i3 μ with
  | ind n ih => exact tB_X11_undo_95 f hq hK68 (fun a3 ν hk => by obtain ⟨n2, hn, hI2⟩ := hk; exact ih n2 hn hI2) (hs _ _ _ hI)
def B_X11_undo_93 (o0 : Nat) (i1 : Int32) (i2 : Int32) (μ : Me) (K68 : Int32 → Me → Prop) (Q : Int32 → Me → Prop) : Prop := L_X11_undo_95 o0 i1 i2 0 μ K68 Q
set_option maxHeartbeats 4000000 in
set_option maxRecDepth 100000 in
theorem tB_X11_undo_93 {x : GX} (f : Fx x cX11_undo RX11 4 (rmc 2 0 0)) {o0 : Nat} {i1 : Int32} {i2 : Int32} {μ : Me} {Q : Int32 → Me → Prop} (hq : Rt x (some .int) (qI Q)) {K68 : Int32 → Me → Prop} (hK68 : ∀ (a2 : Int32) (ν : Me), K68 a2 ν → G x 4 68 [(0, .ref (gB x + o0)), (1, .int i1), (2, .int a2)] [] ν 0 0) (h : B_X11_undo_93 o0 i1 i2 μ K68 Q) : G x 4 93 [(0, .ref (gB x + o0)), (1, .int i1), (2, .int i2)] [] μ 0 0 := by
  unfold B_X11_undo_93 at h
  refine g_iconst f 0 dX11_undo_93 kc_0 ?_
  refine h_istore_n f dX11_undo_94 rfl (by decide) ?_
  exact h_sub [1, 2, 3, 0] rfl (tL_X11_undo_95 f hq hK68 h)
def B_X11_undo_68 (o0 : Nat) (i1 : Int32) (i2 : Int32) (μ : Me) (K68 : Int32 → Me → Prop) (Q : Int32 → Me → Prop) : Prop := mok μ o0 11 ∧ ∃ t10, mgr μ o0 0 = some t10 ∧ mok μ t10 12 ∧ vp_in (0 : Int32) (mln μ t10) ∧ (((mgi μ t10 (0 : Int32).toNatClampNeg) ≤ i2 → L_X11_undo_145 o0 i1 0 μ Q) ∧ (¬ (mgi μ t10 (0 : Int32).toNatClampNeg) ≤ i2 → ∃ t21, mgr μ o0 0 = some t21 ∧ mok μ t21 12 ∧ vp_in i1 (mln μ t21) ∧ ((i2 < (mgi μ t21 i1.toNatClampNeg) → B_X11_undo_93 o0 i1 i2 μ K68 Q) ∧ (¬ i2 < (mgi μ t21 i1.toNatClampNeg) → S_X11_begin o0 i2 μ (fun μ31 => B_X11_undo_93 o0 i1 i2 μ31 K68 Q)))))
set_option maxHeartbeats 4000000 in
set_option maxRecDepth 100000 in
theorem tB_X11_undo_68 {x : GX} (f : Fx x cX11_undo RX11 4 (rmc 2 0 0)) {o0 : Nat} {i1 : Int32} {i2 : Int32} {μ : Me} {Q : Int32 → Me → Prop} (hq : Rt x (some .int) (qI Q)) {K68 : Int32 → Me → Prop} (hK68 : ∀ (a2 : Int32) (ν : Me), K68 a2 ν → G x 4 68 [(0, .ref (gB x + o0)), (1, .int i1), (2, .int a2)] [] ν 0 0) (h : B_X11_undo_68 o0 i1 i2 μ K68 Q) : G x 4 68 [(0, .ref (gB x + o0)), (1, .int i1), (2, .int i2)] [] μ 0 0 := by
  unfold B_X11_undo_68 at h
  refine g_iload_n f 2 dX11_undo_68 rfl rfl ?_
  refine g_aload_n f 0 dX11_undo_69 rfl rfl ?_
  obtain ⟨v9, h⟩ := h
  refine g_getR f fk_X11_7 v9 dX11_undo_70 rfl h (fun t10 h => ?_)
  refine g_iconst f 0 dX11_undo_73 kc_0 ?_
  obtain ⟨v11, h⟩ := h
  refine g_iald f v11 dX11_undo_74 h (fun h => ?_)
  refine g_ic_ge f 143 dX11_undo_75 rfl h (fun h => ?_) (fun h => ?_)
  · refine g_iconst f 0 dX11_undo_143 kc_0 ?_
    refine h_istore_n f dX11_undo_144 rfl (by decide) ?_
    exact h_sub [1, 2, 0] rfl (tL_X11_undo_145 f hq h)
  · refine g_iload_n f 2 dX11_undo_78 rfl rfl ?_
    refine g_aload_n f 0 dX11_undo_79 rfl rfl ?_
    refine g_getR f fk_X11_7 v9 dX11_undo_80 rfl h (fun t21 h => ?_)
    refine g_iload_n f 1 dX11_undo_83 rfl rfl ?_
    obtain ⟨v22, h⟩ := h
    refine g_iald f v22 dX11_undo_84 h (fun h => ?_)
    refine g_ic_lt f 93 dX11_undo_85 rfl h (fun h => ?_) (fun h => ?_)
    · exact h_sub [0, 1, 2] rfl (tB_X11_undo_93 f hq hK68 h)
    · refine g_aload_n f 0 dX11_undo_88 rfl rfl ?_
      refine g_iload_n f 2 dX11_undo_89 rfl rfl ?_
      refine g_callV f mk_X11_82 v9 (c_X11_begin h) dX11_undo_90 rfl rfl (Nat.le_of_ble_eq_true rfl) (rm_ok (by decide) (by decide)) ⟨Nat.le_of_ble_eq_true rfl, Nat.le_of_ble_eq_true rfl⟩ (kV fun μ31 x32 h => ?_)
      exact h_sub [0, 1, 2] rfl (tB_X11_undo_93 f hq hK68 h)
def L_X11_undo_68 (o0 : Nat) (i1 : Int32) (i2 : Int32) (μ : Me) (Q : Int32 → Me → Prop) : Prop := ∃ I : Int32 → Me → Nat → Prop, (∃ n, I i2 μ n) ∧ ∀ (i2 : Int32) (μ : Me) (n : Nat), I i2 μ n → B_X11_undo_68 o0 i1 i2 μ (fun a2 ν => ∃ n', n' < n ∧ I a2 ν n') Q
set_option maxHeartbeats 4000000 in
set_option maxRecDepth 100000 in
theorem tL_X11_undo_68 {x : GX} (f : Fx x cX11_undo RX11 4 (rmc 2 0 0)) {o0 : Nat} {i1 : Int32} {i2 : Int32} {μ : Me} {Q : Int32 → Me → Prop} (hq : Rt x (some .int) (qI Q)) (h : L_X11_undo_68 o0 i1 i2 μ Q) : G x 4 68 [(0, .ref (gB x + o0)), (1, .int i1), (2, .int i2)] [] μ 0 0 := by
  obtain ⟨I, ⟨n, hI⟩, hs⟩ := h
  induction n using Nat.strongRecOn generalizing i2 μ with
  | ind n ih => exact tB_X11_undo_68 f hq (fun a2 ν hk => by obtain ⟨n2, hn, hI2⟩ := hk; exact ih n2 hn hI2) (hs _ _ _ hI)
def B_X11_undo_36 (o0 : Nat) (i1 : Int32) (i2 : Int32) (μ : Me) (K36 : Int32 → Me → Prop) (Q : Int32 → Me → Prop) : Prop := ((5 ≤ i2 → L_X11_undo_68 o0 i1 0 μ Q) ∧ (¬ 5 ≤ i2 → mok μ o0 11 ∧ ∃ t35, mgr μ o0 0 = some t35 ∧ ∃ t36, mgr μ o0 0 = some t36 ∧ mok μ t36 12 ∧ vp_in ((i1 + 1) + i2) (mln μ t36) ∧ mok μ t35 12 ∧ vp_in (6 + i2) (mln μ t35) ∧ ∀ μ39, μ39 = msi μ t35 (6 + i2).toNatClampNeg (mgi μ t36 ((i1 + 1) + i2).toNatClampNeg) → K36 (i2 + 1) μ39))
set_option maxHeartbeats 4000000 in
set_option maxRecDepth 100000 in
theorem tB_X11_undo_36 {x : GX} (f : Fx x cX11_undo RX11 4 (rmc 2 0 0)) {o0 : Nat} {i1 : Int32} {i2 : Int32} {μ : Me} {Q : Int32 → Me → Prop} (hq : Rt x (some .int) (qI Q)) {K36 : Int32 → Me → Prop} (hK36 : ∀ (a2 : Int32) (ν : Me), K36 a2 ν → G x 4 36 [(0, .ref (gB x + o0)), (1, .int i1), (2, .int a2)] [] ν 0 0) (h : B_X11_undo_36 o0 i1 i2 μ K36 Q) : G x 4 36 [(0, .ref (gB x + o0)), (1, .int i1), (2, .int i2)] [] μ 0 0 := by
  unfold B_X11_undo_36 at h
  refine g_iload_n f 2 dX11_undo_36 rfl rfl ?_
  refine g_iconst f 5 dX11_undo_37 kc_5 ?_
  refine g_ic_ge f 66 dX11_undo_38 rfl h (fun h => ?_) (fun h => ?_)
  · refine g_iconst f 0 dX11_undo_66 kc_0 ?_
    refine h_istore_n f dX11_undo_67 rfl (by decide) ?_
    exact h_sub [1, 2, 0] rfl (tL_X11_undo_68 f hq h)
  · refine g_aload_n f 0 dX11_undo_41 rfl rfl ?_
    obtain ⟨v34, h⟩ := h
    refine g_getR f fk_X11_7 v34 dX11_undo_42 rfl h (fun t35 h => ?_)
    refine g_bipush f 6 dX11_undo_45 kb_6 ?_
    refine g_iload_n f 2 dX11_undo_47 rfl rfl ?_
    refine g_iadd f dX11_undo_48 ?_
    refine g_aload_n f 0 dX11_undo_49 rfl rfl ?_
    refine g_getR f fk_X11_7 v34 dX11_undo_50 rfl h (fun t36 h => ?_)
    refine g_iload_n f 1 dX11_undo_53 rfl rfl ?_
    refine g_iconst f 1 dX11_undo_54 kc_1 ?_
    refine g_iadd f dX11_undo_55 ?_
    refine g_iload_n f 2 dX11_undo_56 rfl rfl ?_
    refine g_iadd f dX11_undo_57 ?_
    obtain ⟨v37, h⟩ := h
    refine g_iald f v37 dX11_undo_58 h (fun h => ?_)
    obtain ⟨v38, h⟩ := h
    refine g_iast f v38 dX11_undo_59 h (fun h => ?_)
    refine h_iinc f 2 1 dX11_undo_60 rfl kc_1 (by decide) ?_
    refine g_goto f 36 dX11_undo_63 rfl ?_
    exact h_sub [1, 2, 0] rfl (hK36 _ _ h)
def L_X11_undo_36 (o0 : Nat) (i1 : Int32) (i2 : Int32) (μ : Me) (Q : Int32 → Me → Prop) : Prop := ∃ I : Int32 → Me → Nat → Prop, (∃ n, I i2 μ n) ∧ ∀ (i2 : Int32) (μ : Me) (n : Nat), I i2 μ n → B_X11_undo_36 o0 i1 i2 μ (fun a2 ν => ∃ n', n' < n ∧ I a2 ν n') Q
set_option maxHeartbeats 4000000 in
set_option maxRecDepth 100000 in
theorem tL_X11_undo_36 {x : GX} (f : Fx x cX11_undo RX11 4 (rmc 2 0 0)) {o0 : Nat} {i1 : Int32} {i2 : Int32} {μ : Me} {Q : Int32 → Me → Prop} (hq : Rt x (some .int) (qI Q)) (h : L_X11_undo_36 o0 i1 i2 μ Q) : G x 4 36 [(0, .ref (gB x + o0)), (1, .int i1), (2, .int i2)] [] μ 0 0 := by
  obtain ⟨I, ⟨n, hI⟩, hs⟩ := h
  induction n using Nat.strongRecOn generalizing i2 μ with
  | ind n ih => exact tB_X11_undo_36 f hq (fun a2 ν hk => by obtain ⟨n2, hn, hI2⟩ := hk; exact ih n2 hn hI2) (hs _ _ _ hI)
def S_X11_undo (o0 : Nat) (μ : Me) (Q : Int32 → Me → Prop) : Prop := mok μ o0 11 ∧ ∃ t2, mgr μ o0 0 = some t2 ∧ mok μ t2 12 ∧ vp_in (3 : Int32) (mln μ t2) ∧ ((¬ (mgi μ t2 (3 : Int32).toNatClampNeg) = 0 → ∃ t4, mgr μ o0 0 = some t4 ∧ mok μ t4 12 ∧ vp_in (3 : Int32) (mln μ t4) ∧ vp_in (3 : Int32) (mln μ t4) ∧ ∀ μ6, μ6 = msi μ t4 (3 : Int32).toNatClampNeg ((mgi μ t4 (3 : Int32).toNatClampNeg) - 1) → ∃ t7, mgr μ6 o0 0 = some t7 ∧ mok μ6 t7 12 ∧ vp_in (3 : Int32) (mln μ6 t7) ∧ L_X11_undo_36 o0 (107 + (90 * (mgi μ6 t7 (3 : Int32).toNatClampNeg))) 0 μ6 Q) ∧ ((mgi μ t2 (3 : Int32).toNatClampNeg) = 0 → Q (-1) μ))
set_option maxHeartbeats 4000000 in
set_option maxRecDepth 100000 in
theorem t_X11_undo {x : GX} (f : Fx x cX11_undo RX11 4 (rmc 2 0 0)) {o0 : Nat} {μ : Me} {Q : Int32 → Me → Prop} (hq : Rt x (some .int) (qI Q)) (h : S_X11_undo o0 μ Q) : G x 4 0 [(0, .ref (gB x + o0))] [] μ 0 0 := by
  unfold S_X11_undo at h
  refine g_aload_n f 0 dX11_undo_0 rfl rfl ?_
  obtain ⟨v1, h⟩ := h
  refine g_getR f fk_X11_7 v1 dX11_undo_1 rfl h (fun t2 h => ?_)
  refine g_iconst f 3 dX11_undo_4 kc_3 ?_
  obtain ⟨v3, h⟩ := h
  refine g_iald f v3 dX11_undo_5 h (fun h => ?_)
  refine g_if_ne f 11 dX11_undo_6 rfl h (fun h => ?_) (fun h => ?_)
  · refine g_aload_n f 0 dX11_undo_11 rfl rfl ?_
    refine g_getR f fk_X11_7 v1 dX11_undo_12 rfl h (fun t4 h => ?_)
    refine g_iconst f 3 dX11_undo_15 kc_3 ?_
    refine g_dup2_11 f dX11_undo_16 rfl rfl ?_
    obtain ⟨v5, h⟩ := h
    refine g_iald f v5 dX11_undo_17 h (fun h => ?_)
    refine g_iconst f 1 dX11_undo_18 kc_1 ?_
    refine g_isub f dX11_undo_19 ?_
    refine g_iast f v5 dX11_undo_20 h (fun h => ?_)
    refine g_bipush f 107 dX11_undo_21 kb_107 ?_
    refine g_bipush f 90 dX11_undo_23 kb_90 ?_
    refine g_aload_n f 0 dX11_undo_25 rfl rfl ?_
    refine g_getR f fk_X11_7 v1 dX11_undo_26 rfl h (fun t7 h => ?_)
    refine g_iconst f 3 dX11_undo_29 kc_3 ?_
    obtain ⟨v8, h⟩ := h
    refine g_iald f v8 dX11_undo_30 h (fun h => ?_)
    refine g_imul f dX11_undo_31 ?_
    refine g_iadd f dX11_undo_32 ?_
    refine h_istore_n f dX11_undo_33 rfl (by decide) ?_
    refine g_iconst f 0 dX11_undo_34 kc_0 ?_
    refine h_istore_n f dX11_undo_35 rfl (by decide) ?_
    exact h_sub [2, 1, 0] rfl (tL_X11_undo_36 f hq h)
  · refine g_iconst f (-1) dX11_undo_9 kc_m1 ?_
    exact g_iret f hq (Nat.le_of_ble_eq_true rfl) (Nat.le_of_ble_eq_true rfl) dX11_undo_10 h
theorem c_X11_undo {Ω : OM} {o0 : Nat} {μ : Me} {Q : Int32 → Me → Prop} (h : S_X11_undo o0 μ Q) : CT Ω yX11_undo cX11_undo 4 (some .int) (rmc 2 0 0) [.ref (oB Ω + o0)] μ (qI Q) := CT_of (by decide) rfl (by simp [lg_sl, Value.category]) (fun x hΩ f hq hi => by subst hΩ; exact t_X11_undo f hq h)
