/-! contracts by program (wip/whole/gen.py) -/
theorem dJ6_bitCount_0f7a4_0 : decode cJ6_bitCount_0f7a4 0 = .ok (.iload_n 0, 1) := by decide +kernel
theorem dJ6_bitCount_0f7a4_1 : decode cJ6_bitCount_0f7a4 1 = .ok (.iload_n 0, 1) := by decide +kernel
theorem dJ6_bitCount_0f7a4_2 : decode cJ6_bitCount_0f7a4 2 = .ok (.iconst 1, 1) := by decide +kernel
theorem dJ6_bitCount_0f7a4_3 : decode cJ6_bitCount_0f7a4 3 = .ok (.iushr, 1) := by decide +kernel
theorem dJ6_bitCount_0f7a4_4 : decode cJ6_bitCount_0f7a4 4 = .ok (.ldc_w 265, 3) := by decide +kernel
theorem dJ6_bitCount_0f7a4_7 : decode cJ6_bitCount_0f7a4 7 = .ok (.iand, 1) := by decide +kernel
theorem dJ6_bitCount_0f7a4_8 : decode cJ6_bitCount_0f7a4 8 = .ok (.isub, 1) := by decide +kernel
theorem dJ6_bitCount_0f7a4_9 : decode cJ6_bitCount_0f7a4 9 = .ok (.istore_n 0, 1) := by decide +kernel
theorem dJ6_bitCount_0f7a4_10 : decode cJ6_bitCount_0f7a4 10 = .ok (.iload_n 0, 1) := by decide +kernel
theorem dJ6_bitCount_0f7a4_11 : decode cJ6_bitCount_0f7a4 11 = .ok (.ldc_w 266, 3) := by decide +kernel
theorem dJ6_bitCount_0f7a4_14 : decode cJ6_bitCount_0f7a4 14 = .ok (.iand, 1) := by decide +kernel
theorem dJ6_bitCount_0f7a4_15 : decode cJ6_bitCount_0f7a4 15 = .ok (.iload_n 0, 1) := by decide +kernel
theorem dJ6_bitCount_0f7a4_16 : decode cJ6_bitCount_0f7a4 16 = .ok (.iconst 2, 1) := by decide +kernel
theorem dJ6_bitCount_0f7a4_17 : decode cJ6_bitCount_0f7a4 17 = .ok (.iushr, 1) := by decide +kernel
theorem dJ6_bitCount_0f7a4_18 : decode cJ6_bitCount_0f7a4 18 = .ok (.ldc_w 266, 3) := by decide +kernel
theorem dJ6_bitCount_0f7a4_21 : decode cJ6_bitCount_0f7a4 21 = .ok (.iand, 1) := by decide +kernel
theorem dJ6_bitCount_0f7a4_22 : decode cJ6_bitCount_0f7a4 22 = .ok (.iadd, 1) := by decide +kernel
theorem dJ6_bitCount_0f7a4_23 : decode cJ6_bitCount_0f7a4 23 = .ok (.istore_n 0, 1) := by decide +kernel
theorem dJ6_bitCount_0f7a4_24 : decode cJ6_bitCount_0f7a4 24 = .ok (.iload_n 0, 1) := by decide +kernel
theorem dJ6_bitCount_0f7a4_25 : decode cJ6_bitCount_0f7a4 25 = .ok (.iload_n 0, 1) := by decide +kernel
theorem dJ6_bitCount_0f7a4_26 : decode cJ6_bitCount_0f7a4 26 = .ok (.iconst 4, 1) := by decide +kernel
theorem dJ6_bitCount_0f7a4_27 : decode cJ6_bitCount_0f7a4 27 = .ok (.iushr, 1) := by decide +kernel
theorem dJ6_bitCount_0f7a4_28 : decode cJ6_bitCount_0f7a4 28 = .ok (.iadd, 1) := by decide +kernel
theorem dJ6_bitCount_0f7a4_29 : decode cJ6_bitCount_0f7a4 29 = .ok (.ldc_w 267, 3) := by decide +kernel
theorem dJ6_bitCount_0f7a4_32 : decode cJ6_bitCount_0f7a4 32 = .ok (.iand, 1) := by decide +kernel
theorem dJ6_bitCount_0f7a4_33 : decode cJ6_bitCount_0f7a4 33 = .ok (.istore_n 0, 1) := by decide +kernel
theorem dJ6_bitCount_0f7a4_34 : decode cJ6_bitCount_0f7a4 34 = .ok (.iload_n 0, 1) := by decide +kernel
theorem dJ6_bitCount_0f7a4_35 : decode cJ6_bitCount_0f7a4 35 = .ok (.iload_n 0, 1) := by decide +kernel
theorem dJ6_bitCount_0f7a4_36 : decode cJ6_bitCount_0f7a4 36 = .ok (.bipush 8, 2) := by decide +kernel
theorem dJ6_bitCount_0f7a4_38 : decode cJ6_bitCount_0f7a4 38 = .ok (.iushr, 1) := by decide +kernel
theorem dJ6_bitCount_0f7a4_39 : decode cJ6_bitCount_0f7a4 39 = .ok (.iadd, 1) := by decide +kernel
theorem dJ6_bitCount_0f7a4_40 : decode cJ6_bitCount_0f7a4 40 = .ok (.istore_n 0, 1) := by decide +kernel
theorem dJ6_bitCount_0f7a4_41 : decode cJ6_bitCount_0f7a4 41 = .ok (.iload_n 0, 1) := by decide +kernel
theorem dJ6_bitCount_0f7a4_42 : decode cJ6_bitCount_0f7a4 42 = .ok (.iload_n 0, 1) := by decide +kernel
theorem dJ6_bitCount_0f7a4_43 : decode cJ6_bitCount_0f7a4 43 = .ok (.bipush 16, 2) := by decide +kernel
theorem dJ6_bitCount_0f7a4_45 : decode cJ6_bitCount_0f7a4 45 = .ok (.iushr, 1) := by decide +kernel
theorem dJ6_bitCount_0f7a4_46 : decode cJ6_bitCount_0f7a4 46 = .ok (.iadd, 1) := by decide +kernel
theorem dJ6_bitCount_0f7a4_47 : decode cJ6_bitCount_0f7a4 47 = .ok (.istore_n 0, 1) := by decide +kernel
theorem dJ6_bitCount_0f7a4_48 : decode cJ6_bitCount_0f7a4 48 = .ok (.iload_n 0, 1) := by decide +kernel
theorem dJ6_bitCount_0f7a4_49 : decode cJ6_bitCount_0f7a4 49 = .ok (.bipush 63, 2) := by decide +kernel
theorem dJ6_bitCount_0f7a4_51 : decode cJ6_bitCount_0f7a4 51 = .ok (.iand, 1) := by decide +kernel
theorem dJ6_bitCount_0f7a4_52 : decode cJ6_bitCount_0f7a4 52 = .ok (.ireturn, 1) := by decide +kernel
def S_J6_bitCount_0f7a4 (i0 : Int32) (μ : Me) (Q : Int32 → Me → Prop) : Prop := Q ((((((((i0 - ((i0.toUInt32 >>> ((1 : Int32).toUInt32 &&& Int32.toUInt32 31)).toInt32 &&& 1431655765)) &&& 858993459) + (((i0 - ((i0.toUInt32 >>> ((1 : Int32).toUInt32 &&& Int32.toUInt32 31)).toInt32 &&& 1431655765)).toUInt32 >>> ((2 : Int32).toUInt32 &&& Int32.toUInt32 31)).toInt32 &&& 858993459)) + ((((i0 - ((i0.toUInt32 >>> ((1 : Int32).toUInt32 &&& Int32.toUInt32 31)).toInt32 &&& 1431655765)) &&& 858993459) + (((i0 - ((i0.toUInt32 >>> ((1 : Int32).toUInt32 &&& Int32.toUInt32 31)).toInt32 &&& 1431655765)).toUInt32 >>> ((2 : Int32).toUInt32 &&& Int32.toUInt32 31)).toInt32 &&& 858993459)).toUInt32 >>> ((4 : Int32).toUInt32 &&& Int32.toUInt32 31)).toInt32) &&& 252645135) + ((((((i0 - ((i0.toUInt32 >>> ((1 : Int32).toUInt32 &&& Int32.toUInt32 31)).toInt32 &&& 1431655765)) &&& 858993459) + (((i0 - ((i0.toUInt32 >>> ((1 : Int32).toUInt32 &&& Int32.toUInt32 31)).toInt32 &&& 1431655765)).toUInt32 >>> ((2 : Int32).toUInt32 &&& Int32.toUInt32 31)).toInt32 &&& 858993459)) + ((((i0 - ((i0.toUInt32 >>> ((1 : Int32).toUInt32 &&& Int32.toUInt32 31)).toInt32 &&& 1431655765)) &&& 858993459) + (((i0 - ((i0.toUInt32 >>> ((1 : Int32).toUInt32 &&& Int32.toUInt32 31)).toInt32 &&& 1431655765)).toUInt32 >>> ((2 : Int32).toUInt32 &&& Int32.toUInt32 31)).toInt32 &&& 858993459)).toUInt32 >>> ((4 : Int32).toUInt32 &&& Int32.toUInt32 31)).toInt32) &&& 252645135).toUInt32 >>> ((8 : Int32).toUInt32 &&& Int32.toUInt32 31)).toInt32) + (((((((i0 - ((i0.toUInt32 >>> ((1 : Int32).toUInt32 &&& Int32.toUInt32 31)).toInt32 &&& 1431655765)) &&& 858993459) + (((i0 - ((i0.toUInt32 >>> ((1 : Int32).toUInt32 &&& Int32.toUInt32 31)).toInt32 &&& 1431655765)).toUInt32 >>> ((2 : Int32).toUInt32 &&& Int32.toUInt32 31)).toInt32 &&& 858993459)) + ((((i0 - ((i0.toUInt32 >>> ((1 : Int32).toUInt32 &&& Int32.toUInt32 31)).toInt32 &&& 1431655765)) &&& 858993459) + (((i0 - ((i0.toUInt32 >>> ((1 : Int32).toUInt32 &&& Int32.toUInt32 31)).toInt32 &&& 1431655765)).toUInt32 >>> ((2 : Int32).toUInt32 &&& Int32.toUInt32 31)).toInt32 &&& 858993459)).toUInt32 >>> ((4 : Int32).toUInt32 &&& Int32.toUInt32 31)).toInt32) &&& 252645135) + ((((((i0 - ((i0.toUInt32 >>> ((1 : Int32).toUInt32 &&& Int32.toUInt32 31)).toInt32 &&& 1431655765)) &&& 858993459) + (((i0 - ((i0.toUInt32 >>> ((1 : Int32).toUInt32 &&& Int32.toUInt32 31)).toInt32 &&& 1431655765)).toUInt32 >>> ((2 : Int32).toUInt32 &&& Int32.toUInt32 31)).toInt32 &&& 858993459)) + ((((i0 - ((i0.toUInt32 >>> ((1 : Int32).toUInt32 &&& Int32.toUInt32 31)).toInt32 &&& 1431655765)) &&& 858993459) + (((i0 - ((i0.toUInt32 >>> ((1 : Int32).toUInt32 &&& Int32.toUInt32 31)).toInt32 &&& 1431655765)).toUInt32 >>> ((2 : Int32).toUInt32 &&& Int32.toUInt32 31)).toInt32 &&& 858993459)).toUInt32 >>> ((4 : Int32).toUInt32 &&& Int32.toUInt32 31)).toInt32) &&& 252645135).toUInt32 >>> ((8 : Int32).toUInt32 &&& Int32.toUInt32 31)).toInt32).toUInt32 >>> ((16 : Int32).toUInt32 &&& Int32.toUInt32 31)).toInt32) &&& 63) μ
set_option maxHeartbeats 4000000 in
set_option maxRecDepth 100000 in
theorem t_J6_bitCount_0f7a4 {x : GX} (f : Fx x cJ6_bitCount_0f7a4 RJ6 1 (rmc 0 0 0)) {i0 : Int32} {μ : Me} {Q : Int32 → Me → Prop} (hq : Rt x (some .int) (qI Q)) (h : S_J6_bitCount_0f7a4 i0 μ Q) : G x 1 0 [(0, .int i0)] [] μ 0 0 := by
  unfold S_J6_bitCount_0f7a4 at h
  refine g_iload_n f 0 dJ6_bitCount_0f7a4_0 rfl rfl ?_
  refine g_iload_n f 0 dJ6_bitCount_0f7a4_1 rfl rfl ?_
  refine g_iconst f 1 dJ6_bitCount_0f7a4_2 kc_1 ?_
  refine g_iushr f dJ6_bitCount_0f7a4_3 ?_
  refine g_ldcw f w_921 dJ6_bitCount_0f7a4_4 ?_
  refine g_iand f dJ6_bitCount_0f7a4_7 ?_
  refine g_isub f dJ6_bitCount_0f7a4_8 ?_
  refine h_istore_n f dJ6_bitCount_0f7a4_9 rfl (by decide) ?_
  refine g_iload_n f 0 dJ6_bitCount_0f7a4_10 rfl rfl ?_
  refine g_ldcw f w_922 dJ6_bitCount_0f7a4_11 ?_
  refine g_iand f dJ6_bitCount_0f7a4_14 ?_
  refine g_iload_n f 0 dJ6_bitCount_0f7a4_15 rfl rfl ?_
  refine g_iconst f 2 dJ6_bitCount_0f7a4_16 kc_2 ?_
  refine g_iushr f dJ6_bitCount_0f7a4_17 ?_
  refine g_ldcw f w_922 dJ6_bitCount_0f7a4_18 ?_
  refine g_iand f dJ6_bitCount_0f7a4_21 ?_
  refine g_iadd f dJ6_bitCount_0f7a4_22 ?_
  refine h_istore_n f dJ6_bitCount_0f7a4_23 rfl (by decide) ?_
  refine g_iload_n f 0 dJ6_bitCount_0f7a4_24 rfl rfl ?_
  refine g_iload_n f 0 dJ6_bitCount_0f7a4_25 rfl rfl ?_
  refine g_iconst f 4 dJ6_bitCount_0f7a4_26 kc_4 ?_
  refine g_iushr f dJ6_bitCount_0f7a4_27 ?_
  refine g_iadd f dJ6_bitCount_0f7a4_28 ?_
  refine g_ldcw f w_923 dJ6_bitCount_0f7a4_29 ?_
  refine g_iand f dJ6_bitCount_0f7a4_32 ?_
  refine h_istore_n f dJ6_bitCount_0f7a4_33 rfl (by decide) ?_
  refine g_iload_n f 0 dJ6_bitCount_0f7a4_34 rfl rfl ?_
  refine g_iload_n f 0 dJ6_bitCount_0f7a4_35 rfl rfl ?_
  refine g_bipush f 8 dJ6_bitCount_0f7a4_36 kb_8 ?_
  refine g_iushr f dJ6_bitCount_0f7a4_38 ?_
  refine g_iadd f dJ6_bitCount_0f7a4_39 ?_
  refine h_istore_n f dJ6_bitCount_0f7a4_40 rfl (by decide) ?_
  refine g_iload_n f 0 dJ6_bitCount_0f7a4_41 rfl rfl ?_
  refine g_iload_n f 0 dJ6_bitCount_0f7a4_42 rfl rfl ?_
  refine g_bipush f 16 dJ6_bitCount_0f7a4_43 kb_16 ?_
  refine g_iushr f dJ6_bitCount_0f7a4_45 ?_
  refine g_iadd f dJ6_bitCount_0f7a4_46 ?_
  refine h_istore_n f dJ6_bitCount_0f7a4_47 rfl (by decide) ?_
  refine g_iload_n f 0 dJ6_bitCount_0f7a4_48 rfl rfl ?_
  refine g_bipush f 63 dJ6_bitCount_0f7a4_49 kb_63 ?_
  refine g_iand f dJ6_bitCount_0f7a4_51 ?_
  exact g_iret f hq (Nat.le_of_ble_eq_true rfl) (Nat.le_of_ble_eq_true rfl) dJ6_bitCount_0f7a4_52 h
theorem c_J6_bitCount_0f7a4 {Ω : OM} {i0 : Int32} {μ : Me} {Q : Int32 → Me → Prop} (h : S_J6_bitCount_0f7a4 i0 μ Q) : CT Ω yJ6_bitCount_0f7a4 cJ6_bitCount_0f7a4 1 (some .int) (rmc 0 0 0) [.int i0] μ (qI Q) := CT_of (by decide) rfl (by simp [lg_sl, Value.category]) (fun x hΩ f hq hi => by subst hΩ; exact t_J6_bitCount_0f7a4 f hq h)
theorem dX0_init_0 : decode cX0_init 0 = .ok (.aload_n 0, 1) := by decide +kernel
theorem dX0_init_1 : decode cX0_init 1 = .ok (.invokespecial 3, 3) := by decide +kernel
theorem dX0_init_4 : decode cX0_init 4 = .ok (.aload_n 0, 1) := by decide +kernel
theorem dX0_init_5 : decode cX0_init 5 = .ok (.sipush 256, 3) := by decide +kernel
theorem dX0_init_8 : decode cX0_init 8 = .ok (.newarray .int, 2) := by decide +kernel
theorem dX0_init_10 : decode cX0_init 10 = .ok (.putfield 9, 3) := by decide +kernel
theorem dX0_init_13 : decode cX0_init 13 = .ok (.aload_n 0, 1) := by decide +kernel
theorem dX0_init_14 : decode cX0_init 14 = .ok (.bipush 8, 2) := by decide +kernel
theorem dX0_init_16 : decode cX0_init 16 = .ok (.newarray .int, 2) := by decide +kernel
theorem dX0_init_18 : decode cX0_init 18 = .ok (.putfield 15, 3) := by decide +kernel
theorem dX0_init_21 : decode cX0_init 21 = .ok (.aload_n 0, 1) := by decide +kernel
theorem dX0_init_22 : decode cX0_init 22 = .ok (.iconst 1, 1) := by decide +kernel
theorem dX0_init_23 : decode cX0_init 23 = .ok (.newarray .int, 2) := by decide +kernel
theorem dX0_init_25 : decode cX0_init 25 = .ok (.putfield 18, 3) := by decide +kernel
theorem dX0_init_28 : decode cX0_init 28 = .ok (.aload_n 0, 1) := by decide +kernel
theorem dX0_init_29 : decode cX0_init 29 = .ok (.aload_n 1, 1) := by decide +kernel
theorem dX0_init_30 : decode cX0_init 30 = .ok (.putfield 21, 3) := by decide +kernel
theorem dX0_init_33 : decode cX0_init 33 = .ok (.aload_n 0, 1) := by decide +kernel
theorem dX0_init_34 : decode cX0_init 34 = .ok (.aload_n 2, 1) := by decide +kernel
theorem dX0_init_35 : decode cX0_init 35 = .ok (.putfield 25, 3) := by decide +kernel
theorem dX0_init_38 : decode cX0_init 38 = .ok (.return_, 1) := by decide +kernel
def S_X0_init (o0 : Nat) (o1 : Nat) (o2 : Nat) (μ : Me) (Q : Me → Prop) : Prop := ∀ μ1, μ1 = mnw μ 12 256 → mok μ1 o0 0 ∧ ∀ μ5, μ5 = msr μ1 o0 2 (some (mnn μ)) → ∀ μ6, μ6 = mnw μ5 12 8 → ∀ μ9, μ9 = msr μ6 o0 3 (some (mnn μ5)) → ∀ μ10, μ10 = mnw μ9 12 1 → ∀ μ13, μ13 = msr μ10 o0 4 (some (mnn μ9)) → ∀ μ14, μ14 = msr μ13 o0 0 (some o1) → ∀ μ15, μ15 = msr μ14 o0 1 (some o2) → Q μ15
set_option maxHeartbeats 4000000 in
set_option maxRecDepth 100000 in
theorem t_X0_init {x : GX} (f : Fx x cX0_init RX0 3 (rmc 0 3 265)) {o0 : Nat} {o1 : Nat} {o2 : Nat} {μ : Me} {Q : Me → Prop} (hq : Rt x none (qV Q)) (hi : x.1.2.2.2.2.2.2.2.1.name = "<init>") (h : S_X0_init o0 o1 o2 μ Q) : G x 3 0 [(0, .ref (gB x + o0)), (1, .ref (gB x + o1)), (2, .ref (gB x + o2))] [] μ 0 0 := by
  unfold S_X0_init at h
  refine g_aload_n f 0 dX0_init_0 rfl rfl ?_
  refine g_objInit f w_485 w_126 w_127 dX0_init_1 rm_fr (Nat.le_of_ble_eq_true rfl) ?_
  refine g_aload_n f 0 dX0_init_4 rfl rfl ?_
  refine g_sipush f 256 dX0_init_5 ks_256 ?_
  refine g_newa (c := 12) (N := 256) (cap := 256) f .int (Or.inl ⟨rfl, rfl⟩) dX0_init_8 w_187 (by decide) (by decide) (Nat.le_refl _) (Nat.le_of_ble_eq_true rfl) (Nat.le_of_ble_eq_true rfl) (Nat.le_of_ble_eq_true rfl) h (fun h v2 x3 => ?_)
  obtain ⟨v4, h⟩ := h
  refine g_putFQ (r := some _) f fk_X0_9 rfl hi v4 dX0_init_10 rfl (Or.inr ⟨_, rfl⟩) h (fun h => ?_)
  refine g_aload_n f 0 dX0_init_13 rfl rfl ?_
  refine g_bipush f 8 dX0_init_14 kb_8 ?_
  refine g_newa (c := 12) (N := 8) (cap := 8) f .int (Or.inl ⟨rfl, rfl⟩) dX0_init_16 w_187 (by decide) (by decide) (Nat.le_refl _) (Nat.le_of_ble_eq_true rfl) (Nat.le_of_ble_eq_true rfl) (Nat.le_of_ble_eq_true rfl) h (fun h v7 x8 => ?_)
  have v4 := mex_ok x8 v4
  refine g_putFQ (r := some _) f fk_X0_15 rfl hi v4 dX0_init_18 rfl (Or.inr ⟨_, rfl⟩) h (fun h => ?_)
  refine g_aload_n f 0 dX0_init_21 rfl rfl ?_
  refine g_iconst f 1 dX0_init_22 kc_1 ?_
  refine g_newa (c := 12) (N := 1) (cap := 1) f .int (Or.inl ⟨rfl, rfl⟩) dX0_init_23 w_187 (by decide) (by decide) (Nat.le_refl _) (Nat.le_of_ble_eq_true rfl) (Nat.le_of_ble_eq_true rfl) (Nat.le_of_ble_eq_true rfl) h (fun h v11 x12 => ?_)
  have v4 := mex_ok x12 v4
  refine g_putQ (r := some _) f fk_X0_18 v4 dX0_init_25 rfl (Or.inr ⟨_, rfl⟩) h (fun h => ?_)
  refine g_aload_n f 0 dX0_init_28 rfl rfl ?_
  refine g_aload_n f 1 dX0_init_29 rfl rfl ?_
  refine g_putFQ (r := some _) f fk_X0_21 rfl hi v4 dX0_init_30 rfl (Or.inl ⟨_, rfl⟩) h (fun h => ?_)
  refine g_aload_n f 0 dX0_init_33 rfl rfl ?_
  refine g_aload_n f 2 dX0_init_34 rfl rfl ?_
  refine g_putFQ (r := some _) f fk_X0_25 rfl hi v4 dX0_init_35 rfl (Or.inl ⟨_, rfl⟩) h (fun h => ?_)
  exact g_vret f hq (Nat.le_of_ble_eq_true rfl) (Nat.le_of_ble_eq_true rfl) dX0_init_38 h
theorem c_X0_init {Ω : OM} {o0 : Nat} {o1 : Nat} {o2 : Nat} {μ : Me} {Q : Me → Prop} (h : S_X0_init o0 o1 o2 μ Q) : CT Ω yX0_init cX0_init 3 none (rmc 0 3 265) [.ref (oB Ω + o0), .ref (oB Ω + o1), .ref (oB Ω + o2)] μ (qV Q) := CT_of (by decide) rfl (by simp [lg_sl, Value.category]) (fun x hΩ f hq hi => by subst hΩ; exact t_X0_init f hq (hi rfl) h)
theorem dJ0_coder_7d493_0 : decode cJ0_coder_7d493 0 = .ok (.getstatic 38, 3) := by decide +kernel
theorem dJ0_coder_7d493_3 : decode cJ0_coder_7d493 3 = .ok (.ifCond .eq 10, 3) := by decide +kernel
theorem dJ0_coder_7d493_6 : decode cJ0_coder_7d493 6 = .ok (.aload_n 0, 1) := by decide +kernel
theorem dJ0_coder_7d493_7 : decode cJ0_coder_7d493 7 = .ok (.getfield 15, 3) := by decide +kernel
theorem dJ0_coder_7d493_10 : decode cJ0_coder_7d493 10 = .ok (.goto 4, 3) := by decide +kernel
theorem dJ0_coder_7d493_13 : decode cJ0_coder_7d493 13 = .ok (.iconst 1, 1) := by decide +kernel
theorem dJ0_coder_7d493_14 : decode cJ0_coder_7d493 14 = .ok (.ireturn, 1) := by decide +kernel
def S_J0_coder_7d493 (n0 : Nat) (μ : Me) (Q : Int32 → Me → Prop) : Prop := (((1 : Int32) = 0 → narrow .byte (.int 1) = .int 1 ∧ Q 1 μ) ∧ (¬ (1 : Int32) = 0 → n0 < 2 ∧ narrow .byte (.int 0) = .int 0 ∧ Q 0 μ))
set_option maxHeartbeats 4000000 in
set_option maxRecDepth 100000 in
theorem t_J0_coder_7d493 {x : GX} (f : Fx x cJ0_coder_7d493 RJ0 1 (rmc 0 0 0)) {n0 : Nat} {μ : Me} {Q : Int32 → Me → Prop} (hq : Rt x (some .byte) (qI Q)) (h : S_J0_coder_7d493 n0 μ Q) : G x 1 0 [(0, .ref (gK x n0))] [] μ 0 0 := by
  unfold S_J0_coder_7d493 at h
  refine g_gstC f w_614 dJ0_coder_7d493_0 ?_
  refine g_if_eq f 13 dJ0_coder_7d493_3 rfl h (fun h => ?_) (fun h => ?_)
  · refine g_iconst f 1 dJ0_coder_7d493_13 kc_1 ?_
    exact g_nret f hq (Nat.le_of_ble_eq_true rfl) (Nat.le_of_ble_eq_true rfl) dJ0_coder_7d493_14 h.1 h.2
  · refine g_aload_n f 0 dJ0_coder_7d493_6 rfl rfl ?_
    obtain ⟨v1, h⟩ := h
    refine g_sget f v1 (Or.inl ⟨rfl, rfl, rfl⟩) w_2016 dJ0_coder_7d493_7 ?_
    refine g_goto f 14 dJ0_coder_7d493_10 rfl ?_
    exact g_nret f hq (Nat.le_of_ble_eq_true rfl) (Nat.le_of_ble_eq_true rfl) dJ0_coder_7d493_14 h.1 h.2
theorem c_J0_coder_7d493 {Ω : OM} {n0 : Nat} {μ : Me} {Q : Int32 → Me → Prop} (h : S_J0_coder_7d493 n0 μ Q) : CT Ω yJ0_coder_7d493 cJ0_coder_7d493 1 (some .byte) (rmc 0 0 0) [.ref (oK Ω n0)] μ (qI Q) := CT_of (by decide) rfl (by simp [lg_sl, Value.category]) (fun x hΩ f hq hi => by subst hΩ; exact t_J0_coder_7d493 f hq h)
theorem dJ0_length_8abf5_0 : decode cJ0_length_8abf5 0 = .ok (.aload_n 0, 1) := by decide +kernel
theorem dJ0_length_8abf5_1 : decode cJ0_length_8abf5 1 = .ok (.getfield 9, 3) := by decide +kernel
theorem dJ0_length_8abf5_4 : decode cJ0_length_8abf5 4 = .ok (.arraylength, 1) := by decide +kernel
theorem dJ0_length_8abf5_5 : decode cJ0_length_8abf5 5 = .ok (.aload_n 0, 1) := by decide +kernel
theorem dJ0_length_8abf5_6 : decode cJ0_length_8abf5 6 = .ok (.invokevirtual 335, 3) := by decide +kernel
theorem dJ0_length_8abf5_9 : decode cJ0_length_8abf5 9 = .ok (.ishr, 1) := by decide +kernel
theorem dJ0_length_8abf5_10 : decode cJ0_length_8abf5 10 = .ok (.ireturn, 1) := by decide +kernel
def S_J0_length_8abf5 (n0 : Nat) (μ : Me) (Q : Int32 → Me → Prop) : Prop := n0 < 2 ∧ S_J0_coder_7d493 n0 μ (fun r4 μ2 => Q ((nI (skN n0)) >>> (r4 &&& 31)) μ2)
set_option maxHeartbeats 4000000 in
set_option maxRecDepth 100000 in
theorem t_J0_length_8abf5 {x : GX} (f : Fx x cJ0_length_8abf5 RJ0 1 (rmc 1 0 0)) {n0 : Nat} {μ : Me} {Q : Int32 → Me → Prop} (hq : Rt x (some .int) (qI Q)) (h : S_J0_length_8abf5 n0 μ Q) : G x 1 0 [(0, .ref (gK x n0))] [] μ 0 0 := by
  unfold S_J0_length_8abf5 at h
  refine g_aload_n f 0 dJ0_length_8abf5_0 rfl rfl ?_
  obtain ⟨v1, h⟩ := h
  refine g_sget f v1 (Or.inr ⟨rfl, rfl, rfl⟩) w_2015 dJ0_length_8abf5_1 ?_
  refine g_slen f v1 dJ0_length_8abf5_4 ?_
  refine g_aload_n f 0 dJ0_length_8abf5_5 rfl rfl ?_
  refine g_callK f mk_J0_335 v1 (c_J0_coder_7d493 h) dJ0_length_8abf5_6 rfl rfl (Nat.le_of_ble_eq_true rfl) (rm_ok (by decide) (by decide)) ⟨Nat.le_of_ble_eq_true rfl, Nat.le_of_ble_eq_true rfl⟩ (kI fun r4 μ2 x3 h => ?_)
  refine g_ishr f dJ0_length_8abf5_9 ?_
  exact g_iret f hq (Nat.le_of_ble_eq_true rfl) (Nat.le_of_ble_eq_true rfl) dJ0_length_8abf5_10 h
theorem c_J0_length_8abf5 {Ω : OM} {n0 : Nat} {μ : Me} {Q : Int32 → Me → Prop} (h : S_J0_length_8abf5 n0 μ Q) : CT Ω yJ0_length_8abf5 cJ0_length_8abf5 1 (some .int) (rmc 1 0 0) [.ref (oK Ω n0)] μ (qI Q) := CT_of (by decide) rfl (by simp [lg_sl, Value.category]) (fun x hΩ f hq hi => by subst hΩ; exact t_J0_length_8abf5 f hq h)
theorem dJ0_isLatin1_aae02_0 : decode cJ0_isLatin1_aae02 0 = .ok (.getstatic 38, 3) := by decide +kernel
theorem dJ0_isLatin1_aae02_3 : decode cJ0_isLatin1_aae02 3 = .ok (.ifCond .eq 14, 3) := by decide +kernel
theorem dJ0_isLatin1_aae02_6 : decode cJ0_isLatin1_aae02 6 = .ok (.aload_n 0, 1) := by decide +kernel
theorem dJ0_isLatin1_aae02_7 : decode cJ0_isLatin1_aae02 7 = .ok (.getfield 15, 3) := by decide +kernel
theorem dJ0_isLatin1_aae02_10 : decode cJ0_isLatin1_aae02 10 = .ok (.ifCond .ne 7, 3) := by decide +kernel
theorem dJ0_isLatin1_aae02_13 : decode cJ0_isLatin1_aae02 13 = .ok (.iconst 1, 1) := by decide +kernel
theorem dJ0_isLatin1_aae02_14 : decode cJ0_isLatin1_aae02 14 = .ok (.goto 4, 3) := by decide +kernel
theorem dJ0_isLatin1_aae02_17 : decode cJ0_isLatin1_aae02 17 = .ok (.iconst 0, 1) := by decide +kernel
theorem dJ0_isLatin1_aae02_18 : decode cJ0_isLatin1_aae02 18 = .ok (.ireturn, 1) := by decide +kernel
def S_J0_isLatin1_aae02 (n0 : Nat) (μ : Me) (Q : Int32 → Me → Prop) : Prop := (((1 : Int32) = 0 → Q 0 μ) ∧ (¬ (1 : Int32) = 0 → n0 < 2 ∧ ((¬ (0 : Int32) = 0 → Q 0 μ) ∧ ((0 : Int32) = 0 → Q 1 μ))))
set_option maxHeartbeats 4000000 in
set_option maxRecDepth 100000 in
theorem t_J0_isLatin1_aae02 {x : GX} (f : Fx x cJ0_isLatin1_aae02 RJ0 1 (rmc 0 0 0)) {n0 : Nat} {μ : Me} {Q : Int32 → Me → Prop} (hq : Rt x (some .boolean) (qI Q)) (h : S_J0_isLatin1_aae02 n0 μ Q) : G x 1 0 [(0, .ref (gK x n0))] [] μ 0 0 := by
  unfold S_J0_isLatin1_aae02 at h
  refine g_gstC f w_614 dJ0_isLatin1_aae02_0 ?_
  refine g_if_eq f 17 dJ0_isLatin1_aae02_3 rfl h (fun h => ?_) (fun h => ?_)
  · refine g_iconst f 0 dJ0_isLatin1_aae02_17 kc_0 ?_
    exact g_zret f hq (Nat.le_of_ble_eq_true rfl) (Nat.le_of_ble_eq_true rfl) dJ0_isLatin1_aae02_18 zb_0.1 h
  · refine g_aload_n f 0 dJ0_isLatin1_aae02_6 rfl rfl ?_
    obtain ⟨v1, h⟩ := h
    refine g_sget f v1 (Or.inl ⟨rfl, rfl, rfl⟩) w_2016 dJ0_isLatin1_aae02_7 ?_
    refine g_if_ne f 17 dJ0_isLatin1_aae02_10 rfl h (fun h => ?_) (fun h => ?_)
    · refine g_iconst f 0 dJ0_isLatin1_aae02_17 kc_0 ?_
      exact g_zret f hq (Nat.le_of_ble_eq_true rfl) (Nat.le_of_ble_eq_true rfl) dJ0_isLatin1_aae02_18 zb_0.1 h
    · refine g_iconst f 1 dJ0_isLatin1_aae02_13 kc_1 ?_
      refine g_goto f 18 dJ0_isLatin1_aae02_14 rfl ?_
      exact g_zret f hq (Nat.le_of_ble_eq_true rfl) (Nat.le_of_ble_eq_true rfl) dJ0_isLatin1_aae02_18 zb_1.1 h
theorem c_J0_isLatin1_aae02 {Ω : OM} {n0 : Nat} {μ : Me} {Q : Int32 → Me → Prop} (h : S_J0_isLatin1_aae02 n0 μ Q) : CT Ω yJ0_isLatin1_aae02 cJ0_isLatin1_aae02 1 (some .boolean) (rmc 0 0 0) [.ref (oK Ω n0)] μ (qI Q) := CT_of (by decide) rfl (by simp [lg_sl, Value.category]) (fun x hΩ f hq hi => by subst hΩ; exact t_J0_isLatin1_aae02 f hq h)
theorem dJ3_checkIndex_8e157_0 : decode cJ3_checkIndex_8e157 0 = .ok (.iload_n 0, 1) := by decide +kernel
theorem dJ3_checkIndex_8e157_1 : decode cJ3_checkIndex_8e157 1 = .ok (.ifCond .lt 8, 3) := by decide +kernel
theorem dJ3_checkIndex_8e157_4 : decode cJ3_checkIndex_8e157 4 = .ok (.iload_n 0, 1) := by decide +kernel
theorem dJ3_checkIndex_8e157_5 : decode cJ3_checkIndex_8e157 5 = .ok (.iload_n 1, 1) := by decide +kernel
theorem dJ3_checkIndex_8e157_6 : decode cJ3_checkIndex_8e157 6 = .ok (.if_icmp .lt 10, 3) := by decide +kernel
theorem dJ3_checkIndex_8e157_9 : decode cJ3_checkIndex_8e157 9 = .ok (.aload_n 2, 1) := by decide +kernel
theorem dJ3_checkIndex_8e157_10 : decode cJ3_checkIndex_8e157 10 = .ok (.iload_n 0, 1) := by decide +kernel
theorem dJ3_checkIndex_8e157_11 : decode cJ3_checkIndex_8e157 11 = .ok (.iload_n 1, 1) := by decide +kernel
theorem dJ3_checkIndex_8e157_12 : decode cJ3_checkIndex_8e157 12 = .ok (.invokestatic 95, 3) := by decide +kernel
theorem dJ3_checkIndex_8e157_16 : decode cJ3_checkIndex_8e157 16 = .ok (.iload_n 0, 1) := by decide +kernel
theorem dJ3_checkIndex_8e157_17 : decode cJ3_checkIndex_8e157 17 = .ok (.ireturn, 1) := by decide +kernel
def S_J3_checkIndex_8e157 (i0 : Int32) (i1 : Int32) (μ : Me) (Q : Int32 → Me → Prop) : Prop := ((i0 < 0 → False) ∧ (¬ i0 < 0 → ((i0 < i1 → Q i0 μ) ∧ (¬ i0 < i1 → False))))
set_option maxHeartbeats 4000000 in
set_option maxRecDepth 100000 in
theorem t_J3_checkIndex_8e157 {x : GX} (f : Fx x cJ3_checkIndex_8e157 RJ3 3 (rmc 0 0 0)) {i0 : Int32} {i1 : Int32} {u2 : Option Nat} {μ : Me} {Q : Int32 → Me → Prop} (hq : Rt x (some .int) (qI Q)) (h : S_J3_checkIndex_8e157 i0 i1 μ Q) : G x 3 0 [(0, .int i0), (1, .int i1), (2, va_rf u2)] [] μ 0 0 := by
  unfold S_J3_checkIndex_8e157 at h
  refine g_iload_n f 0 dJ3_checkIndex_8e157_0 rfl rfl ?_
  refine g_if_lt f 9 dJ3_checkIndex_8e157_1 rfl h (fun h => ?_) (fun h => ?_)
  · exact h.elim
  · refine g_iload_n f 0 dJ3_checkIndex_8e157_4 rfl rfl ?_
    refine g_iload_n f 1 dJ3_checkIndex_8e157_5 rfl rfl ?_
    refine g_ic_lt f 16 dJ3_checkIndex_8e157_6 rfl h (fun h => ?_) (fun h => ?_)
    · refine g_iload_n f 0 dJ3_checkIndex_8e157_16 rfl rfl ?_
      exact g_iret f hq (Nat.le_of_ble_eq_true rfl) (Nat.le_of_ble_eq_true rfl) dJ3_checkIndex_8e157_17 h
    · exact h.elim
theorem c_J3_checkIndex_8e157 {Ω : OM} {i0 : Int32} {i1 : Int32} {u2 : Option Nat} {μ : Me} {Q : Int32 → Me → Prop} (h : S_J3_checkIndex_8e157 i0 i1 μ Q) : CT Ω yJ3_checkIndex_8e157 cJ3_checkIndex_8e157 3 (some .int) (rmc 0 0 0) [.int i0, .int i1, va_rf u2] μ (qI Q) := CT_of (by decide) rfl (by cases u2 <;> simp [lg_sl, Value.category, va_rf]) (fun x hΩ f hq hi => by subst hΩ; exact t_J3_checkIndex_8e157 f hq h)
theorem dJ0_checkIndex_df160_0 : decode cJ0_checkIndex_df160 0 = .ok (.iload_n 0, 1) := by decide +kernel
theorem dJ0_checkIndex_df160_1 : decode cJ0_checkIndex_df160 1 = .ok (.iload_n 1, 1) := by decide +kernel
theorem dJ0_checkIndex_df160_2 : decode cJ0_checkIndex_df160 2 = .ok (.getstatic 1053, 3) := by decide +kernel
theorem dJ0_checkIndex_df160_5 : decode cJ0_checkIndex_df160 5 = .ok (.invokestatic 1059, 3) := by decide +kernel
theorem dJ0_checkIndex_df160_8 : decode cJ0_checkIndex_df160 8 = .ok (.pop, 1) := by decide +kernel
theorem dJ0_checkIndex_df160_9 : decode cJ0_checkIndex_df160 9 = .ok (.return_, 1) := by decide +kernel
def S_J0_checkIndex_df160 (i0 : Int32) (i1 : Int32) (μ : Me) (Q : Me → Prop) : Prop := S_J3_checkIndex_8e157 i0 i1 μ (fun r4 μ2 => Q μ2)
set_option maxHeartbeats 4000000 in
set_option maxRecDepth 100000 in
theorem t_J0_checkIndex_df160 {x : GX} (f : Fx x cJ0_checkIndex_df160 RJ0 2 (rmc 1 0 0)) {i0 : Int32} {i1 : Int32} {μ : Me} {Q : Me → Prop} (hq : Rt x none (qV Q)) (h : S_J0_checkIndex_df160 i0 i1 μ Q) : G x 2 0 [(0, .int i0), (1, .int i1)] [] μ 0 0 := by
  unfold S_J0_checkIndex_df160 at h
  refine g_iload_n f 0 dJ0_checkIndex_df160_0 rfl rfl ?_
  refine g_iload_n f 1 dJ0_checkIndex_df160_1 rfl rfl ?_
  refine g_gstU f w_630 dJ0_checkIndex_df160_2 (fun u1 => ?_)
  refine g_callS f mk_J0_1059 (c_J3_checkIndex_8e157 h) dJ0_checkIndex_df160_5 rfl rfl (Nat.le_of_ble_eq_true rfl) (rm_ok (by decide) (by decide)) ⟨Nat.le_of_ble_eq_true rfl, Nat.le_of_ble_eq_true rfl⟩ (kI fun r4 μ2 x3 h => ?_)
  refine g_pop f dJ0_checkIndex_df160_8 rfl ?_
  exact g_vret f hq (Nat.le_of_ble_eq_true rfl) (Nat.le_of_ble_eq_true rfl) dJ0_checkIndex_df160_9 h
theorem c_J0_checkIndex_df160 {Ω : OM} {i0 : Int32} {i1 : Int32} {μ : Me} {Q : Me → Prop} (h : S_J0_checkIndex_df160 i0 i1 μ Q) : CT Ω yJ0_checkIndex_df160 cJ0_checkIndex_df160 2 none (rmc 1 0 0) [.int i0, .int i1] μ (qV Q) := CT_of (by decide) rfl (by simp [lg_sl, Value.category]) (fun x hΩ f hq hi => by subst hΩ; exact t_J0_checkIndex_df160 f hq h)
theorem dJ1_charAt_3b067_0 : decode cJ1_charAt_3b067 0 = .ok (.iload_n 1, 1) := by decide +kernel
theorem dJ1_charAt_3b067_1 : decode cJ1_charAt_3b067 1 = .ok (.aload_n 0, 1) := by decide +kernel
theorem dJ1_charAt_3b067_2 : decode cJ1_charAt_3b067 2 = .ok (.arraylength, 1) := by decide +kernel
theorem dJ1_charAt_3b067_3 : decode cJ1_charAt_3b067 3 = .ok (.invokestatic 9, 3) := by decide +kernel
theorem dJ1_charAt_3b067_6 : decode cJ1_charAt_3b067 6 = .ok (.aload_n 0, 1) := by decide +kernel
theorem dJ1_charAt_3b067_7 : decode cJ1_charAt_3b067 7 = .ok (.iload_n 1, 1) := by decide +kernel
theorem dJ1_charAt_3b067_8 : decode cJ1_charAt_3b067 8 = .ok (.baload, 1) := by decide +kernel
theorem dJ1_charAt_3b067_9 : decode cJ1_charAt_3b067 9 = .ok (.sipush 255, 3) := by decide +kernel
theorem dJ1_charAt_3b067_12 : decode cJ1_charAt_3b067 12 = .ok (.iand, 1) := by decide +kernel
theorem dJ1_charAt_3b067_13 : decode cJ1_charAt_3b067 13 = .ok (.i2c, 1) := by decide +kernel
theorem dJ1_charAt_3b067_14 : decode cJ1_charAt_3b067 14 = .ok (.ireturn, 1) := by decide +kernel
def S_J1_charAt_3b067 (n0 : Nat) (i1 : Int32) (μ : Me) (Q : Int32 → Me → Prop) : Prop := n0 < 2 ∧ S_J0_checkIndex_df160 i1 (nI (skN n0)) μ (fun μ2 => vp_in i1 (skN n0) ∧ narrow .char (.int (((skC n0 i1.toNatClampNeg) &&& 255).toUInt32 % 65536).toInt32) = .int (((skC n0 i1.toNatClampNeg) &&& 255).toUInt32 % 65536).toInt32 ∧ Q (((skC n0 i1.toNatClampNeg) &&& 255).toUInt32 % 65536).toInt32 μ2)
set_option maxHeartbeats 4000000 in
set_option maxRecDepth 100000 in
theorem t_J1_charAt_3b067 {x : GX} (f : Fx x cJ1_charAt_3b067 RJ1 2 (rmc 2 0 0)) {n0 : Nat} {i1 : Int32} {μ : Me} {Q : Int32 → Me → Prop} (hq : Rt x (some .char) (qI Q)) (h : S_J1_charAt_3b067 n0 i1 μ Q) : G x 2 0 [(0, .ref (gA x n0)), (1, .int i1)] [] μ 0 0 := by
  unfold S_J1_charAt_3b067 at h
  refine g_iload_n f 1 dJ1_charAt_3b067_0 rfl rfl ?_
  refine g_aload_n f 0 dJ1_charAt_3b067_1 rfl rfl ?_
  obtain ⟨v1, h⟩ := h
  refine g_slen f v1 dJ1_charAt_3b067_2 ?_
  refine g_callS f mk_J1_9 (c_J0_checkIndex_df160 h) dJ1_charAt_3b067_3 rfl rfl (Nat.le_of_ble_eq_true rfl) (rm_ok (by decide) (by decide)) ⟨Nat.le_of_ble_eq_true rfl, Nat.le_of_ble_eq_true rfl⟩ (kV fun μ2 x3 h => ?_)
  refine g_aload_n f 0 dJ1_charAt_3b067_6 rfl rfl ?_
  refine g_iload_n f 1 dJ1_charAt_3b067_7 rfl rfl ?_
  refine g_sbald f v1 dJ1_charAt_3b067_8 h (fun h => ?_)
  refine g_sipush f 255 dJ1_charAt_3b067_9 ks_255 ?_
  refine g_iand f dJ1_charAt_3b067_12 ?_
  refine g_i2c f dJ1_charAt_3b067_13 ?_
  exact g_nret f hq (Nat.le_of_ble_eq_true rfl) (Nat.le_of_ble_eq_true rfl) dJ1_charAt_3b067_14 h.1 h.2
theorem c_J1_charAt_3b067 {Ω : OM} {n0 : Nat} {i1 : Int32} {μ : Me} {Q : Int32 → Me → Prop} (h : S_J1_charAt_3b067 n0 i1 μ Q) : CT Ω yJ1_charAt_3b067 cJ1_charAt_3b067 2 (some .char) (rmc 2 0 0) [.ref (oA Ω n0), .int i1] μ (qI Q) := CT_of (by decide) rfl (by simp [lg_sl, Value.category]) (fun x hΩ f hq hi => by subst hΩ; exact t_J1_charAt_3b067 f hq h)
theorem dJ0_charAt_5068e_0 : decode cJ0_charAt_5068e 0 = .ok (.aload_n 0, 1) := by decide +kernel
theorem dJ0_charAt_5068e_1 : decode cJ0_charAt_5068e 1 = .ok (.invokevirtual 492, 3) := by decide +kernel
theorem dJ0_charAt_5068e_4 : decode cJ0_charAt_5068e 4 = .ok (.ifCond .eq 12, 3) := by decide +kernel
theorem dJ0_charAt_5068e_7 : decode cJ0_charAt_5068e 7 = .ok (.aload_n 0, 1) := by decide +kernel
theorem dJ0_charAt_5068e_8 : decode cJ0_charAt_5068e 8 = .ok (.getfield 9, 3) := by decide +kernel
theorem dJ0_charAt_5068e_11 : decode cJ0_charAt_5068e 11 = .ok (.iload_n 1, 1) := by decide +kernel
theorem dJ0_charAt_5068e_12 : decode cJ0_charAt_5068e 12 = .ok (.invokestatic 495, 3) := by decide +kernel
theorem dJ0_charAt_5068e_15 : decode cJ0_charAt_5068e 15 = .ok (.ireturn, 1) := by decide +kernel
theorem dJ0_charAt_5068e_16 : decode cJ0_charAt_5068e 16 = .ok (.aload_n 0, 1) := by decide +kernel
theorem dJ0_charAt_5068e_17 : decode cJ0_charAt_5068e 17 = .ok (.getfield 9, 3) := by decide +kernel
theorem dJ0_charAt_5068e_20 : decode cJ0_charAt_5068e 20 = .ok (.iload_n 1, 1) := by decide +kernel
theorem dJ0_charAt_5068e_21 : decode cJ0_charAt_5068e 21 = .ok (.invokestatic 498, 3) := by decide +kernel
def S_J0_charAt_5068e (n0 : Nat) (i1 : Int32) (μ : Me) (Q : Int32 → Me → Prop) : Prop := n0 < 2 ∧ S_J0_isLatin1_aae02 n0 μ (fun r4 μ2 => ((r4 = 0 → False) ∧ (¬ r4 = 0 → S_J1_charAt_3b067 n0 i1 μ2 (fun r7 μ5 => narrow .char (.int r7) = .int r7 ∧ Q r7 μ5))))
set_option maxHeartbeats 4000000 in
set_option maxRecDepth 100000 in
theorem t_J0_charAt_5068e {x : GX} (f : Fx x cJ0_charAt_5068e RJ0 2 (rmc 4 0 0)) {n0 : Nat} {i1 : Int32} {μ : Me} {Q : Int32 → Me → Prop} (hq : Rt x (some .char) (qI Q)) (h : S_J0_charAt_5068e n0 i1 μ Q) : G x 2 0 [(0, .ref (gK x n0)), (1, .int i1)] [] μ 0 0 := by
  unfold S_J0_charAt_5068e at h
  refine g_aload_n f 0 dJ0_charAt_5068e_0 rfl rfl ?_
  obtain ⟨v1, h⟩ := h
  refine g_callK f mk_J0_492 v1 (c_J0_isLatin1_aae02 h) dJ0_charAt_5068e_1 rfl rfl (Nat.le_of_ble_eq_true rfl) (rm_ok (by decide) (by decide)) ⟨Nat.le_of_ble_eq_true rfl, Nat.le_of_ble_eq_true rfl⟩ (kI fun r4 μ2 x3 h => ?_)
  refine g_if_eq f 16 dJ0_charAt_5068e_4 rfl h (fun h => ?_) (fun h => ?_)
  · exact h.elim
  · refine g_aload_n f 0 dJ0_charAt_5068e_7 rfl rfl ?_
    refine g_sget f v1 (Or.inr ⟨rfl, rfl, rfl⟩) w_2015 dJ0_charAt_5068e_8 ?_
    refine g_iload_n f 1 dJ0_charAt_5068e_11 rfl rfl ?_
    refine g_callS f mk_J0_495 (c_J1_charAt_3b067 h) dJ0_charAt_5068e_12 rfl rfl (Nat.le_of_ble_eq_true rfl) (rm_ok (by decide) (by decide)) ⟨Nat.le_of_ble_eq_true rfl, Nat.le_of_ble_eq_true rfl⟩ (kI fun r7 μ5 x6 h => ?_)
    exact g_nret f hq (Nat.le_of_ble_eq_true rfl) (Nat.le_of_ble_eq_true rfl) dJ0_charAt_5068e_15 h.1 h.2
theorem c_J0_charAt_5068e {Ω : OM} {n0 : Nat} {i1 : Int32} {μ : Me} {Q : Int32 → Me → Prop} (h : S_J0_charAt_5068e n0 i1 μ Q) : CT Ω yJ0_charAt_5068e cJ0_charAt_5068e 2 (some .char) (rmc 4 0 0) [.ref (oK Ω n0), .int i1] μ (qI Q) := CT_of (by decide) rfl (by simp [lg_sl, Value.category]) (fun x hΩ f hq hi => by subst hΩ; exact t_J0_charAt_5068e f hq h)
theorem dJ1_canEncode_9a6ad_0 : decode cJ1_canEncode_9a6ad 0 = .ok (.iload_n 0, 1) := by decide +kernel
theorem dJ1_canEncode_9a6ad_1 : decode cJ1_canEncode_9a6ad 1 = .ok (.ifCond .lt 14, 3) := by decide +kernel
theorem dJ1_canEncode_9a6ad_4 : decode cJ1_canEncode_9a6ad 4 = .ok (.iload_n 0, 1) := by decide +kernel
theorem dJ1_canEncode_9a6ad_5 : decode cJ1_canEncode_9a6ad 5 = .ok (.sipush 255, 3) := by decide +kernel
theorem dJ1_canEncode_9a6ad_8 : decode cJ1_canEncode_9a6ad 8 = .ok (.if_icmp .gt 7, 3) := by decide +kernel
theorem dJ1_canEncode_9a6ad_11 : decode cJ1_canEncode_9a6ad 11 = .ok (.iconst 1, 1) := by decide +kernel
theorem dJ1_canEncode_9a6ad_12 : decode cJ1_canEncode_9a6ad 12 = .ok (.goto 4, 3) := by decide +kernel
theorem dJ1_canEncode_9a6ad_15 : decode cJ1_canEncode_9a6ad 15 = .ok (.iconst 0, 1) := by decide +kernel
theorem dJ1_canEncode_9a6ad_16 : decode cJ1_canEncode_9a6ad 16 = .ok (.ireturn, 1) := by decide +kernel
def S_J1_canEncode_9a6ad (i0 : Int32) (μ : Me) (Q : Int32 → Me → Prop) : Prop := ((i0 < 0 → Q 0 μ) ∧ (¬ i0 < 0 → ((255 < i0 → Q 0 μ) ∧ (¬ 255 < i0 → Q 1 μ))))
set_option maxHeartbeats 4000000 in
set_option maxRecDepth 100000 in
theorem t_J1_canEncode_9a6ad {x : GX} (f : Fx x cJ1_canEncode_9a6ad RJ1 1 (rmc 0 0 0)) {i0 : Int32} {μ : Me} {Q : Int32 → Me → Prop} (hq : Rt x (some .boolean) (qI Q)) (h : S_J1_canEncode_9a6ad i0 μ Q) : G x 1 0 [(0, .int i0)] [] μ 0 0 := by
  unfold S_J1_canEncode_9a6ad at h
  refine g_iload_n f 0 dJ1_canEncode_9a6ad_0 rfl rfl ?_
  refine g_if_lt f 15 dJ1_canEncode_9a6ad_1 rfl h (fun h => ?_) (fun h => ?_)
  · refine g_iconst f 0 dJ1_canEncode_9a6ad_15 kc_0 ?_
    exact g_zret f hq (Nat.le_of_ble_eq_true rfl) (Nat.le_of_ble_eq_true rfl) dJ1_canEncode_9a6ad_16 zb_0.1 h
  · refine g_iload_n f 0 dJ1_canEncode_9a6ad_4 rfl rfl ?_
    refine g_sipush f 255 dJ1_canEncode_9a6ad_5 ks_255 ?_
    refine g_ic_gt f 15 dJ1_canEncode_9a6ad_8 rfl h (fun h => ?_) (fun h => ?_)
    · refine g_iconst f 0 dJ1_canEncode_9a6ad_15 kc_0 ?_
      exact g_zret f hq (Nat.le_of_ble_eq_true rfl) (Nat.le_of_ble_eq_true rfl) dJ1_canEncode_9a6ad_16 zb_0.1 h
    · refine g_iconst f 1 dJ1_canEncode_9a6ad_11 kc_1 ?_
      refine g_goto f 16 dJ1_canEncode_9a6ad_12 rfl ?_
      exact g_zret f hq (Nat.le_of_ble_eq_true rfl) (Nat.le_of_ble_eq_true rfl) dJ1_canEncode_9a6ad_16 zb_1.1 h
theorem c_J1_canEncode_9a6ad {Ω : OM} {i0 : Int32} {μ : Me} {Q : Int32 → Me → Prop} (h : S_J1_canEncode_9a6ad i0 μ Q) : CT Ω yJ1_canEncode_9a6ad cJ1_canEncode_9a6ad 1 (some .boolean) (rmc 0 0 0) [.int i0] μ (qI Q) := CT_of (by decide) rfl (by simp [lg_sl, Value.category]) (fun x hΩ f hq hi => by subst hΩ; exact t_J1_canEncode_9a6ad f hq h)
theorem dJ1_indexOfChar_4cfef_0 : decode cJ1_indexOfChar_4cfef 0 = .ok (.iload_n 1, 1) := by decide +kernel
theorem dJ1_indexOfChar_4cfef_1 : decode cJ1_indexOfChar_4cfef 1 = .ok (.i2b, 1) := by decide +kernel
theorem dJ1_indexOfChar_4cfef_2 : decode cJ1_indexOfChar_4cfef 2 = .ok (.istore 4, 2) := by decide +kernel
theorem dJ1_indexOfChar_4cfef_4 : decode cJ1_indexOfChar_4cfef 4 = .ok (.iload_n 2, 1) := by decide +kernel
theorem dJ1_indexOfChar_4cfef_5 : decode cJ1_indexOfChar_4cfef 5 = .ok (.istore 5, 2) := by decide +kernel
theorem dJ1_indexOfChar_4cfef_7 : decode cJ1_indexOfChar_4cfef 7 = .ok (.iload 5, 2) := by decide +kernel
theorem dJ1_indexOfChar_4cfef_9 : decode cJ1_indexOfChar_4cfef 9 = .ok (.iload_n 3, 1) := by decide +kernel
theorem dJ1_indexOfChar_4cfef_10 : decode cJ1_indexOfChar_4cfef 10 = .ok (.if_icmp .ge 21, 3) := by decide +kernel
theorem dJ1_indexOfChar_4cfef_13 : decode cJ1_indexOfChar_4cfef 13 = .ok (.aload_n 0, 1) := by decide +kernel
theorem dJ1_indexOfChar_4cfef_14 : decode cJ1_indexOfChar_4cfef 14 = .ok (.iload 5, 2) := by decide +kernel
theorem dJ1_indexOfChar_4cfef_16 : decode cJ1_indexOfChar_4cfef 16 = .ok (.baload, 1) := by decide +kernel
theorem dJ1_indexOfChar_4cfef_17 : decode cJ1_indexOfChar_4cfef 17 = .ok (.iload 4, 2) := by decide +kernel
theorem dJ1_indexOfChar_4cfef_19 : decode cJ1_indexOfChar_4cfef 19 = .ok (.if_icmp .ne 6, 3) := by decide +kernel
theorem dJ1_indexOfChar_4cfef_22 : decode cJ1_indexOfChar_4cfef 22 = .ok (.iload 5, 2) := by decide +kernel
theorem dJ1_indexOfChar_4cfef_24 : decode cJ1_indexOfChar_4cfef 24 = .ok (.ireturn, 1) := by decide +kernel
theorem dJ1_indexOfChar_4cfef_25 : decode cJ1_indexOfChar_4cfef 25 = .ok (.iinc 5 1, 3) := by decide +kernel
theorem dJ1_indexOfChar_4cfef_28 : decode cJ1_indexOfChar_4cfef 28 = .ok (.goto (-21), 3) := by decide +kernel
theorem dJ1_indexOfChar_4cfef_31 : decode cJ1_indexOfChar_4cfef 31 = .ok (.iconst (-1), 1) := by decide +kernel
theorem dJ1_indexOfChar_4cfef_32 : decode cJ1_indexOfChar_4cfef 32 = .ok (.ireturn, 1) := by decide +kernel
def B_J1_indexOfChar_4cfef_7 (n0 : Nat) (i3 : Int32) (i4 : Int32) (i5 : Int32) (μ : Me) (K7 : Int32 → Me → Prop) (Q : Int32 → Me → Prop) : Prop := ((i3 ≤ i5 → Q (-1) μ) ∧ (¬ i3 ≤ i5 → n0 < 2 ∧ vp_in i5 (skN n0) ∧ ((¬ (skC n0 i5.toNatClampNeg) = i4 → K7 (i5 + 1) μ) ∧ ((skC n0 i5.toNatClampNeg) = i4 → Q i5 μ))))
set_option maxHeartbeats 4000000 in
set_option maxRecDepth 100000 in
theorem tB_J1_indexOfChar_4cfef_7 {x : GX} (f : Fx x cJ1_indexOfChar_4cfef RJ1 6 (rmc 0 0 0)) {n0 : Nat} {i3 : Int32} {i4 : Int32} {i5 : Int32} {μ : Me} {Q : Int32 → Me → Prop} (hq : Rt x (some .int) (qI Q)) {K7 : Int32 → Me → Prop} (hK7 : ∀ (a5 : Int32) (ν : Me), K7 a5 ν → G x 6 7 [(0, .ref (gA x n0)), (3, .int i3), (4, .int i4), (5, .int a5)] [] ν 0 0) (h : B_J1_indexOfChar_4cfef_7 n0 i3 i4 i5 μ K7 Q) : G x 6 7 [(0, .ref (gA x n0)), (3, .int i3), (4, .int i4), (5, .int i5)] [] μ 0 0 := by
  unfold B_J1_indexOfChar_4cfef_7 at h
  refine g_iload f 3 dJ1_indexOfChar_4cfef_7 rfl ?_
  refine g_iload_n f 1 dJ1_indexOfChar_4cfef_9 rfl rfl ?_
  refine g_ic_ge f 31 dJ1_indexOfChar_4cfef_10 rfl h (fun h => ?_) (fun h => ?_)
  · refine g_iconst f (-1) dJ1_indexOfChar_4cfef_31 kc_m1 ?_
    exact g_iret f hq (Nat.le_of_ble_eq_true rfl) (Nat.le_of_ble_eq_true rfl) dJ1_indexOfChar_4cfef_32 h
  · refine g_aload_n f 0 dJ1_indexOfChar_4cfef_13 rfl rfl ?_
    refine g_iload f 3 dJ1_indexOfChar_4cfef_14 rfl ?_
    obtain ⟨v1, h⟩ := h
    refine g_sbald f v1 dJ1_indexOfChar_4cfef_16 h (fun h => ?_)
    refine g_iload f 2 dJ1_indexOfChar_4cfef_17 rfl ?_
    refine g_ic_ne f 25 dJ1_indexOfChar_4cfef_19 rfl h (fun h => ?_) (fun h => ?_)
    · refine h_iinc f 3 1 dJ1_indexOfChar_4cfef_25 rfl kc_1 (by decide) ?_
      refine g_goto f 7 dJ1_indexOfChar_4cfef_28 rfl ?_
      exact h_sub [1, 2, 3, 0] rfl (hK7 _ _ h)
    · refine g_iload f 3 dJ1_indexOfChar_4cfef_22 rfl ?_
      exact g_iret f hq (Nat.le_of_ble_eq_true rfl) (Nat.le_of_ble_eq_true rfl) dJ1_indexOfChar_4cfef_24 h
def L_J1_indexOfChar_4cfef_7 (n0 : Nat) (i3 : Int32) (i4 : Int32) (i5 : Int32) (μ : Me) (Q : Int32 → Me → Prop) : Prop := ∃ I : Int32 → Me → Nat → Prop, (∃ n, I i5 μ n) ∧ ∀ (i5 : Int32) (μ : Me) (n : Nat), I i5 μ n → B_J1_indexOfChar_4cfef_7 n0 i3 i4 i5 μ (fun a5 ν => ∃ n', n' < n ∧ I a5 ν n') Q
set_option maxHeartbeats 4000000 in
set_option maxRecDepth 100000 in
theorem tL_J1_indexOfChar_4cfef_7 {x : GX} (f : Fx x cJ1_indexOfChar_4cfef RJ1 6 (rmc 0 0 0)) {n0 : Nat} {i3 : Int32} {i4 : Int32} {i5 : Int32} {μ : Me} {Q : Int32 → Me → Prop} (hq : Rt x (some .int) (qI Q)) (h : L_J1_indexOfChar_4cfef_7 n0 i3 i4 i5 μ Q) : G x 6 7 [(0, .ref (gA x n0)), (3, .int i3), (4, .int i4), (5, .int i5)] [] μ 0 0 := by
  obtain ⟨I, ⟨n, hI⟩, hs⟩ := h
  induction n using Nat.strongRecOn generalizing i5 μ with
  | ind n ih => exact tB_J1_indexOfChar_4cfef_7 f hq (fun a5 ν hk => by obtain ⟨n2, hn, hI2⟩ := hk; exact ih n2 hn hI2) (hs _ _ _ hI)
def S_J1_indexOfChar_4cfef (n0 : Nat) (i1 : Int32) (i2 : Int32) (i3 : Int32) (μ : Me) (Q : Int32 → Me → Prop) : Prop := L_J1_indexOfChar_4cfef_7 n0 i3 i1.toInt8.toInt32 i2 μ Q
set_option maxHeartbeats 4000000 in
set_option maxRecDepth 100000 in
theorem t_J1_indexOfChar_4cfef {x : GX} (f : Fx x cJ1_indexOfChar_4cfef RJ1 6 (rmc 0 0 0)) {n0 : Nat} {i1 : Int32} {i2 : Int32} {i3 : Int32} {μ : Me} {Q : Int32 → Me → Prop} (hq : Rt x (some .int) (qI Q)) (h : S_J1_indexOfChar_4cfef n0 i1 i2 i3 μ Q) : G x 6 0 [(0, .ref (gA x n0)), (1, .int i1), (2, .int i2), (3, .int i3)] [] μ 0 0 := by
  unfold S_J1_indexOfChar_4cfef at h
  refine g_iload_n f 1 dJ1_indexOfChar_4cfef_0 rfl rfl ?_
  refine g_i2b f dJ1_indexOfChar_4cfef_1 ?_
  refine h_istore f dJ1_indexOfChar_4cfef_2 (by decide) ?_
  refine g_iload_n f 3 dJ1_indexOfChar_4cfef_4 rfl rfl ?_
  refine h_istore f dJ1_indexOfChar_4cfef_5 (by decide) ?_
  exact h_sub [2, 5, 1, 0] rfl (tL_J1_indexOfChar_4cfef_7 f hq h)
theorem c_J1_indexOfChar_4cfef {Ω : OM} {n0 : Nat} {i1 : Int32} {i2 : Int32} {i3 : Int32} {μ : Me} {Q : Int32 → Me → Prop} (h : S_J1_indexOfChar_4cfef n0 i1 i2 i3 μ Q) : CT Ω yJ1_indexOfChar_4cfef cJ1_indexOfChar_4cfef 6 (some .int) (rmc 0 0 0) [.ref (oA Ω n0), .int i1, .int i2, .int i3] μ (qI Q) := CT_of (by decide) rfl (by simp [lg_sl, Value.category]) (fun x hΩ f hq hi => by subst hΩ; exact t_J1_indexOfChar_4cfef f hq h)
theorem dJ1_indexOf_4cfef_0 : decode cJ1_indexOf_4cfef 0 = .ok (.iload_n 1, 1) := by decide +kernel
theorem dJ1_indexOf_4cfef_1 : decode cJ1_indexOf_4cfef 1 = .ok (.invokestatic 88, 3) := by decide +kernel
theorem dJ1_indexOf_4cfef_4 : decode cJ1_indexOf_4cfef 4 = .ok (.ifCond .ne 5, 3) := by decide +kernel
theorem dJ1_indexOf_4cfef_7 : decode cJ1_indexOf_4cfef 7 = .ok (.iconst (-1), 1) := by decide +kernel
theorem dJ1_indexOf_4cfef_8 : decode cJ1_indexOf_4cfef 8 = .ok (.ireturn, 1) := by decide +kernel
theorem dJ1_indexOf_4cfef_9 : decode cJ1_indexOf_4cfef 9 = .ok (.iload_n 2, 1) := by decide +kernel
theorem dJ1_indexOf_4cfef_10 : decode cJ1_indexOf_4cfef 10 = .ok (.iconst 0, 1) := by decide +kernel
theorem dJ1_indexOf_4cfef_11 : decode cJ1_indexOf_4cfef 11 = .ok (.invokestatic 92, 3) := by decide +kernel
theorem dJ1_indexOf_4cfef_14 : decode cJ1_indexOf_4cfef 14 = .ok (.istore_n 2, 1) := by decide +kernel
theorem dJ1_indexOf_4cfef_15 : decode cJ1_indexOf_4cfef 15 = .ok (.iload_n 3, 1) := by decide +kernel
theorem dJ1_indexOf_4cfef_16 : decode cJ1_indexOf_4cfef 16 = .ok (.aload_n 0, 1) := by decide +kernel
theorem dJ1_indexOf_4cfef_17 : decode cJ1_indexOf_4cfef 17 = .ok (.arraylength, 1) := by decide +kernel
theorem dJ1_indexOf_4cfef_18 : decode cJ1_indexOf_4cfef 18 = .ok (.invokestatic 38, 3) := by decide +kernel
theorem dJ1_indexOf_4cfef_21 : decode cJ1_indexOf_4cfef 21 = .ok (.istore_n 3, 1) := by decide +kernel
theorem dJ1_indexOf_4cfef_22 : decode cJ1_indexOf_4cfef 22 = .ok (.iload_n 2, 1) := by decide +kernel
theorem dJ1_indexOf_4cfef_23 : decode cJ1_indexOf_4cfef 23 = .ok (.iload_n 3, 1) := by decide +kernel
theorem dJ1_indexOf_4cfef_24 : decode cJ1_indexOf_4cfef 24 = .ok (.if_icmp .lt 5, 3) := by decide +kernel
theorem dJ1_indexOf_4cfef_27 : decode cJ1_indexOf_4cfef 27 = .ok (.iconst (-1), 1) := by decide +kernel
theorem dJ1_indexOf_4cfef_28 : decode cJ1_indexOf_4cfef 28 = .ok (.ireturn, 1) := by decide +kernel
theorem dJ1_indexOf_4cfef_29 : decode cJ1_indexOf_4cfef 29 = .ok (.aload_n 0, 1) := by decide +kernel
theorem dJ1_indexOf_4cfef_30 : decode cJ1_indexOf_4cfef 30 = .ok (.iload_n 1, 1) := by decide +kernel
theorem dJ1_indexOf_4cfef_31 : decode cJ1_indexOf_4cfef 31 = .ok (.iload_n 2, 1) := by decide +kernel
theorem dJ1_indexOf_4cfef_32 : decode cJ1_indexOf_4cfef 32 = .ok (.iload_n 3, 1) := by decide +kernel
theorem dJ1_indexOf_4cfef_33 : decode cJ1_indexOf_4cfef 33 = .ok (.invokestatic 95, 3) := by decide +kernel
theorem dJ1_indexOf_4cfef_36 : decode cJ1_indexOf_4cfef 36 = .ok (.ireturn, 1) := by decide +kernel
def S_J1_indexOf_4cfef (n0 : Nat) (i1 : Int32) (i2 : Int32) (i3 : Int32) (μ : Me) (Q : Int32 → Me → Prop) : Prop := S_J1_canEncode_9a6ad i1 μ (fun r3 μ1 => ((¬ r3 = 0 → n0 < 2 ∧ (((if i2 < 0 then 0 else i2) < (if (nI (skN n0)) < i3 then (nI (skN n0)) else i3) → S_J1_indexOfChar_4cfef n0 i1 (if i2 < 0 then 0 else i2) (if (nI (skN n0)) < i3 then (nI (skN n0)) else i3) μ1 (fun r7 μ5 => Q r7 μ5)) ∧ (¬ (if i2 < 0 then 0 else i2) < (if (nI (skN n0)) < i3 then (nI (skN n0)) else i3) → Q (-1) μ1))) ∧ (r3 = 0 → Q (-1) μ1)))
set_option maxHeartbeats 4000000 in
set_option maxRecDepth 100000 in
theorem t_J1_indexOf_4cfef {x : GX} (f : Fx x cJ1_indexOf_4cfef RJ1 4 (rmc 1 0 0)) {n0 : Nat} {i1 : Int32} {i2 : Int32} {i3 : Int32} {μ : Me} {Q : Int32 → Me → Prop} (hq : Rt x (some .int) (qI Q)) (h : S_J1_indexOf_4cfef n0 i1 i2 i3 μ Q) : G x 4 0 [(0, .ref (gA x n0)), (1, .int i1), (2, .int i2), (3, .int i3)] [] μ 0 0 := by
  unfold S_J1_indexOf_4cfef at h
  refine g_iload_n f 1 dJ1_indexOf_4cfef_0 rfl rfl ?_
  refine g_callS f mk_J1_88 (c_J1_canEncode_9a6ad h) dJ1_indexOf_4cfef_1 rfl rfl (Nat.le_of_ble_eq_true rfl) (rm_ok (by decide) (by decide)) ⟨Nat.le_of_ble_eq_true rfl, Nat.le_of_ble_eq_true rfl⟩ (kI fun r3 μ1 x2 h => ?_)
  refine g_if_ne f 9 dJ1_indexOf_4cfef_4 rfl h (fun h => ?_) (fun h => ?_)
  · refine g_iload_n f 2 dJ1_indexOf_4cfef_9 rfl rfl ?_
    refine g_iconst f 0 dJ1_indexOf_4cfef_10 kc_0 ?_
    refine g_max f maxk_J1_92 dJ1_indexOf_4cfef_11 rm_fr (rm_mx (Nat.le_of_ble_eq_true rfl)) (Nat.zero_le _) (Nat.zero_le _) ?_
    refine h_istore_n f dJ1_indexOf_4cfef_14 rfl (by decide) ?_
    refine g_iload_n f 3 dJ1_indexOf_4cfef_15 rfl rfl ?_
    refine g_aload_n f 1 dJ1_indexOf_4cfef_16 rfl rfl ?_
    obtain ⟨v4, h⟩ := h
    refine g_slen f v4 dJ1_indexOf_4cfef_17 ?_
    refine g_min f mink_J1_38 dJ1_indexOf_4cfef_18 rm_fr (rm_mx (Nat.le_of_ble_eq_true rfl)) (Nat.zero_le _) (Nat.zero_le _) ?_
    refine h_istore_n f dJ1_indexOf_4cfef_21 rfl (by decide) ?_
    refine g_iload_n f 1 dJ1_indexOf_4cfef_22 rfl rfl ?_
    refine g_iload_n f 0 dJ1_indexOf_4cfef_23 rfl rfl ?_
    refine g_ic_lt f 29 dJ1_indexOf_4cfef_24 rfl h (fun h => ?_) (fun h => ?_)
    · refine g_aload_n f 2 dJ1_indexOf_4cfef_29 rfl rfl ?_
      refine g_iload_n f 3 dJ1_indexOf_4cfef_30 rfl rfl ?_
      refine g_iload_n f 1 dJ1_indexOf_4cfef_31 rfl rfl ?_
      refine g_iload_n f 0 dJ1_indexOf_4cfef_32 rfl rfl ?_
      refine g_callS f mk_J1_95 (c_J1_indexOfChar_4cfef h) dJ1_indexOf_4cfef_33 rfl rfl (Nat.le_of_ble_eq_true rfl) (rm_ok (by decide) (by decide)) ⟨Nat.le_of_ble_eq_true rfl, Nat.le_of_ble_eq_true rfl⟩ (kI fun r7 μ5 x6 h => ?_)
      exact g_iret f hq (Nat.le_of_ble_eq_true rfl) (Nat.le_of_ble_eq_true rfl) dJ1_indexOf_4cfef_36 h
    · refine g_iconst f (-1) dJ1_indexOf_4cfef_27 kc_m1 ?_
      exact g_iret f hq (Nat.le_of_ble_eq_true rfl) (Nat.le_of_ble_eq_true rfl) dJ1_indexOf_4cfef_28 h
  · refine g_iconst f (-1) dJ1_indexOf_4cfef_7 kc_m1 ?_
    exact g_iret f hq (Nat.le_of_ble_eq_true rfl) (Nat.le_of_ble_eq_true rfl) dJ1_indexOf_4cfef_8 h
theorem c_J1_indexOf_4cfef {Ω : OM} {n0 : Nat} {i1 : Int32} {i2 : Int32} {i3 : Int32} {μ : Me} {Q : Int32 → Me → Prop} (h : S_J1_indexOf_4cfef n0 i1 i2 i3 μ Q) : CT Ω yJ1_indexOf_4cfef cJ1_indexOf_4cfef 4 (some .int) (rmc 1 0 0) [.ref (oA Ω n0), .int i1, .int i2, .int i3] μ (qI Q) := CT_of (by decide) rfl (by simp [lg_sl, Value.category]) (fun x hΩ f hq hi => by subst hΩ; exact t_J1_indexOf_4cfef f hq h)
theorem dJ0_indexOf_7cf53_0 : decode cJ0_indexOf_7cf53 0 = .ok (.aload_n 0, 1) := by decide +kernel
theorem dJ0_indexOf_7cf53_1 : decode cJ0_indexOf_7cf53 1 = .ok (.invokevirtual 492, 3) := by decide +kernel
theorem dJ0_indexOf_7cf53_4 : decode cJ0_indexOf_7cf53 4 = .ok (.ifCond .eq 19, 3) := by decide +kernel
theorem dJ0_indexOf_7cf53_7 : decode cJ0_indexOf_7cf53 7 = .ok (.aload_n 0, 1) := by decide +kernel
theorem dJ0_indexOf_7cf53_8 : decode cJ0_indexOf_7cf53 8 = .ok (.getfield 9, 3) := by decide +kernel
theorem dJ0_indexOf_7cf53_11 : decode cJ0_indexOf_7cf53 11 = .ok (.iload_n 1, 1) := by decide +kernel
theorem dJ0_indexOf_7cf53_12 : decode cJ0_indexOf_7cf53 12 = .ok (.iload_n 2, 1) := by decide +kernel
theorem dJ0_indexOf_7cf53_13 : decode cJ0_indexOf_7cf53 13 = .ok (.aload_n 0, 1) := by decide +kernel
theorem dJ0_indexOf_7cf53_14 : decode cJ0_indexOf_7cf53 14 = .ok (.invokevirtual 505, 3) := by decide +kernel
theorem dJ0_indexOf_7cf53_17 : decode cJ0_indexOf_7cf53 17 = .ok (.invokestatic 637, 3) := by decide +kernel
theorem dJ0_indexOf_7cf53_20 : decode cJ0_indexOf_7cf53 20 = .ok (.goto 16, 3) := by decide +kernel
theorem dJ0_indexOf_7cf53_23 : decode cJ0_indexOf_7cf53 23 = .ok (.aload_n 0, 1) := by decide +kernel
theorem dJ0_indexOf_7cf53_24 : decode cJ0_indexOf_7cf53 24 = .ok (.getfield 9, 3) := by decide +kernel
theorem dJ0_indexOf_7cf53_27 : decode cJ0_indexOf_7cf53 27 = .ok (.iload_n 1, 1) := by decide +kernel
theorem dJ0_indexOf_7cf53_28 : decode cJ0_indexOf_7cf53 28 = .ok (.iload_n 2, 1) := by decide +kernel
theorem dJ0_indexOf_7cf53_29 : decode cJ0_indexOf_7cf53 29 = .ok (.aload_n 0, 1) := by decide +kernel
theorem dJ0_indexOf_7cf53_30 : decode cJ0_indexOf_7cf53 30 = .ok (.invokevirtual 505, 3) := by decide +kernel
theorem dJ0_indexOf_7cf53_33 : decode cJ0_indexOf_7cf53 33 = .ok (.invokestatic 640, 3) := by decide +kernel
theorem dJ0_indexOf_7cf53_36 : decode cJ0_indexOf_7cf53 36 = .ok (.ireturn, 1) := by decide +kernel
def S_J0_indexOf_7cf53 (n0 : Nat) (i1 : Int32) (i2 : Int32) (μ : Me) (Q : Int32 → Me → Prop) : Prop := n0 < 2 ∧ S_J0_isLatin1_aae02 n0 μ (fun r4 μ2 => ((r4 = 0 → False) ∧ (¬ r4 = 0 → S_J0_length_8abf5 n0 μ2 (fun r10 μ8 => S_J1_indexOf_4cfef n0 i1 i2 r10 μ8 (fun r13 μ11 => Q r13 μ11)))))
set_option maxHeartbeats 4000000 in
set_option maxRecDepth 100000 in
theorem t_J0_indexOf_7cf53 {x : GX} (f : Fx x cJ0_indexOf_7cf53 RJ0 3 (rmc 5 0 0)) {n0 : Nat} {i1 : Int32} {i2 : Int32} {μ : Me} {Q : Int32 → Me → Prop} (hq : Rt x (some .int) (qI Q)) (h : S_J0_indexOf_7cf53 n0 i1 i2 μ Q) : G x 3 0 [(0, .ref (gK x n0)), (1, .int i1), (2, .int i2)] [] μ 0 0 := by
  unfold S_J0_indexOf_7cf53 at h
  refine g_aload_n f 0 dJ0_indexOf_7cf53_0 rfl rfl ?_
  obtain ⟨v1, h⟩ := h
  refine g_callK f mk_J0_492 v1 (c_J0_isLatin1_aae02 h) dJ0_indexOf_7cf53_1 rfl rfl (Nat.le_of_ble_eq_true rfl) (rm_ok (by decide) (by decide)) ⟨Nat.le_of_ble_eq_true rfl, Nat.le_of_ble_eq_true rfl⟩ (kI fun r4 μ2 x3 h => ?_)
  refine g_if_eq f 23 dJ0_indexOf_7cf53_4 rfl h (fun h => ?_) (fun h => ?_)
  · exact h.elim
  · refine g_aload_n f 0 dJ0_indexOf_7cf53_7 rfl rfl ?_
    refine g_sget f v1 (Or.inr ⟨rfl, rfl, rfl⟩) w_2015 dJ0_indexOf_7cf53_8 ?_
    refine g_iload_n f 1 dJ0_indexOf_7cf53_11 rfl rfl ?_
    refine g_iload_n f 2 dJ0_indexOf_7cf53_12 rfl rfl ?_
    refine g_aload_n f 0 dJ0_indexOf_7cf53_13 rfl rfl ?_
    refine g_callK f mk_J0_505 v1 (c_J0_length_8abf5 h) dJ0_indexOf_7cf53_14 rfl rfl (Nat.le_of_ble_eq_true rfl) (rm_ok (by decide) (by decide)) ⟨Nat.le_of_ble_eq_true rfl, Nat.le_of_ble_eq_true rfl⟩ (kI fun r10 μ8 x9 h => ?_)
    refine g_callS f mk_J0_637 (c_J1_indexOf_4cfef h) dJ0_indexOf_7cf53_17 rfl rfl (Nat.le_of_ble_eq_true rfl) (rm_ok (by decide) (by decide)) ⟨Nat.le_of_ble_eq_true rfl, Nat.le_of_ble_eq_true rfl⟩ (kI fun r13 μ11 x12 h => ?_)
    refine g_goto f 36 dJ0_indexOf_7cf53_20 rfl ?_
    exact g_iret f hq (Nat.le_of_ble_eq_true rfl) (Nat.le_of_ble_eq_true rfl) dJ0_indexOf_7cf53_36 h
theorem c_J0_indexOf_7cf53 {Ω : OM} {n0 : Nat} {i1 : Int32} {i2 : Int32} {μ : Me} {Q : Int32 → Me → Prop} (h : S_J0_indexOf_7cf53 n0 i1 i2 μ Q) : CT Ω yJ0_indexOf_7cf53 cJ0_indexOf_7cf53 3 (some .int) (rmc 5 0 0) [.ref (oK Ω n0), .int i1, .int i2] μ (qI Q) := CT_of (by decide) rfl (by simp [lg_sl, Value.category]) (fun x hΩ f hq hi => by subst hΩ; exact t_J0_indexOf_7cf53 f hq h)
theorem dJ0_indexOf_0f7a4_0 : decode cJ0_indexOf_0f7a4 0 = .ok (.aload_n 0, 1) := by decide +kernel
theorem dJ0_indexOf_0f7a4_1 : decode cJ0_indexOf_0f7a4 1 = .ok (.iload_n 1, 1) := by decide +kernel
theorem dJ0_indexOf_0f7a4_2 : decode cJ0_indexOf_0f7a4 2 = .ok (.iconst 0, 1) := by decide +kernel
theorem dJ0_indexOf_0f7a4_3 : decode cJ0_indexOf_0f7a4 3 = .ok (.invokevirtual 633, 3) := by decide +kernel
theorem dJ0_indexOf_0f7a4_6 : decode cJ0_indexOf_0f7a4 6 = .ok (.ireturn, 1) := by decide +kernel
def S_J0_indexOf_0f7a4 (n0 : Nat) (i1 : Int32) (μ : Me) (Q : Int32 → Me → Prop) : Prop := n0 < 2 ∧ S_J0_indexOf_7cf53 n0 i1 0 μ (fun r4 μ2 => Q r4 μ2)
set_option maxHeartbeats 4000000 in
set_option maxRecDepth 100000 in
theorem t_J0_indexOf_0f7a4 {x : GX} (f : Fx x cJ0_indexOf_0f7a4 RJ0 2 (rmc 6 0 0)) {n0 : Nat} {i1 : Int32} {μ : Me} {Q : Int32 → Me → Prop} (hq : Rt x (some .int) (qI Q)) (h : S_J0_indexOf_0f7a4 n0 i1 μ Q) : G x 2 0 [(0, .ref (gK x n0)), (1, .int i1)] [] μ 0 0 := by
  unfold S_J0_indexOf_0f7a4 at h
  refine g_aload_n f 0 dJ0_indexOf_0f7a4_0 rfl rfl ?_
  refine g_iload_n f 1 dJ0_indexOf_0f7a4_1 rfl rfl ?_
  refine g_iconst f 0 dJ0_indexOf_0f7a4_2 kc_0 ?_
  obtain ⟨v1, h⟩ := h
  refine g_callK f mk_J0_633 v1 (c_J0_indexOf_7cf53 h) dJ0_indexOf_0f7a4_3 rfl rfl (Nat.le_of_ble_eq_true rfl) (rm_ok (by decide) (by decide)) ⟨Nat.le_of_ble_eq_true rfl, Nat.le_of_ble_eq_true rfl⟩ (kI fun r4 μ2 x3 h => ?_)
  exact g_iret f hq (Nat.le_of_ble_eq_true rfl) (Nat.le_of_ble_eq_true rfl) dJ0_indexOf_0f7a4_6 h
theorem c_J0_indexOf_0f7a4 {Ω : OM} {n0 : Nat} {i1 : Int32} {μ : Me} {Q : Int32 → Me → Prop} (h : S_J0_indexOf_0f7a4 n0 i1 μ Q) : CT Ω yJ0_indexOf_0f7a4 cJ0_indexOf_0f7a4 2 (some .int) (rmc 6 0 0) [.ref (oK Ω n0), .int i1] μ (qI Q) := CT_of (by decide) rfl (by simp [lg_sl, Value.category]) (fun x hΩ f hq hi => by subst hΩ; exact t_J0_indexOf_0f7a4 f hq h)
theorem dX9_allRings_0 : decode cX9_allRings 0 = .ok (.iconst 1, 1) := by decide +kernel
theorem dX9_allRings_1 : decode cX9_allRings 1 = .ok (.aload_n 0, 1) := by decide +kernel
theorem dX9_allRings_2 : decode cX9_allRings 2 = .ok (.getfield 54, 3) := by decide +kernel
theorem dX9_allRings_5 : decode cX9_allRings 5 = .ok (.ishl, 1) := by decide +kernel
theorem dX9_allRings_6 : decode cX9_allRings 6 = .ok (.ireturn, 1) := by decide +kernel
def S_X9_allRings (o0 : Nat) (μ : Me) (Q : Int32 → Me → Prop) : Prop := mok μ o0 9 ∧ Q (1 <<< ((mgi μ o0 0) &&& 31)) μ
set_option maxHeartbeats 4000000 in
set_option maxRecDepth 100000 in
theorem t_X9_allRings {x : GX} (f : Fx x cX9_allRings RX9 1 (rmc 0 0 0)) {o0 : Nat} {μ : Me} {Q : Int32 → Me → Prop} (hq : Rt x (some .int) (qI Q)) (h : S_X9_allRings o0 μ Q) : G x 1 0 [(0, .ref (gB x + o0))] [] μ 0 0 := by
  unfold S_X9_allRings at h
  refine g_iconst f 1 dX9_allRings_0 kc_1 ?_
  refine g_aload_n f 0 dX9_allRings_1 rfl rfl ?_
  obtain ⟨v1, h⟩ := h
  refine g_getI f fk_X9_54 v1 dX9_allRings_2 rfl ?_
  refine g_ishl f dX9_allRings_5 ?_
  exact g_iret f hq (Nat.le_of_ble_eq_true rfl) (Nat.le_of_ble_eq_true rfl) dX9_allRings_6 h
theorem c_X9_allRings {Ω : OM} {o0 : Nat} {μ : Me} {Q : Int32 → Me → Prop} (h : S_X9_allRings o0 μ Q) : CT Ω yX9_allRings cX9_allRings 1 (some .int) (rmc 0 0 0) [.ref (oB Ω + o0)] μ (qI Q) := CT_of (by decide) rfl (by simp [lg_sl, Value.category]) (fun x hΩ f hq hi => by subst hΩ; exact t_X9_allRings f hq h)
theorem dX4_textOf_0 : decode cX4_textOf 0 = .ok (.iload_n 1, 1) := by decide +kernel
theorem dX4_textOf_1 : decode cX4_textOf 1 = .ok (.ifCond .lt 21, 3) := by decide +kernel
theorem dX4_textOf_4 : decode cX4_textOf 4 = .ok (.iload_n 1, 1) := by decide +kernel
theorem dX4_textOf_5 : decode cX4_textOf 5 = .ok (.aload_n 0, 1) := by decide +kernel
theorem dX4_textOf_6 : decode cX4_textOf 6 = .ok (.getfield 19, 3) := by decide +kernel
theorem dX4_textOf_9 : decode cX4_textOf 9 = .ok (.arraylength, 1) := by decide +kernel
theorem dX4_textOf_10 : decode cX4_textOf 10 = .ok (.if_icmp .ge 12, 3) := by decide +kernel
theorem dX4_textOf_13 : decode cX4_textOf 13 = .ok (.aload_n 0, 1) := by decide +kernel
theorem dX4_textOf_14 : decode cX4_textOf 14 = .ok (.getfield 19, 3) := by decide +kernel
theorem dX4_textOf_17 : decode cX4_textOf 17 = .ok (.iload_n 1, 1) := by decide +kernel
theorem dX4_textOf_18 : decode cX4_textOf 18 = .ok (.aaload, 1) := by decide +kernel
theorem dX4_textOf_19 : decode cX4_textOf 19 = .ok (.goto 4, 3) := by decide +kernel
theorem dX4_textOf_22 : decode cX4_textOf 22 = .ok (.aconst_null, 1) := by decide +kernel
theorem dX4_textOf_23 : decode cX4_textOf 23 = .ok (.areturn, 1) := by decide +kernel
def S_X4_textOf (o0 : Nat) (i1 : Int32) (μ : Me) (Q : Option Nat → Me → Prop) : Prop := ((i1 < 0 → Q none μ) ∧ (¬ i1 < 0 → mok μ o0 4 ∧ ∃ t2, mgr μ o0 1 = some t2 ∧ mok μ t2 16 ∧ (((nI (mln μ t2)) ≤ i1 → Q none μ) ∧ (¬ (nI (mln μ t2)) ≤ i1 → ∃ t4, mgr μ o0 1 = some t4 ∧ mok μ t4 16 ∧ vp_in i1 (mln μ t4) ∧ ∀ r6, r6 = mgr μ t4 i1.toNatClampNeg → Q r6 μ))))
set_option maxHeartbeats 4000000 in
set_option maxRecDepth 100000 in
theorem t_X4_textOf {x : GX} (f : Fx x cX4_textOf RX4 2 (rmc 0 0 0)) {o0 : Nat} {i1 : Int32} {μ : Me} {Q : Option Nat → Me → Prop} (hq : Rt x (some (.object "TollsForLate$Text")) (qR (gB x) Q)) (h : S_X4_textOf o0 i1 μ Q) : G x 2 0 [(0, .ref (gB x + o0)), (1, .int i1)] [] μ 0 0 := by
  unfold S_X4_textOf at h
  refine g_iload_n f 1 dX4_textOf_0 rfl rfl ?_
  refine g_if_lt f 22 dX4_textOf_1 rfl h (fun h => ?_) (fun h => ?_)
  · refine g_null f dX4_textOf_22 ?_
    exact g_aret (r := _) f hq (Or.inl ⟨_, rfl⟩) (Nat.le_of_ble_eq_true rfl) (Nat.le_of_ble_eq_true rfl) dX4_textOf_23 h
  · refine g_iload_n f 1 dX4_textOf_4 rfl rfl ?_
    refine g_aload_n f 0 dX4_textOf_5 rfl rfl ?_
    obtain ⟨v1, h⟩ := h
    refine g_getR f fk_X4_19 v1 dX4_textOf_6 rfl h (fun t2 h => ?_)
    obtain ⟨v3, h⟩ := h
    refine g_alen f v3 (Or.inr rfl) dX4_textOf_9 ?_
    refine g_ic_ge f 22 dX4_textOf_10 rfl h (fun h => ?_) (fun h => ?_)
    · refine g_null f dX4_textOf_22 ?_
      exact g_aret (r := _) f hq (Or.inl ⟨_, rfl⟩) (Nat.le_of_ble_eq_true rfl) (Nat.le_of_ble_eq_true rfl) dX4_textOf_23 h
    · refine g_aload_n f 0 dX4_textOf_13 rfl rfl ?_
      refine g_getR f fk_X4_19 v1 dX4_textOf_14 rfl h (fun t4 h => ?_)
      refine g_iload_n f 1 dX4_textOf_17 rfl rfl ?_
      obtain ⟨v5, h⟩ := h
      refine g_aald f v5 (Or.inr rfl) dX4_textOf_18 h (fun r6 h => ?_)
      refine g_goto f 23 dX4_textOf_19 rfl ?_
      exact g_aret (r := _) f hq (Or.inl ⟨_, rfl⟩) (Nat.le_of_ble_eq_true rfl) (Nat.le_of_ble_eq_true rfl) dX4_textOf_23 h
theorem c_X4_textOf {Ω : OM} {o0 : Nat} {i1 : Int32} {μ : Me} {Q : Option Nat → Me → Prop} (h : S_X4_textOf o0 i1 μ Q) : CT Ω yX4_textOf cX4_textOf 2 (some (.object "TollsForLate$Text")) (rmc 0 0 0) [.ref (oB Ω + o0), .int i1] μ (qR (oB Ω) Q) := CT_of (by decide) rfl (by simp [lg_sl, Value.category]) (fun x hΩ f hq hi => by subst hΩ; exact t_X4_textOf f hq h)
theorem dX4_asIn_0 : decode cX4_asIn 0 = .ok (.aload_n 0, 1) := by decide +kernel
theorem dX4_asIn_1 : decode cX4_asIn 1 = .ok (.aload_n 1, 1) := by decide +kernel
theorem dX4_asIn_2 : decode cX4_asIn 2 = .ok (.getfield 33, 3) := by decide +kernel
theorem dX4_asIn_5 : decode cX4_asIn 5 = .ok (.putfield 39, 3) := by decide +kernel
theorem dX4_asIn_8 : decode cX4_asIn 8 = .ok (.aload_n 0, 1) := by decide +kernel
theorem dX4_asIn_9 : decode cX4_asIn 9 = .ok (.aload_n 1, 1) := by decide +kernel
theorem dX4_asIn_10 : decode cX4_asIn 10 = .ok (.getfield 40, 3) := by decide +kernel
theorem dX4_asIn_13 : decode cX4_asIn 13 = .ok (.putfield 43, 3) := by decide +kernel
theorem dX4_asIn_16 : decode cX4_asIn 16 = .ok (.aload_n 0, 1) := by decide +kernel
theorem dX4_asIn_17 : decode cX4_asIn 17 = .ok (.aload_n 1, 1) := by decide +kernel
theorem dX4_asIn_18 : decode cX4_asIn 18 = .ok (.getfield 44, 3) := by decide +kernel
theorem dX4_asIn_21 : decode cX4_asIn 21 = .ok (.putfield 47, 3) := by decide +kernel
theorem dX4_asIn_24 : decode cX4_asIn 24 = .ok (.aload_n 0, 1) := by decide +kernel
theorem dX4_asIn_25 : decode cX4_asIn 25 = .ok (.aload_n 0, 1) := by decide +kernel
theorem dX4_asIn_26 : decode cX4_asIn 26 = .ok (.aload_n 0, 1) := by decide +kernel
theorem dX4_asIn_27 : decode cX4_asIn 27 = .ok (.getfield 15, 3) := by decide +kernel
theorem dX4_asIn_30 : decode cX4_asIn 30 = .ok (.getfield 48, 3) := by decide +kernel
theorem dX4_asIn_33 : decode cX4_asIn 33 = .ok (.invokevirtual 51, 3) := by decide +kernel
theorem dX4_asIn_36 : decode cX4_asIn 36 = .ok (.putfield 55, 3) := by decide +kernel
theorem dX4_asIn_39 : decode cX4_asIn 39 = .ok (.return_, 1) := by decide +kernel
def S_X4_asIn (o0 : Nat) (o1 : Nat) (μ : Me) (Q : Me → Prop) : Prop := mok μ o1 3 ∧ mok μ o0 4 ∧ ∀ μ3, μ3 = msi μ o0 3 (mgi μ o1 3) → ∀ μ4, μ4 = msi μ3 o0 4 (mgi μ3 o1 2) → ∀ μ5, μ5 = msi μ4 o0 5 (mgi μ4 o1 1) → ∃ t6, mgr μ5 o0 0 = some t6 ∧ mok μ5 t6 9 ∧ S_X4_textOf o0 (mgi μ5 t6 7) μ5 (fun r10 μ8 => ∀ μ11, μ11 = msr μ8 o0 6 r10 → Q μ11)
set_option maxHeartbeats 4000000 in
set_option maxRecDepth 100000 in
theorem t_X4_asIn {x : GX} (f : Fx x cX4_asIn RX4 2 (rmc 1 0 0)) {o0 : Nat} {o1 : Nat} {μ : Me} {Q : Me → Prop} (hq : Rt x none (qV Q)) (h : S_X4_asIn o0 o1 μ Q) : G x 2 0 [(0, .ref (gB x + o0)), (1, .ref (gB x + o1))] [] μ 0 0 := by
  unfold S_X4_asIn at h
  refine g_aload_n f 0 dX4_asIn_0 rfl rfl ?_
  refine g_aload_n f 1 dX4_asIn_1 rfl rfl ?_
  obtain ⟨v1, h⟩ := h
  refine g_getI f fk_X4_33 v1 dX4_asIn_2 rfl ?_
  obtain ⟨v2, h⟩ := h
  refine g_putI f fk_X4_39 v2 dX4_asIn_5 rfl h (fun h => ?_)
  refine g_aload_n f 0 dX4_asIn_8 rfl rfl ?_
  refine g_aload_n f 1 dX4_asIn_9 rfl rfl ?_
  refine g_getI f fk_X4_40 v1 dX4_asIn_10 rfl ?_
  refine g_putI f fk_X4_43 v2 dX4_asIn_13 rfl h (fun h => ?_)
  refine g_aload_n f 0 dX4_asIn_16 rfl rfl ?_
  refine g_aload_n f 1 dX4_asIn_17 rfl rfl ?_
  refine g_getI f fk_X4_44 v1 dX4_asIn_18 rfl ?_
  refine g_putI f fk_X4_47 v2 dX4_asIn_21 rfl h (fun h => ?_)
  refine g_aload_n f 0 dX4_asIn_24 rfl rfl ?_
  refine g_aload_n f 0 dX4_asIn_25 rfl rfl ?_
  refine g_aload_n f 0 dX4_asIn_26 rfl rfl ?_
  refine g_getR f fk_X4_15 v2 dX4_asIn_27 rfl h (fun t6 h => ?_)
  obtain ⟨v7, h⟩ := h
  refine g_getI f fk_X4_48 v7 dX4_asIn_30 rfl ?_
  refine g_callV f mk_X4_51 v2 (c_X4_textOf h) dX4_asIn_33 rfl rfl (Nat.le_of_ble_eq_true rfl) (rm_ok (by decide) (by decide)) ⟨Nat.le_of_ble_eq_true rfl, Nat.le_of_ble_eq_true rfl⟩ (kR fun r10 μ8 x9 h => ?_)
  have v2 := mex_ok x9 v2
  refine g_putQ (r := _) f fk_X4_55 v2 dX4_asIn_36 rfl (Or.inl ⟨_, rfl⟩) h (fun h => ?_)
  exact g_vret f hq (Nat.le_of_ble_eq_true rfl) (Nat.le_of_ble_eq_true rfl) dX4_asIn_39 h
theorem c_X4_asIn {Ω : OM} {o0 : Nat} {o1 : Nat} {μ : Me} {Q : Me → Prop} (h : S_X4_asIn o0 o1 μ Q) : CT Ω yX4_asIn cX4_asIn 2 none (rmc 1 0 0) [.ref (oB Ω + o0), .ref (oB Ω + o1)] μ (qV Q) := CT_of (by decide) rfl (by simp [lg_sl, Value.category]) (fun x hΩ f hq hi => by subst hΩ; exact t_X4_asIn f hq h)
theorem dX4_asNow_0 : decode cX4_asNow 0 = .ok (.aload_n 0, 1) := by decide +kernel
theorem dX4_asNow_1 : decode cX4_asNow 1 = .ok (.aload_n 0, 1) := by decide +kernel
theorem dX4_asNow_2 : decode cX4_asNow 2 = .ok (.getfield 15, 3) := by decide +kernel
theorem dX4_asNow_5 : decode cX4_asNow 5 = .ok (.getfield 23, 3) := by decide +kernel
theorem dX4_asNow_8 : decode cX4_asNow 8 = .ok (.invokevirtual 29, 3) := by decide +kernel
theorem dX4_asNow_11 : decode cX4_asNow 11 = .ok (.return_, 1) := by decide +kernel
def S_X4_asNow (o0 : Nat) (μ : Me) (Q : Me → Prop) : Prop := mok μ o0 4 ∧ ∃ t2, mgr μ o0 0 = some t2 ∧ mok μ t2 9 ∧ ∃ t4, mgr μ t2 14 = some t4 ∧ S_X4_asIn o0 t4 μ (fun μ5 => Q μ5)
set_option maxHeartbeats 4000000 in
set_option maxRecDepth 100000 in
theorem t_X4_asNow {x : GX} (f : Fx x cX4_asNow RX4 1 (rmc 2 0 0)) {o0 : Nat} {μ : Me} {Q : Me → Prop} (hq : Rt x none (qV Q)) (h : S_X4_asNow o0 μ Q) : G x 1 0 [(0, .ref (gB x + o0))] [] μ 0 0 := by
  unfold S_X4_asNow at h
  refine g_aload_n f 0 dX4_asNow_0 rfl rfl ?_
  refine g_aload_n f 0 dX4_asNow_1 rfl rfl ?_
  obtain ⟨v1, h⟩ := h
  refine g_getR f fk_X4_15 v1 dX4_asNow_2 rfl h (fun t2 h => ?_)
  obtain ⟨v3, h⟩ := h
  refine g_getR f fk_X4_23 v3 dX4_asNow_5 rfl h (fun t4 h => ?_)
  refine g_callV f mk_X4_29 v1 (c_X4_asIn h) dX4_asNow_8 rfl rfl (Nat.le_of_ble_eq_true rfl) (rm_ok (by decide) (by decide)) ⟨Nat.le_of_ble_eq_true rfl, Nat.le_of_ble_eq_true rfl⟩ (kV fun μ5 x6 h => ?_)
  exact g_vret f hq (Nat.le_of_ble_eq_true rfl) (Nat.le_of_ble_eq_true rfl) dX4_asNow_11 h
theorem c_X4_asNow {Ω : OM} {o0 : Nat} {μ : Me} {Q : Me → Prop} (h : S_X4_asNow o0 μ Q) : CT Ω yX4_asNow cX4_asNow 1 none (rmc 2 0 0) [.ref (oB Ω + o0)] μ (qV Q) := CT_of (by decide) rfl (by simp [lg_sl, Value.category]) (fun x hΩ f hq hi => by subst hΩ; exact t_X4_asNow f hq h)
theorem dX4_isUp_0 : decode cX4_isUp 0 = .ok (.aload_n 0, 1) := by decide +kernel
theorem dX4_isUp_1 : decode cX4_isUp 1 = .ok (.getfield 47, 3) := by decide +kernel
theorem dX4_isUp_4 : decode cX4_isUp 4 = .ok (.iload_n 1, 1) := by decide +kernel
theorem dX4_isUp_5 : decode cX4_isUp 5 = .ok (.ishr, 1) := by decide +kernel
theorem dX4_isUp_6 : decode cX4_isUp 6 = .ok (.iconst 1, 1) := by decide +kernel
theorem dX4_isUp_7 : decode cX4_isUp 7 = .ok (.iand, 1) := by decide +kernel
theorem dX4_isUp_8 : decode cX4_isUp 8 = .ok (.ifCond .ne 7, 3) := by decide +kernel
theorem dX4_isUp_11 : decode cX4_isUp 11 = .ok (.iconst 1, 1) := by decide +kernel
theorem dX4_isUp_12 : decode cX4_isUp 12 = .ok (.goto 4, 3) := by decide +kernel
theorem dX4_isUp_15 : decode cX4_isUp 15 = .ok (.iconst 0, 1) := by decide +kernel
theorem dX4_isUp_16 : decode cX4_isUp 16 = .ok (.ireturn, 1) := by decide +kernel
def S_X4_isUp (o0 : Nat) (i1 : Int32) (μ : Me) (Q : Int32 → Me → Prop) : Prop := mok μ o0 4 ∧ ((¬ (((mgi μ o0 5) >>> (i1 &&& 31)) &&& 1) = 0 → Q 0 μ) ∧ ((((mgi μ o0 5) >>> (i1 &&& 31)) &&& 1) = 0 → Q 1 μ))
set_option maxHeartbeats 4000000 in
set_option maxRecDepth 100000 in
theorem t_X4_isUp {x : GX} (f : Fx x cX4_isUp RX4 2 (rmc 0 0 0)) {o0 : Nat} {i1 : Int32} {μ : Me} {Q : Int32 → Me → Prop} (hq : Rt x (some .boolean) (qI Q)) (h : S_X4_isUp o0 i1 μ Q) : G x 2 0 [(0, .ref (gB x + o0)), (1, .int i1)] [] μ 0 0 := by
  unfold S_X4_isUp at h
  refine g_aload_n f 0 dX4_isUp_0 rfl rfl ?_
  obtain ⟨v1, h⟩ := h
  refine g_getI f fk_X4_47 v1 dX4_isUp_1 rfl ?_
  refine g_iload_n f 1 dX4_isUp_4 rfl rfl ?_
  refine g_ishr f dX4_isUp_5 ?_
  refine g_iconst f 1 dX4_isUp_6 kc_1 ?_
  refine g_iand f dX4_isUp_7 ?_
  refine g_if_ne f 15 dX4_isUp_8 rfl h (fun h => ?_) (fun h => ?_)
  · refine g_iconst f 0 dX4_isUp_15 kc_0 ?_
    exact g_zret f hq (Nat.le_of_ble_eq_true rfl) (Nat.le_of_ble_eq_true rfl) dX4_isUp_16 zb_0.1 h
  · refine g_iconst f 1 dX4_isUp_11 kc_1 ?_
    refine g_goto f 16 dX4_isUp_12 rfl ?_
    exact g_zret f hq (Nat.le_of_ble_eq_true rfl) (Nat.le_of_ble_eq_true rfl) dX4_isUp_16 zb_1.1 h
theorem c_X4_isUp {Ω : OM} {o0 : Nat} {i1 : Int32} {μ : Me} {Q : Int32 → Me → Prop} (h : S_X4_isUp o0 i1 μ Q) : CT Ω yX4_isUp cX4_isUp 2 (some .boolean) (rmc 0 0 0) [.ref (oB Ω + o0), .int i1] μ (qI Q) := CT_of (by decide) rfl (by simp [lg_sl, Value.category]) (fun x hΩ f hq hi => by subst hΩ; exact t_X4_isUp f hq h)
theorem dX10_isName_0 : decode cX10_isName 0 = .ok (.iload_n 0, 1) := by decide +kernel
theorem dX10_isName_1 : decode cX10_isName 1 = .ok (.bipush 6, 2) := by decide +kernel
theorem dX10_isName_3 : decode cX10_isName 3 = .ok (.if_icmp .lt 13, 3) := by decide +kernel
theorem dX10_isName_6 : decode cX10_isName 6 = .ok (.iload_n 0, 1) := by decide +kernel
theorem dX10_isName_7 : decode cX10_isName 7 = .ok (.bipush 15, 2) := by decide +kernel
theorem dX10_isName_9 : decode cX10_isName 9 = .ok (.if_icmp .gt 7, 3) := by decide +kernel
theorem dX10_isName_12 : decode cX10_isName 12 = .ok (.iconst 1, 1) := by decide +kernel
theorem dX10_isName_13 : decode cX10_isName 13 = .ok (.goto 4, 3) := by decide +kernel
theorem dX10_isName_16 : decode cX10_isName 16 = .ok (.iconst 0, 1) := by decide +kernel
theorem dX10_isName_17 : decode cX10_isName 17 = .ok (.ireturn, 1) := by decide +kernel
def S_X10_isName (i0 : Int32) (μ : Me) (Q : Int32 → Me → Prop) : Prop := ((i0 < 6 → Q 0 μ) ∧ (¬ i0 < 6 → ((15 < i0 → Q 0 μ) ∧ (¬ 15 < i0 → Q 1 μ))))
set_option maxHeartbeats 4000000 in
set_option maxRecDepth 100000 in
theorem t_X10_isName {x : GX} (f : Fx x cX10_isName RX10 1 (rmc 0 0 0)) {i0 : Int32} {μ : Me} {Q : Int32 → Me → Prop} (hq : Rt x (some .boolean) (qI Q)) (h : S_X10_isName i0 μ Q) : G x 1 0 [(0, .int i0)] [] μ 0 0 := by
  unfold S_X10_isName at h
  refine g_iload_n f 0 dX10_isName_0 rfl rfl ?_
  refine g_bipush f 6 dX10_isName_1 kb_6 ?_
  refine g_ic_lt f 16 dX10_isName_3 rfl h (fun h => ?_) (fun h => ?_)
  · refine g_iconst f 0 dX10_isName_16 kc_0 ?_
    exact g_zret f hq (Nat.le_of_ble_eq_true rfl) (Nat.le_of_ble_eq_true rfl) dX10_isName_17 zb_0.1 h
  · refine g_iload_n f 0 dX10_isName_6 rfl rfl ?_
    refine g_bipush f 15 dX10_isName_7 kb_15 ?_
    refine g_ic_gt f 16 dX10_isName_9 rfl h (fun h => ?_) (fun h => ?_)
    · refine g_iconst f 0 dX10_isName_16 kc_0 ?_
      exact g_zret f hq (Nat.le_of_ble_eq_true rfl) (Nat.le_of_ble_eq_true rfl) dX10_isName_17 zb_0.1 h
    · refine g_iconst f 1 dX10_isName_12 kc_1 ?_
      refine g_goto f 17 dX10_isName_13 rfl ?_
      exact g_zret f hq (Nat.le_of_ble_eq_true rfl) (Nat.le_of_ble_eq_true rfl) dX10_isName_17 zb_1.1 h
theorem c_X10_isName {Ω : OM} {i0 : Int32} {μ : Me} {Q : Int32 → Me → Prop} (h : S_X10_isName i0 μ Q) : CT Ω yX10_isName cX10_isName 1 (some .boolean) (rmc 0 0 0) [.int i0] μ (qI Q) := CT_of (by decide) rfl (by simp [lg_sl, Value.category]) (fun x hΩ f hq hi => by subst hΩ; exact t_X10_isName f hq h)
theorem dX4_named_0 : decode cX4_named 0 = .ok (.iload_n 1, 1) := by decide +kernel
theorem dX4_named_1 : decode cX4_named 1 = .ok (.tableswitch 131 6 14 #[105, 51, 79, 92, 56, 61, 66, 121, 126], 51) := by decide +kernel
theorem dX4_named_52 : decode cX4_named 52 = .ok (.aload_n 0, 1) := by decide +kernel
theorem dX4_named_53 : decode cX4_named 53 = .ok (.getfield 39, 3) := by decide +kernel
theorem dX4_named_56 : decode cX4_named 56 = .ok (.ireturn, 1) := by decide +kernel
theorem dX4_named_57 : decode cX4_named 57 = .ok (.aload_n 0, 1) := by decide +kernel
theorem dX4_named_58 : decode cX4_named 58 = .ok (.getfield 43, 3) := by decide +kernel
theorem dX4_named_61 : decode cX4_named 61 = .ok (.ireturn, 1) := by decide +kernel
theorem dX4_named_62 : decode cX4_named 62 = .ok (.aload_n 0, 1) := by decide +kernel
theorem dX4_named_63 : decode cX4_named 63 = .ok (.getfield 70, 3) := by decide +kernel
theorem dX4_named_66 : decode cX4_named 66 = .ok (.ireturn, 1) := by decide +kernel
theorem dX4_named_67 : decode cX4_named 67 = .ok (.aload_n 0, 1) := by decide +kernel
theorem dX4_named_68 : decode cX4_named 68 = .ok (.getfield 15, 3) := by decide +kernel
theorem dX4_named_71 : decode cX4_named 71 = .ok (.getfield 113, 3) := by decide +kernel
theorem dX4_named_74 : decode cX4_named 74 = .ok (.aload_n 0, 1) := by decide +kernel
theorem dX4_named_75 : decode cX4_named 75 = .ok (.getfield 70, 3) := by decide +kernel
theorem dX4_named_78 : decode cX4_named 78 = .ok (.iaload, 1) := by decide +kernel
theorem dX4_named_79 : decode cX4_named 79 = .ok (.ireturn, 1) := by decide +kernel
theorem dX4_named_80 : decode cX4_named 80 = .ok (.aload_n 0, 1) := by decide +kernel
theorem dX4_named_81 : decode cX4_named 81 = .ok (.getfield 15, 3) := by decide +kernel
theorem dX4_named_84 : decode cX4_named 84 = .ok (.getfield 122, 3) := by decide +kernel
theorem dX4_named_87 : decode cX4_named 87 = .ok (.aload_n 0, 1) := by decide +kernel
theorem dX4_named_88 : decode cX4_named 88 = .ok (.getfield 70, 3) := by decide +kernel
theorem dX4_named_91 : decode cX4_named 91 = .ok (.iaload, 1) := by decide +kernel
theorem dX4_named_92 : decode cX4_named 92 = .ok (.ireturn, 1) := by decide +kernel
theorem dX4_named_93 : decode cX4_named 93 = .ok (.aload_n 0, 1) := by decide +kernel
theorem dX4_named_94 : decode cX4_named 94 = .ok (.getfield 15, 3) := by decide +kernel
theorem dX4_named_97 : decode cX4_named 97 = .ok (.getfield 119, 3) := by decide +kernel
theorem dX4_named_100 : decode cX4_named 100 = .ok (.aload_n 0, 1) := by decide +kernel
theorem dX4_named_101 : decode cX4_named 101 = .ok (.getfield 70, 3) := by decide +kernel
theorem dX4_named_104 : decode cX4_named 104 = .ok (.iaload, 1) := by decide +kernel
theorem dX4_named_105 : decode cX4_named 105 = .ok (.ireturn, 1) := by decide +kernel
theorem dX4_named_106 : decode cX4_named 106 = .ok (.aload_n 0, 1) := by decide +kernel
theorem dX4_named_107 : decode cX4_named 107 = .ok (.getfield 15, 3) := by decide +kernel
theorem dX4_named_110 : decode cX4_named 110 = .ok (.getfield 23, 3) := by decide +kernel
theorem dX4_named_113 : decode cX4_named 113 = .ok (.getfield 107, 3) := by decide +kernel
theorem dX4_named_116 : decode cX4_named 116 = .ok (.aload_n 0, 1) := by decide +kernel
theorem dX4_named_117 : decode cX4_named 117 = .ok (.getfield 70, 3) := by decide +kernel
theorem dX4_named_120 : decode cX4_named 120 = .ok (.iaload, 1) := by decide +kernel
theorem dX4_named_121 : decode cX4_named 121 = .ok (.ireturn, 1) := by decide +kernel
theorem dX4_named_122 : decode cX4_named 122 = .ok (.aload_n 0, 1) := by decide +kernel
theorem dX4_named_123 : decode cX4_named 123 = .ok (.getfield 82, 3) := by decide +kernel
theorem dX4_named_126 : decode cX4_named 126 = .ok (.ireturn, 1) := by decide +kernel
theorem dX4_named_127 : decode cX4_named 127 = .ok (.aload_n 0, 1) := by decide +kernel
theorem dX4_named_128 : decode cX4_named 128 = .ok (.getfield 125, 3) := by decide +kernel
theorem dX4_named_131 : decode cX4_named 131 = .ok (.ireturn, 1) := by decide +kernel
theorem dX4_named_132 : decode cX4_named 132 = .ok (.aload_n 0, 1) := by decide +kernel
theorem dX4_named_133 : decode cX4_named 133 = .ok (.getfield 128, 3) := by decide +kernel
theorem dX4_named_136 : decode cX4_named 136 = .ok (.ireturn, 1) := by decide +kernel
def S_X4_named (o0 : Nat) (i1 : Int32) (μ : Me) (Q : Int32 → Me → Prop) : Prop := ((i1 = 6 → mok μ o0 4 ∧ ∃ t3, mgr μ o0 0 = some t3 ∧ mok μ t3 9 ∧ ∃ t5, mgr μ t3 14 = some t5 ∧ mok μ t5 3 ∧ ∃ t7, mgr μ t5 5 = some t7 ∧ mok μ t7 12 ∧ vp_in (mgi μ o0 8) (mln μ t7) ∧ Q (mgi μ t7 (mgi μ o0 8).toNatClampNeg) μ) ∧ (¬ i1 = 6 → (i1 = 7 → mok μ o0 4 ∧ Q (mgi μ o0 3) μ) ∧ (¬ i1 = 7 → (i1 = 8 → mok μ o0 4 ∧ ∃ t13, mgr μ o0 0 = some t13 ∧ mok μ t13 9 ∧ ∃ t15, mgr μ t13 3 = some t15 ∧ mok μ t15 12 ∧ vp_in (mgi μ o0 8) (mln μ t15) ∧ Q (mgi μ t15 (mgi μ o0 8).toNatClampNeg) μ) ∧ (¬ i1 = 8 → (i1 = 9 → mok μ o0 4 ∧ ∃ t19, mgr μ o0 0 = some t19 ∧ mok μ t19 9 ∧ ∃ t21, mgr μ t19 4 = some t21 ∧ mok μ t21 12 ∧ vp_in (mgi μ o0 8) (mln μ t21) ∧ Q (mgi μ t21 (mgi μ o0 8).toNatClampNeg) μ) ∧ (¬ i1 = 9 → (i1 = 10 → mok μ o0 4 ∧ Q (mgi μ o0 4) μ) ∧ (¬ i1 = 10 → (i1 = 11 → mok μ o0 4 ∧ Q (mgi μ o0 8) μ) ∧ (¬ i1 = 11 → (i1 = 12 → mok μ o0 4 ∧ ∃ t29, mgr μ o0 0 = some t29 ∧ mok μ t29 9 ∧ ∃ t31, mgr μ t29 1 = some t31 ∧ mok μ t31 12 ∧ vp_in (mgi μ o0 8) (mln μ t31) ∧ Q (mgi μ t31 (mgi μ o0 8).toNatClampNeg) μ) ∧ (¬ i1 = 12 → (i1 = 13 → mok μ o0 4 ∧ Q (mgi μ o0 9) μ) ∧ (¬ i1 = 13 → (i1 = 14 → mok μ o0 4 ∧ Q (mgi μ o0 10) μ) ∧ (¬ i1 = 14 → mok μ o0 4 ∧ Q (mgi μ o0 11) μ))))))))))
set_option maxHeartbeats 4000000 in
set_option maxRecDepth 100000 in
theorem t_X4_named {x : GX} (f : Fx x cX4_named RX4 2 (rmc 0 0 0)) {o0 : Nat} {i1 : Int32} {μ : Me} {Q : Int32 → Me → Prop} (hq : Rt x (some .int) (qI Q)) (h : S_X4_named o0 i1 μ Q) : G x 2 0 [(0, .ref (gB x + o0)), (1, .int i1)] [] μ 0 0 := by
  unfold S_X4_named at h
  refine g_iload_n f 1 dX4_named_0 rfl rfl ?_
  rcases dec_or h with ⟨e1, h⟩ | ⟨e1, h⟩
  · refine g_tableIn f 106 dX4_named_1 (by rw [e1] <;> decide) (by rw [e1] <;> decide) (by rw [e1] <;> rfl) rfl ?_
    refine g_aload_n f 0 dX4_named_106 rfl rfl ?_
    obtain ⟨v2, h⟩ := h
    refine g_getR f fk_X4_15 v2 dX4_named_107 rfl h (fun t3 h => ?_)
    obtain ⟨v4, h⟩ := h
    refine g_getR f fk_X4_23 v4 dX4_named_110 rfl h (fun t5 h => ?_)
    obtain ⟨v6, h⟩ := h
    refine g_getR f fk_X4_107 v6 dX4_named_113 rfl h (fun t7 h => ?_)
    refine g_aload_n f 0 dX4_named_116 rfl rfl ?_
    refine g_getI f fk_X4_70 v2 dX4_named_117 rfl ?_
    obtain ⟨v8, h⟩ := h
    refine g_iald f v8 dX4_named_120 h (fun h => ?_)
    exact g_iret f hq (Nat.le_of_ble_eq_true rfl) (Nat.le_of_ble_eq_true rfl) dX4_named_121 h
  · skip
    rcases dec_or h with ⟨e9, h⟩ | ⟨e9, h⟩
    · refine g_tableIn f 52 dX4_named_1 (by rw [e9] <;> decide) (by rw [e9] <;> decide) (by rw [e9] <;> rfl) rfl ?_
      refine g_aload_n f 0 dX4_named_52 rfl rfl ?_
      obtain ⟨v10, h⟩ := h
      refine g_getI f fk_X4_39 v10 dX4_named_53 rfl ?_
      exact g_iret f hq (Nat.le_of_ble_eq_true rfl) (Nat.le_of_ble_eq_true rfl) dX4_named_56 h
    · skip
      rcases dec_or h with ⟨e11, h⟩ | ⟨e11, h⟩
      · refine g_tableIn f 80 dX4_named_1 (by rw [e11] <;> decide) (by rw [e11] <;> decide) (by rw [e11] <;> rfl) rfl ?_
        refine g_aload_n f 0 dX4_named_80 rfl rfl ?_
        obtain ⟨v12, h⟩ := h
        refine g_getR f fk_X4_15 v12 dX4_named_81 rfl h (fun t13 h => ?_)
        obtain ⟨v14, h⟩ := h
        refine g_getR f fk_X4_122 v14 dX4_named_84 rfl h (fun t15 h => ?_)
        refine g_aload_n f 0 dX4_named_87 rfl rfl ?_
        refine g_getI f fk_X4_70 v12 dX4_named_88 rfl ?_
        obtain ⟨v16, h⟩ := h
        refine g_iald f v16 dX4_named_91 h (fun h => ?_)
        exact g_iret f hq (Nat.le_of_ble_eq_true rfl) (Nat.le_of_ble_eq_true rfl) dX4_named_92 h
      · skip
        rcases dec_or h with ⟨e17, h⟩ | ⟨e17, h⟩
        · refine g_tableIn f 93 dX4_named_1 (by rw [e17] <;> decide) (by rw [e17] <;> decide) (by rw [e17] <;> rfl) rfl ?_
          refine g_aload_n f 0 dX4_named_93 rfl rfl ?_
          obtain ⟨v18, h⟩ := h
          refine g_getR f fk_X4_15 v18 dX4_named_94 rfl h (fun t19 h => ?_)
          obtain ⟨v20, h⟩ := h
          refine g_getR f fk_X4_119 v20 dX4_named_97 rfl h (fun t21 h => ?_)
          refine g_aload_n f 0 dX4_named_100 rfl rfl ?_
          refine g_getI f fk_X4_70 v18 dX4_named_101 rfl ?_
          obtain ⟨v22, h⟩ := h
          refine g_iald f v22 dX4_named_104 h (fun h => ?_)
          exact g_iret f hq (Nat.le_of_ble_eq_true rfl) (Nat.le_of_ble_eq_true rfl) dX4_named_105 h
        · skip
          rcases dec_or h with ⟨e23, h⟩ | ⟨e23, h⟩
          · refine g_tableIn f 57 dX4_named_1 (by rw [e23] <;> decide) (by rw [e23] <;> decide) (by rw [e23] <;> rfl) rfl ?_
            refine g_aload_n f 0 dX4_named_57 rfl rfl ?_
            obtain ⟨v24, h⟩ := h
            refine g_getI f fk_X4_43 v24 dX4_named_58 rfl ?_
            exact g_iret f hq (Nat.le_of_ble_eq_true rfl) (Nat.le_of_ble_eq_true rfl) dX4_named_61 h
          · skip
            rcases dec_or h with ⟨e25, h⟩ | ⟨e25, h⟩
            · refine g_tableIn f 62 dX4_named_1 (by rw [e25] <;> decide) (by rw [e25] <;> decide) (by rw [e25] <;> rfl) rfl ?_
              refine g_aload_n f 0 dX4_named_62 rfl rfl ?_
              obtain ⟨v26, h⟩ := h
              refine g_getI f fk_X4_70 v26 dX4_named_63 rfl ?_
              exact g_iret f hq (Nat.le_of_ble_eq_true rfl) (Nat.le_of_ble_eq_true rfl) dX4_named_66 h
            · skip
              rcases dec_or h with ⟨e27, h⟩ | ⟨e27, h⟩
              · refine g_tableIn f 67 dX4_named_1 (by rw [e27] <;> decide) (by rw [e27] <;> decide) (by rw [e27] <;> rfl) rfl ?_
                refine g_aload_n f 0 dX4_named_67 rfl rfl ?_
                obtain ⟨v28, h⟩ := h
                refine g_getR f fk_X4_15 v28 dX4_named_68 rfl h (fun t29 h => ?_)
                obtain ⟨v30, h⟩ := h
                refine g_getR f fk_X4_113 v30 dX4_named_71 rfl h (fun t31 h => ?_)
                refine g_aload_n f 0 dX4_named_74 rfl rfl ?_
                refine g_getI f fk_X4_70 v28 dX4_named_75 rfl ?_
                obtain ⟨v32, h⟩ := h
                refine g_iald f v32 dX4_named_78 h (fun h => ?_)
                exact g_iret f hq (Nat.le_of_ble_eq_true rfl) (Nat.le_of_ble_eq_true rfl) dX4_named_79 h
              · skip
                rcases dec_or h with ⟨e33, h⟩ | ⟨e33, h⟩
                · refine g_tableIn f 122 dX4_named_1 (by rw [e33] <;> decide) (by rw [e33] <;> decide) (by rw [e33] <;> rfl) rfl ?_
                  refine g_aload_n f 0 dX4_named_122 rfl rfl ?_
                  obtain ⟨v34, h⟩ := h
                  refine g_getI f fk_X4_82 v34 dX4_named_123 rfl ?_
                  exact g_iret f hq (Nat.le_of_ble_eq_true rfl) (Nat.le_of_ble_eq_true rfl) dX4_named_126 h
                · skip
                  rcases dec_or h with ⟨e35, h⟩ | ⟨e35, h⟩
                  · refine g_tableIn f 127 dX4_named_1 (by rw [e35] <;> decide) (by rw [e35] <;> decide) (by rw [e35] <;> rfl) rfl ?_
                    refine g_aload_n f 0 dX4_named_127 rfl rfl ?_
                    obtain ⟨v36, h⟩ := h
                    refine g_getI f fk_X4_125 v36 dX4_named_128 rfl ?_
                    exact g_iret f hq (Nat.le_of_ble_eq_true rfl) (Nat.le_of_ble_eq_true rfl) dX4_named_131 h
                  · skip
                    have e1 := lv_neT (a := 6) e1 (by decide)
                    have e9 := lv_neT (a := 7) e9 (by decide)
                    have e11 := lv_neT (a := 8) e11 (by decide)
                    have e17 := lv_neT (a := 9) e17 (by decide)
                    have e23 := lv_neT (a := 10) e23 (by decide)
                    have e25 := lv_neT (a := 11) e25 (by decide)
                    have e27 := lv_neT (a := 12) e27 (by decide)
                    have e33 := lv_neT (a := 13) e33 (by decide)
                    have e35 := lv_neT (a := 14) e35 (by decide)
                    refine g_tableOut f 132 dX4_named_1 (by omega) rfl ?_
                    refine g_aload_n f 0 dX4_named_132 rfl rfl ?_
                    obtain ⟨v37, h⟩ := h
                    refine g_getI f fk_X4_128 v37 dX4_named_133 rfl ?_
                    exact g_iret f hq (Nat.le_of_ble_eq_true rfl) (Nat.le_of_ble_eq_true rfl) dX4_named_136 h
theorem c_X4_named {Ω : OM} {o0 : Nat} {i1 : Int32} {μ : Me} {Q : Int32 → Me → Prop} (h : S_X4_named o0 i1 μ Q) : CT Ω yX4_named cX4_named 2 (some .int) (rmc 0 0 0) [.ref (oB Ω + o0), .int i1] μ (qI Q) := CT_of (by decide) rfl (by simp [lg_sl, Value.category]) (fun x hΩ f hq hi => by subst hΩ; exact t_X4_named f hq h)
theorem dX4_turned_0 : decode cX4_turned 0 = .ok (.iload_n 1, 1) := by decide +kernel
theorem dX4_turned_1 : decode cX4_turned 1 = .ok (.bipush 60, 2) := by decide +kernel
theorem dX4_turned_3 : decode cX4_turned 3 = .ok (.if_icmp .ne 6, 3) := by decide +kernel
theorem dX4_turned_6 : decode cX4_turned 6 = .ok (.iload_n 2, 1) := by decide +kernel
theorem dX4_turned_7 : decode cX4_turned 7 = .ok (.ineg, 1) := by decide +kernel
theorem dX4_turned_8 : decode cX4_turned 8 = .ok (.ireturn, 1) := by decide +kernel
theorem dX4_turned_9 : decode cX4_turned 9 = .ok (.iload_n 1, 1) := by decide +kernel
theorem dX4_turned_10 : decode cX4_turned 10 = .ok (.bipush 25, 2) := by decide +kernel
theorem dX4_turned_12 : decode cX4_turned 12 = .ok (.if_icmp .ne 13, 3) := by decide +kernel
theorem dX4_turned_15 : decode cX4_turned 15 = .ok (.iload_n 2, 1) := by decide +kernel
theorem dX4_turned_16 : decode cX4_turned 16 = .ok (.ifCond .ne 7, 3) := by decide +kernel
theorem dX4_turned_19 : decode cX4_turned 19 = .ok (.iconst 1, 1) := by decide +kernel
theorem dX4_turned_20 : decode cX4_turned 20 = .ok (.goto 4, 3) := by decide +kernel
theorem dX4_turned_23 : decode cX4_turned 23 = .ok (.iconst 0, 1) := by decide +kernel
theorem dX4_turned_24 : decode cX4_turned 24 = .ok (.ireturn, 1) := by decide +kernel
theorem dX4_turned_25 : decode cX4_turned 25 = .ok (.iload_n 2, 1) := by decide +kernel
theorem dX4_turned_26 : decode cX4_turned 26 = .ok (.ifCond .lt 20, 3) := by decide +kernel
theorem dX4_turned_29 : decode cX4_turned 29 = .ok (.iload_n 2, 1) := by decide +kernel
theorem dX4_turned_30 : decode cX4_turned 30 = .ok (.bipush 8, 2) := by decide +kernel
theorem dX4_turned_32 : decode cX4_turned 32 = .ok (.if_icmp .ge 14, 3) := by decide +kernel
theorem dX4_turned_35 : decode cX4_turned 35 = .ok (.aload_n 0, 1) := by decide +kernel
theorem dX4_turned_36 : decode cX4_turned 36 = .ok (.getfield 64, 3) := by decide +kernel
theorem dX4_turned_39 : decode cX4_turned 39 = .ok (.iload_n 2, 1) := by decide +kernel
theorem dX4_turned_40 : decode cX4_turned 40 = .ok (.ishr, 1) := by decide +kernel
theorem dX4_turned_41 : decode cX4_turned 41 = .ok (.iconst 1, 1) := by decide +kernel
theorem dX4_turned_42 : decode cX4_turned 42 = .ok (.iand, 1) := by decide +kernel
theorem dX4_turned_43 : decode cX4_turned 43 = .ok (.goto 4, 3) := by decide +kernel
theorem dX4_turned_46 : decode cX4_turned 46 = .ok (.iconst 0, 1) := by decide +kernel
theorem dX4_turned_47 : decode cX4_turned 47 = .ok (.ireturn, 1) := by decide +kernel
def S_X4_turned (o0 : Nat) (i1 : Int32) (i2 : Int32) (μ : Me) (Q : Int32 → Me → Prop) : Prop := ((¬ i1 = 60 → ((¬ i1 = 25 → ((i2 < 0 → Q 0 μ) ∧ (¬ i2 < 0 → ((8 ≤ i2 → Q 0 μ) ∧ (¬ 8 ≤ i2 → mok μ o0 4 ∧ Q (((mgi μ o0 7) >>> (i2 &&& 31)) &&& 1) μ))))) ∧ (i1 = 25 → ((¬ i2 = 0 → Q 0 μ) ∧ (i2 = 0 → Q 1 μ))))) ∧ (i1 = 60 → Q (-i2) μ))
set_option maxHeartbeats 4000000 in
set_option maxRecDepth 100000 in
theorem t_X4_turned {x : GX} (f : Fx x cX4_turned RX4 3 (rmc 0 0 0)) {o0 : Nat} {i1 : Int32} {i2 : Int32} {μ : Me} {Q : Int32 → Me → Prop} (hq : Rt x (some .int) (qI Q)) (h : S_X4_turned o0 i1 i2 μ Q) : G x 3 0 [(0, .ref (gB x + o0)), (1, .int i1), (2, .int i2)] [] μ 0 0 := by
  unfold S_X4_turned at h
  refine g_iload_n f 1 dX4_turned_0 rfl rfl ?_
  refine g_bipush f 60 dX4_turned_1 kb_60 ?_
  refine g_ic_ne f 9 dX4_turned_3 rfl h (fun h => ?_) (fun h => ?_)
  · refine g_iload_n f 1 dX4_turned_9 rfl rfl ?_
    refine g_bipush f 25 dX4_turned_10 kb_25 ?_
    refine g_ic_ne f 25 dX4_turned_12 rfl h (fun h => ?_) (fun h => ?_)
    · refine g_iload_n f 2 dX4_turned_25 rfl rfl ?_
      refine g_if_lt f 46 dX4_turned_26 rfl h (fun h => ?_) (fun h => ?_)
      · refine g_iconst f 0 dX4_turned_46 kc_0 ?_
        exact g_iret f hq (Nat.le_of_ble_eq_true rfl) (Nat.le_of_ble_eq_true rfl) dX4_turned_47 h
      · refine g_iload_n f 2 dX4_turned_29 rfl rfl ?_
        refine g_bipush f 8 dX4_turned_30 kb_8 ?_
        refine g_ic_ge f 46 dX4_turned_32 rfl h (fun h => ?_) (fun h => ?_)
        · refine g_iconst f 0 dX4_turned_46 kc_0 ?_
          exact g_iret f hq (Nat.le_of_ble_eq_true rfl) (Nat.le_of_ble_eq_true rfl) dX4_turned_47 h
        · refine g_aload_n f 0 dX4_turned_35 rfl rfl ?_
          obtain ⟨v1, h⟩ := h
          refine g_getI f fk_X4_64 v1 dX4_turned_36 rfl ?_
          refine g_iload_n f 2 dX4_turned_39 rfl rfl ?_
          refine g_ishr f dX4_turned_40 ?_
          refine g_iconst f 1 dX4_turned_41 kc_1 ?_
          refine g_iand f dX4_turned_42 ?_
          refine g_goto f 47 dX4_turned_43 rfl ?_
          exact g_iret f hq (Nat.le_of_ble_eq_true rfl) (Nat.le_of_ble_eq_true rfl) dX4_turned_47 h
    · refine g_iload_n f 2 dX4_turned_15 rfl rfl ?_
      refine g_if_ne f 23 dX4_turned_16 rfl h (fun h => ?_) (fun h => ?_)
      · refine g_iconst f 0 dX4_turned_23 kc_0 ?_
        exact g_iret f hq (Nat.le_of_ble_eq_true rfl) (Nat.le_of_ble_eq_true rfl) dX4_turned_24 h
      · refine g_iconst f 1 dX4_turned_19 kc_1 ?_
        refine g_goto f 24 dX4_turned_20 rfl ?_
        exact g_iret f hq (Nat.le_of_ble_eq_true rfl) (Nat.le_of_ble_eq_true rfl) dX4_turned_24 h
  · refine g_iload_n f 2 dX4_turned_6 rfl rfl ?_
    refine g_ineg f dX4_turned_7 ?_
    exact g_iret f hq (Nat.le_of_ble_eq_true rfl) (Nat.le_of_ble_eq_true rfl) dX4_turned_8 h
theorem c_X4_turned {Ω : OM} {o0 : Nat} {i1 : Int32} {i2 : Int32} {μ : Me} {Q : Int32 → Me → Prop} (h : S_X4_turned o0 i1 i2 μ Q) : CT Ω yX4_turned cX4_turned 3 (some .int) (rmc 0 0 0) [.ref (oB Ω + o0), .int i1, .int i2] μ (qI Q) := CT_of (by decide) rfl (by simp [lg_sl, Value.category]) (fun x hΩ f hq hi => by subst hΩ; exact t_X4_turned f hq h)
theorem dX4_compared_0 : decode cX4_compared 0 = .ok (.iload_n 0, 1) := by decide +kernel
theorem dX4_compared_1 : decode cX4_compared 1 = .ok (.tableswitch 94 37 42 #[39, 61, 83, 94, 50, 72], 39) := by decide +kernel
theorem dX4_compared_40 : decode cX4_compared 40 = .ok (.iload_n 1, 1) := by decide +kernel
theorem dX4_compared_41 : decode cX4_compared 41 = .ok (.iload_n 2, 1) := by decide +kernel
theorem dX4_compared_42 : decode cX4_compared 42 = .ok (.if_icmp .ge 7, 3) := by decide +kernel
theorem dX4_compared_45 : decode cX4_compared 45 = .ok (.iconst 1, 1) := by decide +kernel
theorem dX4_compared_46 : decode cX4_compared 46 = .ok (.goto 4, 3) := by decide +kernel
theorem dX4_compared_49 : decode cX4_compared 49 = .ok (.iconst 0, 1) := by decide +kernel
theorem dX4_compared_50 : decode cX4_compared 50 = .ok (.ireturn, 1) := by decide +kernel
theorem dX4_compared_51 : decode cX4_compared 51 = .ok (.iload_n 1, 1) := by decide +kernel
theorem dX4_compared_52 : decode cX4_compared 52 = .ok (.iload_n 2, 1) := by decide +kernel
theorem dX4_compared_53 : decode cX4_compared 53 = .ok (.if_icmp .gt 7, 3) := by decide +kernel
theorem dX4_compared_56 : decode cX4_compared 56 = .ok (.iconst 1, 1) := by decide +kernel
theorem dX4_compared_57 : decode cX4_compared 57 = .ok (.goto 4, 3) := by decide +kernel
theorem dX4_compared_60 : decode cX4_compared 60 = .ok (.iconst 0, 1) := by decide +kernel
theorem dX4_compared_61 : decode cX4_compared 61 = .ok (.ireturn, 1) := by decide +kernel
theorem dX4_compared_62 : decode cX4_compared 62 = .ok (.iload_n 1, 1) := by decide +kernel
theorem dX4_compared_63 : decode cX4_compared 63 = .ok (.iload_n 2, 1) := by decide +kernel
theorem dX4_compared_64 : decode cX4_compared 64 = .ok (.if_icmp .le 7, 3) := by decide +kernel
theorem dX4_compared_67 : decode cX4_compared 67 = .ok (.iconst 1, 1) := by decide +kernel
theorem dX4_compared_68 : decode cX4_compared 68 = .ok (.goto 4, 3) := by decide +kernel
theorem dX4_compared_71 : decode cX4_compared 71 = .ok (.iconst 0, 1) := by decide +kernel
theorem dX4_compared_72 : decode cX4_compared 72 = .ok (.ireturn, 1) := by decide +kernel
theorem dX4_compared_73 : decode cX4_compared 73 = .ok (.iload_n 1, 1) := by decide +kernel
theorem dX4_compared_74 : decode cX4_compared 74 = .ok (.iload_n 2, 1) := by decide +kernel
theorem dX4_compared_75 : decode cX4_compared 75 = .ok (.if_icmp .lt 7, 3) := by decide +kernel
theorem dX4_compared_78 : decode cX4_compared 78 = .ok (.iconst 1, 1) := by decide +kernel
theorem dX4_compared_79 : decode cX4_compared 79 = .ok (.goto 4, 3) := by decide +kernel
theorem dX4_compared_82 : decode cX4_compared 82 = .ok (.iconst 0, 1) := by decide +kernel
theorem dX4_compared_83 : decode cX4_compared 83 = .ok (.ireturn, 1) := by decide +kernel
theorem dX4_compared_84 : decode cX4_compared 84 = .ok (.iload_n 1, 1) := by decide +kernel
theorem dX4_compared_85 : decode cX4_compared 85 = .ok (.iload_n 2, 1) := by decide +kernel
theorem dX4_compared_86 : decode cX4_compared 86 = .ok (.if_icmp .ne 7, 3) := by decide +kernel
theorem dX4_compared_89 : decode cX4_compared 89 = .ok (.iconst 1, 1) := by decide +kernel
theorem dX4_compared_90 : decode cX4_compared 90 = .ok (.goto 4, 3) := by decide +kernel
theorem dX4_compared_93 : decode cX4_compared 93 = .ok (.iconst 0, 1) := by decide +kernel
theorem dX4_compared_94 : decode cX4_compared 94 = .ok (.ireturn, 1) := by decide +kernel
theorem dX4_compared_95 : decode cX4_compared 95 = .ok (.iload_n 1, 1) := by decide +kernel
theorem dX4_compared_96 : decode cX4_compared 96 = .ok (.iload_n 2, 1) := by decide +kernel
theorem dX4_compared_97 : decode cX4_compared 97 = .ok (.if_icmp .eq 7, 3) := by decide +kernel
theorem dX4_compared_100 : decode cX4_compared 100 = .ok (.iconst 1, 1) := by decide +kernel
theorem dX4_compared_101 : decode cX4_compared 101 = .ok (.goto 4, 3) := by decide +kernel
theorem dX4_compared_104 : decode cX4_compared 104 = .ok (.iconst 0, 1) := by decide +kernel
theorem dX4_compared_105 : decode cX4_compared 105 = .ok (.ireturn, 1) := by decide +kernel
def B_X4_compared_95 (i1 : Int32) (i2 : Int32) (μ : Me) (Q : Int32 → Me → Prop) : Prop := ((i1 = i2 → Q 0 μ) ∧ (¬ i1 = i2 → Q 1 μ))
set_option maxHeartbeats 4000000 in
set_option maxRecDepth 100000 in
theorem tB_X4_compared_95 {x : GX} (f : Fx x cX4_compared RX4 3 (rmc 0 0 0)) {i1 : Int32} {i2 : Int32} {μ : Me} {Q : Int32 → Me → Prop} (hq : Rt x (some .int) (qI Q)) (h : B_X4_compared_95 i1 i2 μ Q) : G x 3 95 [(1, .int i1), (2, .int i2)] [] μ 0 0 := by
  unfold B_X4_compared_95 at h
  refine g_iload_n f 0 dX4_compared_95 rfl rfl ?_
  refine g_iload_n f 1 dX4_compared_96 rfl rfl ?_
  refine g_ic_eq f 104 dX4_compared_97 rfl h (fun h => ?_) (fun h => ?_)
  · refine g_iconst f 0 dX4_compared_104 kc_0 ?_
    exact g_iret f hq (Nat.le_of_ble_eq_true rfl) (Nat.le_of_ble_eq_true rfl) dX4_compared_105 h
  · refine g_iconst f 1 dX4_compared_100 kc_1 ?_
    refine g_goto f 105 dX4_compared_101 rfl ?_
    exact g_iret f hq (Nat.le_of_ble_eq_true rfl) (Nat.le_of_ble_eq_true rfl) dX4_compared_105 h
def S_X4_compared (i0 : Int32) (i1 : Int32) (i2 : Int32) (μ : Me) (Q : Int32 → Me → Prop) : Prop := ((i0 = 37 → ((i2 ≤ i1 → Q 0 μ) ∧ (¬ i2 ≤ i1 → Q 1 μ))) ∧ (¬ i0 = 37 → (i0 = 38 → ((i1 ≤ i2 → Q 0 μ) ∧ (¬ i1 ≤ i2 → Q 1 μ))) ∧ (¬ i0 = 38 → (i0 = 39 → ((¬ i1 = i2 → Q 0 μ) ∧ (i1 = i2 → Q 1 μ))) ∧ (¬ i0 = 39 → (i0 = 40 → B_X4_compared_95 i1 i2 μ Q) ∧ (¬ i0 = 40 → (i0 = 41 → ((i2 < i1 → Q 0 μ) ∧ (¬ i2 < i1 → Q 1 μ))) ∧ (¬ i0 = 41 → (i0 = 42 → ((i1 < i2 → Q 0 μ) ∧ (¬ i1 < i2 → Q 1 μ))) ∧ (¬ i0 = 42 → B_X4_compared_95 i1 i2 μ Q)))))))
set_option maxHeartbeats 4000000 in
set_option maxRecDepth 100000 in
theorem t_X4_compared {x : GX} (f : Fx x cX4_compared RX4 3 (rmc 0 0 0)) {i0 : Int32} {i1 : Int32} {i2 : Int32} {μ : Me} {Q : Int32 → Me → Prop} (hq : Rt x (some .int) (qI Q)) (h : S_X4_compared i0 i1 i2 μ Q) : G x 3 0 [(0, .int i0), (1, .int i1), (2, .int i2)] [] μ 0 0 := by
  unfold S_X4_compared at h
  refine g_iload_n f 0 dX4_compared_0 rfl rfl ?_
  rcases dec_or h with ⟨e1, h⟩ | ⟨e1, h⟩
  · refine g_tableIn f 40 dX4_compared_1 (by rw [e1] <;> decide) (by rw [e1] <;> decide) (by rw [e1] <;> rfl) rfl ?_
    refine g_iload_n f 1 dX4_compared_40 rfl rfl ?_
    refine g_iload_n f 2 dX4_compared_41 rfl rfl ?_
    refine g_ic_ge f 49 dX4_compared_42 rfl h (fun h => ?_) (fun h => ?_)
    · refine g_iconst f 0 dX4_compared_49 kc_0 ?_
      exact g_iret f hq (Nat.le_of_ble_eq_true rfl) (Nat.le_of_ble_eq_true rfl) dX4_compared_50 h
    · refine g_iconst f 1 dX4_compared_45 kc_1 ?_
      refine g_goto f 50 dX4_compared_46 rfl ?_
      exact g_iret f hq (Nat.le_of_ble_eq_true rfl) (Nat.le_of_ble_eq_true rfl) dX4_compared_50 h
  · skip
    rcases dec_or h with ⟨e2, h⟩ | ⟨e2, h⟩
    · refine g_tableIn f 62 dX4_compared_1 (by rw [e2] <;> decide) (by rw [e2] <;> decide) (by rw [e2] <;> rfl) rfl ?_
      refine g_iload_n f 1 dX4_compared_62 rfl rfl ?_
      refine g_iload_n f 2 dX4_compared_63 rfl rfl ?_
      refine g_ic_le f 71 dX4_compared_64 rfl h (fun h => ?_) (fun h => ?_)
      · refine g_iconst f 0 dX4_compared_71 kc_0 ?_
        exact g_iret f hq (Nat.le_of_ble_eq_true rfl) (Nat.le_of_ble_eq_true rfl) dX4_compared_72 h
      · refine g_iconst f 1 dX4_compared_67 kc_1 ?_
        refine g_goto f 72 dX4_compared_68 rfl ?_
        exact g_iret f hq (Nat.le_of_ble_eq_true rfl) (Nat.le_of_ble_eq_true rfl) dX4_compared_72 h
    · skip
      rcases dec_or h with ⟨e3, h⟩ | ⟨e3, h⟩
      · refine g_tableIn f 84 dX4_compared_1 (by rw [e3] <;> decide) (by rw [e3] <;> decide) (by rw [e3] <;> rfl) rfl ?_
        refine g_iload_n f 1 dX4_compared_84 rfl rfl ?_
        refine g_iload_n f 2 dX4_compared_85 rfl rfl ?_
        refine g_ic_ne f 93 dX4_compared_86 rfl h (fun h => ?_) (fun h => ?_)
        · refine g_iconst f 0 dX4_compared_93 kc_0 ?_
          exact g_iret f hq (Nat.le_of_ble_eq_true rfl) (Nat.le_of_ble_eq_true rfl) dX4_compared_94 h
        · refine g_iconst f 1 dX4_compared_89 kc_1 ?_
          refine g_goto f 94 dX4_compared_90 rfl ?_
          exact g_iret f hq (Nat.le_of_ble_eq_true rfl) (Nat.le_of_ble_eq_true rfl) dX4_compared_94 h
      · skip
        rcases dec_or h with ⟨e4, h⟩ | ⟨e4, h⟩
        · refine g_tableIn f 95 dX4_compared_1 (by rw [e4] <;> decide) (by rw [e4] <;> decide) (by rw [e4] <;> rfl) rfl ?_
          exact h_sub [1, 2] rfl (tB_X4_compared_95 f hq h)
        · skip
          rcases dec_or h with ⟨e5, h⟩ | ⟨e5, h⟩
          · refine g_tableIn f 51 dX4_compared_1 (by rw [e5] <;> decide) (by rw [e5] <;> decide) (by rw [e5] <;> rfl) rfl ?_
            refine g_iload_n f 1 dX4_compared_51 rfl rfl ?_
            refine g_iload_n f 2 dX4_compared_52 rfl rfl ?_
            refine g_ic_gt f 60 dX4_compared_53 rfl h (fun h => ?_) (fun h => ?_)
            · refine g_iconst f 0 dX4_compared_60 kc_0 ?_
              exact g_iret f hq (Nat.le_of_ble_eq_true rfl) (Nat.le_of_ble_eq_true rfl) dX4_compared_61 h
            · refine g_iconst f 1 dX4_compared_56 kc_1 ?_
              refine g_goto f 61 dX4_compared_57 rfl ?_
              exact g_iret f hq (Nat.le_of_ble_eq_true rfl) (Nat.le_of_ble_eq_true rfl) dX4_compared_61 h
          · skip
            rcases dec_or h with ⟨e6, h⟩ | ⟨e6, h⟩
            · refine g_tableIn f 73 dX4_compared_1 (by rw [e6] <;> decide) (by rw [e6] <;> decide) (by rw [e6] <;> rfl) rfl ?_
              refine g_iload_n f 1 dX4_compared_73 rfl rfl ?_
              refine g_iload_n f 2 dX4_compared_74 rfl rfl ?_
              refine g_ic_lt f 82 dX4_compared_75 rfl h (fun h => ?_) (fun h => ?_)
              · refine g_iconst f 0 dX4_compared_82 kc_0 ?_
                exact g_iret f hq (Nat.le_of_ble_eq_true rfl) (Nat.le_of_ble_eq_true rfl) dX4_compared_83 h
              · refine g_iconst f 1 dX4_compared_78 kc_1 ?_
                refine g_goto f 83 dX4_compared_79 rfl ?_
                exact g_iret f hq (Nat.le_of_ble_eq_true rfl) (Nat.le_of_ble_eq_true rfl) dX4_compared_83 h
            · skip
              have e1 := lv_neT (a := 37) e1 (by decide)
              have e2 := lv_neT (a := 38) e2 (by decide)
              have e3 := lv_neT (a := 39) e3 (by decide)
              have e4 := lv_neT (a := 40) e4 (by decide)
              have e5 := lv_neT (a := 41) e5 (by decide)
              have e6 := lv_neT (a := 42) e6 (by decide)
              refine g_tableOut f 95 dX4_compared_1 (by omega) rfl ?_
              exact h_sub [1, 2] rfl (tB_X4_compared_95 f hq h)
theorem c_X4_compared {Ω : OM} {i0 : Int32} {i1 : Int32} {i2 : Int32} {μ : Me} {Q : Int32 → Me → Prop} (h : S_X4_compared i0 i1 i2 μ Q) : CT Ω yX4_compared cX4_compared 3 (some .int) (rmc 0 0 0) [.int i0, .int i1, .int i2] μ (qI Q) := CT_of (by decide) rfl (by simp [lg_sl, Value.category]) (fun x hΩ f hq hi => by subst hΩ; exact t_X4_compared f hq h)
theorem dX4_joined_0 : decode cX4_joined 0 = .ok (.lconst 0, 1) := by decide +kernel
theorem dX4_joined_1 : decode cX4_joined 1 = .ok (.lstore_n 3, 1) := by decide +kernel
theorem dX4_joined_2 : decode cX4_joined 2 = .ok (.iload_n 0, 1) := by decide +kernel
theorem dX4_joined_3 : decode cX4_joined 3 = .ok (.tableswitch 112 22 33 #[108, 112, 104, 112, 112, 112, 112, 112, 61, 70, 79, 88], 61) := by decide +kernel
theorem dX4_joined_64 : decode cX4_joined 64 = .ok (.iload_n 1, 1) := by decide +kernel
theorem dX4_joined_65 : decode cX4_joined 65 = .ok (.i2l, 1) := by decide +kernel
theorem dX4_joined_66 : decode cX4_joined 66 = .ok (.iload_n 2, 1) := by decide +kernel
theorem dX4_joined_67 : decode cX4_joined 67 = .ok (.i2l, 1) := by decide +kernel
theorem dX4_joined_68 : decode cX4_joined 68 = .ok (.ladd, 1) := by decide +kernel
theorem dX4_joined_69 : decode cX4_joined 69 = .ok (.lstore_n 3, 1) := by decide +kernel
theorem dX4_joined_70 : decode cX4_joined 70 = .ok (.goto 49, 3) := by decide +kernel
theorem dX4_joined_73 : decode cX4_joined 73 = .ok (.iload_n 1, 1) := by decide +kernel
theorem dX4_joined_74 : decode cX4_joined 74 = .ok (.i2l, 1) := by decide +kernel
theorem dX4_joined_75 : decode cX4_joined 75 = .ok (.iload_n 2, 1) := by decide +kernel
theorem dX4_joined_76 : decode cX4_joined 76 = .ok (.i2l, 1) := by decide +kernel
theorem dX4_joined_77 : decode cX4_joined 77 = .ok (.lsub, 1) := by decide +kernel
theorem dX4_joined_78 : decode cX4_joined 78 = .ok (.lstore_n 3, 1) := by decide +kernel
theorem dX4_joined_79 : decode cX4_joined 79 = .ok (.goto 40, 3) := by decide +kernel
theorem dX4_joined_82 : decode cX4_joined 82 = .ok (.iload_n 1, 1) := by decide +kernel
theorem dX4_joined_83 : decode cX4_joined 83 = .ok (.i2l, 1) := by decide +kernel
theorem dX4_joined_84 : decode cX4_joined 84 = .ok (.iload_n 2, 1) := by decide +kernel
theorem dX4_joined_85 : decode cX4_joined 85 = .ok (.i2l, 1) := by decide +kernel
theorem dX4_joined_86 : decode cX4_joined 86 = .ok (.lmul, 1) := by decide +kernel
theorem dX4_joined_87 : decode cX4_joined 87 = .ok (.lstore_n 3, 1) := by decide +kernel
theorem dX4_joined_88 : decode cX4_joined 88 = .ok (.goto 31, 3) := by decide +kernel
theorem dX4_joined_91 : decode cX4_joined 91 = .ok (.iload_n 2, 1) := by decide +kernel
theorem dX4_joined_92 : decode cX4_joined 92 = .ok (.ifCond .ne 7, 3) := by decide +kernel
theorem dX4_joined_95 : decode cX4_joined 95 = .ok (.lconst 0, 1) := by decide +kernel
theorem dX4_joined_96 : decode cX4_joined 96 = .ok (.goto 7, 3) := by decide +kernel
theorem dX4_joined_99 : decode cX4_joined 99 = .ok (.iload_n 1, 1) := by decide +kernel
theorem dX4_joined_100 : decode cX4_joined 100 = .ok (.iload_n 2, 1) := by decide +kernel
theorem dX4_joined_101 : decode cX4_joined 101 = .ok (.idiv, 1) := by decide +kernel
theorem dX4_joined_102 : decode cX4_joined 102 = .ok (.i2l, 1) := by decide +kernel
theorem dX4_joined_103 : decode cX4_joined 103 = .ok (.lstore_n 3, 1) := by decide +kernel
theorem dX4_joined_104 : decode cX4_joined 104 = .ok (.goto 15, 3) := by decide +kernel
theorem dX4_joined_107 : decode cX4_joined 107 = .ok (.iload_n 1, 1) := by decide +kernel
theorem dX4_joined_108 : decode cX4_joined 108 = .ok (.iload_n 2, 1) := by decide +kernel
theorem dX4_joined_109 : decode cX4_joined 109 = .ok (.iand, 1) := by decide +kernel
theorem dX4_joined_110 : decode cX4_joined 110 = .ok (.ireturn, 1) := by decide +kernel
theorem dX4_joined_111 : decode cX4_joined 111 = .ok (.iload_n 1, 1) := by decide +kernel
theorem dX4_joined_112 : decode cX4_joined 112 = .ok (.iload_n 2, 1) := by decide +kernel
theorem dX4_joined_113 : decode cX4_joined 113 = .ok (.ior, 1) := by decide +kernel
theorem dX4_joined_114 : decode cX4_joined 114 = .ok (.ireturn, 1) := by decide +kernel
theorem dX4_joined_115 : decode cX4_joined 115 = .ok (.iload_n 1, 1) := by decide +kernel
theorem dX4_joined_116 : decode cX4_joined 116 = .ok (.iload_n 2, 1) := by decide +kernel
theorem dX4_joined_117 : decode cX4_joined 117 = .ok (.ixor, 1) := by decide +kernel
theorem dX4_joined_118 : decode cX4_joined 118 = .ok (.ireturn, 1) := by decide +kernel
theorem dX4_joined_119 : decode cX4_joined 119 = .ok (.lload_n 3, 1) := by decide +kernel
theorem dX4_joined_120 : decode cX4_joined 120 = .ok (.ldc2_w 163, 3) := by decide +kernel
theorem dX4_joined_123 : decode cX4_joined 123 = .ok (.lcmp, 1) := by decide +kernel
theorem dX4_joined_124 : decode cX4_joined 124 = .ok (.ifCond .le 8, 3) := by decide +kernel
theorem dX4_joined_127 : decode cX4_joined 127 = .ok (.ldc 165, 2) := by decide +kernel
theorem dX4_joined_129 : decode cX4_joined 129 = .ok (.goto 18, 3) := by decide +kernel
theorem dX4_joined_132 : decode cX4_joined 132 = .ok (.lload_n 3, 1) := by decide +kernel
theorem dX4_joined_133 : decode cX4_joined 133 = .ok (.ldc2_w 166, 3) := by decide +kernel
theorem dX4_joined_136 : decode cX4_joined 136 = .ok (.lcmp, 1) := by decide +kernel
theorem dX4_joined_137 : decode cX4_joined 137 = .ok (.ifCond .ge 8, 3) := by decide +kernel
theorem dX4_joined_140 : decode cX4_joined 140 = .ok (.ldc 168, 2) := by decide +kernel
theorem dX4_joined_142 : decode cX4_joined 142 = .ok (.goto 5, 3) := by decide +kernel
theorem dX4_joined_145 : decode cX4_joined 145 = .ok (.lload_n 3, 1) := by decide +kernel
theorem dX4_joined_146 : decode cX4_joined 146 = .ok (.l2i, 1) := by decide +kernel
theorem dX4_joined_147 : decode cX4_joined 147 = .ok (.ireturn, 1) := by decide +kernel
def B_X4_joined_115 (i1 : Int32) (i2 : Int32) (μ : Me) (Q : Int32 → Me → Prop) : Prop := Q (i1 ^^^ i2) μ
set_option maxHeartbeats 4000000 in
set_option maxRecDepth 100000 in
theorem tB_X4_joined_115 {x : GX} (f : Fx x cX4_joined RX4 5 (rmc 0 0 0)) {i1 : Int32} {i2 : Int32} {μ : Me} {Q : Int32 → Me → Prop} (hq : Rt x (some .int) (qI Q)) (h : B_X4_joined_115 i1 i2 μ Q) : G x 5 115 [(1, .int i1), (2, .int i2)] [] μ 0 0 := by
  unfold B_X4_joined_115 at h
  refine g_iload_n f 0 dX4_joined_115 rfl rfl ?_
  refine g_iload_n f 1 dX4_joined_116 rfl rfl ?_
  refine g_ixor f dX4_joined_117 ?_
  exact g_iret f hq (Nat.le_of_ble_eq_true rfl) (Nat.le_of_ble_eq_true rfl) dX4_joined_118 h
def B_X4_joined_119 (j3 : Int64) (μ : Me) (Q : Int32 → Me → Prop) : Prop := (((lg_cmp j3 (1000000 : Int64)) ≤ 0 → ((0 ≤ (lg_cmp j3 ((-1000000) : Int64)) → Q j3.toInt32 μ) ∧ (¬ 0 ≤ (lg_cmp j3 ((-1000000) : Int64)) → Q (-1000000) μ))) ∧ (¬ (lg_cmp j3 (1000000 : Int64)) ≤ 0 → Q 1000000 μ))
set_option maxHeartbeats 4000000 in
set_option maxRecDepth 100000 in
theorem tB_X4_joined_119 {x : GX} (f : Fx x cX4_joined RX4 5 (rmc 0 0 0)) {j3 : Int64} {μ : Me} {Q : Int32 → Me → Prop} (hq : Rt x (some .int) (qI Q)) (h : B_X4_joined_119 j3 μ Q) : G x 5 119 [(3, .long j3)] [] μ 0 0 := by
  unfold B_X4_joined_119 at h
  refine g_lload_n f 0 dX4_joined_119 rfl rfl ?_
  refine g_ldc2 f w_948 dX4_joined_120 ?_
  refine g_lcmp f dX4_joined_123 ?_
  refine g_if_le f 132 dX4_joined_124 rfl h (fun h => ?_) (fun h => ?_)
  · refine g_lload_n f 0 dX4_joined_132 rfl rfl ?_
    refine g_ldc2 f w_950 dX4_joined_133 ?_
    refine g_lcmp f dX4_joined_136 ?_
    refine g_if_ge f 145 dX4_joined_137 rfl h (fun h => ?_) (fun h => ?_)
    · refine g_lload_n f 0 dX4_joined_145 rfl rfl ?_
      refine g_l2i f dX4_joined_146 ?_
      exact g_iret f hq (Nat.le_of_ble_eq_true rfl) (Nat.le_of_ble_eq_true rfl) dX4_joined_147 h
    · refine g_ldc f w_951 dX4_joined_140 ?_
      refine g_goto f 147 dX4_joined_142 rfl ?_
      exact g_iret f hq (Nat.le_of_ble_eq_true rfl) (Nat.le_of_ble_eq_true rfl) dX4_joined_147 h
  · refine g_ldc f w_949 dX4_joined_127 ?_
    refine g_goto f 147 dX4_joined_129 rfl ?_
    exact g_iret f hq (Nat.le_of_ble_eq_true rfl) (Nat.le_of_ble_eq_true rfl) dX4_joined_147 h
def B_X4_joined_103 (s0 : Int64) (μ : Me) (Q : Int32 → Me → Prop) : Prop := B_X4_joined_119 s0 μ Q
set_option maxHeartbeats 4000000 in
set_option maxRecDepth 100000 in
theorem tB_X4_joined_103 {x : GX} (f : Fx x cX4_joined RX4 5 (rmc 0 0 0)) {s0 : Int64} {μ : Me} {Q : Int32 → Me → Prop} (hq : Rt x (some .int) (qI Q)) (h : B_X4_joined_103 s0 μ Q) : G x 5 103 [] [.long s0] μ 0 0 := by
  unfold B_X4_joined_103 at h
  refine h_lstore_n f dX4_joined_103 rfl (by decide) ?_
  refine g_goto f 119 dX4_joined_104 rfl ?_
  exact h_sub [0] rfl (tB_X4_joined_119 f hq h)
def S_X4_joined (i0 : Int32) (i1 : Int32) (i2 : Int32) (μ : Me) (Q : Int32 → Me → Prop) : Prop := ((i0 = 22 → Q (i1 ||| i2) μ) ∧ (¬ i0 = 22 → (i0 = 23 → B_X4_joined_115 i1 i2 μ Q) ∧ (¬ i0 = 23 → (i0 = 24 → Q (i1 &&& i2) μ) ∧ (¬ i0 = 24 → (i0 = 25 → B_X4_joined_115 i1 i2 μ Q) ∧ (¬ i0 = 25 → (i0 = 26 → B_X4_joined_115 i1 i2 μ Q) ∧ (¬ i0 = 26 → (i0 = 27 → B_X4_joined_115 i1 i2 μ Q) ∧ (¬ i0 = 27 → (i0 = 28 → B_X4_joined_115 i1 i2 μ Q) ∧ (¬ i0 = 28 → (i0 = 29 → B_X4_joined_115 i1 i2 μ Q) ∧ (¬ i0 = 29 → (i0 = 30 → B_X4_joined_119 (i1.toInt64 + i2.toInt64) μ Q) ∧ (¬ i0 = 30 → (i0 = 31 → B_X4_joined_119 (i1.toInt64 - i2.toInt64) μ Q) ∧ (¬ i0 = 31 → (i0 = 32 → B_X4_joined_119 (i1.toInt64 * i2.toInt64) μ Q) ∧ (¬ i0 = 32 → (i0 = 33 → ((¬ i2 = 0 → ¬ i2 = 0 ∧ B_X4_joined_103 (i1 / i2).toInt64 μ Q) ∧ (i2 = 0 → B_X4_joined_103 0 μ Q))) ∧ (¬ i0 = 33 → B_X4_joined_115 i1 i2 μ Q)))))))))))))
set_option maxHeartbeats 4000000 in
set_option maxRecDepth 100000 in
theorem t_X4_joined {x : GX} (f : Fx x cX4_joined RX4 5 (rmc 0 0 0)) {i0 : Int32} {i1 : Int32} {i2 : Int32} {μ : Me} {Q : Int32 → Me → Prop} (hq : Rt x (some .int) (qI Q)) (h : S_X4_joined i0 i1 i2 μ Q) : G x 5 0 [(0, .int i0), (1, .int i1), (2, .int i2)] [] μ 0 0 := by
  unfold S_X4_joined at h
  refine g_lconst f 0 dX4_joined_0 rfl ?_
  refine h_lstore_n f dX4_joined_1 rfl (by decide) ?_
  refine g_iload_n f 1 dX4_joined_2 rfl rfl ?_
  rcases dec_or h with ⟨e1, h⟩ | ⟨e1, h⟩
  · refine g_tableIn f 111 dX4_joined_3 (by rw [e1] <;> decide) (by rw [e1] <;> decide) (by rw [e1] <;> rfl) rfl ?_
    refine g_iload_n f 2 dX4_joined_111 rfl rfl ?_
    refine g_iload_n f 3 dX4_joined_112 rfl rfl ?_
    refine g_ior f dX4_joined_113 ?_
    exact g_iret f hq (Nat.le_of_ble_eq_true rfl) (Nat.le_of_ble_eq_true rfl) dX4_joined_114 h
  · skip
    rcases dec_or h with ⟨e2, h⟩ | ⟨e2, h⟩
    · refine g_tableIn f 115 dX4_joined_3 (by rw [e2] <;> decide) (by rw [e2] <;> decide) (by rw [e2] <;> rfl) rfl ?_
      exact h_sub [2, 3] rfl (tB_X4_joined_115 f hq h)
    · skip
      rcases dec_or h with ⟨e3, h⟩ | ⟨e3, h⟩
      · refine g_tableIn f 107 dX4_joined_3 (by rw [e3] <;> decide) (by rw [e3] <;> decide) (by rw [e3] <;> rfl) rfl ?_
        refine g_iload_n f 2 dX4_joined_107 rfl rfl ?_
        refine g_iload_n f 3 dX4_joined_108 rfl rfl ?_
        refine g_iand f dX4_joined_109 ?_
        exact g_iret f hq (Nat.le_of_ble_eq_true rfl) (Nat.le_of_ble_eq_true rfl) dX4_joined_110 h
      · skip
        rcases dec_or h with ⟨e4, h⟩ | ⟨e4, h⟩
        · refine g_tableIn f 115 dX4_joined_3 (by rw [e4] <;> decide) (by rw [e4] <;> decide) (by rw [e4] <;> rfl) rfl ?_
          exact h_sub [2, 3] rfl (tB_X4_joined_115 f hq h)
        · skip
          rcases dec_or h with ⟨e5, h⟩ | ⟨e5, h⟩
          · refine g_tableIn f 115 dX4_joined_3 (by rw [e5] <;> decide) (by rw [e5] <;> decide) (by rw [e5] <;> rfl) rfl ?_
            exact h_sub [2, 3] rfl (tB_X4_joined_115 f hq h)
          · skip
            rcases dec_or h with ⟨e6, h⟩ | ⟨e6, h⟩
            · refine g_tableIn f 115 dX4_joined_3 (by rw [e6] <;> decide) (by rw [e6] <;> decide) (by rw [e6] <;> rfl) rfl ?_
              exact h_sub [2, 3] rfl (tB_X4_joined_115 f hq h)
            · skip
              rcases dec_or h with ⟨e7, h⟩ | ⟨e7, h⟩
              · refine g_tableIn f 115 dX4_joined_3 (by rw [e7] <;> decide) (by rw [e7] <;> decide) (by rw [e7] <;> rfl) rfl ?_
                exact h_sub [2, 3] rfl (tB_X4_joined_115 f hq h)
              · skip
                rcases dec_or h with ⟨e8, h⟩ | ⟨e8, h⟩
                · refine g_tableIn f 115 dX4_joined_3 (by rw [e8] <;> decide) (by rw [e8] <;> decide) (by rw [e8] <;> rfl) rfl ?_
                  exact h_sub [2, 3] rfl (tB_X4_joined_115 f hq h)
                · skip
                  rcases dec_or h with ⟨e9, h⟩ | ⟨e9, h⟩
                  · refine g_tableIn f 64 dX4_joined_3 (by rw [e9] <;> decide) (by rw [e9] <;> decide) (by rw [e9] <;> rfl) rfl ?_
                    refine g_iload_n f 2 dX4_joined_64 rfl rfl ?_
                    refine g_i2l f dX4_joined_65 ?_
                    refine g_iload_n f 3 dX4_joined_66 rfl rfl ?_
                    refine g_i2l f dX4_joined_67 ?_
                    refine g_ladd f dX4_joined_68 ?_
                    refine h_lstore_n f dX4_joined_69 rfl (by decide) ?_
                    refine g_goto f 119 dX4_joined_70 rfl ?_
                    exact h_sub [0] rfl (tB_X4_joined_119 f hq h)
                  · skip
                    rcases dec_or h with ⟨e10, h⟩ | ⟨e10, h⟩
                    · refine g_tableIn f 73 dX4_joined_3 (by rw [e10] <;> decide) (by rw [e10] <;> decide) (by rw [e10] <;> rfl) rfl ?_
                      refine g_iload_n f 2 dX4_joined_73 rfl rfl ?_
                      refine g_i2l f dX4_joined_74 ?_
                      refine g_iload_n f 3 dX4_joined_75 rfl rfl ?_
                      refine g_i2l f dX4_joined_76 ?_
                      refine g_lsub f dX4_joined_77 ?_
                      refine h_lstore_n f dX4_joined_78 rfl (by decide) ?_
                      refine g_goto f 119 dX4_joined_79 rfl ?_
                      exact h_sub [0] rfl (tB_X4_joined_119 f hq h)
                    · skip
                      rcases dec_or h with ⟨e11, h⟩ | ⟨e11, h⟩
                      · refine g_tableIn f 82 dX4_joined_3 (by rw [e11] <;> decide) (by rw [e11] <;> decide) (by rw [e11] <;> rfl) rfl ?_
                        refine g_iload_n f 2 dX4_joined_82 rfl rfl ?_
                        refine g_i2l f dX4_joined_83 ?_
                        refine g_iload_n f 3 dX4_joined_84 rfl rfl ?_
                        refine g_i2l f dX4_joined_85 ?_
                        refine g_lmul f dX4_joined_86 ?_
                        refine h_lstore_n f dX4_joined_87 rfl (by decide) ?_
                        refine g_goto f 119 dX4_joined_88 rfl ?_
                        exact h_sub [0] rfl (tB_X4_joined_119 f hq h)
                      · skip
                        rcases dec_or h with ⟨e12, h⟩ | ⟨e12, h⟩
                        · refine g_tableIn f 91 dX4_joined_3 (by rw [e12] <;> decide) (by rw [e12] <;> decide) (by rw [e12] <;> rfl) rfl ?_
                          refine g_iload_n f 3 dX4_joined_91 rfl rfl ?_
                          refine g_if_ne f 99 dX4_joined_92 rfl h (fun h => ?_) (fun h => ?_)
                          · refine g_iload_n f 2 dX4_joined_99 rfl rfl ?_
                            refine g_iload_n f 3 dX4_joined_100 rfl rfl ?_
                            obtain ⟨z13, h⟩ := h
                            refine g_idiv f dX4_joined_101 z13 ?_
                            refine g_i2l f dX4_joined_102 ?_
                            exact h_sub [] rfl (tB_X4_joined_103 f hq h)
                          · refine g_lconst f 0 dX4_joined_95 rfl ?_
                            refine g_goto f 103 dX4_joined_96 rfl ?_
                            exact h_sub [] rfl (tB_X4_joined_103 f hq h)
                        · skip
                          have e1 := lv_neT (a := 22) e1 (by decide)
                          have e2 := lv_neT (a := 23) e2 (by decide)
                          have e3 := lv_neT (a := 24) e3 (by decide)
                          have e4 := lv_neT (a := 25) e4 (by decide)
                          have e5 := lv_neT (a := 26) e5 (by decide)
                          have e6 := lv_neT (a := 27) e6 (by decide)
                          have e7 := lv_neT (a := 28) e7 (by decide)
                          have e8 := lv_neT (a := 29) e8 (by decide)
                          have e9 := lv_neT (a := 30) e9 (by decide)
                          have e10 := lv_neT (a := 31) e10 (by decide)
                          have e11 := lv_neT (a := 32) e11 (by decide)
                          have e12 := lv_neT (a := 33) e12 (by decide)
                          refine g_tableOut f 115 dX4_joined_3 (by omega) rfl ?_
                          exact h_sub [2, 3] rfl (tB_X4_joined_115 f hq h)
theorem c_X4_joined {Ω : OM} {i0 : Int32} {i1 : Int32} {i2 : Int32} {μ : Me} {Q : Int32 → Me → Prop} (h : S_X4_joined i0 i1 i2 μ Q) : CT Ω yX4_joined cX4_joined 5 (some .int) (rmc 0 0 0) [.int i0, .int i1, .int i2] μ (qI Q) := CT_of (by decide) rfl (by simp [lg_sl, Value.category]) (fun x hΩ f hq hi => by subst hΩ; exact t_X4_joined f hq h)
theorem dX4_worked_0 : decode cX4_worked 0 = .ok (.iconst 0, 1) := by decide +kernel
theorem dX4_worked_1 : decode cX4_worked 1 = .ok (.istore 4, 2) := by decide +kernel
theorem dX4_worked_3 : decode cX4_worked 3 = .ok (.iload_n 2, 1) := by decide +kernel
theorem dX4_worked_4 : decode cX4_worked 4 = .ok (.istore 5, 2) := by decide +kernel
theorem dX4_worked_6 : decode cX4_worked 6 = .ok (.iload 5, 2) := by decide +kernel
theorem dX4_worked_8 : decode cX4_worked 8 = .ok (.ifCond .lt 306, 3) := by decide +kernel
theorem dX4_worked_11 : decode cX4_worked 11 = .ok (.iload 5, 2) := by decide +kernel
theorem dX4_worked_13 : decode cX4_worked 13 = .ok (.iload_n 3, 1) := by decide +kernel
theorem dX4_worked_14 : decode cX4_worked 14 = .ok (.if_icmp .ge 300, 3) := by decide +kernel
theorem dX4_worked_17 : decode cX4_worked 17 = .ok (.iload 5, 2) := by decide +kernel
theorem dX4_worked_19 : decode cX4_worked 19 = .ok (.sipush 300, 3) := by decide +kernel
theorem dX4_worked_22 : decode cX4_worked 22 = .ok (.if_icmp .ge 292, 3) := by decide +kernel
theorem dX4_worked_25 : decode cX4_worked 25 = .ok (.aload_n 1, 1) := by decide +kernel
theorem dX4_worked_26 : decode cX4_worked 26 = .ok (.getfield 142, 3) := by decide +kernel
theorem dX4_worked_29 : decode cX4_worked 29 = .ok (.iload 5, 2) := by decide +kernel
theorem dX4_worked_31 : decode cX4_worked 31 = .ok (.iaload, 1) := by decide +kernel
theorem dX4_worked_32 : decode cX4_worked 32 = .ok (.istore 6, 2) := by decide +kernel
theorem dX4_worked_34 : decode cX4_worked 34 = .ok (.iload 6, 2) := by decide +kernel
theorem dX4_worked_36 : decode cX4_worked 36 = .ok (.bipush 50, 2) := by decide +kernel
theorem dX4_worked_38 : decode cX4_worked 38 = .ok (.if_icmp .eq 11, 3) := by decide +kernel
theorem dX4_worked_41 : decode cX4_worked 41 = .ok (.iload 6, 2) := by decide +kernel
theorem dX4_worked_43 : decode cX4_worked 43 = .ok (.invokestatic 145, 3) := by decide +kernel
theorem dX4_worked_46 : decode cX4_worked 46 = .ok (.ifCond .eq 49, 3) := by decide +kernel
theorem dX4_worked_49 : decode cX4_worked 49 = .ok (.iload 4, 2) := by decide +kernel
theorem dX4_worked_51 : decode cX4_worked 51 = .ok (.sipush 300, 3) := by decide +kernel
theorem dX4_worked_54 : decode cX4_worked 54 = .ok (.if_icmp .lt 5, 3) := by decide +kernel
theorem dX4_worked_57 : decode cX4_worked 57 = .ok (.iconst 0, 1) := by decide +kernel
theorem dX4_worked_58 : decode cX4_worked 58 = .ok (.ireturn, 1) := by decide +kernel
theorem dX4_worked_59 : decode cX4_worked 59 = .ok (.aload_n 0, 1) := by decide +kernel
theorem dX4_worked_60 : decode cX4_worked 60 = .ok (.getfield 9, 3) := by decide +kernel
theorem dX4_worked_63 : decode cX4_worked 63 = .ok (.iload 4, 2) := by decide +kernel
theorem dX4_worked_65 : decode cX4_worked 65 = .ok (.iload 6, 2) := by decide +kernel
theorem dX4_worked_67 : decode cX4_worked 67 = .ok (.bipush 50, 2) := by decide +kernel
theorem dX4_worked_69 : decode cX4_worked 69 = .ok (.if_icmp .ne 13, 3) := by decide +kernel
theorem dX4_worked_72 : decode cX4_worked 72 = .ok (.aload_n 1, 1) := by decide +kernel
theorem dX4_worked_73 : decode cX4_worked 73 = .ok (.getfield 148, 3) := by decide +kernel
theorem dX4_worked_76 : decode cX4_worked 76 = .ok (.iload 5, 2) := by decide +kernel
theorem dX4_worked_78 : decode cX4_worked 78 = .ok (.iaload, 1) := by decide +kernel
theorem dX4_worked_79 : decode cX4_worked 79 = .ok (.goto 9, 3) := by decide +kernel
theorem dX4_worked_82 : decode cX4_worked 82 = .ok (.aload_n 0, 1) := by decide +kernel
theorem dX4_worked_83 : decode cX4_worked 83 = .ok (.iload 6, 2) := by decide +kernel
theorem dX4_worked_85 : decode cX4_worked 85 = .ok (.invokevirtual 151, 3) := by decide +kernel
theorem dX4_worked_88 : decode cX4_worked 88 = .ok (.iastore, 1) := by decide +kernel
theorem dX4_worked_89 : decode cX4_worked 89 = .ok (.iinc 4 1, 3) := by decide +kernel
theorem dX4_worked_92 : decode cX4_worked 92 = .ok (.goto 216, 3) := by decide +kernel
theorem dX4_worked_95 : decode cX4_worked 95 = .ok (.iload 6, 2) := by decide +kernel
theorem dX4_worked_97 : decode cX4_worked 97 = .ok (.bipush 20, 2) := by decide +kernel
theorem dX4_worked_99 : decode cX4_worked 99 = .ok (.if_icmp .ne 22, 3) := by decide +kernel
theorem dX4_worked_102 : decode cX4_worked 102 = .ok (.iload 5, 2) := by decide +kernel
theorem dX4_worked_104 : decode cX4_worked 104 = .ok (.aload_n 1, 1) := by decide +kernel
theorem dX4_worked_105 : decode cX4_worked 105 = .ok (.getfield 148, 3) := by decide +kernel
theorem dX4_worked_108 : decode cX4_worked 108 = .ok (.iload 5, 2) := by decide +kernel
theorem dX4_worked_110 : decode cX4_worked 110 = .ok (.iaload, 1) := by decide +kernel
theorem dX4_worked_111 : decode cX4_worked 111 = .ok (.iconst 1, 1) := by decide +kernel
theorem dX4_worked_112 : decode cX4_worked 112 = .ok (.isub, 1) := by decide +kernel
theorem dX4_worked_113 : decode cX4_worked 113 = .ok (.invokestatic 139, 3) := by decide +kernel
theorem dX4_worked_116 : decode cX4_worked 116 = .ok (.istore 5, 2) := by decide +kernel
theorem dX4_worked_118 : decode cX4_worked 118 = .ok (.goto 190, 3) := by decide +kernel
theorem dX4_worked_121 : decode cX4_worked 121 = .ok (.iload 4, 2) := by decide +kernel
theorem dX4_worked_123 : decode cX4_worked 123 = .ok (.iconst 1, 1) := by decide +kernel
theorem dX4_worked_124 : decode cX4_worked 124 = .ok (.if_icmp .ge 5, 3) := by decide +kernel
theorem dX4_worked_127 : decode cX4_worked 127 = .ok (.iconst 0, 1) := by decide +kernel
theorem dX4_worked_128 : decode cX4_worked 128 = .ok (.ireturn, 1) := by decide +kernel
theorem dX4_worked_129 : decode cX4_worked 129 = .ok (.iload 6, 2) := by decide +kernel
theorem dX4_worked_131 : decode cX4_worked 131 = .ok (.bipush 19, 2) := by decide +kernel
theorem dX4_worked_133 : decode cX4_worked 133 = .ok (.if_icmp .ne 40, 3) := by decide +kernel
theorem dX4_worked_136 : decode cX4_worked 136 = .ok (.iinc 4 (-1), 3) := by decide +kernel
theorem dX4_worked_139 : decode cX4_worked 139 = .ok (.aload_n 0, 1) := by decide +kernel
theorem dX4_worked_140 : decode cX4_worked 140 = .ok (.getfield 9, 3) := by decide +kernel
theorem dX4_worked_143 : decode cX4_worked 143 = .ok (.iload 4, 2) := by decide +kernel
theorem dX4_worked_145 : decode cX4_worked 145 = .ok (.iaload, 1) := by decide +kernel
theorem dX4_worked_146 : decode cX4_worked 146 = .ok (.ifCond .eq 8, 3) := by decide +kernel
theorem dX4_worked_149 : decode cX4_worked 149 = .ok (.iload 5, 2) := by decide +kernel
theorem dX4_worked_151 : decode cX4_worked 151 = .ok (.goto 17, 3) := by decide +kernel
theorem dX4_worked_154 : decode cX4_worked 154 = .ok (.iload 5, 2) := by decide +kernel
theorem dX4_worked_156 : decode cX4_worked 156 = .ok (.aload_n 1, 1) := by decide +kernel
theorem dX4_worked_157 : decode cX4_worked 157 = .ok (.getfield 148, 3) := by decide +kernel
theorem dX4_worked_160 : decode cX4_worked 160 = .ok (.iload 5, 2) := by decide +kernel
theorem dX4_worked_162 : decode cX4_worked 162 = .ok (.iaload, 1) := by decide +kernel
theorem dX4_worked_163 : decode cX4_worked 163 = .ok (.iconst 1, 1) := by decide +kernel
theorem dX4_worked_164 : decode cX4_worked 164 = .ok (.isub, 1) := by decide +kernel
theorem dX4_worked_165 : decode cX4_worked 165 = .ok (.invokestatic 139, 3) := by decide +kernel
theorem dX4_worked_168 : decode cX4_worked 168 = .ok (.istore 5, 2) := by decide +kernel
theorem dX4_worked_170 : decode cX4_worked 170 = .ok (.goto 138, 3) := by decide +kernel
theorem dX4_worked_173 : decode cX4_worked 173 = .ok (.iload 6, 2) := by decide +kernel
theorem dX4_worked_175 : decode cX4_worked 175 = .ok (.bipush 60, 2) := by decide +kernel
theorem dX4_worked_177 : decode cX4_worked 177 = .ok (.if_icmp .eq 17, 3) := by decide +kernel
theorem dX4_worked_180 : decode cX4_worked 180 = .ok (.iload 6, 2) := by decide +kernel
theorem dX4_worked_182 : decode cX4_worked 182 = .ok (.bipush 17, 2) := by decide +kernel
theorem dX4_worked_184 : decode cX4_worked 184 = .ok (.if_icmp .eq 10, 3) := by decide +kernel
theorem dX4_worked_187 : decode cX4_worked 187 = .ok (.iload 6, 2) := by decide +kernel
theorem dX4_worked_189 : decode cX4_worked 189 = .ok (.bipush 25, 2) := by decide +kernel
theorem dX4_worked_191 : decode cX4_worked 191 = .ok (.if_icmp .ne 30, 3) := by decide +kernel
theorem dX4_worked_194 : decode cX4_worked 194 = .ok (.aload_n 0, 1) := by decide +kernel
theorem dX4_worked_195 : decode cX4_worked 195 = .ok (.getfield 9, 3) := by decide +kernel
theorem dX4_worked_198 : decode cX4_worked 198 = .ok (.iload 4, 2) := by decide +kernel
theorem dX4_worked_200 : decode cX4_worked 200 = .ok (.iconst 1, 1) := by decide +kernel
theorem dX4_worked_201 : decode cX4_worked 201 = .ok (.isub, 1) := by decide +kernel
theorem dX4_worked_202 : decode cX4_worked 202 = .ok (.aload_n 0, 1) := by decide +kernel
theorem dX4_worked_203 : decode cX4_worked 203 = .ok (.iload 6, 2) := by decide +kernel
theorem dX4_worked_205 : decode cX4_worked 205 = .ok (.aload_n 0, 1) := by decide +kernel
theorem dX4_worked_206 : decode cX4_worked 206 = .ok (.getfield 9, 3) := by decide +kernel
theorem dX4_worked_209 : decode cX4_worked 209 = .ok (.iload 4, 2) := by decide +kernel
theorem dX4_worked_211 : decode cX4_worked 211 = .ok (.iconst 1, 1) := by decide +kernel
theorem dX4_worked_212 : decode cX4_worked 212 = .ok (.isub, 1) := by decide +kernel
theorem dX4_worked_213 : decode cX4_worked 213 = .ok (.iaload, 1) := by decide +kernel
theorem dX4_worked_214 : decode cX4_worked 214 = .ok (.invokevirtual 154, 3) := by decide +kernel
theorem dX4_worked_217 : decode cX4_worked 217 = .ok (.iastore, 1) := by decide +kernel
theorem dX4_worked_218 : decode cX4_worked 218 = .ok (.goto 90, 3) := by decide +kernel
theorem dX4_worked_221 : decode cX4_worked 221 = .ok (.iload 4, 2) := by decide +kernel
theorem dX4_worked_223 : decode cX4_worked 223 = .ok (.iconst 2, 1) := by decide +kernel
theorem dX4_worked_224 : decode cX4_worked 224 = .ok (.if_icmp .ge 5, 3) := by decide +kernel
theorem dX4_worked_227 : decode cX4_worked 227 = .ok (.iconst 0, 1) := by decide +kernel
theorem dX4_worked_228 : decode cX4_worked 228 = .ok (.ireturn, 1) := by decide +kernel
theorem dX4_worked_229 : decode cX4_worked 229 = .ok (.iinc 4 (-1), 3) := by decide +kernel
theorem dX4_worked_232 : decode cX4_worked 232 = .ok (.aload_n 0, 1) := by decide +kernel
theorem dX4_worked_233 : decode cX4_worked 233 = .ok (.getfield 9, 3) := by decide +kernel
theorem dX4_worked_236 : decode cX4_worked 236 = .ok (.iload 4, 2) := by decide +kernel
theorem dX4_worked_238 : decode cX4_worked 238 = .ok (.iconst 1, 1) := by decide +kernel
theorem dX4_worked_239 : decode cX4_worked 239 = .ok (.isub, 1) := by decide +kernel
theorem dX4_worked_240 : decode cX4_worked 240 = .ok (.iaload, 1) := by decide +kernel
theorem dX4_worked_241 : decode cX4_worked 241 = .ok (.istore 7, 2) := by decide +kernel
theorem dX4_worked_243 : decode cX4_worked 243 = .ok (.aload_n 0, 1) := by decide +kernel
theorem dX4_worked_244 : decode cX4_worked 244 = .ok (.getfield 9, 3) := by decide +kernel
theorem dX4_worked_247 : decode cX4_worked 247 = .ok (.iload 4, 2) := by decide +kernel
theorem dX4_worked_249 : decode cX4_worked 249 = .ok (.iaload, 1) := by decide +kernel
theorem dX4_worked_250 : decode cX4_worked 250 = .ok (.istore 8, 2) := by decide +kernel
theorem dX4_worked_252 : decode cX4_worked 252 = .ok (.iload 6, 2) := by decide +kernel
theorem dX4_worked_254 : decode cX4_worked 254 = .ok (.bipush 37, 2) := by decide +kernel
theorem dX4_worked_256 : decode cX4_worked 256 = .ok (.if_icmp .lt 14, 3) := by decide +kernel
theorem dX4_worked_259 : decode cX4_worked 259 = .ok (.iload 6, 2) := by decide +kernel
theorem dX4_worked_261 : decode cX4_worked 261 = .ok (.bipush 42, 2) := by decide +kernel
theorem dX4_worked_263 : decode cX4_worked 263 = .ok (.if_icmp .gt 7, 3) := by decide +kernel
theorem dX4_worked_266 : decode cX4_worked 266 = .ok (.iconst 1, 1) := by decide +kernel
theorem dX4_worked_267 : decode cX4_worked 267 = .ok (.goto 4, 3) := by decide +kernel
theorem dX4_worked_270 : decode cX4_worked 270 = .ok (.iconst 0, 1) := by decide +kernel
theorem dX4_worked_271 : decode cX4_worked 271 = .ok (.istore 9, 2) := by decide +kernel
theorem dX4_worked_273 : decode cX4_worked 273 = .ok (.aload_n 0, 1) := by decide +kernel
theorem dX4_worked_274 : decode cX4_worked 274 = .ok (.getfield 9, 3) := by decide +kernel
theorem dX4_worked_277 : decode cX4_worked 277 = .ok (.iload 4, 2) := by decide +kernel
theorem dX4_worked_279 : decode cX4_worked 279 = .ok (.iconst 1, 1) := by decide +kernel
theorem dX4_worked_280 : decode cX4_worked 280 = .ok (.isub, 1) := by decide +kernel
theorem dX4_worked_281 : decode cX4_worked 281 = .ok (.iload 9, 2) := by decide +kernel
theorem dX4_worked_283 : decode cX4_worked 283 = .ok (.ifCond .eq 15, 3) := by decide +kernel
theorem dX4_worked_286 : decode cX4_worked 286 = .ok (.iload 6, 2) := by decide +kernel
theorem dX4_worked_288 : decode cX4_worked 288 = .ok (.iload 7, 2) := by decide +kernel
theorem dX4_worked_290 : decode cX4_worked 290 = .ok (.iload 8, 2) := by decide +kernel
theorem dX4_worked_292 : decode cX4_worked 292 = .ok (.invokestatic 157, 3) := by decide +kernel
theorem dX4_worked_295 : decode cX4_worked 295 = .ok (.goto 12, 3) := by decide +kernel
theorem dX4_worked_298 : decode cX4_worked 298 = .ok (.iload 6, 2) := by decide +kernel
theorem dX4_worked_300 : decode cX4_worked 300 = .ok (.iload 7, 2) := by decide +kernel
theorem dX4_worked_302 : decode cX4_worked 302 = .ok (.iload 8, 2) := by decide +kernel
theorem dX4_worked_304 : decode cX4_worked 304 = .ok (.invokestatic 160, 3) := by decide +kernel
theorem dX4_worked_307 : decode cX4_worked 307 = .ok (.iastore, 1) := by decide +kernel
theorem dX4_worked_308 : decode cX4_worked 308 = .ok (.iinc 5 1, 3) := by decide +kernel
theorem dX4_worked_311 : decode cX4_worked 311 = .ok (.goto (-305), 3) := by decide +kernel
theorem dX4_worked_314 : decode cX4_worked 314 = .ok (.iload 4, 2) := by decide +kernel
theorem dX4_worked_316 : decode cX4_worked 316 = .ok (.ifCond .le 15, 3) := by decide +kernel
theorem dX4_worked_319 : decode cX4_worked 319 = .ok (.aload_n 0, 1) := by decide +kernel
theorem dX4_worked_320 : decode cX4_worked 320 = .ok (.getfield 9, 3) := by decide +kernel
theorem dX4_worked_323 : decode cX4_worked 323 = .ok (.iload 4, 2) := by decide +kernel
theorem dX4_worked_325 : decode cX4_worked 325 = .ok (.iconst 1, 1) := by decide +kernel
theorem dX4_worked_326 : decode cX4_worked 326 = .ok (.isub, 1) := by decide +kernel
theorem dX4_worked_327 : decode cX4_worked 327 = .ok (.iaload, 1) := by decide +kernel
theorem dX4_worked_328 : decode cX4_worked 328 = .ok (.goto 4, 3) := by decide +kernel
theorem dX4_worked_331 : decode cX4_worked 331 = .ok (.iconst 0, 1) := by decide +kernel
theorem dX4_worked_332 : decode cX4_worked 332 = .ok (.ireturn, 1) := by decide +kernel
def B_X4_worked_314 (o0 : Nat) (i4 : Int32) (μ : Me) (Q : Int32 → Me → Prop) : Prop := ((i4 ≤ 0 → Q 0 μ) ∧ (¬ i4 ≤ 0 → mok μ o0 4 ∧ ∃ t2, mgr μ o0 2 = some t2 ∧ mok μ t2 12 ∧ vp_in (i4 - 1) (mln μ t2) ∧ Q (mgi μ t2 (i4 - 1).toNatClampNeg) μ))
set_option maxHeartbeats 4000000 in
set_option maxRecDepth 100000 in
theorem tB_X4_worked_314 {x : GX} (f : Fx x cX4_worked RX4 10 (rmc 1 0 0)) {o0 : Nat} {i4 : Int32} {μ : Me} {Q : Int32 → Me → Prop} (hq : Rt x (some .int) (qI Q)) (h : B_X4_worked_314 o0 i4 μ Q) : G x 10 314 [(0, .ref (gB x + o0)), (4, .int i4)] [] μ 0 0 := by
  unfold B_X4_worked_314 at h
  refine g_iload f 1 dX4_worked_314 rfl ?_
  refine g_if_le f 331 dX4_worked_316 rfl h (fun h => ?_) (fun h => ?_)
  · refine g_iconst f 0 dX4_worked_331 kc_0 ?_
    exact g_iret f hq (Nat.le_of_ble_eq_true rfl) (Nat.le_of_ble_eq_true rfl) dX4_worked_332 h
  · refine g_aload_n f 0 dX4_worked_319 rfl rfl ?_
    obtain ⟨v1, h⟩ := h
    refine g_getR f fk_X4_9 v1 dX4_worked_320 rfl h (fun t2 h => ?_)
    refine g_iload f 1 dX4_worked_323 rfl ?_
    refine g_iconst f 1 dX4_worked_325 kc_1 ?_
    refine g_isub f dX4_worked_326 ?_
    obtain ⟨v3, h⟩ := h
    refine g_iald f v3 dX4_worked_327 h (fun h => ?_)
    refine g_goto f 332 dX4_worked_328 rfl ?_
    exact g_iret f hq (Nat.le_of_ble_eq_true rfl) (Nat.le_of_ble_eq_true rfl) dX4_worked_332 h
def B_X4_worked_308 (o0 : Nat) (o1 : Nat) (i3 : Int32) (i4 : Int32) (i5 : Int32) (μ : Me) (K6 : Int32 → Int32 → Me → Prop) (Q : Int32 → Me → Prop) : Prop := K6 i4 (i5 + 1) μ
set_option maxHeartbeats 4000000 in
set_option maxRecDepth 100000 in
theorem tB_X4_worked_308 {x : GX} (f : Fx x cX4_worked RX4 10 (rmc 1 0 0)) {o0 : Nat} {o1 : Nat} {i3 : Int32} {i4 : Int32} {i5 : Int32} {μ : Me} {Q : Int32 → Me → Prop} (hq : Rt x (some .int) (qI Q)) {K6 : Int32 → Int32 → Me → Prop} (hK6 : ∀ (a4 : Int32) (a5 : Int32) (ν : Me), K6 a4 a5 ν → G x 10 6 [(0, .ref (gB x + o0)), (1, .ref (gB x + o1)), (3, .int i3), (4, .int a4), (5, .int a5)] [] ν 0 0) (h : B_X4_worked_308 o0 o1 i3 i4 i5 μ K6 Q) : G x 10 308 [(0, .ref (gB x + o0)), (1, .ref (gB x + o1)), (3, .int i3), (4, .int i4), (5, .int i5)] [] μ 0 0 := by
  unfold B_X4_worked_308 at h
  refine h_iinc f 4 1 dX4_worked_308 rfl kc_1 (by decide) ?_
  refine g_goto f 6 dX4_worked_311 rfl ?_
  exact h_sub [1, 2, 3, 4, 0] rfl (hK6 _ _ _ h)
def B_X4_worked_88 (o0 : Nat) (o1 : Nat) (i3 : Int32) (i4 : Int32) (i5 : Int32) (s0 : Int32) (s1 : Int32) (s2 : Option Nat) (μ : Me) (K6 : Int32 → Int32 → Me → Prop) (Q : Int32 → Me → Prop) : Prop := ∃ t12, s2 = some t12 ∧ mok μ t12 12 ∧ vp_in s1 (mln μ t12) ∧ ∀ μ16, μ16 = msi μ t12 s1.toNatClampNeg s0 → B_X4_worked_308 o0 o1 i3 (i4 + 1) i5 μ16 K6 Q
set_option maxHeartbeats 4000000 in
set_option maxRecDepth 100000 in
theorem tB_X4_worked_88 {x : GX} (f : Fx x cX4_worked RX4 10 (rmc 1 0 0)) {o0 : Nat} {o1 : Nat} {i3 : Int32} {i4 : Int32} {i5 : Int32} {s0 : Int32} {s1 : Int32} {s2 : Option Nat} {μ : Me} {Q : Int32 → Me → Prop} (hq : Rt x (some .int) (qI Q)) {K6 : Int32 → Int32 → Me → Prop} (hK6 : ∀ (a4 : Int32) (a5 : Int32) (ν : Me), K6 a4 a5 ν → G x 10 6 [(0, .ref (gB x + o0)), (1, .ref (gB x + o1)), (3, .int i3), (4, .int a4), (5, .int a5)] [] ν 0 0) (h : B_X4_worked_88 o0 o1 i3 i4 i5 s0 s1 s2 μ K6 Q) : G x 10 88 [(0, .ref (gB x + o0)), (1, .ref (gB x + o1)), (3, .int i3), (4, .int i4), (5, .int i5)] [.int s0, .int s1, vr (gB x) s2] μ 0 0 := by
  unfold B_X4_worked_88 at h
  obtain ⟨t12, e13, h14⟩ := h
  subst e13
  have h := h14
  obtain ⟨v15, h⟩ := h
  refine g_iast f v15 dX4_worked_88 h (fun h => ?_)
  refine h_iinc f 3 1 dX4_worked_89 rfl kc_1 (by decide) ?_
  refine g_goto f 308 dX4_worked_92 rfl ?_
  exact h_sub [1, 2, 3, 0, 4] rfl (tB_X4_worked_308 f hq hK6 h)
def B_X4_worked_49 (o0 : Nat) (o1 : Nat) (i3 : Int32) (i4 : Int32) (i5 : Int32) (i6 : Int32) (μ : Me) (K6 : Int32 → Int32 → Me → Prop) (Q : Int32 → Me → Prop) : Prop := ((i4 < 300 → mok μ o0 4 ∧ ∃ t8, mgr μ o0 2 = some t8 ∧ ((¬ i6 = 50 → S_X4_named o0 i6 μ (fun r11 μ9 => B_X4_worked_88 o0 o1 i3 i4 i5 r11 i4 (some t8) μ9 K6 Q)) ∧ (i6 = 50 → mok μ o1 7 ∧ ∃ t18, mgr μ o1 1 = some t18 ∧ mok μ t18 12 ∧ vp_in i5 (mln μ t18) ∧ B_X4_worked_88 o0 o1 i3 i4 i5 (mgi μ t18 i5.toNatClampNeg) i4 (some t8) μ K6 Q))) ∧ (¬ i4 < 300 → Q 0 μ))
set_option maxHeartbeats 4000000 in
set_option maxRecDepth 100000 in
theorem tB_X4_worked_49 {x : GX} (f : Fx x cX4_worked RX4 10 (rmc 1 0 0)) {o0 : Nat} {o1 : Nat} {i3 : Int32} {i4 : Int32} {i5 : Int32} {i6 : Int32} {μ : Me} {Q : Int32 → Me → Prop} (hq : Rt x (some .int) (qI Q)) {K6 : Int32 → Int32 → Me → Prop} (hK6 : ∀ (a4 : Int32) (a5 : Int32) (ν : Me), K6 a4 a5 ν → G x 10 6 [(0, .ref (gB x + o0)), (1, .ref (gB x + o1)), (3, .int i3), (4, .int a4), (5, .int a5)] [] ν 0 0) (h : B_X4_worked_49 o0 o1 i3 i4 i5 i6 μ K6 Q) : G x 10 49 [(0, .ref (gB x + o0)), (1, .ref (gB x + o1)), (3, .int i3), (4, .int i4), (5, .int i5), (6, .int i6)] [] μ 0 0 := by
  unfold B_X4_worked_49 at h
  refine g_iload f 3 dX4_worked_49 rfl ?_
  refine g_sipush f 300 dX4_worked_51 ks_300 ?_
  refine g_ic_lt f 59 dX4_worked_54 rfl h (fun h => ?_) (fun h => ?_)
  · refine g_aload_n f 0 dX4_worked_59 rfl rfl ?_
    obtain ⟨v7, h⟩ := h
    refine g_getR f fk_X4_9 v7 dX4_worked_60 rfl h (fun t8 h => ?_)
    refine g_iload f 3 dX4_worked_63 rfl ?_
    refine g_iload f 5 dX4_worked_65 rfl ?_
    refine g_bipush f 50 dX4_worked_67 kb_50 ?_
    refine g_ic_ne f 82 dX4_worked_69 rfl h (fun h => ?_) (fun h => ?_)
    · refine g_aload_n f 0 dX4_worked_82 rfl rfl ?_
      refine g_iload f 5 dX4_worked_83 rfl ?_
      refine g_callV f mk_X4_151 v7 (c_X4_named h) dX4_worked_85 rfl rfl (Nat.le_of_ble_eq_true rfl) (rm_ok (by decide) (by decide)) ⟨Nat.le_of_ble_eq_true rfl, Nat.le_of_ble_eq_true rfl⟩ (kI fun r11 μ9 x10 h => ?_)
      exact h_sub [0, 1, 2, 3, 4] rfl (tB_X4_worked_88 f hq hK6 h)
    · refine g_aload_n f 1 dX4_worked_72 rfl rfl ?_
      obtain ⟨v17, h⟩ := h
      refine g_getR f fk_X4_148 v17 dX4_worked_73 rfl h (fun t18 h => ?_)
      refine g_iload f 4 dX4_worked_76 rfl ?_
      obtain ⟨v19, h⟩ := h
      refine g_iald f v19 dX4_worked_78 h (fun h => ?_)
      refine g_goto f 88 dX4_worked_79 rfl ?_
      exact h_sub [0, 1, 2, 3, 4] rfl (tB_X4_worked_88 f hq hK6 h)
  · refine g_iconst f 0 dX4_worked_57 kc_0 ?_
    exact g_iret f hq (Nat.le_of_ble_eq_true rfl) (Nat.le_of_ble_eq_true rfl) dX4_worked_58 h
def B_X4_worked_194 (o0 : Nat) (o1 : Nat) (i3 : Int32) (i4 : Int32) (i5 : Int32) (i6 : Int32) (μ : Me) (K6 : Int32 → Int32 → Me → Prop) (Q : Int32 → Me → Prop) : Prop := mok μ o0 4 ∧ ∃ t24, mgr μ o0 2 = some t24 ∧ ∃ t25, mgr μ o0 2 = some t25 ∧ mok μ t25 12 ∧ vp_in (i4 - 1) (mln μ t25) ∧ S_X4_turned o0 i6 (mgi μ t25 (i4 - 1).toNatClampNeg) μ (fun r29 μ27 => mok μ27 t24 12 ∧ vp_in (i4 - 1) (mln μ27 t24) ∧ ∀ μ31, μ31 = msi μ27 t24 (i4 - 1).toNatClampNeg r29 → B_X4_worked_308 o0 o1 i3 i4 i5 μ31 K6 Q)
set_option maxHeartbeats 4000000 in
set_option maxRecDepth 100000 in
theorem tB_X4_worked_194 {x : GX} (f : Fx x cX4_worked RX4 10 (rmc 1 0 0)) {o0 : Nat} {o1 : Nat} {i3 : Int32} {i4 : Int32} {i5 : Int32} {i6 : Int32} {μ : Me} {Q : Int32 → Me → Prop} (hq : Rt x (some .int) (qI Q)) {K6 : Int32 → Int32 → Me → Prop} (hK6 : ∀ (a4 : Int32) (a5 : Int32) (ν : Me), K6 a4 a5 ν → G x 10 6 [(0, .ref (gB x + o0)), (1, .ref (gB x + o1)), (3, .int i3), (4, .int a4), (5, .int a5)] [] ν 0 0) (h : B_X4_worked_194 o0 o1 i3 i4 i5 i6 μ K6 Q) : G x 10 194 [(0, .ref (gB x + o0)), (1, .ref (gB x + o1)), (3, .int i3), (4, .int i4), (5, .int i5), (6, .int i6)] [] μ 0 0 := by
  unfold B_X4_worked_194 at h
  refine g_aload_n f 0 dX4_worked_194 rfl rfl ?_
  obtain ⟨v23, h⟩ := h
  refine g_getR f fk_X4_9 v23 dX4_worked_195 rfl h (fun t24 h => ?_)
  refine g_iload f 3 dX4_worked_198 rfl ?_
  refine g_iconst f 1 dX4_worked_200 kc_1 ?_
  refine g_isub f dX4_worked_201 ?_
  refine g_aload_n f 0 dX4_worked_202 rfl rfl ?_
  refine g_iload f 5 dX4_worked_203 rfl ?_
  refine g_aload_n f 0 dX4_worked_205 rfl rfl ?_
  refine g_getR f fk_X4_9 v23 dX4_worked_206 rfl h (fun t25 h => ?_)
  refine g_iload f 3 dX4_worked_209 rfl ?_
  refine g_iconst f 1 dX4_worked_211 kc_1 ?_
  refine g_isub f dX4_worked_212 ?_
  obtain ⟨v26, h⟩ := h
  refine g_iald f v26 dX4_worked_213 h (fun h => ?_)
  refine g_callV f mk_X4_154 v23 (c_X4_turned h) dX4_worked_214 rfl rfl (Nat.le_of_ble_eq_true rfl) (rm_ok (by decide) (by decide)) ⟨Nat.le_of_ble_eq_true rfl, Nat.le_of_ble_eq_true rfl⟩ (kI fun r29 μ27 x28 h => ?_)
  obtain ⟨v30, h⟩ := h
  refine g_iast f v30 dX4_worked_217 h (fun h => ?_)
  refine g_goto f 308 dX4_worked_218 rfl ?_
  exact h_sub [0, 1, 2, 3, 4] rfl (tB_X4_worked_308 f hq hK6 h)
def B_X4_worked_307 (o0 : Nat) (o1 : Nat) (i3 : Int32) (i4 : Int32) (i5 : Int32) (s0 : Int32) (s1 : Int32) (s2 : Option Nat) (μ : Me) (K6 : Int32 → Int32 → Me → Prop) (Q : Int32 → Me → Prop) : Prop := ∃ t42, s2 = some t42 ∧ mok μ t42 12 ∧ vp_in s1 (mln μ t42) ∧ ∀ μ46, μ46 = msi μ t42 s1.toNatClampNeg s0 → B_X4_worked_308 o0 o1 i3 i4 i5 μ46 K6 Q
set_option maxHeartbeats 4000000 in
set_option maxRecDepth 100000 in
theorem tB_X4_worked_307 {x : GX} (f : Fx x cX4_worked RX4 10 (rmc 1 0 0)) {o0 : Nat} {o1 : Nat} {i3 : Int32} {i4 : Int32} {i5 : Int32} {s0 : Int32} {s1 : Int32} {s2 : Option Nat} {μ : Me} {Q : Int32 → Me → Prop} (hq : Rt x (some .int) (qI Q)) {K6 : Int32 → Int32 → Me → Prop} (hK6 : ∀ (a4 : Int32) (a5 : Int32) (ν : Me), K6 a4 a5 ν → G x 10 6 [(0, .ref (gB x + o0)), (1, .ref (gB x + o1)), (3, .int i3), (4, .int a4), (5, .int a5)] [] ν 0 0) (h : B_X4_worked_307 o0 o1 i3 i4 i5 s0 s1 s2 μ K6 Q) : G x 10 307 [(0, .ref (gB x + o0)), (1, .ref (gB x + o1)), (3, .int i3), (4, .int i4), (5, .int i5)] [.int s0, .int s1, vr (gB x) s2] μ 0 0 := by
  unfold B_X4_worked_307 at h
  obtain ⟨t42, e43, h44⟩ := h
  subst e43
  have h := h44
  obtain ⟨v45, h⟩ := h
  refine g_iast f v45 dX4_worked_307 h (fun h => ?_)
  exact h_sub [0, 1, 2, 3, 4] rfl (tB_X4_worked_308 f hq hK6 h)
def B_X4_worked_271 (o0 : Nat) (o1 : Nat) (i3 : Int32) (i4 : Int32) (i5 : Int32) (i6 : Int32) (i7 : Int32) (i8 : Int32) (s0 : Int32) (μ : Me) (K6 : Int32 → Int32 → Me → Prop) (Q : Int32 → Me → Prop) : Prop := mok μ o0 4 ∧ ∃ t38, mgr μ o0 2 = some t38 ∧ ((s0 = 0 → S_X4_joined i6 i7 i8 μ (fun r41 μ39 => B_X4_worked_307 o0 o1 i3 i4 i5 r41 (i4 - 1) (some t38) μ39 K6 Q)) ∧ (¬ s0 = 0 → S_X4_compared i6 i7 i8 μ (fun r49 μ47 => B_X4_worked_307 o0 o1 i3 i4 i5 r49 (i4 - 1) (some t38) μ47 K6 Q)))
set_option maxHeartbeats 4000000 in
set_option maxRecDepth 100000 in
theorem tB_X4_worked_271 {x : GX} (f : Fx x cX4_worked RX4 10 (rmc 1 0 0)) {o0 : Nat} {o1 : Nat} {i3 : Int32} {i4 : Int32} {i5 : Int32} {i6 : Int32} {i7 : Int32} {i8 : Int32} {s0 : Int32} {μ : Me} {Q : Int32 → Me → Prop} (hq : Rt x (some .int) (qI Q)) {K6 : Int32 → Int32 → Me → Prop} (hK6 : ∀ (a4 : Int32) (a5 : Int32) (ν : Me), K6 a4 a5 ν → G x 10 6 [(0, .ref (gB x + o0)), (1, .ref (gB x + o1)), (3, .int i3), (4, .int a4), (5, .int a5)] [] ν 0 0) (h : B_X4_worked_271 o0 o1 i3 i4 i5 i6 i7 i8 s0 μ K6 Q) : G x 10 271 [(0, .ref (gB x + o0)), (1, .ref (gB x + o1)), (3, .int i3), (4, .int i4), (5, .int i5), (6, .int i6), (7, .int i7), (8, .int i8)] [.int s0] μ 0 0 := by
  unfold B_X4_worked_271 at h
  refine h_istore f dX4_worked_271 (by decide) ?_
  refine g_aload_n f 1 dX4_worked_273 rfl rfl ?_
  obtain ⟨v37, h⟩ := h
  refine g_getR f fk_X4_9 v37 dX4_worked_274 rfl h (fun t38 h => ?_)
  refine g_iload f 4 dX4_worked_277 rfl ?_
  refine g_iconst f 1 dX4_worked_279 kc_1 ?_
  refine g_isub f dX4_worked_280 ?_
  refine g_iload f 0 dX4_worked_281 rfl ?_
  refine g_if_eq f 298 dX4_worked_283 rfl h (fun h => ?_) (fun h => ?_)
  · refine g_iload f 6 dX4_worked_298 rfl ?_
    refine g_iload f 7 dX4_worked_300 rfl ?_
    refine g_iload f 8 dX4_worked_302 rfl ?_
    refine g_callS f mk_X4_160 (c_X4_joined h) dX4_worked_304 rfl rfl (Nat.le_of_ble_eq_true rfl) (rm_ok (by decide) (by decide)) ⟨Nat.le_of_ble_eq_true rfl, Nat.le_of_ble_eq_true rfl⟩ (kI fun r41 μ39 x40 h => ?_)
    exact h_sub [1, 2, 3, 4, 5] rfl (tB_X4_worked_307 f hq hK6 h)
  · refine g_iload f 6 dX4_worked_286 rfl ?_
    refine g_iload f 7 dX4_worked_288 rfl ?_
    refine g_iload f 8 dX4_worked_290 rfl ?_
    refine g_callS f mk_X4_157 (c_X4_compared h) dX4_worked_292 rfl rfl (Nat.le_of_ble_eq_true rfl) (rm_ok (by decide) (by decide)) ⟨Nat.le_of_ble_eq_true rfl, Nat.le_of_ble_eq_true rfl⟩ (kI fun r49 μ47 x48 h => ?_)
    refine g_goto f 307 dX4_worked_295 rfl ?_
    exact h_sub [1, 2, 3, 4, 5] rfl (tB_X4_worked_307 f hq hK6 h)
def B_X4_worked_168 (o0 : Nat) (o1 : Nat) (i3 : Int32) (i4 : Int32) (s0 : Int32) (μ : Me) (K6 : Int32 → Int32 → Me → Prop) (Q : Int32 → Me → Prop) : Prop := B_X4_worked_308 o0 o1 i3 i4 s0 μ K6 Q
set_option maxHeartbeats 4000000 in
set_option maxRecDepth 100000 in
theorem tB_X4_worked_168 {x : GX} (f : Fx x cX4_worked RX4 10 (rmc 1 0 0)) {o0 : Nat} {o1 : Nat} {i3 : Int32} {i4 : Int32} {s0 : Int32} {μ : Me} {Q : Int32 → Me → Prop} (hq : Rt x (some .int) (qI Q)) {K6 : Int32 → Int32 → Me → Prop} (hK6 : ∀ (a4 : Int32) (a5 : Int32) (ν : Me), K6 a4 a5 ν → G x 10 6 [(0, .ref (gB x + o0)), (1, .ref (gB x + o1)), (3, .int i3), (4, .int a4), (5, .int a5)] [] ν 0 0) (h : B_X4_worked_168 o0 o1 i3 i4 s0 μ K6 Q) : G x 10 168 [(0, .ref (gB x + o0)), (1, .ref (gB x + o1)), (3, .int i3), (4, .int i4)] [.int s0] μ 0 0 := by
  unfold B_X4_worked_168 at h
  refine h_istore f dX4_worked_168 (by decide) ?_
  refine g_goto f 308 dX4_worked_170 rfl ?_
  exact h_sub [1, 2, 3, 4, 0] rfl (tB_X4_worked_308 f hq hK6 h)
def B_X4_worked_6 (o0 : Nat) (o1 : Nat) (i3 : Int32) (i4 : Int32) (i5 : Int32) (μ : Me) (K6 : Int32 → Int32 → Me → Prop) (Q : Int32 → Me → Prop) : Prop := ((i5 < 0 → B_X4_worked_314 o0 i4 μ Q) ∧ (¬ i5 < 0 → ((i3 ≤ i5 → B_X4_worked_314 o0 i4 μ Q) ∧ (¬ i3 ≤ i5 → ((300 ≤ i5 → B_X4_worked_314 o0 i4 μ Q) ∧ (¬ 300 ≤ i5 → mok μ o1 7 ∧ ∃ t5, mgr μ o1 0 = some t5 ∧ mok μ t5 12 ∧ vp_in i5 (mln μ t5) ∧ (((mgi μ t5 i5.toNatClampNeg) = 50 → B_X4_worked_49 o0 o1 i3 i4 i5 (mgi μ t5 i5.toNatClampNeg) μ K6 Q) ∧ (¬ (mgi μ t5 i5.toNatClampNeg) = 50 → S_X10_isName (mgi μ t5 i5.toNatClampNeg) μ (fun r22 μ20 => ((r22 = 0 → ((¬ (mgi μ t5 i5.toNatClampNeg) = 20 → ((1 ≤ i4 → ((¬ (mgi μ t5 i5.toNatClampNeg) = 19 → (((mgi μ t5 i5.toNatClampNeg) = 60 → B_X4_worked_194 o0 o1 i3 i4 i5 (mgi μ t5 i5.toNatClampNeg) μ20 K6 Q) ∧ (¬ (mgi μ t5 i5.toNatClampNeg) = 60 → (((mgi μ t5 i5.toNatClampNeg) = 17 → B_X4_worked_194 o0 o1 i3 i4 i5 (mgi μ t5 i5.toNatClampNeg) μ20 K6 Q) ∧ (¬ (mgi μ t5 i5.toNatClampNeg) = 17 → ((¬ (mgi μ t5 i5.toNatClampNeg) = 25 → ((2 ≤ i4 → mok μ20 o0 4 ∧ ∃ t33, mgr μ20 o0 2 = some t33 ∧ mok μ20 t33 12 ∧ vp_in ((i4 + (-1)) - 1) (mln μ20 t33) ∧ ∃ t35, mgr μ20 o0 2 = some t35 ∧ mok μ20 t35 12 ∧ vp_in (i4 + (-1)) (mln μ20 t35) ∧ (((mgi μ t5 i5.toNatClampNeg) < 37 → B_X4_worked_271 o0 o1 i3 (i4 + (-1)) i5 (mgi μ t5 i5.toNatClampNeg) (mgi μ20 t33 ((i4 + (-1)) - 1).toNatClampNeg) (mgi μ20 t35 (i4 + (-1)).toNatClampNeg) 0 μ20 K6 Q) ∧ (¬ (mgi μ t5 i5.toNatClampNeg) < 37 → ((42 < (mgi μ t5 i5.toNatClampNeg) → B_X4_worked_271 o0 o1 i3 (i4 + (-1)) i5 (mgi μ t5 i5.toNatClampNeg) (mgi μ20 t33 ((i4 + (-1)) - 1).toNatClampNeg) (mgi μ20 t35 (i4 + (-1)).toNatClampNeg) 0 μ20 K6 Q) ∧ (¬ 42 < (mgi μ t5 i5.toNatClampNeg) → B_X4_worked_271 o0 o1 i3 (i4 + (-1)) i5 (mgi μ t5 i5.toNatClampNeg) (mgi μ20 t33 ((i4 + (-1)) - 1).toNatClampNeg) (mgi μ20 t35 (i4 + (-1)).toNatClampNeg) 1 μ20 K6 Q))))) ∧ (¬ 2 ≤ i4 → Q 0 μ20))) ∧ ((mgi μ t5 i5.toNatClampNeg) = 25 → B_X4_worked_194 o0 o1 i3 i4 i5 (mgi μ t5 i5.toNatClampNeg) μ20 K6 Q))))))) ∧ ((mgi μ t5 i5.toNatClampNeg) = 19 → mok μ20 o0 4 ∧ ∃ t51, mgr μ20 o0 2 = some t51 ∧ mok μ20 t51 12 ∧ vp_in (i4 + (-1)) (mln μ20 t51) ∧ (((mgi μ20 t51 (i4 + (-1)).toNatClampNeg) = 0 → ∃ t53, mgr μ20 o1 1 = some t53 ∧ mok μ20 t53 12 ∧ vp_in i5 (mln μ20 t53) ∧ B_X4_worked_168 o0 o1 i3 (i4 + (-1)) (if i5 < ((mgi μ20 t53 i5.toNatClampNeg) - 1) then ((mgi μ20 t53 i5.toNatClampNeg) - 1) else i5) μ20 K6 Q) ∧ (¬ (mgi μ20 t51 (i4 + (-1)).toNatClampNeg) = 0 → B_X4_worked_168 o0 o1 i3 (i4 + (-1)) i5 μ20 K6 Q))))) ∧ (¬ 1 ≤ i4 → Q 0 μ20))) ∧ ((mgi μ t5 i5.toNatClampNeg) = 20 → ∃ t55, mgr μ20 o1 1 = some t55 ∧ mok μ20 t55 12 ∧ vp_in i5 (mln μ20 t55) ∧ B_X4_worked_308 o0 o1 i3 i4 (if i5 < ((mgi μ20 t55 i5.toNatClampNeg) - 1) then ((mgi μ20 t55 i5.toNatClampNeg) - 1) else i5) μ20 K6 Q))) ∧ (¬ r22 = 0 → B_X4_worked_49 o0 o1 i3 i4 i5 (mgi μ t5 i5.toNatClampNeg) μ20 K6 Q)))))))))))
set_option maxHeartbeats 4000000 in
set_option maxRecDepth 100000 in
theorem tB_X4_worked_6 {x : GX} (f : Fx x cX4_worked RX4 10 (rmc 1 0 0)) {o0 : Nat} {o1 : Nat} {i3 : Int32} {i4 : Int32} {i5 : Int32} {μ : Me} {Q : Int32 → Me → Prop} (hq : Rt x (some .int) (qI Q)) {K6 : Int32 → Int32 → Me → Prop} (hK6 : ∀ (a4 : Int32) (a5 : Int32) (ν : Me), K6 a4 a5 ν → G x 10 6 [(0, .ref (gB x + o0)), (1, .ref (gB x + o1)), (3, .int i3), (4, .int a4), (5, .int a5)] [] ν 0 0) (h : B_X4_worked_6 o0 o1 i3 i4 i5 μ K6 Q) : G x 10 6 [(0, .ref (gB x + o0)), (1, .ref (gB x + o1)), (3, .int i3), (4, .int i4), (5, .int i5)] [] μ 0 0 := by
  unfold B_X4_worked_6 at h
  refine g_iload f 4 dX4_worked_6 rfl ?_
  refine g_if_lt f 314 dX4_worked_8 rfl h (fun h => ?_) (fun h => ?_)
  · exact h_sub [0, 3] rfl (tB_X4_worked_314 f hq h)
  · refine g_iload f 4 dX4_worked_11 rfl ?_
    refine g_iload_n f 2 dX4_worked_13 rfl rfl ?_
    refine g_ic_ge f 314 dX4_worked_14 rfl h (fun h => ?_) (fun h => ?_)
    · exact h_sub [0, 3] rfl (tB_X4_worked_314 f hq h)
    · refine g_iload f 4 dX4_worked_17 rfl ?_
      refine g_sipush f 300 dX4_worked_19 ks_300 ?_
      refine g_ic_ge f 314 dX4_worked_22 rfl h (fun h => ?_) (fun h => ?_)
      · exact h_sub [0, 3] rfl (tB_X4_worked_314 f hq h)
      · refine g_aload_n f 1 dX4_worked_25 rfl rfl ?_
        obtain ⟨v4, h⟩ := h
        refine g_getR f fk_X4_142 v4 dX4_worked_26 rfl h (fun t5 h => ?_)
        refine g_iload f 4 dX4_worked_29 rfl ?_
        obtain ⟨v6, h⟩ := h
        refine g_iald f v6 dX4_worked_31 h (fun h => ?_)
        refine h_istore f dX4_worked_32 (by decide) ?_
        refine g_iload f 0 dX4_worked_34 rfl ?_
        refine g_bipush f 50 dX4_worked_36 kb_50 ?_
        refine g_ic_eq f 49 dX4_worked_38 rfl h (fun h => ?_) (fun h => ?_)
        · exact h_sub [1, 2, 3, 4, 5, 0] rfl (tB_X4_worked_49 f hq hK6 h)
        · refine g_iload f 0 dX4_worked_41 rfl ?_
          refine g_callSn f mk_X4_145 (c_X10_isName h) dX4_worked_43 rfl rfl (Nat.le_of_ble_eq_true rfl) (rm_ok (by decide) (by decide)) ⟨Nat.le_of_ble_eq_true rfl, Nat.le_of_ble_eq_true rfl⟩ (kI fun r22 μ20 x21 h => ?_)
          refine g_if_eq f 95 dX4_worked_46 rfl h (fun h => ?_) (fun h => ?_)
          · refine g_iload f 0 dX4_worked_95 rfl ?_
            refine g_bipush f 20 dX4_worked_97 kb_20 ?_
            refine g_ic_ne f 121 dX4_worked_99 rfl h (fun h => ?_) (fun h => ?_)
            · refine g_iload f 4 dX4_worked_121 rfl ?_
              refine g_iconst f 1 dX4_worked_123 kc_1 ?_
              refine g_ic_ge f 129 dX4_worked_124 rfl h (fun h => ?_) (fun h => ?_)
              · refine g_iload f 0 dX4_worked_129 rfl ?_
                refine g_bipush f 19 dX4_worked_131 kb_19 ?_
                refine g_ic_ne f 173 dX4_worked_133 rfl h (fun h => ?_) (fun h => ?_)
                · refine g_iload f 0 dX4_worked_173 rfl ?_
                  refine g_bipush f 60 dX4_worked_175 kb_60 ?_
                  refine g_ic_eq f 194 dX4_worked_177 rfl h (fun h => ?_) (fun h => ?_)
                  · exact h_sub [1, 2, 3, 4, 5, 0] rfl (tB_X4_worked_194 f hq hK6 h)
                  · refine g_iload f 0 dX4_worked_180 rfl ?_
                    refine g_bipush f 17 dX4_worked_182 kb_17 ?_
                    refine g_ic_eq f 194 dX4_worked_184 rfl h (fun h => ?_) (fun h => ?_)
                    · exact h_sub [1, 2, 3, 4, 5, 0] rfl (tB_X4_worked_194 f hq hK6 h)
                    · refine g_iload f 0 dX4_worked_187 rfl ?_
                      refine g_bipush f 25 dX4_worked_189 kb_25 ?_
                      refine g_ic_ne f 221 dX4_worked_191 rfl h (fun h => ?_) (fun h => ?_)
                      · refine g_iload f 4 dX4_worked_221 rfl ?_
                        refine g_iconst f 2 dX4_worked_223 kc_2 ?_
                        refine g_ic_ge f 229 dX4_worked_224 rfl h (fun h => ?_) (fun h => ?_)
                        · refine h_iinc f 4 (-1) dX4_worked_229 rfl kc_m1 (by decide) ?_
                          refine g_aload_n f 2 dX4_worked_232 rfl rfl ?_
                          obtain ⟨v32, h⟩ := h
                          refine g_getR f fk_X4_9 v32 dX4_worked_233 rfl h (fun t33 h => ?_)
                          refine g_iload f 0 dX4_worked_236 rfl ?_
                          refine g_iconst f 1 dX4_worked_238 kc_1 ?_
                          refine g_isub f dX4_worked_239 ?_
                          obtain ⟨v34, h⟩ := h
                          refine g_iald f v34 dX4_worked_240 h (fun h => ?_)
                          refine h_istore f dX4_worked_241 (by decide) ?_
                          refine g_aload_n f 3 dX4_worked_243 rfl rfl ?_
                          refine g_getR f fk_X4_9 v32 dX4_worked_244 rfl h (fun t35 h => ?_)
                          refine g_iload f 1 dX4_worked_247 rfl ?_
                          obtain ⟨v36, h⟩ := h
                          refine g_iald f v36 dX4_worked_249 h (fun h => ?_)
                          refine h_istore f dX4_worked_250 (by decide) ?_
                          refine g_iload f 3 dX4_worked_252 rfl ?_
                          refine g_bipush f 37 dX4_worked_254 kb_37 ?_
                          refine g_ic_lt f 270 dX4_worked_256 rfl h (fun h => ?_) (fun h => ?_)
                          · refine g_iconst f 0 dX4_worked_270 kc_0 ?_
                            exact h_sub [4, 5, 6, 2, 7, 3, 1, 0] rfl (tB_X4_worked_271 f hq hK6 h)
                          · refine g_iload f 3 dX4_worked_259 rfl ?_
                            refine g_bipush f 42 dX4_worked_261 kb_42 ?_
                            refine g_ic_gt f 270 dX4_worked_263 rfl h (fun h => ?_) (fun h => ?_)
                            · refine g_iconst f 0 dX4_worked_270 kc_0 ?_
                              exact h_sub [4, 5, 6, 2, 7, 3, 1, 0] rfl (tB_X4_worked_271 f hq hK6 h)
                            · refine g_iconst f 1 dX4_worked_266 kc_1 ?_
                              refine g_goto f 271 dX4_worked_267 rfl ?_
                              exact h_sub [4, 5, 6, 2, 7, 3, 1, 0] rfl (tB_X4_worked_271 f hq hK6 h)
                        · refine g_iconst f 0 dX4_worked_227 kc_0 ?_
                          exact g_iret f hq (Nat.le_of_ble_eq_true rfl) (Nat.le_of_ble_eq_true rfl) dX4_worked_228 h
                      · exact h_sub [1, 2, 3, 4, 5, 0] rfl (tB_X4_worked_194 f hq hK6 h)
                · refine h_iinc f 4 (-1) dX4_worked_136 rfl kc_m1 (by decide) ?_
                  refine g_aload_n f 2 dX4_worked_139 rfl rfl ?_
                  obtain ⟨v50, h⟩ := h
                  refine g_getR f fk_X4_9 v50 dX4_worked_140 rfl h (fun t51 h => ?_)
                  refine g_iload f 0 dX4_worked_143 rfl ?_
                  obtain ⟨v52, h⟩ := h
                  refine g_iald f v52 dX4_worked_145 h (fun h => ?_)
                  refine g_if_eq f 154 dX4_worked_146 rfl h (fun h => ?_) (fun h => ?_)
                  · refine g_iload f 5 dX4_worked_154 rfl ?_
                    refine g_aload_n f 3 dX4_worked_156 rfl rfl ?_
                    have v4 := mex_ok x21 v4
                    refine g_getR f fk_X4_148 v4 dX4_worked_157 rfl h (fun t53 h => ?_)
                    refine g_iload f 5 dX4_worked_160 rfl ?_
                    obtain ⟨v54, h⟩ := h
                    refine g_iald f v54 dX4_worked_162 h (fun h => ?_)
                    refine g_iconst f 1 dX4_worked_163 kc_1 ?_
                    refine g_isub f dX4_worked_164 ?_
                    refine g_max f maxk_X4_139 dX4_worked_165 rm_fr (rm_mx (Nat.le_of_ble_eq_true rfl)) (Nat.zero_le _) (Nat.zero_le _) ?_
                    exact h_sub [2, 3, 4, 0] rfl (tB_X4_worked_168 f hq hK6 h)
                  · refine g_iload f 5 dX4_worked_149 rfl ?_
                    refine g_goto f 168 dX4_worked_151 rfl ?_
                    exact h_sub [2, 3, 4, 0] rfl (tB_X4_worked_168 f hq hK6 h)
              · refine g_iconst f 0 dX4_worked_127 kc_0 ?_
                exact g_iret f hq (Nat.le_of_ble_eq_true rfl) (Nat.le_of_ble_eq_true rfl) dX4_worked_128 h
            · refine g_iload f 5 dX4_worked_102 rfl ?_
              refine g_aload_n f 2 dX4_worked_104 rfl rfl ?_
              have v4 := mex_ok x21 v4
              refine g_getR f fk_X4_148 v4 dX4_worked_105 rfl h (fun t55 h => ?_)
              refine g_iload f 5 dX4_worked_108 rfl ?_
              obtain ⟨v56, h⟩ := h
              refine g_iald f v56 dX4_worked_110 h (fun h => ?_)
              refine g_iconst f 1 dX4_worked_111 kc_1 ?_
              refine g_isub f dX4_worked_112 ?_
              refine g_max f maxk_X4_139 dX4_worked_113 rm_fr (rm_mx (Nat.le_of_ble_eq_true rfl)) (Nat.zero_le _) (Nat.zero_le _) ?_
              refine h_istore f dX4_worked_116 (by decide) ?_
              refine g_goto f 308 dX4_worked_118 rfl ?_
              exact h_sub [2, 3, 4, 5, 0] rfl (tB_X4_worked_308 f hq hK6 h)
          · exact h_sub [1, 2, 3, 4, 5, 0] rfl (tB_X4_worked_49 f hq hK6 h)
def L_X4_worked_6 (o0 : Nat) (o1 : Nat) (i3 : Int32) (i4 : Int32) (i5 : Int32) (μ : Me) (Q : Int32 → Me → Prop) : Prop := ∃ I : Int32 → Int32 → Me → Nat → Prop, (∃ n, I i4 i5 μ n) ∧ ∀ (i4 : Int32) (i5 : Int32) (μ : Me) (n : Nat), I i4 i5 μ n → B_X4_worked_6 o0 o1 i3 i4 i5 μ (fun a4 a5 ν => ∃ n', n' < n ∧ I a4 a5 ν n') Q
set_option maxHeartbeats 4000000 in
set_option maxRecDepth 100000 in
theorem tL_X4_worked_6 {x : GX} (f : Fx x cX4_worked RX4 10 (rmc 1 0 0)) {o0 : Nat} {o1 : Nat} {i3 : Int32} {i4 : Int32} {i5 : Int32} {μ : Me} {Q : Int32 → Me → Prop} (hq : Rt x (some .int) (qI Q)) (h : L_X4_worked_6 o0 o1 i3 i4 i5 μ Q) : G x 10 6 [(0, .ref (gB x + o0)), (1, .ref (gB x + o1)), (3, .int i3), (4, .int i4), (5, .int i5)] [] μ 0 0 := by
  obtain ⟨I, ⟨n, hI⟩, hs⟩ := h
  induction n using Nat.strongRecOn generalizing i4 i5 μ with
  | ind n ih => exact tB_X4_worked_6 f hq (fun a4 a5 ν hk => by obtain ⟨n2, hn, hI2⟩ := hk; exact ih n2 hn hI2) (hs _ _ _ _ hI)
def S_X4_worked (o0 : Nat) (o1 : Nat) (i2 : Int32) (i3 : Int32) (μ : Me) (Q : Int32 → Me → Prop) : Prop := L_X4_worked_6 o0 o1 i3 0 i2 μ Q
set_option maxHeartbeats 4000000 in
set_option maxRecDepth 100000 in
theorem t_X4_worked {x : GX} (f : Fx x cX4_worked RX4 10 (rmc 1 0 0)) {o0 : Nat} {o1 : Nat} {i2 : Int32} {i3 : Int32} {μ : Me} {Q : Int32 → Me → Prop} (hq : Rt x (some .int) (qI Q)) (h : S_X4_worked o0 o1 i2 i3 μ Q) : G x 10 0 [(0, .ref (gB x + o0)), (1, .ref (gB x + o1)), (2, .int i2), (3, .int i3)] [] μ 0 0 := by
  unfold S_X4_worked at h
  refine g_iconst f 0 dX4_worked_0 kc_0 ?_
  refine h_istore f dX4_worked_1 (by decide) ?_
  refine g_iload_n f 3 dX4_worked_3 rfl rfl ?_
  refine h_istore f dX4_worked_4 (by decide) ?_
  exact h_sub [2, 3, 5, 1, 0] rfl (tL_X4_worked_6 f hq h)
theorem c_X4_worked {Ω : OM} {o0 : Nat} {o1 : Nat} {i2 : Int32} {i3 : Int32} {μ : Me} {Q : Int32 → Me → Prop} (h : S_X4_worked o0 o1 i2 i3 μ Q) : CT Ω yX4_worked cX4_worked 10 (some .int) (rmc 1 0 0) [.ref (oB Ω + o0), .ref (oB Ω + o1), .int i2, .int i3] μ (qI Q) := CT_of (by decide) rfl (by simp [lg_sl, Value.category]) (fun x hΩ f hq hi => by subst hΩ; exact t_X4_worked f hq h)
theorem dX4_runningBy_0 : decode cX4_runningBy 0 = .ok (.aload_n 0, 1) := by decide +kernel
theorem dX4_runningBy_1 : decode cX4_runningBy 1 = .ok (.getfield 55, 3) := by decide +kernel
theorem dX4_runningBy_4 : decode cX4_runningBy 4 = .ok (.astore_n 2, 1) := by decide +kernel
theorem dX4_runningBy_5 : decode cX4_runningBy 5 = .ok (.aload_n 2, 1) := by decide +kernel
theorem dX4_runningBy_6 : decode cX4_runningBy 6 = .ok (.ifnull 15, 3) := by decide +kernel
theorem dX4_runningBy_9 : decode cX4_runningBy 9 = .ok (.aload_n 2, 1) := by decide +kernel
theorem dX4_runningBy_10 : decode cX4_runningBy 10 = .ok (.getfield 59, 3) := by decide +kernel
theorem dX4_runningBy_13 : decode cX4_runningBy 13 = .ok (.iconst (-1), 1) := by decide +kernel
theorem dX4_runningBy_14 : decode cX4_runningBy 14 = .ok (.if_icmp .eq 7, 3) := by decide +kernel
theorem dX4_runningBy_17 : decode cX4_runningBy 17 = .ok (.iconst 1, 1) := by decide +kernel
theorem dX4_runningBy_18 : decode cX4_runningBy 18 = .ok (.goto 4, 3) := by decide +kernel
theorem dX4_runningBy_21 : decode cX4_runningBy 21 = .ok (.iconst 0, 1) := by decide +kernel
theorem dX4_runningBy_22 : decode cX4_runningBy 22 = .ok (.istore_n 3, 1) := by decide +kernel
theorem dX4_runningBy_23 : decode cX4_runningBy 23 = .ok (.aload_n 0, 1) := by decide +kernel
theorem dX4_runningBy_24 : decode cX4_runningBy 24 = .ok (.iload_n 1, 1) := by decide +kernel
theorem dX4_runningBy_25 : decode cX4_runningBy 25 = .ok (.putfield 64, 3) := by decide +kernel
theorem dX4_runningBy_28 : decode cX4_runningBy 28 = .ok (.iconst 0, 1) := by decide +kernel
theorem dX4_runningBy_29 : decode cX4_runningBy 29 = .ok (.istore 4, 2) := by decide +kernel
theorem dX4_runningBy_31 : decode cX4_runningBy 31 = .ok (.iconst 0, 1) := by decide +kernel
theorem dX4_runningBy_32 : decode cX4_runningBy 32 = .ok (.istore 5, 2) := by decide +kernel
theorem dX4_runningBy_34 : decode cX4_runningBy 34 = .ok (.iload 5, 2) := by decide +kernel
theorem dX4_runningBy_36 : decode cX4_runningBy 36 = .ok (.aload_n 0, 1) := by decide +kernel
theorem dX4_runningBy_37 : decode cX4_runningBy 37 = .ok (.getfield 15, 3) := by decide +kernel
theorem dX4_runningBy_40 : decode cX4_runningBy 40 = .ok (.getfield 67, 3) := by decide +kernel
theorem dX4_runningBy_43 : decode cX4_runningBy 43 = .ok (.if_icmp .ge 82, 3) := by decide +kernel
theorem dX4_runningBy_46 : decode cX4_runningBy 46 = .ok (.aload_n 0, 1) := by decide +kernel
theorem dX4_runningBy_47 : decode cX4_runningBy 47 = .ok (.iload 5, 2) := by decide +kernel
theorem dX4_runningBy_49 : decode cX4_runningBy 49 = .ok (.putfield 70, 3) := by decide +kernel
theorem dX4_runningBy_52 : decode cX4_runningBy 52 = .ok (.aload_n 0, 1) := by decide +kernel
theorem dX4_runningBy_53 : decode cX4_runningBy 53 = .ok (.aload_n 0, 1) := by decide +kernel
theorem dX4_runningBy_54 : decode cX4_runningBy 54 = .ok (.getfield 64, 3) := by decide +kernel
theorem dX4_runningBy_57 : decode cX4_runningBy 57 = .ok (.aload_n 0, 1) := by decide +kernel
theorem dX4_runningBy_58 : decode cX4_runningBy 58 = .ok (.getfield 15, 3) := by decide +kernel
theorem dX4_runningBy_61 : decode cX4_runningBy 61 = .ok (.getfield 73, 3) := by decide +kernel
theorem dX4_runningBy_64 : decode cX4_runningBy 64 = .ok (.iload 5, 2) := by decide +kernel
theorem dX4_runningBy_66 : decode cX4_runningBy 66 = .ok (.iaload, 1) := by decide +kernel
theorem dX4_runningBy_67 : decode cX4_runningBy 67 = .ok (.iand, 1) := by decide +kernel
theorem dX4_runningBy_68 : decode cX4_runningBy 68 = .ok (.invokestatic 76, 3) := by decide +kernel
theorem dX4_runningBy_71 : decode cX4_runningBy 71 = .ok (.putfield 82, 3) := by decide +kernel
theorem dX4_runningBy_74 : decode cX4_runningBy 74 = .ok (.aload_n 0, 1) := by decide +kernel
theorem dX4_runningBy_75 : decode cX4_runningBy 75 = .ok (.iload 5, 2) := by decide +kernel
theorem dX4_runningBy_77 : decode cX4_runningBy 77 = .ok (.invokevirtual 85, 3) := by decide +kernel
theorem dX4_runningBy_80 : decode cX4_runningBy 80 = .ok (.ifCond .eq 39, 3) := by decide +kernel
theorem dX4_runningBy_83 : decode cX4_runningBy 83 = .ok (.iload_n 3, 1) := by decide +kernel
theorem dX4_runningBy_84 : decode cX4_runningBy 84 = .ok (.ifCond .eq 19, 3) := by decide +kernel
theorem dX4_runningBy_87 : decode cX4_runningBy 87 = .ok (.aload_n 0, 1) := by decide +kernel
theorem dX4_runningBy_88 : decode cX4_runningBy 88 = .ok (.aload_n 2, 1) := by decide +kernel
theorem dX4_runningBy_89 : decode cX4_runningBy 89 = .ok (.aload_n 2, 1) := by decide +kernel
theorem dX4_runningBy_90 : decode cX4_runningBy 90 = .ok (.getfield 59, 3) := by decide +kernel
theorem dX4_runningBy_93 : decode cX4_runningBy 93 = .ok (.aload_n 2, 1) := by decide +kernel
theorem dX4_runningBy_94 : decode cX4_runningBy 94 = .ok (.getfield 89, 3) := by decide +kernel
theorem dX4_runningBy_97 : decode cX4_runningBy 97 = .ok (.invokevirtual 92, 3) := by decide +kernel
theorem dX4_runningBy_100 : decode cX4_runningBy 100 = .ok (.goto 7, 3) := by decide +kernel
theorem dX4_runningBy_103 : decode cX4_runningBy 103 = .ok (.aload_n 0, 1) := by decide +kernel
theorem dX4_runningBy_104 : decode cX4_runningBy 104 = .ok (.getfield 82, 3) := by decide +kernel
theorem dX4_runningBy_107 : decode cX4_runningBy 107 = .ok (.ifCond .le 12, 3) := by decide +kernel
theorem dX4_runningBy_110 : decode cX4_runningBy 110 = .ok (.iload 4, 2) := by decide +kernel
theorem dX4_runningBy_112 : decode cX4_runningBy 112 = .ok (.iconst 1, 1) := by decide +kernel
theorem dX4_runningBy_113 : decode cX4_runningBy 113 = .ok (.iload 5, 2) := by decide +kernel
theorem dX4_runningBy_115 : decode cX4_runningBy 115 = .ok (.ishl, 1) := by decide +kernel
theorem dX4_runningBy_116 : decode cX4_runningBy 116 = .ok (.ior, 1) := by decide +kernel
theorem dX4_runningBy_117 : decode cX4_runningBy 117 = .ok (.istore 4, 2) := by decide +kernel
theorem dX4_runningBy_119 : decode cX4_runningBy 119 = .ok (.iinc 5 1, 3) := by decide +kernel
theorem dX4_runningBy_122 : decode cX4_runningBy 122 = .ok (.goto (-88), 3) := by decide +kernel
theorem dX4_runningBy_125 : decode cX4_runningBy 125 = .ok (.iload 4, 2) := by decide +kernel
theorem dX4_runningBy_127 : decode cX4_runningBy 127 = .ok (.ireturn, 1) := by decide +kernel
def B_X4_runningBy_119 (o0 : Nat) (r2 : Option Nat) (i3 : Int32) (i4 : Int32) (i5 : Int32) (μ : Me) (K34 : Int32 → Int32 → Me → Prop) (Q : Int32 → Me → Prop) : Prop := K34 i4 (i5 + 1) μ
set_option maxHeartbeats 4000000 in
set_option maxRecDepth 100000 in
theorem tB_X4_runningBy_119 {x : GX} (f : Fx x cX4_runningBy RX4 6 (rmc 2 0 0)) {o0 : Nat} {r2 : Option Nat} {i3 : Int32} {i4 : Int32} {i5 : Int32} {μ : Me} {Q : Int32 → Me → Prop} (hq : Rt x (some .int) (qI Q)) {K34 : Int32 → Int32 → Me → Prop} (hK34 : ∀ (a4 : Int32) (a5 : Int32) (ν : Me), K34 a4 a5 ν → G x 6 34 [(0, .ref (gB x + o0)), (2, vr (gB x) r2), (3, .int i3), (4, .int a4), (5, .int a5)] [] ν 0 0) (h : B_X4_runningBy_119 o0 r2 i3 i4 i5 μ K34 Q) : G x 6 119 [(0, .ref (gB x + o0)), (2, vr (gB x) r2), (3, .int i3), (4, .int i4), (5, .int i5)] [] μ 0 0 := by
  unfold B_X4_runningBy_119 at h
  refine h_iinc f 4 1 dX4_runningBy_119 rfl kc_1 (by decide) ?_
  refine g_goto f 34 dX4_runningBy_122 rfl ?_
  exact h_sub [1, 2, 3, 4, 0] rfl (hK34 _ _ _ h)
def B_X4_runningBy_107 (o0 : Nat) (r2 : Option Nat) (i3 : Int32) (i4 : Int32) (i5 : Int32) (s0 : Int32) (μ : Me) (K34 : Int32 → Int32 → Me → Prop) (Q : Int32 → Me → Prop) : Prop := ((s0 ≤ 0 → B_X4_runningBy_119 o0 r2 i3 i4 i5 μ K34 Q) ∧ (¬ s0 ≤ 0 → B_X4_runningBy_119 o0 r2 i3 (i4 ||| (1 <<< (i5 &&& 31))) i5 μ K34 Q))
set_option maxHeartbeats 4000000 in
set_option maxRecDepth 100000 in
theorem tB_X4_runningBy_107 {x : GX} (f : Fx x cX4_runningBy RX4 6 (rmc 2 0 0)) {o0 : Nat} {r2 : Option Nat} {i3 : Int32} {i4 : Int32} {i5 : Int32} {s0 : Int32} {μ : Me} {Q : Int32 → Me → Prop} (hq : Rt x (some .int) (qI Q)) {K34 : Int32 → Int32 → Me → Prop} (hK34 : ∀ (a4 : Int32) (a5 : Int32) (ν : Me), K34 a4 a5 ν → G x 6 34 [(0, .ref (gB x + o0)), (2, vr (gB x) r2), (3, .int i3), (4, .int a4), (5, .int a5)] [] ν 0 0) (h : B_X4_runningBy_107 o0 r2 i3 i4 i5 s0 μ K34 Q) : G x 6 107 [(0, .ref (gB x + o0)), (2, vr (gB x) r2), (3, .int i3), (4, .int i4), (5, .int i5)] [.int s0] μ 0 0 := by
  unfold B_X4_runningBy_107 at h
  refine g_if_le f 119 dX4_runningBy_107 rfl h (fun h => ?_) (fun h => ?_)
  · exact h_sub [0, 1, 2, 3, 4] rfl (tB_X4_runningBy_119 f hq hK34 h)
  · refine g_iload f 3 dX4_runningBy_110 rfl ?_
    refine g_iconst f 1 dX4_runningBy_112 kc_1 ?_
    refine g_iload f 4 dX4_runningBy_113 rfl ?_
    refine g_ishl f dX4_runningBy_115 ?_
    refine g_ior f dX4_runningBy_116 ?_
    refine h_istore f dX4_runningBy_117 (by decide) ?_
    exact h_sub [1, 2, 3, 0, 4] rfl (tB_X4_runningBy_119 f hq hK34 h)
def B_X4_runningBy_34 (o0 : Nat) (r2 : Option Nat) (i3 : Int32) (i4 : Int32) (i5 : Int32) (μ : Me) (K34 : Int32 → Int32 → Me → Prop) (Q : Int32 → Me → Prop) : Prop := mok μ o0 4 ∧ ∃ t7, mgr μ o0 0 = some t7 ∧ mok μ t7 9 ∧ (((mgi μ t7 0) ≤ i5 → Q i4 μ) ∧ (¬ (mgi μ t7 0) ≤ i5 → ∀ μ9, μ9 = msi μ o0 8 i5 → ∃ t10, mgr μ9 o0 0 = some t10 ∧ mok μ9 t10 9 ∧ ∃ t12, mgr μ9 t10 5 = some t12 ∧ mok μ9 t12 12 ∧ vp_in i5 (mln μ9 t12) ∧ S_J6_bitCount_0f7a4 ((mgi μ9 o0 7) &&& (mgi μ9 t12 i5.toNatClampNeg)) μ9 (fun r16 μ14 => ∀ μ17, μ17 = msi μ14 o0 9 r16 → S_X4_isUp o0 i5 μ17 (fun r20 μ18 => ((r20 = 0 → B_X4_runningBy_119 o0 r2 i3 i4 i5 μ18 K34 Q) ∧ (¬ r20 = 0 → ((i3 = 0 → B_X4_runningBy_107 o0 r2 i3 i4 i5 (mgi μ18 o0 9) μ18 K34 Q) ∧ (¬ i3 = 0 → ∃ t21, r2 = some t21 ∧ mok μ18 t21 7 ∧ S_X4_worked o0 t21 (mgi μ18 t21 3) (mgi μ18 t21 4) μ18 (fun r27 μ25 => B_X4_runningBy_107 o0 (some t21) i3 i4 i5 r27 μ25 K34 Q)))))))))
set_option maxHeartbeats 4000000 in
set_option maxRecDepth 100000 in
theorem tB_X4_runningBy_34 {x : GX} (f : Fx x cX4_runningBy RX4 6 (rmc 2 0 0)) {o0 : Nat} {r2 : Option Nat} {i3 : Int32} {i4 : Int32} {i5 : Int32} {μ : Me} {Q : Int32 → Me → Prop} (hq : Rt x (some .int) (qI Q)) {K34 : Int32 → Int32 → Me → Prop} (hK34 : ∀ (a4 : Int32) (a5 : Int32) (ν : Me), K34 a4 a5 ν → G x 6 34 [(0, .ref (gB x + o0)), (2, vr (gB x) r2), (3, .int i3), (4, .int a4), (5, .int a5)] [] ν 0 0) (h : B_X4_runningBy_34 o0 r2 i3 i4 i5 μ K34 Q) : G x 6 34 [(0, .ref (gB x + o0)), (2, vr (gB x) r2), (3, .int i3), (4, .int i4), (5, .int i5)] [] μ 0 0 := by
  unfold B_X4_runningBy_34 at h
  refine g_iload f 4 dX4_runningBy_34 rfl ?_
  refine g_aload_n f 0 dX4_runningBy_36 rfl rfl ?_
  obtain ⟨v6, h⟩ := h
  refine g_getR f fk_X4_15 v6 dX4_runningBy_37 rfl h (fun t7 h => ?_)
  obtain ⟨v8, h⟩ := h
  refine g_getI f fk_X4_67 v8 dX4_runningBy_40 rfl ?_
  refine g_ic_ge f 125 dX4_runningBy_43 rfl h (fun h => ?_) (fun h => ?_)
  · refine g_iload f 3 dX4_runningBy_125 rfl ?_
    exact g_iret f hq (Nat.le_of_ble_eq_true rfl) (Nat.le_of_ble_eq_true rfl) dX4_runningBy_127 h
  · refine g_aload_n f 0 dX4_runningBy_46 rfl rfl ?_
    refine g_iload f 4 dX4_runningBy_47 rfl ?_
    refine g_putI f fk_X4_70 v6 dX4_runningBy_49 rfl h (fun h => ?_)
    refine g_aload_n f 0 dX4_runningBy_52 rfl rfl ?_
    refine g_aload_n f 0 dX4_runningBy_53 rfl rfl ?_
    refine g_getI f fk_X4_64 v6 dX4_runningBy_54 rfl ?_
    refine g_aload_n f 0 dX4_runningBy_57 rfl rfl ?_
    refine g_getR f fk_X4_15 v6 dX4_runningBy_58 rfl h (fun t10 h => ?_)
    obtain ⟨v11, h⟩ := h
    refine g_getR f fk_X4_73 v11 dX4_runningBy_61 rfl h (fun t12 h => ?_)
    refine g_iload f 4 dX4_runningBy_64 rfl ?_
    obtain ⟨v13, h⟩ := h
    refine g_iald f v13 dX4_runningBy_66 h (fun h => ?_)
    refine g_iand f dX4_runningBy_67 ?_
    refine g_callS f mk_X4_76 (c_J6_bitCount_0f7a4 h) dX4_runningBy_68 rfl rfl (Nat.le_of_ble_eq_true rfl) (rm_ok (by decide) (by decide)) ⟨Nat.le_of_ble_eq_true rfl, Nat.le_of_ble_eq_true rfl⟩ (kI fun r16 μ14 x15 h => ?_)
    have v6 := mex_ok x15 v6
    refine g_putI f fk_X4_82 v6 dX4_runningBy_71 rfl h (fun h => ?_)
    refine g_aload_n f 0 dX4_runningBy_74 rfl rfl ?_
    refine g_iload f 4 dX4_runningBy_75 rfl ?_
    refine g_callV f mk_X4_85 v6 (c_X4_isUp h) dX4_runningBy_77 rfl rfl (Nat.le_of_ble_eq_true rfl) (rm_ok (by decide) (by decide)) ⟨Nat.le_of_ble_eq_true rfl, Nat.le_of_ble_eq_true rfl⟩ (kI fun r20 μ18 x19 h => ?_)
    refine g_if_eq f 119 dX4_runningBy_80 rfl h (fun h => ?_) (fun h => ?_)
    · exact h_sub [0, 1, 2, 3, 4] rfl (tB_X4_runningBy_119 f hq hK34 h)
    · refine g_iload_n f 2 dX4_runningBy_83 rfl rfl ?_
      refine g_if_eq f 103 dX4_runningBy_84 rfl h (fun h => ?_) (fun h => ?_)
      · refine g_aload_n f 0 dX4_runningBy_103 rfl rfl ?_
        have v6 := mex_ok x19 v6
        refine g_getI f fk_X4_82 v6 dX4_runningBy_104 rfl ?_
        exact h_sub [0, 1, 2, 3, 4] rfl (tB_X4_runningBy_107 f hq hK34 h)
      · refine g_aload_n f 0 dX4_runningBy_87 rfl rfl ?_
        refine g_aload_nQ f 1 dX4_runningBy_88 rfl rfl ?_
        refine g_aload_nQ f 1 dX4_runningBy_89 rfl rfl ?_
        obtain ⟨t21, e22, h23⟩ := h
        subst e22
        have h := h23
        obtain ⟨v24, h⟩ := h
        refine g_getI f fk_X4_59 v24 dX4_runningBy_90 rfl ?_
        refine g_aload_nQ f 1 dX4_runningBy_93 rfl rfl ?_
        refine g_getI f fk_X4_89 v24 dX4_runningBy_94 rfl ?_
        have v6 := mex_ok x19 v6
        refine g_callV f mk_X4_92 v6 (c_X4_worked h) dX4_runningBy_97 rfl rfl (Nat.le_of_ble_eq_true rfl) (rm_ok (by decide) (by decide)) ⟨Nat.le_of_ble_eq_true rfl, Nat.le_of_ble_eq_true rfl⟩ (kI fun r27 μ25 x26 h => ?_)
        refine g_goto f 107 dX4_runningBy_100 rfl ?_
        exact h_sub [0, 1, 2, 3, 4] rfl (tB_X4_runningBy_107 f hq hK34 h)
def L_X4_runningBy_34 (o0 : Nat) (r2 : Option Nat) (i3 : Int32) (i4 : Int32) (i5 : Int32) (μ : Me) (Q : Int32 → Me → Prop) : Prop := ∃ I : Int32 → Int32 → Me → Nat → Prop, (∃ n, I i4 i5 μ n) ∧ ∀ (i4 : Int32) (i5 : Int32) (μ : Me) (n : Nat), I i4 i5 μ n → B_X4_runningBy_34 o0 r2 i3 i4 i5 μ (fun a4 a5 ν => ∃ n', n' < n ∧ I a4 a5 ν n') Q
set_option maxHeartbeats 4000000 in
set_option maxRecDepth 100000 in
theorem tL_X4_runningBy_34 {x : GX} (f : Fx x cX4_runningBy RX4 6 (rmc 2 0 0)) {o0 : Nat} {r2 : Option Nat} {i3 : Int32} {i4 : Int32} {i5 : Int32} {μ : Me} {Q : Int32 → Me → Prop} (hq : Rt x (some .int) (qI Q)) (h : L_X4_runningBy_34 o0 r2 i3 i4 i5 μ Q) : G x 6 34 [(0, .ref (gB x + o0)), (2, vr (gB x) r2), (3, .int i3), (4, .int i4), (5, .int i5)] [] μ 0 0 := by
  obtain ⟨I, ⟨n, hI⟩, hs⟩ := h
  induction n using Nat.strongRecOn generalizing i4 i5 μ with
  | ind n ih => exact tB_X4_runningBy_34 f hq (fun a4 a5 ν hk => by obtain ⟨n2, hn, hI2⟩ := hk; exact ih n2 hn hI2) (hs _ _ _ _ hI)
def B_X4_runningBy_22 (o0 : Nat) (i1 : Int32) (r2 : Option Nat) (s0 : Int32) (μ : Me) (Q : Int32 → Me → Prop) : Prop := mok μ o0 4 ∧ ∀ μ5, μ5 = msi μ o0 7 i1 → L_X4_runningBy_34 o0 r2 s0 0 0 μ5 Q
set_option maxHeartbeats 4000000 in
set_option maxRecDepth 100000 in
theorem tB_X4_runningBy_22 {x : GX} (f : Fx x cX4_runningBy RX4 6 (rmc 2 0 0)) {o0 : Nat} {i1 : Int32} {r2 : Option Nat} {s0 : Int32} {μ : Me} {Q : Int32 → Me → Prop} (hq : Rt x (some .int) (qI Q)) (h : B_X4_runningBy_22 o0 i1 r2 s0 μ Q) : G x 6 22 [(0, .ref (gB x + o0)), (1, .int i1), (2, vr (gB x) r2)] [.int s0] μ 0 0 := by
  unfold B_X4_runningBy_22 at h
  refine q_istore_n f (by simp [vr_cat, c_int, c_ref, c_long]) dX4_runningBy_22 rfl (by decide) ?_
  refine g_aload_n f 1 dX4_runningBy_23 rfl rfl ?_
  refine g_iload_n f 2 dX4_runningBy_24 rfl rfl ?_
  obtain ⟨v4, h⟩ := h
  refine g_putI f fk_X4_64 v4 dX4_runningBy_25 rfl h (fun h => ?_)
  refine g_iconst f 0 dX4_runningBy_28 kc_0 ?_
  refine h_istore f dX4_runningBy_29 (by decide) ?_
  refine g_iconst f 0 dX4_runningBy_31 kc_0 ?_
  refine h_istore f dX4_runningBy_32 (by decide) ?_
  exact h_sub [3, 5, 2, 1, 0] rfl (tL_X4_runningBy_34 f hq h)
def S_X4_runningBy (o0 : Nat) (i1 : Int32) (μ : Me) (Q : Int32 → Me → Prop) : Prop := mok μ o0 4 ∧ ∀ r2, r2 = mgr μ o0 6 → ((r2 = none → B_X4_runningBy_22 o0 i1 none 0 μ Q) ∧ (∀ t3, r2 = some t3 → mok μ t3 7 ∧ (((mgi μ t3 3) = (-1) → B_X4_runningBy_22 o0 i1 (some t3) 0 μ Q) ∧ (¬ (mgi μ t3 3) = (-1) → B_X4_runningBy_22 o0 i1 (some t3) 1 μ Q))))
set_option maxHeartbeats 4000000 in
set_option maxRecDepth 100000 in
theorem t_X4_runningBy {x : GX} (f : Fx x cX4_runningBy RX4 6 (rmc 2 0 0)) {o0 : Nat} {i1 : Int32} {μ : Me} {Q : Int32 → Me → Prop} (hq : Rt x (some .int) (qI Q)) (h : S_X4_runningBy o0 i1 μ Q) : G x 6 0 [(0, .ref (gB x + o0)), (1, .int i1)] [] μ 0 0 := by
  unfold S_X4_runningBy at h
  refine g_aload_n f 0 dX4_runningBy_0 rfl rfl ?_
  obtain ⟨v1, h⟩ := h
  refine g_getQ f fk_X4_55 v1 dX4_runningBy_1 rfl h (fun r2 h => ?_)
  refine h_astore_n f dX4_runningBy_4 rfl (by decide) ?_
  refine g_aload_nQ f 0 dX4_runningBy_5 rfl rfl ?_
  cases r2 with
  | none =>
    have h := h.1 rfl
    refine g_ifnullN f 21 dX4_runningBy_6 rfl ?_
    refine g_iconst f 0 dX4_runningBy_21 kc_0 ?_
    exact h_sub [1, 2, 0] rfl (tB_X4_runningBy_22 f hq h)
  | some t3 =>
    have h := h.2 t3 rfl
    refine g_ifnullS f dX4_runningBy_6 ?_
    refine g_aload_nQ f 0 dX4_runningBy_9 rfl rfl ?_
    obtain ⟨v28, h⟩ := h
    refine g_getI f fk_X4_59 v28 dX4_runningBy_10 rfl ?_
    refine g_iconst f (-1) dX4_runningBy_13 kc_m1 ?_
    refine g_ic_eq f 21 dX4_runningBy_14 rfl h (fun h => ?_) (fun h => ?_)
    · refine g_iconst f 0 dX4_runningBy_21 kc_0 ?_
      exact h_sub [1, 2, 0] rfl (tB_X4_runningBy_22 f hq h)
    · refine g_iconst f 1 dX4_runningBy_17 kc_1 ?_
      refine g_goto f 22 dX4_runningBy_18 rfl ?_
      exact h_sub [1, 2, 0] rfl (tB_X4_runningBy_22 f hq h)
theorem c_X4_runningBy {Ω : OM} {o0 : Nat} {i1 : Int32} {μ : Me} {Q : Int32 → Me → Prop} (h : S_X4_runningBy o0 i1 μ Q) : CT Ω yX4_runningBy cX4_runningBy 6 (some .int) (rmc 2 0 0) [.ref (oB Ω + o0), .int i1] μ (qI Q) := CT_of (by decide) rfl (by simp [lg_sl, Value.category]) (fun x hΩ f hq hi => by subst hΩ; exact t_X4_runningBy f hq h)
theorem dX4_jamOf_0 : decode cX4_jamOf 0 = .ok (.iload_n 2, 1) := by decide +kernel
theorem dX4_jamOf_1 : decode cX4_jamOf 1 = .ok (.aload_n 0, 1) := by decide +kernel
theorem dX4_jamOf_2 : decode cX4_jamOf 2 = .ok (.getfield 15, 3) := by decide +kernel
theorem dX4_jamOf_5 : decode cX4_jamOf 5 = .ok (.getfield 110, 3) := by decide +kernel
theorem dX4_jamOf_8 : decode cX4_jamOf 8 = .ok (.aload_n 0, 1) := by decide +kernel
theorem dX4_jamOf_9 : decode cX4_jamOf 9 = .ok (.getfield 15, 3) := by decide +kernel
theorem dX4_jamOf_12 : decode cX4_jamOf 12 = .ok (.getfield 113, 3) := by decide +kernel
theorem dX4_jamOf_15 : decode cX4_jamOf 15 = .ok (.iload_n 1, 1) := by decide +kernel
theorem dX4_jamOf_16 : decode cX4_jamOf 16 = .ok (.iaload, 1) := by decide +kernel
theorem dX4_jamOf_17 : decode cX4_jamOf 17 = .ok (.iaload, 1) := by decide +kernel
theorem dX4_jamOf_18 : decode cX4_jamOf 18 = .ok (.iand, 1) := by decide +kernel
theorem dX4_jamOf_19 : decode cX4_jamOf 19 = .ok (.iconst 1, 1) := by decide +kernel
theorem dX4_jamOf_20 : decode cX4_jamOf 20 = .ok (.iload_n 1, 1) := by decide +kernel
theorem dX4_jamOf_21 : decode cX4_jamOf 21 = .ok (.ishl, 1) := by decide +kernel
theorem dX4_jamOf_22 : decode cX4_jamOf 22 = .ok (.iconst (-1), 1) := by decide +kernel
theorem dX4_jamOf_23 : decode cX4_jamOf 23 = .ok (.ixor, 1) := by decide +kernel
theorem dX4_jamOf_24 : decode cX4_jamOf 24 = .ok (.iand, 1) := by decide +kernel
theorem dX4_jamOf_25 : decode cX4_jamOf 25 = .ok (.invokestatic 76, 3) := by decide +kernel
theorem dX4_jamOf_28 : decode cX4_jamOf 28 = .ok (.ireturn, 1) := by decide +kernel
def S_X4_jamOf (o0 : Nat) (i1 : Int32) (i2 : Int32) (μ : Me) (Q : Int32 → Me → Prop) : Prop := mok μ o0 4 ∧ ∃ t2, mgr μ o0 0 = some t2 ∧ mok μ t2 9 ∧ ∃ t4, mgr μ t2 2 = some t4 ∧ ∃ t5, mgr μ o0 0 = some t5 ∧ mok μ t5 9 ∧ ∃ t7, mgr μ t5 1 = some t7 ∧ mok μ t7 12 ∧ vp_in i1 (mln μ t7) ∧ mok μ t4 12 ∧ vp_in (mgi μ t7 i1.toNatClampNeg) (mln μ t4) ∧ S_J6_bitCount_0f7a4 ((i2 &&& (mgi μ t4 (mgi μ t7 i1.toNatClampNeg).toNatClampNeg)) &&& ((1 <<< (i1 &&& 31)) ^^^ (-1))) μ (fun r12 μ10 => Q r12 μ10)
set_option maxHeartbeats 4000000 in
set_option maxRecDepth 100000 in
theorem t_X4_jamOf {x : GX} (f : Fx x cX4_jamOf RX4 3 (rmc 1 0 0)) {o0 : Nat} {i1 : Int32} {i2 : Int32} {μ : Me} {Q : Int32 → Me → Prop} (hq : Rt x (some .int) (qI Q)) (h : S_X4_jamOf o0 i1 i2 μ Q) : G x 3 0 [(0, .ref (gB x + o0)), (1, .int i1), (2, .int i2)] [] μ 0 0 := by
  unfold S_X4_jamOf at h
  refine g_iload_n f 2 dX4_jamOf_0 rfl rfl ?_
  refine g_aload_n f 0 dX4_jamOf_1 rfl rfl ?_
  obtain ⟨v1, h⟩ := h
  refine g_getR f fk_X4_15 v1 dX4_jamOf_2 rfl h (fun t2 h => ?_)
  obtain ⟨v3, h⟩ := h
  refine g_getR f fk_X4_110 v3 dX4_jamOf_5 rfl h (fun t4 h => ?_)
  refine g_aload_n f 0 dX4_jamOf_8 rfl rfl ?_
  refine g_getR f fk_X4_15 v1 dX4_jamOf_9 rfl h (fun t5 h => ?_)
  obtain ⟨v6, h⟩ := h
  refine g_getR f fk_X4_113 v6 dX4_jamOf_12 rfl h (fun t7 h => ?_)
  refine g_iload_n f 1 dX4_jamOf_15 rfl rfl ?_
  obtain ⟨v8, h⟩ := h
  refine g_iald f v8 dX4_jamOf_16 h (fun h => ?_)
  obtain ⟨v9, h⟩ := h
  refine g_iald f v9 dX4_jamOf_17 h (fun h => ?_)
  refine g_iand f dX4_jamOf_18 ?_
  refine g_iconst f 1 dX4_jamOf_19 kc_1 ?_
  refine g_iload_n f 1 dX4_jamOf_20 rfl rfl ?_
  refine g_ishl f dX4_jamOf_21 ?_
  refine g_iconst f (-1) dX4_jamOf_22 kc_m1 ?_
  refine g_ixor f dX4_jamOf_23 ?_
  refine g_iand f dX4_jamOf_24 ?_
  refine g_callS f mk_X4_76 (c_J6_bitCount_0f7a4 h) dX4_jamOf_25 rfl rfl (Nat.le_of_ble_eq_true rfl) (rm_ok (by decide) (by decide)) ⟨Nat.le_of_ble_eq_true rfl, Nat.le_of_ble_eq_true rfl⟩ (kI fun r12 μ10 x11 h => ?_)
  exact g_iret f hq (Nat.le_of_ble_eq_true rfl) (Nat.le_of_ble_eq_true rfl) dX4_jamOf_28 h
theorem c_X4_jamOf {Ω : OM} {o0 : Nat} {i1 : Int32} {i2 : Int32} {μ : Me} {Q : Int32 → Me → Prop} (h : S_X4_jamOf o0 i1 i2 μ Q) : CT Ω yX4_jamOf cX4_jamOf 3 (some .int) (rmc 1 0 0) [.ref (oB Ω + o0), .int i1, .int i2] μ (qI Q) := CT_of (by decide) rfl (by simp [lg_sl, Value.category]) (fun x hΩ f hq hi => by subst hΩ; exact t_X4_jamOf f hq h)
theorem dX4_takesOf_0 : decode cX4_takesOf 0 = .ok (.aload_n 0, 1) := by decide +kernel
theorem dX4_takesOf_1 : decode cX4_takesOf 1 = .ok (.getfield 55, 3) := by decide +kernel
theorem dX4_takesOf_4 : decode cX4_takesOf 4 = .ok (.astore 4, 2) := by decide +kernel
theorem dX4_takesOf_6 : decode cX4_takesOf 6 = .ok (.aload 4, 2) := by decide +kernel
theorem dX4_takesOf_8 : decode cX4_takesOf 8 = .ok (.ifnull 12, 3) := by decide +kernel
theorem dX4_takesOf_11 : decode cX4_takesOf 11 = .ok (.aload 4, 2) := by decide +kernel
theorem dX4_takesOf_13 : decode cX4_takesOf 13 = .ok (.getfield 116, 3) := by decide +kernel
theorem dX4_takesOf_16 : decode cX4_takesOf 16 = .ok (.iconst (-1), 1) := by decide +kernel
theorem dX4_takesOf_17 : decode cX4_takesOf 17 = .ok (.if_icmp .ne 34, 3) := by decide +kernel
theorem dX4_takesOf_20 : decode cX4_takesOf 20 = .ok (.iload_n 2, 1) := by decide +kernel
theorem dX4_takesOf_21 : decode cX4_takesOf 21 = .ok (.iconst 1, 1) := by decide +kernel
theorem dX4_takesOf_22 : decode cX4_takesOf 22 = .ok (.if_icmp .ne 15, 3) := by decide +kernel
theorem dX4_takesOf_25 : decode cX4_takesOf 25 = .ok (.aload_n 0, 1) := by decide +kernel
theorem dX4_takesOf_26 : decode cX4_takesOf 26 = .ok (.getfield 15, 3) := by decide +kernel
theorem dX4_takesOf_29 : decode cX4_takesOf 29 = .ok (.getfield 119, 3) := by decide +kernel
theorem dX4_takesOf_32 : decode cX4_takesOf 32 = .ok (.iload_n 1, 1) := by decide +kernel
theorem dX4_takesOf_33 : decode cX4_takesOf 33 = .ok (.iaload, 1) := by decide +kernel
theorem dX4_takesOf_34 : decode cX4_takesOf 34 = .ok (.goto 12, 3) := by decide +kernel
theorem dX4_takesOf_37 : decode cX4_takesOf 37 = .ok (.aload_n 0, 1) := by decide +kernel
theorem dX4_takesOf_38 : decode cX4_takesOf 38 = .ok (.getfield 15, 3) := by decide +kernel
theorem dX4_takesOf_41 : decode cX4_takesOf 41 = .ok (.getfield 122, 3) := by decide +kernel
theorem dX4_takesOf_44 : decode cX4_takesOf 44 = .ok (.iload_n 1, 1) := by decide +kernel
theorem dX4_takesOf_45 : decode cX4_takesOf 45 = .ok (.iaload, 1) := by decide +kernel
theorem dX4_takesOf_46 : decode cX4_takesOf 46 = .ok (.iload_n 3, 1) := by decide +kernel
theorem dX4_takesOf_47 : decode cX4_takesOf 47 = .ok (.iconst 2, 1) := by decide +kernel
theorem dX4_takesOf_48 : decode cX4_takesOf 48 = .ok (.idiv, 1) := by decide +kernel
theorem dX4_takesOf_49 : decode cX4_takesOf 49 = .ok (.iadd, 1) := by decide +kernel
theorem dX4_takesOf_50 : decode cX4_takesOf 50 = .ok (.ireturn, 1) := by decide +kernel
theorem dX4_takesOf_51 : decode cX4_takesOf 51 = .ok (.aload_n 0, 1) := by decide +kernel
theorem dX4_takesOf_52 : decode cX4_takesOf 52 = .ok (.iload_n 1, 1) := by decide +kernel
theorem dX4_takesOf_53 : decode cX4_takesOf 53 = .ok (.putfield 70, 3) := by decide +kernel
theorem dX4_takesOf_56 : decode cX4_takesOf 56 = .ok (.aload_n 0, 1) := by decide +kernel
theorem dX4_takesOf_57 : decode cX4_takesOf 57 = .ok (.iload_n 2, 1) := by decide +kernel
theorem dX4_takesOf_58 : decode cX4_takesOf 58 = .ok (.putfield 125, 3) := by decide +kernel
theorem dX4_takesOf_61 : decode cX4_takesOf 61 = .ok (.aload_n 0, 1) := by decide +kernel
theorem dX4_takesOf_62 : decode cX4_takesOf 62 = .ok (.iload_n 3, 1) := by decide +kernel
theorem dX4_takesOf_63 : decode cX4_takesOf 63 = .ok (.putfield 128, 3) := by decide +kernel
theorem dX4_takesOf_66 : decode cX4_takesOf 66 = .ok (.aload_n 0, 1) := by decide +kernel
theorem dX4_takesOf_67 : decode cX4_takesOf 67 = .ok (.aload 4, 2) := by decide +kernel
theorem dX4_takesOf_69 : decode cX4_takesOf 69 = .ok (.aload 4, 2) := by decide +kernel
theorem dX4_takesOf_71 : decode cX4_takesOf 71 = .ok (.getfield 116, 3) := by decide +kernel
theorem dX4_takesOf_74 : decode cX4_takesOf 74 = .ok (.aload 4, 2) := by decide +kernel
theorem dX4_takesOf_76 : decode cX4_takesOf 76 = .ok (.getfield 131, 3) := by decide +kernel
theorem dX4_takesOf_79 : decode cX4_takesOf 79 = .ok (.invokevirtual 92, 3) := by decide +kernel
theorem dX4_takesOf_82 : decode cX4_takesOf 82 = .ok (.istore 5, 2) := by decide +kernel
theorem dX4_takesOf_84 : decode cX4_takesOf 84 = .ok (.iconst 0, 1) := by decide +kernel
theorem dX4_takesOf_85 : decode cX4_takesOf 85 = .ok (.sipush 999, 3) := by decide +kernel
theorem dX4_takesOf_88 : decode cX4_takesOf 88 = .ok (.iload 5, 2) := by decide +kernel
theorem dX4_takesOf_90 : decode cX4_takesOf 90 = .ok (.invokestatic 134, 3) := by decide +kernel
theorem dX4_takesOf_93 : decode cX4_takesOf 93 = .ok (.invokestatic 139, 3) := by decide +kernel
theorem dX4_takesOf_96 : decode cX4_takesOf 96 = .ok (.ireturn, 1) := by decide +kernel
def B_X4_takesOf_46 (i3 : Int32) (s0 : Int32) (μ : Me) (Q : Int32 → Me → Prop) : Prop := Q (s0 + (i3 / 2)) μ
set_option maxHeartbeats 4000000 in
set_option maxRecDepth 100000 in
theorem tB_X4_takesOf_46 {x : GX} (f : Fx x cX4_takesOf RX4 6 (rmc 2 0 0)) {i3 : Int32} {s0 : Int32} {μ : Me} {Q : Int32 → Me → Prop} (hq : Rt x (some .int) (qI Q)) (h : B_X4_takesOf_46 i3 s0 μ Q) : G x 6 46 [(3, .int i3)] [.int s0] μ 0 0 := by
  unfold B_X4_takesOf_46 at h
  refine g_iload_n f 0 dX4_takesOf_46 rfl rfl ?_
  refine g_iconst f 2 dX4_takesOf_47 kc_2 ?_
  refine g_idiv f dX4_takesOf_48 (by decide) ?_
  refine g_iadd f dX4_takesOf_49 ?_
  exact g_iret f hq (Nat.le_of_ble_eq_true rfl) (Nat.le_of_ble_eq_true rfl) dX4_takesOf_50 h
def B_X4_takesOf_20 (o0 : Nat) (i1 : Int32) (i2 : Int32) (i3 : Int32) (μ : Me) (Q : Int32 → Me → Prop) : Prop := ((¬ i2 = 1 → mok μ o0 4 ∧ ∃ t5, mgr μ o0 0 = some t5 ∧ mok μ t5 9 ∧ ∃ t7, mgr μ t5 3 = some t7 ∧ mok μ t7 12 ∧ vp_in i1 (mln μ t7) ∧ B_X4_takesOf_46 i3 (mgi μ t7 i1.toNatClampNeg) μ Q) ∧ (i2 = 1 → mok μ o0 4 ∧ ∃ t10, mgr μ o0 0 = some t10 ∧ mok μ t10 9 ∧ ∃ t12, mgr μ t10 4 = some t12 ∧ mok μ t12 12 ∧ vp_in i1 (mln μ t12) ∧ B_X4_takesOf_46 i3 (mgi μ t12 i1.toNatClampNeg) μ Q))
set_option maxHeartbeats 4000000 in
set_option maxRecDepth 100000 in
theorem tB_X4_takesOf_20 {x : GX} (f : Fx x cX4_takesOf RX4 6 (rmc 2 0 0)) {o0 : Nat} {i1 : Int32} {i2 : Int32} {i3 : Int32} {μ : Me} {Q : Int32 → Me → Prop} (hq : Rt x (some .int) (qI Q)) (h : B_X4_takesOf_20 o0 i1 i2 i3 μ Q) : G x 6 20 [(0, .ref (gB x + o0)), (1, .int i1), (2, .int i2), (3, .int i3)] [] μ 0 0 := by
  unfold B_X4_takesOf_20 at h
  refine g_iload_n f 2 dX4_takesOf_20 rfl rfl ?_
  refine g_iconst f 1 dX4_takesOf_21 kc_1 ?_
  refine g_ic_ne f 37 dX4_takesOf_22 rfl h (fun h => ?_) (fun h => ?_)
  · refine g_aload_n f 0 dX4_takesOf_37 rfl rfl ?_
    obtain ⟨v4, h⟩ := h
    refine g_getR f fk_X4_15 v4 dX4_takesOf_38 rfl h (fun t5 h => ?_)
    obtain ⟨v6, h⟩ := h
    refine g_getR f fk_X4_122 v6 dX4_takesOf_41 rfl h (fun t7 h => ?_)
    refine g_iload_n f 1 dX4_takesOf_44 rfl rfl ?_
    obtain ⟨v8, h⟩ := h
    refine g_iald f v8 dX4_takesOf_45 h (fun h => ?_)
    exact h_sub [3] rfl (tB_X4_takesOf_46 f hq h)
  · refine g_aload_n f 0 dX4_takesOf_25 rfl rfl ?_
    obtain ⟨v9, h⟩ := h
    refine g_getR f fk_X4_15 v9 dX4_takesOf_26 rfl h (fun t10 h => ?_)
    obtain ⟨v11, h⟩ := h
    refine g_getR f fk_X4_119 v11 dX4_takesOf_29 rfl h (fun t12 h => ?_)
    refine g_iload_n f 1 dX4_takesOf_32 rfl rfl ?_
    obtain ⟨v13, h⟩ := h
    refine g_iald f v13 dX4_takesOf_33 h (fun h => ?_)
    refine g_goto f 46 dX4_takesOf_34 rfl ?_
    exact h_sub [3] rfl (tB_X4_takesOf_46 f hq h)
def S_X4_takesOf (o0 : Nat) (i1 : Int32) (i2 : Int32) (i3 : Int32) (μ : Me) (Q : Int32 → Me → Prop) : Prop := mok μ o0 4 ∧ ∀ r2, r2 = mgr μ o0 6 → ((r2 = none → B_X4_takesOf_20 o0 i1 i2 i3 μ Q) ∧ (∀ t3, r2 = some t3 → mok μ t3 7 ∧ ((¬ (mgi μ t3 5) = (-1) → ∀ μ15, μ15 = msi μ o0 8 i1 → ∀ μ16, μ16 = msi μ15 o0 10 i2 → ∀ μ17, μ17 = msi μ16 o0 11 i3 → S_X4_worked o0 t3 (mgi μ17 t3 5) (mgi μ17 t3 6) μ17 (fun r20 μ18 => Q (if 0 < (if r20 < 999 then r20 else 999) then (if r20 < 999 then r20 else 999) else 0) μ18)) ∧ ((mgi μ t3 5) = (-1) → B_X4_takesOf_20 o0 i1 i2 i3 μ Q))))
set_option maxHeartbeats 4000000 in
set_option maxRecDepth 100000 in
theorem t_X4_takesOf {x : GX} (f : Fx x cX4_takesOf RX4 6 (rmc 2 0 0)) {o0 : Nat} {i1 : Int32} {i2 : Int32} {i3 : Int32} {μ : Me} {Q : Int32 → Me → Prop} (hq : Rt x (some .int) (qI Q)) (h : S_X4_takesOf o0 i1 i2 i3 μ Q) : G x 6 0 [(0, .ref (gB x + o0)), (1, .int i1), (2, .int i2), (3, .int i3)] [] μ 0 0 := by
  unfold S_X4_takesOf at h
  refine g_aload_n f 0 dX4_takesOf_0 rfl rfl ?_
  obtain ⟨v1, h⟩ := h
  refine g_getQ f fk_X4_55 v1 dX4_takesOf_1 rfl h (fun r2 h => ?_)
  refine h_astore f dX4_takesOf_4 (by decide) ?_
  refine g_aloadQ f 0 dX4_takesOf_6 rfl ?_
  cases r2 with
  | none =>
    have h := h.1 rfl
    refine g_ifnullN f 20 dX4_takesOf_8 rfl ?_
    exact h_sub [1, 2, 3, 4] rfl (tB_X4_takesOf_20 f hq h)
  | some t3 =>
    have h := h.2 t3 rfl
    refine g_ifnullS f dX4_takesOf_8 ?_
    refine g_aloadQ f 0 dX4_takesOf_11 rfl ?_
    obtain ⟨v14, h⟩ := h
    refine g_getI f fk_X4_116 v14 dX4_takesOf_13 rfl ?_
    refine g_iconst f (-1) dX4_takesOf_16 kc_m1 ?_
    refine g_ic_ne f 51 dX4_takesOf_17 rfl h (fun h => ?_) (fun h => ?_)
    · refine g_aload_n f 1 dX4_takesOf_51 rfl rfl ?_
      refine g_iload_n f 2 dX4_takesOf_52 rfl rfl ?_
      refine g_putI f fk_X4_70 v1 dX4_takesOf_53 rfl h (fun h => ?_)
      refine g_aload_n f 1 dX4_takesOf_56 rfl rfl ?_
      refine g_iload_n f 3 dX4_takesOf_57 rfl rfl ?_
      refine g_putI f fk_X4_125 v1 dX4_takesOf_58 rfl h (fun h => ?_)
      refine g_aload_n f 1 dX4_takesOf_61 rfl rfl ?_
      refine g_iload_n f 4 dX4_takesOf_62 rfl rfl ?_
      refine g_putI f fk_X4_128 v1 dX4_takesOf_63 rfl h (fun h => ?_)
      refine g_aload_n f 1 dX4_takesOf_66 rfl rfl ?_
      refine g_aloadQ f 0 dX4_takesOf_67 rfl ?_
      refine g_aloadQ f 0 dX4_takesOf_69 rfl ?_
      refine g_getI f fk_X4_116 v14 dX4_takesOf_71 rfl ?_
      refine g_aloadQ f 0 dX4_takesOf_74 rfl ?_
      refine g_getI f fk_X4_131 v14 dX4_takesOf_76 rfl ?_
      refine g_callV f mk_X4_92 v1 (c_X4_worked h) dX4_takesOf_79 rfl rfl (Nat.le_of_ble_eq_true rfl) (rm_ok (by decide) (by decide)) ⟨Nat.le_of_ble_eq_true rfl, Nat.le_of_ble_eq_true rfl⟩ (kI fun r20 μ18 x19 h => ?_)
      refine h_istore f dX4_takesOf_82 (by decide) ?_
      refine g_iconst f 0 dX4_takesOf_84 kc_0 ?_
      refine g_sipush f 999 dX4_takesOf_85 ks_999 ?_
      refine g_iload f 0 dX4_takesOf_88 rfl ?_
      refine g_min f mink_X4_134 dX4_takesOf_90 rm_fr (rm_mx (Nat.le_of_ble_eq_true rfl)) (Nat.zero_le _) (Nat.zero_le _) ?_
      refine g_max f maxk_X4_139 dX4_takesOf_93 rm_fr (rm_mx (Nat.le_of_ble_eq_true rfl)) (Nat.zero_le _) (Nat.zero_le _) ?_
      exact g_iret f hq (Nat.le_of_ble_eq_true rfl) (Nat.le_of_ble_eq_true rfl) dX4_takesOf_96 h
    · exact h_sub [1, 2, 3, 4] rfl (tB_X4_takesOf_20 f hq h)
theorem c_X4_takesOf {Ω : OM} {o0 : Nat} {i1 : Int32} {i2 : Int32} {i3 : Int32} {μ : Me} {Q : Int32 → Me → Prop} (h : S_X4_takesOf o0 i1 i2 i3 μ Q) : CT Ω yX4_takesOf cX4_takesOf 6 (some .int) (rmc 2 0 0) [.ref (oB Ω + o0), .int i1, .int i2, .int i3] μ (qI Q) := CT_of (by decide) rfl (by simp [lg_sl, Value.category]) (fun x hΩ f hq hi => by subst hΩ; exact t_X4_takesOf f hq h)
theorem dX4_lateBy_0 : decode cX4_lateBy 0 = .ok (.aload_n 0, 1) := by decide +kernel
theorem dX4_lateBy_1 : decode cX4_lateBy 1 = .ok (.iload_n 1, 1) := by decide +kernel
theorem dX4_lateBy_2 : decode cX4_lateBy 2 = .ok (.invokevirtual 96, 3) := by decide +kernel
theorem dX4_lateBy_5 : decode cX4_lateBy 5 = .ok (.istore_n 2, 1) := by decide +kernel
theorem dX4_lateBy_6 : decode cX4_lateBy 6 = .ok (.iconst 0, 1) := by decide +kernel
theorem dX4_lateBy_7 : decode cX4_lateBy 7 = .ok (.istore_n 3, 1) := by decide +kernel
theorem dX4_lateBy_8 : decode cX4_lateBy 8 = .ok (.iconst 0, 1) := by decide +kernel
theorem dX4_lateBy_9 : decode cX4_lateBy 9 = .ok (.istore 4, 2) := by decide +kernel
theorem dX4_lateBy_11 : decode cX4_lateBy 11 = .ok (.iload 4, 2) := by decide +kernel
theorem dX4_lateBy_13 : decode cX4_lateBy 13 = .ok (.aload_n 0, 1) := by decide +kernel
theorem dX4_lateBy_14 : decode cX4_lateBy 14 = .ok (.getfield 15, 3) := by decide +kernel
theorem dX4_lateBy_17 : decode cX4_lateBy 17 = .ok (.getfield 67, 3) := by decide +kernel
theorem dX4_lateBy_20 : decode cX4_lateBy 20 = .ok (.if_icmp .ge 64, 3) := by decide +kernel
theorem dX4_lateBy_23 : decode cX4_lateBy 23 = .ok (.iload_n 2, 1) := by decide +kernel
theorem dX4_lateBy_24 : decode cX4_lateBy 24 = .ok (.iload 4, 2) := by decide +kernel
theorem dX4_lateBy_26 : decode cX4_lateBy 26 = .ok (.ishr, 1) := by decide +kernel
theorem dX4_lateBy_27 : decode cX4_lateBy 27 = .ok (.iconst 1, 1) := by decide +kernel
theorem dX4_lateBy_28 : decode cX4_lateBy 28 = .ok (.iand, 1) := by decide +kernel
theorem dX4_lateBy_29 : decode cX4_lateBy 29 = .ok (.istore 5, 2) := by decide +kernel
theorem dX4_lateBy_31 : decode cX4_lateBy 31 = .ok (.aload_n 0, 1) := by decide +kernel
theorem dX4_lateBy_32 : decode cX4_lateBy 32 = .ok (.iload 4, 2) := by decide +kernel
theorem dX4_lateBy_34 : decode cX4_lateBy 34 = .ok (.invokevirtual 85, 3) := by decide +kernel
theorem dX4_lateBy_37 : decode cX4_lateBy 37 = .ok (.ifCond .eq 41, 3) := by decide +kernel
theorem dX4_lateBy_40 : decode cX4_lateBy 40 = .ok (.aload_n 0, 1) := by decide +kernel
theorem dX4_lateBy_41 : decode cX4_lateBy 41 = .ok (.iload 4, 2) := by decide +kernel
theorem dX4_lateBy_43 : decode cX4_lateBy 43 = .ok (.iload 5, 2) := by decide +kernel
theorem dX4_lateBy_45 : decode cX4_lateBy 45 = .ok (.aload_n 0, 1) := by decide +kernel
theorem dX4_lateBy_46 : decode cX4_lateBy 46 = .ok (.iload 4, 2) := by decide +kernel
theorem dX4_lateBy_48 : decode cX4_lateBy 48 = .ok (.iload_n 2, 1) := by decide +kernel
theorem dX4_lateBy_49 : decode cX4_lateBy 49 = .ok (.invokevirtual 99, 3) := by decide +kernel
theorem dX4_lateBy_52 : decode cX4_lateBy 52 = .ok (.invokevirtual 103, 3) := by decide +kernel
theorem dX4_lateBy_55 : decode cX4_lateBy 55 = .ok (.aload_n 0, 1) := by decide +kernel
theorem dX4_lateBy_56 : decode cX4_lateBy 56 = .ok (.getfield 15, 3) := by decide +kernel
theorem dX4_lateBy_59 : decode cX4_lateBy 59 = .ok (.getfield 23, 3) := by decide +kernel
theorem dX4_lateBy_62 : decode cX4_lateBy 62 = .ok (.getfield 107, 3) := by decide +kernel
theorem dX4_lateBy_65 : decode cX4_lateBy 65 = .ok (.iload 4, 2) := by decide +kernel
theorem dX4_lateBy_67 : decode cX4_lateBy 67 = .ok (.iaload, 1) := by decide +kernel
theorem dX4_lateBy_68 : decode cX4_lateBy 68 = .ok (.if_icmp .le 10, 3) := by decide +kernel
theorem dX4_lateBy_71 : decode cX4_lateBy 71 = .ok (.iload_n 3, 1) := by decide +kernel
theorem dX4_lateBy_72 : decode cX4_lateBy 72 = .ok (.iconst 1, 1) := by decide +kernel
theorem dX4_lateBy_73 : decode cX4_lateBy 73 = .ok (.iload 4, 2) := by decide +kernel
theorem dX4_lateBy_75 : decode cX4_lateBy 75 = .ok (.ishl, 1) := by decide +kernel
theorem dX4_lateBy_76 : decode cX4_lateBy 76 = .ok (.ior, 1) := by decide +kernel
theorem dX4_lateBy_77 : decode cX4_lateBy 77 = .ok (.istore_n 3, 1) := by decide +kernel
theorem dX4_lateBy_78 : decode cX4_lateBy 78 = .ok (.iinc 4 1, 3) := by decide +kernel
theorem dX4_lateBy_81 : decode cX4_lateBy 81 = .ok (.goto (-70), 3) := by decide +kernel
theorem dX4_lateBy_84 : decode cX4_lateBy 84 = .ok (.iload_n 3, 1) := by decide +kernel
theorem dX4_lateBy_85 : decode cX4_lateBy 85 = .ok (.ireturn, 1) := by decide +kernel
def B_X4_lateBy_78 (o0 : Nat) (i2 : Int32) (i3 : Int32) (i4 : Int32) (μ : Me) (K11 : Int32 → Int32 → Me → Prop) (Q : Int32 → Me → Prop) : Prop := K11 i3 (i4 + 1) μ
set_option maxHeartbeats 4000000 in
set_option maxRecDepth 100000 in
theorem tB_X4_lateBy_78 {x : GX} (f : Fx x cX4_lateBy RX4 6 (rmc 3 0 0)) {o0 : Nat} {i2 : Int32} {i3 : Int32} {i4 : Int32} {μ : Me} {Q : Int32 → Me → Prop} (hq : Rt x (some .int) (qI Q)) {K11 : Int32 → Int32 → Me → Prop} (hK11 : ∀ (a3 : Int32) (a4 : Int32) (ν : Me), K11 a3 a4 ν → G x 6 11 [(0, .ref (gB x + o0)), (2, .int i2), (3, .int a3), (4, .int a4)] [] ν 0 0) (h : B_X4_lateBy_78 o0 i2 i3 i4 μ K11 Q) : G x 6 78 [(0, .ref (gB x + o0)), (2, .int i2), (3, .int i3), (4, .int i4)] [] μ 0 0 := by
  unfold B_X4_lateBy_78 at h
  refine h_iinc f 3 1 dX4_lateBy_78 rfl kc_1 (by decide) ?_
  refine g_goto f 11 dX4_lateBy_81 rfl ?_
  exact h_sub [1, 2, 3, 0] rfl (hK11 _ _ _ h)
def B_X4_lateBy_11 (o0 : Nat) (i2 : Int32) (i3 : Int32) (i4 : Int32) (μ : Me) (K11 : Int32 → Int32 → Me → Prop) (Q : Int32 → Me → Prop) : Prop := mok μ o0 4 ∧ ∃ t6, mgr μ o0 0 = some t6 ∧ mok μ t6 9 ∧ (((mgi μ t6 0) ≤ i4 → Q i3 μ) ∧ (¬ (mgi μ t6 0) ≤ i4 → S_X4_isUp o0 i4 μ (fun r10 μ8 => ((r10 = 0 → B_X4_lateBy_78 o0 i2 i3 i4 μ8 K11 Q) ∧ (¬ r10 = 0 → S_X4_jamOf o0 i4 i2 μ8 (fun r13 μ11 => S_X4_takesOf o0 i4 ((i2 >>> (i4 &&& 31)) &&& 1) r13 μ11 (fun r16 μ14 => ∃ t17, mgr μ14 o0 0 = some t17 ∧ mok μ14 t17 9 ∧ ∃ t19, mgr μ14 t17 14 = some t19 ∧ mok μ14 t19 3 ∧ ∃ t21, mgr μ14 t19 5 = some t21 ∧ mok μ14 t21 12 ∧ vp_in i4 (mln μ14 t21) ∧ ((r16 ≤ (mgi μ14 t21 i4.toNatClampNeg) → B_X4_lateBy_78 o0 i2 i3 i4 μ14 K11 Q) ∧ (¬ r16 ≤ (mgi μ14 t21 i4.toNatClampNeg) → B_X4_lateBy_78 o0 i2 (i3 ||| (1 <<< (i4 &&& 31))) i4 μ14 K11 Q)))))))))
set_option maxHeartbeats 4000000 in
set_option maxRecDepth 100000 in
theorem tB_X4_lateBy_11 {x : GX} (f : Fx x cX4_lateBy RX4 6 (rmc 3 0 0)) {o0 : Nat} {i2 : Int32} {i3 : Int32} {i4 : Int32} {μ : Me} {Q : Int32 → Me → Prop} (hq : Rt x (some .int) (qI Q)) {K11 : Int32 → Int32 → Me → Prop} (hK11 : ∀ (a3 : Int32) (a4 : Int32) (ν : Me), K11 a3 a4 ν → G x 6 11 [(0, .ref (gB x + o0)), (2, .int i2), (3, .int a3), (4, .int a4)] [] ν 0 0) (h : B_X4_lateBy_11 o0 i2 i3 i4 μ K11 Q) : G x 6 11 [(0, .ref (gB x + o0)), (2, .int i2), (3, .int i3), (4, .int i4)] [] μ 0 0 := by
  unfold B_X4_lateBy_11 at h
  refine g_iload f 3 dX4_lateBy_11 rfl ?_
  refine g_aload_n f 0 dX4_lateBy_13 rfl rfl ?_
  obtain ⟨v5, h⟩ := h
  refine g_getR f fk_X4_15 v5 dX4_lateBy_14 rfl h (fun t6 h => ?_)
  obtain ⟨v7, h⟩ := h
  refine g_getI f fk_X4_67 v7 dX4_lateBy_17 rfl ?_
  refine g_ic_ge f 84 dX4_lateBy_20 rfl h (fun h => ?_) (fun h => ?_)
  · refine g_iload_n f 2 dX4_lateBy_84 rfl rfl ?_
    exact g_iret f hq (Nat.le_of_ble_eq_true rfl) (Nat.le_of_ble_eq_true rfl) dX4_lateBy_85 h
  · refine g_iload_n f 1 dX4_lateBy_23 rfl rfl ?_
    refine g_iload f 3 dX4_lateBy_24 rfl ?_
    refine g_ishr f dX4_lateBy_26 ?_
    refine g_iconst f 1 dX4_lateBy_27 kc_1 ?_
    refine g_iand f dX4_lateBy_28 ?_
    refine h_istore f dX4_lateBy_29 (by decide) ?_
    refine g_aload_n f 1 dX4_lateBy_31 rfl rfl ?_
    refine g_iload f 4 dX4_lateBy_32 rfl ?_
    refine g_callV f mk_X4_85 v5 (c_X4_isUp h) dX4_lateBy_34 rfl rfl (Nat.le_of_ble_eq_true rfl) (rm_ok (by decide) (by decide)) ⟨Nat.le_of_ble_eq_true rfl, Nat.le_of_ble_eq_true rfl⟩ (kI fun r10 μ8 x9 h => ?_)
    refine g_if_eq f 78 dX4_lateBy_37 rfl h (fun h => ?_) (fun h => ?_)
    · exact h_sub [1, 2, 3, 4] rfl (tB_X4_lateBy_78 f hq hK11 h)
    · refine g_aload_n f 1 dX4_lateBy_40 rfl rfl ?_
      refine g_iload f 4 dX4_lateBy_41 rfl ?_
      refine g_iload f 0 dX4_lateBy_43 rfl ?_
      refine g_aload_n f 1 dX4_lateBy_45 rfl rfl ?_
      refine g_iload f 4 dX4_lateBy_46 rfl ?_
      refine g_iload_n f 2 dX4_lateBy_48 rfl rfl ?_
      have v5 := mex_ok x9 v5
      refine g_callV f mk_X4_99 v5 (c_X4_jamOf h) dX4_lateBy_49 rfl rfl (Nat.le_of_ble_eq_true rfl) (rm_ok (by decide) (by decide)) ⟨Nat.le_of_ble_eq_true rfl, Nat.le_of_ble_eq_true rfl⟩ (kI fun r13 μ11 x12 h => ?_)
      have v5 := mex_ok x12 v5
      refine g_callV f mk_X4_103 v5 (c_X4_takesOf h) dX4_lateBy_52 rfl rfl (Nat.le_of_ble_eq_true rfl) (rm_ok (by decide) (by decide)) ⟨Nat.le_of_ble_eq_true rfl, Nat.le_of_ble_eq_true rfl⟩ (kI fun r16 μ14 x15 h => ?_)
      refine g_aload_n f 1 dX4_lateBy_55 rfl rfl ?_
      have v5 := mex_ok x15 v5
      refine g_getR f fk_X4_15 v5 dX4_lateBy_56 rfl h (fun t17 h => ?_)
      obtain ⟨v18, h⟩ := h
      refine g_getR f fk_X4_23 v18 dX4_lateBy_59 rfl h (fun t19 h => ?_)
      obtain ⟨v20, h⟩ := h
      refine g_getR f fk_X4_107 v20 dX4_lateBy_62 rfl h (fun t21 h => ?_)
      refine g_iload f 4 dX4_lateBy_65 rfl ?_
      obtain ⟨v22, h⟩ := h
      refine g_iald f v22 dX4_lateBy_67 h (fun h => ?_)
      refine g_ic_le f 78 dX4_lateBy_68 rfl h (fun h => ?_) (fun h => ?_)
      · exact h_sub [1, 2, 3, 4] rfl (tB_X4_lateBy_78 f hq hK11 h)
      · refine g_iload_n f 3 dX4_lateBy_71 rfl rfl ?_
        refine g_iconst f 1 dX4_lateBy_72 kc_1 ?_
        refine g_iload f 4 dX4_lateBy_73 rfl ?_
        refine g_ishl f dX4_lateBy_75 ?_
        refine g_ior f dX4_lateBy_76 ?_
        refine h_istore_n f dX4_lateBy_77 rfl (by decide) ?_
        exact h_sub [2, 3, 0, 4] rfl (tB_X4_lateBy_78 f hq hK11 h)
def L_X4_lateBy_11 (o0 : Nat) (i2 : Int32) (i3 : Int32) (i4 : Int32) (μ : Me) (Q : Int32 → Me → Prop) : Prop := ∃ I : Int32 → Int32 → Me → Nat → Prop, (∃ n, I i3 i4 μ n) ∧ ∀ (i3 : Int32) (i4 : Int32) (μ : Me) (n : Nat), I i3 i4 μ n → B_X4_lateBy_11 o0 i2 i3 i4 μ (fun a3 a4 ν => ∃ n', n' < n ∧ I a3 a4 ν n') Q
set_option maxHeartbeats 4000000 in
set_option maxRecDepth 100000 in
theorem tL_X4_lateBy_11 {x : GX} (f : Fx x cX4_lateBy RX4 6 (rmc 3 0 0)) {o0 : Nat} {i2 : Int32} {i3 : Int32} {i4 : Int32} {μ : Me} {Q : Int32 → Me → Prop} (hq : Rt x (some .int) (qI Q)) (h : L_X4_lateBy_11 o0 i2 i3 i4 μ Q) : G x 6 11 [(0, .ref (gB x + o0)), (2, .int i2), (3, .int i3), (4, .int i4)] [] μ 0 0 := by
  obtain ⟨I, ⟨n, hI⟩, hs⟩ := h
  induction n using Nat.strongRecOn generalizing i3 i4 μ with
  | ind n ih => exact tB_X4_lateBy_11 f hq (fun a3 a4 ν hk => by obtain ⟨n2, hn, hI2⟩ := hk; exact ih n2 hn hI2) (hs _ _ _ _ hI)
def S_X4_lateBy (o0 : Nat) (i1 : Int32) (μ : Me) (Q : Int32 → Me → Prop) : Prop := mok μ o0 4 ∧ S_X4_runningBy o0 i1 μ (fun r4 μ2 => L_X4_lateBy_11 o0 r4 0 0 μ2 Q)
set_option maxHeartbeats 4000000 in
set_option maxRecDepth 100000 in
theorem t_X4_lateBy {x : GX} (f : Fx x cX4_lateBy RX4 6 (rmc 3 0 0)) {o0 : Nat} {i1 : Int32} {μ : Me} {Q : Int32 → Me → Prop} (hq : Rt x (some .int) (qI Q)) (h : S_X4_lateBy o0 i1 μ Q) : G x 6 0 [(0, .ref (gB x + o0)), (1, .int i1)] [] μ 0 0 := by
  unfold S_X4_lateBy at h
  refine g_aload_n f 0 dX4_lateBy_0 rfl rfl ?_
  refine g_iload_n f 1 dX4_lateBy_1 rfl rfl ?_
  obtain ⟨v1, h⟩ := h
  refine g_callV f mk_X4_96 v1 (c_X4_runningBy h) dX4_lateBy_2 rfl rfl (Nat.le_of_ble_eq_true rfl) (rm_ok (by decide) (by decide)) ⟨Nat.le_of_ble_eq_true rfl, Nat.le_of_ble_eq_true rfl⟩ (kI fun r4 μ2 x3 h => ?_)
  refine h_istore_n f dX4_lateBy_5 rfl (by decide) ?_
  refine g_iconst f 0 dX4_lateBy_6 kc_0 ?_
  refine h_istore_n f dX4_lateBy_7 rfl (by decide) ?_
  refine g_iconst f 0 dX4_lateBy_8 kc_0 ?_
  refine h_istore f dX4_lateBy_9 (by decide) ?_
  exact h_sub [3, 2, 1, 0] rfl (tL_X4_lateBy_11 f hq h)
theorem c_X4_lateBy {Ω : OM} {o0 : Nat} {i1 : Int32} {μ : Me} {Q : Int32 → Me → Prop} (h : S_X4_lateBy o0 i1 μ Q) : CT Ω yX4_lateBy cX4_lateBy 6 (some .int) (rmc 3 0 0) [.ref (oB Ω + o0), .int i1] μ (qI Q) := CT_of (by decide) rfl (by simp [lg_sl, Value.category]) (fun x hΩ f hq hi => by subst hΩ; exact t_X4_lateBy f hq h)
theorem dX2_next_0 : decode cX2_next 0 = .ok (.aload_n 0, 1) := by decide +kernel
theorem dX2_next_1 : decode cX2_next 1 = .ok (.getfield 15, 3) := by decide +kernel
theorem dX2_next_4 : decode cX2_next 4 = .ok (.iload_n 1, 1) := by decide +kernel
theorem dX2_next_5 : decode cX2_next 5 = .ok (.iaload, 1) := by decide +kernel
theorem dX2_next_6 : decode cX2_next 6 = .ok (.aload_n 0, 1) := by decide +kernel
theorem dX2_next_7 : decode cX2_next 7 = .ok (.getfield 21, 3) := by decide +kernel
theorem dX2_next_10 : decode cX2_next 10 = .ok (.if_icmp .eq 34, 3) := by decide +kernel
theorem dX2_next_13 : decode cX2_next 13 = .ok (.aload_n 0, 1) := by decide +kernel
theorem dX2_next_14 : decode cX2_next 14 = .ok (.getfield 29, 3) := by decide +kernel
theorem dX2_next_17 : decode cX2_next 17 = .ok (.invokevirtual 33, 3) := by decide +kernel
theorem dX2_next_20 : decode cX2_next 20 = .ok (.aload_n 0, 1) := by decide +kernel
theorem dX2_next_21 : decode cX2_next 21 = .ok (.getfield 9, 3) := by decide +kernel
theorem dX2_next_24 : decode cX2_next 24 = .ok (.iload_n 1, 1) := by decide +kernel
theorem dX2_next_25 : decode cX2_next 25 = .ok (.aload_n 0, 1) := by decide +kernel
theorem dX2_next_26 : decode cX2_next 26 = .ok (.getfield 29, 3) := by decide +kernel
theorem dX2_next_29 : decode cX2_next 29 = .ok (.iload_n 1, 1) := by decide +kernel
theorem dX2_next_30 : decode cX2_next 30 = .ok (.invokevirtual 38, 3) := by decide +kernel
theorem dX2_next_33 : decode cX2_next 33 = .ok (.iastore, 1) := by decide +kernel
theorem dX2_next_34 : decode cX2_next 34 = .ok (.aload_n 0, 1) := by decide +kernel
theorem dX2_next_35 : decode cX2_next 35 = .ok (.getfield 15, 3) := by decide +kernel
theorem dX2_next_38 : decode cX2_next 38 = .ok (.iload_n 1, 1) := by decide +kernel
theorem dX2_next_39 : decode cX2_next 39 = .ok (.aload_n 0, 1) := by decide +kernel
theorem dX2_next_40 : decode cX2_next 40 = .ok (.getfield 21, 3) := by decide +kernel
theorem dX2_next_43 : decode cX2_next 43 = .ok (.iastore, 1) := by decide +kernel
theorem dX2_next_44 : decode cX2_next 44 = .ok (.aload_n 0, 1) := by decide +kernel
theorem dX2_next_45 : decode cX2_next 45 = .ok (.getfield 9, 3) := by decide +kernel
theorem dX2_next_48 : decode cX2_next 48 = .ok (.iload_n 1, 1) := by decide +kernel
theorem dX2_next_49 : decode cX2_next 49 = .ok (.iaload, 1) := by decide +kernel
theorem dX2_next_50 : decode cX2_next 50 = .ok (.ireturn, 1) := by decide +kernel
def B_X2_next_44 (o0 : Nat) (i1 : Int32) (μ : Me) (Q : Int32 → Me → Prop) : Prop := mok μ o0 2 ∧ ∃ t5, mgr μ o0 2 = some t5 ∧ mok μ t5 12 ∧ vp_in i1 (mln μ t5) ∧ Q (mgi μ t5 i1.toNatClampNeg) μ
set_option maxHeartbeats 4000000 in
set_option maxRecDepth 100000 in
theorem tB_X2_next_44 {x : GX} (f : Fx x cX2_next RX2 2 (rmc 4 0 0)) {o0 : Nat} {i1 : Int32} {μ : Me} {Q : Int32 → Me → Prop} (hq : Rt x (some .int) (qI Q)) (h : B_X2_next_44 o0 i1 μ Q) : G x 2 44 [(0, .ref (gB x + o0)), (1, .int i1)] [] μ 0 0 := by
  unfold B_X2_next_44 at h
  refine g_aload_n f 0 dX2_next_44 rfl rfl ?_
  obtain ⟨v4, h⟩ := h
  refine g_getR f fk_X2_9 v4 dX2_next_45 rfl h (fun t5 h => ?_)
  refine g_iload_n f 1 dX2_next_48 rfl rfl ?_
  obtain ⟨v6, h⟩ := h
  refine g_iald f v6 dX2_next_49 h (fun h => ?_)
  exact g_iret f hq (Nat.le_of_ble_eq_true rfl) (Nat.le_of_ble_eq_true rfl) dX2_next_50 h
def S_X2_next (o0 : Nat) (i1 : Int32) (μ : Me) (Q : Int32 → Me → Prop) : Prop := mok μ o0 2 ∧ ∃ t2, mgr μ o0 3 = some t2 ∧ mok μ t2 12 ∧ vp_in i1 (mln μ t2) ∧ (((mgi μ t2 i1.toNatClampNeg) = (mgi μ o0 5) → B_X2_next_44 o0 i1 μ Q) ∧ (¬ (mgi μ t2 i1.toNatClampNeg) = (mgi μ o0 5) → ∃ t7, mgr μ o0 1 = some t7 ∧ mok μ t7 4 ∧ S_X4_asNow t7 μ (fun μ9 => ∃ t12, mgr μ9 o0 2 = some t12 ∧ ∃ t13, mgr μ9 o0 1 = some t13 ∧ mok μ9 t13 4 ∧ S_X4_lateBy t13 i1 μ9 (fun r17 μ15 => mok μ15 t12 12 ∧ vp_in i1 (mln μ15 t12) ∧ ∀ μ19, μ19 = msi μ15 t12 i1.toNatClampNeg r17 → ∃ t20, mgr μ19 o0 3 = some t20 ∧ mok μ19 t20 12 ∧ vp_in i1 (mln μ19 t20) ∧ ∀ μ22, μ22 = msi μ19 t20 i1.toNatClampNeg (mgi μ19 o0 5) → B_X2_next_44 o0 i1 μ22 Q))))
set_option maxHeartbeats 4000000 in
set_option maxRecDepth 100000 in
theorem t_X2_next {x : GX} (f : Fx x cX2_next RX2 2 (rmc 4 0 0)) {o0 : Nat} {i1 : Int32} {μ : Me} {Q : Int32 → Me → Prop} (hq : Rt x (some .int) (qI Q)) (h : S_X2_next o0 i1 μ Q) : G x 2 0 [(0, .ref (gB x + o0)), (1, .int i1)] [] μ 0 0 := by
  unfold S_X2_next at h
  refine g_aload_n f 0 dX2_next_0 rfl rfl ?_
  obtain ⟨v1, h⟩ := h
  refine g_getR f fk_X2_15 v1 dX2_next_1 rfl h (fun t2 h => ?_)
  refine g_iload_n f 1 dX2_next_4 rfl rfl ?_
  obtain ⟨v3, h⟩ := h
  refine g_iald f v3 dX2_next_5 h (fun h => ?_)
  refine g_aload_n f 0 dX2_next_6 rfl rfl ?_
  refine g_getI f fk_X2_21 v1 dX2_next_7 rfl ?_
  refine g_ic_eq f 44 dX2_next_10 rfl h (fun h => ?_) (fun h => ?_)
  · exact h_sub [0, 1] rfl (tB_X2_next_44 f hq h)
  · refine g_aload_n f 0 dX2_next_13 rfl rfl ?_
    refine g_getR f fk_X2_29 v1 dX2_next_14 rfl h (fun t7 h => ?_)
    obtain ⟨v8, h⟩ := h
    refine g_callV f mk_X2_33 v8 (c_X4_asNow h) dX2_next_17 rfl rfl (Nat.le_of_ble_eq_true rfl) (rm_ok (by decide) (by decide)) ⟨Nat.le_of_ble_eq_true rfl, Nat.le_of_ble_eq_true rfl⟩ (kV fun μ9 x10 h => ?_)
    refine g_aload_n f 0 dX2_next_20 rfl rfl ?_
    have v1 := mex_ok x10 v1
    refine g_getR f fk_X2_9 v1 dX2_next_21 rfl h (fun t12 h => ?_)
    refine g_iload_n f 1 dX2_next_24 rfl rfl ?_
    refine g_aload_n f 0 dX2_next_25 rfl rfl ?_
    refine g_getR f fk_X2_29 v1 dX2_next_26 rfl h (fun t13 h => ?_)
    refine g_iload_n f 1 dX2_next_29 rfl rfl ?_
    obtain ⟨v14, h⟩ := h
    refine g_callV f mk_X2_38 v14 (c_X4_lateBy h) dX2_next_30 rfl rfl (Nat.le_of_ble_eq_true rfl) (rm_ok (by decide) (by decide)) ⟨Nat.le_of_ble_eq_true rfl, Nat.le_of_ble_eq_true rfl⟩ (kI fun r17 μ15 x16 h => ?_)
    obtain ⟨v18, h⟩ := h
    refine g_iast f v18 dX2_next_33 h (fun h => ?_)
    refine g_aload_n f 0 dX2_next_34 rfl rfl ?_
    have v1 := mex_ok x16 v1
    refine g_getR f fk_X2_15 v1 dX2_next_35 rfl h (fun t20 h => ?_)
    refine g_iload_n f 1 dX2_next_38 rfl rfl ?_
    refine g_aload_n f 0 dX2_next_39 rfl rfl ?_
    refine g_getI f fk_X2_21 v1 dX2_next_40 rfl ?_
    obtain ⟨v21, h⟩ := h
    refine g_iast f v21 dX2_next_43 h (fun h => ?_)
    exact h_sub [0, 1] rfl (tB_X2_next_44 f hq h)
theorem c_X2_next {Ω : OM} {o0 : Nat} {i1 : Int32} {μ : Me} {Q : Int32 → Me → Prop} (h : S_X2_next o0 i1 μ Q) : CT Ω yX2_next cX2_next 2 (some .int) (rmc 4 0 0) [.ref (oB Ω + o0), .int i1] μ (qI Q) := CT_of (by decide) rfl (by simp [lg_sl, Value.category]) (fun x hΩ f hq hi => by subst hΩ; exact t_X2_next f hq h)
theorem dX0_fitsHeard_0 : decode cX0_fitsHeard 0 = .ok (.iconst 0, 1) := by decide +kernel
theorem dX0_fitsHeard_1 : decode cX0_fitsHeard 1 = .ok (.istore_n 2, 1) := by decide +kernel
theorem dX0_fitsHeard_2 : decode cX0_fitsHeard 2 = .ok (.iload_n 2, 1) := by decide +kernel
theorem dX0_fitsHeard_3 : decode cX0_fitsHeard 3 = .ok (.aload_n 0, 1) := by decide +kernel
theorem dX0_fitsHeard_4 : decode cX0_fitsHeard 4 = .ok (.getfield 21, 3) := by decide +kernel
theorem dX0_fitsHeard_7 : decode cX0_fitsHeard 7 = .ok (.getfield 49, 3) := by decide +kernel
theorem dX0_fitsHeard_10 : decode cX0_fitsHeard 10 = .ok (.if_icmp .ge 36, 3) := by decide +kernel
theorem dX0_fitsHeard_13 : decode cX0_fitsHeard 13 = .ok (.iload_n 1, 1) := by decide +kernel
theorem dX0_fitsHeard_14 : decode cX0_fitsHeard 14 = .ok (.aload_n 0, 1) := by decide +kernel
theorem dX0_fitsHeard_15 : decode cX0_fitsHeard 15 = .ok (.getfield 21, 3) := by decide +kernel
theorem dX0_fitsHeard_18 : decode cX0_fitsHeard 18 = .ok (.getfield 52, 3) := by decide +kernel
theorem dX0_fitsHeard_21 : decode cX0_fitsHeard 21 = .ok (.iload_n 2, 1) := by decide +kernel
theorem dX0_fitsHeard_22 : decode cX0_fitsHeard 22 = .ok (.iaload, 1) := by decide +kernel
theorem dX0_fitsHeard_23 : decode cX0_fitsHeard 23 = .ok (.ishr, 1) := by decide +kernel
theorem dX0_fitsHeard_24 : decode cX0_fitsHeard 24 = .ok (.iconst 1, 1) := by decide +kernel
theorem dX0_fitsHeard_25 : decode cX0_fitsHeard 25 = .ok (.iand, 1) := by decide +kernel
theorem dX0_fitsHeard_26 : decode cX0_fitsHeard 26 = .ok (.aload_n 0, 1) := by decide +kernel
theorem dX0_fitsHeard_27 : decode cX0_fitsHeard 27 = .ok (.getfield 21, 3) := by decide +kernel
theorem dX0_fitsHeard_30 : decode cX0_fitsHeard 30 = .ok (.getfield 55, 3) := by decide +kernel
theorem dX0_fitsHeard_33 : decode cX0_fitsHeard 33 = .ok (.iload_n 2, 1) := by decide +kernel
theorem dX0_fitsHeard_34 : decode cX0_fitsHeard 34 = .ok (.iaload, 1) := by decide +kernel
theorem dX0_fitsHeard_35 : decode cX0_fitsHeard 35 = .ok (.if_icmp .eq 5, 3) := by decide +kernel
theorem dX0_fitsHeard_38 : decode cX0_fitsHeard 38 = .ok (.iconst 0, 1) := by decide +kernel
theorem dX0_fitsHeard_39 : decode cX0_fitsHeard 39 = .ok (.ireturn, 1) := by decide +kernel
theorem dX0_fitsHeard_40 : decode cX0_fitsHeard 40 = .ok (.iinc 2 1, 3) := by decide +kernel
theorem dX0_fitsHeard_43 : decode cX0_fitsHeard 43 = .ok (.goto (-41), 3) := by decide +kernel
theorem dX0_fitsHeard_46 : decode cX0_fitsHeard 46 = .ok (.iconst 1, 1) := by decide +kernel
theorem dX0_fitsHeard_47 : decode cX0_fitsHeard 47 = .ok (.ireturn, 1) := by decide +kernel
def B_X0_fitsHeard_2 (o0 : Nat) (i1 : Int32) (i2 : Int32) (μ : Me) (K2 : Int32 → Me → Prop) (Q : Int32 → Me → Prop) : Prop := mok μ o0 0 ∧ ∃ t2, mgr μ o0 0 = some t2 ∧ mok μ t2 9 ∧ (((mgi μ t2 8) ≤ i2 → Q 1 μ) ∧ (¬ (mgi μ t2 8) ≤ i2 → ∃ t4, mgr μ o0 0 = some t4 ∧ mok μ t4 9 ∧ ∃ t6, mgr μ t4 9 = some t6 ∧ mok μ t6 12 ∧ vp_in i2 (mln μ t6) ∧ ∃ t8, mgr μ o0 0 = some t8 ∧ mok μ t8 9 ∧ ∃ t10, mgr μ t8 10 = some t10 ∧ mok μ t10 12 ∧ vp_in i2 (mln μ t10) ∧ ((((i1 >>> ((mgi μ t6 i2.toNatClampNeg) &&& 31)) &&& 1) = (mgi μ t10 i2.toNatClampNeg) → K2 (i2 + 1) μ) ∧ (¬ ((i1 >>> ((mgi μ t6 i2.toNatClampNeg) &&& 31)) &&& 1) = (mgi μ t10 i2.toNatClampNeg) → Q 0 μ))))
set_option maxHeartbeats 4000000 in
set_option maxRecDepth 100000 in
theorem tB_X0_fitsHeard_2 {x : GX} (f : Fx x cX0_fitsHeard RX0 3 (rmc 0 0 0)) {o0 : Nat} {i1 : Int32} {i2 : Int32} {μ : Me} {Q : Int32 → Me → Prop} (hq : Rt x (some .boolean) (qI Q)) {K2 : Int32 → Me → Prop} (hK2 : ∀ (a2 : Int32) (ν : Me), K2 a2 ν → G x 3 2 [(0, .ref (gB x + o0)), (1, .int i1), (2, .int a2)] [] ν 0 0) (h : B_X0_fitsHeard_2 o0 i1 i2 μ K2 Q) : G x 3 2 [(0, .ref (gB x + o0)), (1, .int i1), (2, .int i2)] [] μ 0 0 := by
  unfold B_X0_fitsHeard_2 at h
  refine g_iload_n f 2 dX0_fitsHeard_2 rfl rfl ?_
  refine g_aload_n f 0 dX0_fitsHeard_3 rfl rfl ?_
  obtain ⟨v1, h⟩ := h
  refine g_getR f fk_X0_21 v1 dX0_fitsHeard_4 rfl h (fun t2 h => ?_)
  obtain ⟨v3, h⟩ := h
  refine g_getI f fk_X0_49 v3 dX0_fitsHeard_7 rfl ?_
  refine g_ic_ge f 46 dX0_fitsHeard_10 rfl h (fun h => ?_) (fun h => ?_)
  · refine g_iconst f 1 dX0_fitsHeard_46 kc_1 ?_
    exact g_zret f hq (Nat.le_of_ble_eq_true rfl) (Nat.le_of_ble_eq_true rfl) dX0_fitsHeard_47 zb_1.1 h
  · refine g_iload_n f 1 dX0_fitsHeard_13 rfl rfl ?_
    refine g_aload_n f 0 dX0_fitsHeard_14 rfl rfl ?_
    refine g_getR f fk_X0_21 v1 dX0_fitsHeard_15 rfl h (fun t4 h => ?_)
    obtain ⟨v5, h⟩ := h
    refine g_getR f fk_X0_52 v5 dX0_fitsHeard_18 rfl h (fun t6 h => ?_)
    refine g_iload_n f 2 dX0_fitsHeard_21 rfl rfl ?_
    obtain ⟨v7, h⟩ := h
    refine g_iald f v7 dX0_fitsHeard_22 h (fun h => ?_)
    refine g_ishr f dX0_fitsHeard_23 ?_
    refine g_iconst f 1 dX0_fitsHeard_24 kc_1 ?_
    refine g_iand f dX0_fitsHeard_25 ?_
    refine g_aload_n f 0 dX0_fitsHeard_26 rfl rfl ?_
    refine g_getR f fk_X0_21 v1 dX0_fitsHeard_27 rfl h (fun t8 h => ?_)
    obtain ⟨v9, h⟩ := h
    refine g_getR f fk_X0_55 v9 dX0_fitsHeard_30 rfl h (fun t10 h => ?_)
    refine g_iload_n f 2 dX0_fitsHeard_33 rfl rfl ?_
    obtain ⟨v11, h⟩ := h
    refine g_iald f v11 dX0_fitsHeard_34 h (fun h => ?_)
    refine g_ic_eq f 40 dX0_fitsHeard_35 rfl h (fun h => ?_) (fun h => ?_)
    · refine h_iinc f 2 1 dX0_fitsHeard_40 rfl kc_1 (by decide) ?_
      refine g_goto f 2 dX0_fitsHeard_43 rfl ?_
      exact h_sub [1, 2, 0] rfl (hK2 _ _ h)
    · refine g_iconst f 0 dX0_fitsHeard_38 kc_0 ?_
      exact g_zret f hq (Nat.le_of_ble_eq_true rfl) (Nat.le_of_ble_eq_true rfl) dX0_fitsHeard_39 zb_0.1 h
def L_X0_fitsHeard_2 (o0 : Nat) (i1 : Int32) (i2 : Int32) (μ : Me) (Q : Int32 → Me → Prop) : Prop := ∃ I : Int32 → Me → Nat → Prop, (∃ n, I i2 μ n) ∧ ∀ (i2 : Int32) (μ : Me) (n : Nat), I i2 μ n → B_X0_fitsHeard_2 o0 i1 i2 μ (fun a2 ν => ∃ n', n' < n ∧ I a2 ν n') Q
set_option maxHeartbeats 4000000 in
set_option maxRecDepth 100000 in
theorem tL_X0_fitsHeard_2 {x : GX} (f : Fx x cX0_fitsHeard RX0 3 (rmc 0 0 0)) {o0 : Nat} {i1 : Int32} {i2 : Int32} {μ : Me} {Q : Int32 → Me → Prop} (hq : Rt x (some .boolean) (qI Q)) (h : L_X0_fitsHeard_2 o0 i1 i2 μ Q) : G x 3 2 [(0, .ref (gB x + o0)), (1, .int i1), (2, .int i2)] [] μ 0 0 := by
  obtain ⟨I, ⟨n, hI⟩, hs⟩ := h
  induction n using Nat.strongRecOn generalizing i2 μ with
  | ind n ih => exact tB_X0_fitsHeard_2 f hq (fun a2 ν hk => by obtain ⟨n2, hn, hI2⟩ := hk; exact ih n2 hn hI2) (hs _ _ _ hI)
def S_X0_fitsHeard (o0 : Nat) (i1 : Int32) (μ : Me) (Q : Int32 → Me → Prop) : Prop := L_X0_fitsHeard_2 o0 i1 0 μ Q
set_option maxHeartbeats 4000000 in
set_option maxRecDepth 100000 in
theorem t_X0_fitsHeard {x : GX} (f : Fx x cX0_fitsHeard RX0 3 (rmc 0 0 0)) {o0 : Nat} {i1 : Int32} {μ : Me} {Q : Int32 → Me → Prop} (hq : Rt x (some .boolean) (qI Q)) (h : S_X0_fitsHeard o0 i1 μ Q) : G x 3 0 [(0, .ref (gB x + o0)), (1, .int i1)] [] μ 0 0 := by
  unfold S_X0_fitsHeard at h
  refine g_iconst f 0 dX0_fitsHeard_0 kc_0 ?_
  refine h_istore_n f dX0_fitsHeard_1 rfl (by decide) ?_
  exact h_sub [1, 2, 0] rfl (tL_X0_fitsHeard_2 f hq h)
theorem c_X0_fitsHeard {Ω : OM} {o0 : Nat} {i1 : Int32} {μ : Me} {Q : Int32 → Me → Prop} (h : S_X0_fitsHeard o0 i1 μ Q) : CT Ω yX0_fitsHeard cX0_fitsHeard 3 (some .boolean) (rmc 0 0 0) [.ref (oB Ω + o0), .int i1] μ (qI Q) := CT_of (by decide) rfl (by simp [lg_sl, Value.category]) (fun x hΩ f hq hi => by subst hΩ; exact t_X0_fitsHeard f hq h)
theorem dX0_gather_0 : decode cX0_gather 0 = .ok (.aload_n 0, 1) := by decide +kernel
theorem dX0_gather_1 : decode cX0_gather 1 = .ok (.iconst 0, 1) := by decide +kernel
theorem dX0_gather_2 : decode cX0_gather 2 = .ok (.putfield 29, 3) := by decide +kernel
theorem dX0_gather_5 : decode cX0_gather 5 = .ok (.iconst 0, 1) := by decide +kernel
theorem dX0_gather_6 : decode cX0_gather 6 = .ok (.istore_n 1, 1) := by decide +kernel
theorem dX0_gather_7 : decode cX0_gather 7 = .ok (.iload_n 1, 1) := by decide +kernel
theorem dX0_gather_8 : decode cX0_gather 8 = .ok (.aload_n 0, 1) := by decide +kernel
theorem dX0_gather_9 : decode cX0_gather 9 = .ok (.getfield 21, 3) := by decide +kernel
theorem dX0_gather_12 : decode cX0_gather 12 = .ok (.invokevirtual 33, 3) := by decide +kernel
theorem dX0_gather_15 : decode cX0_gather 15 = .ok (.if_icmp .ge 49, 3) := by decide +kernel
theorem dX0_gather_18 : decode cX0_gather 18 = .ok (.aload_n 0, 1) := by decide +kernel
theorem dX0_gather_19 : decode cX0_gather 19 = .ok (.getfield 25, 3) := by decide +kernel
theorem dX0_gather_22 : decode cX0_gather 22 = .ok (.iload_n 1, 1) := by decide +kernel
theorem dX0_gather_23 : decode cX0_gather 23 = .ok (.invokevirtual 39, 3) := by decide +kernel
theorem dX0_gather_26 : decode cX0_gather 26 = .ok (.iload_n 1, 1) := by decide +kernel
theorem dX0_gather_27 : decode cX0_gather 27 = .ok (.if_icmp .ne 31, 3) := by decide +kernel
theorem dX0_gather_30 : decode cX0_gather 30 = .ok (.aload_n 0, 1) := by decide +kernel
theorem dX0_gather_31 : decode cX0_gather 31 = .ok (.iload_n 1, 1) := by decide +kernel
theorem dX0_gather_32 : decode cX0_gather 32 = .ok (.invokevirtual 45, 3) := by decide +kernel
theorem dX0_gather_35 : decode cX0_gather 35 = .ok (.ifCond .eq 23, 3) := by decide +kernel
theorem dX0_gather_38 : decode cX0_gather 38 = .ok (.aload_n 0, 1) := by decide +kernel
theorem dX0_gather_39 : decode cX0_gather 39 = .ok (.getfield 9, 3) := by decide +kernel
theorem dX0_gather_42 : decode cX0_gather 42 = .ok (.aload_n 0, 1) := by decide +kernel
theorem dX0_gather_43 : decode cX0_gather 43 = .ok (.getfield 29, 3) := by decide +kernel
theorem dX0_gather_46 : decode cX0_gather 46 = .ok (.iload_n 1, 1) := by decide +kernel
theorem dX0_gather_47 : decode cX0_gather 47 = .ok (.iastore, 1) := by decide +kernel
theorem dX0_gather_48 : decode cX0_gather 48 = .ok (.aload_n 0, 1) := by decide +kernel
theorem dX0_gather_49 : decode cX0_gather 49 = .ok (.dup, 1) := by decide +kernel
theorem dX0_gather_50 : decode cX0_gather 50 = .ok (.getfield 29, 3) := by decide +kernel
theorem dX0_gather_53 : decode cX0_gather 53 = .ok (.iconst 1, 1) := by decide +kernel
theorem dX0_gather_54 : decode cX0_gather 54 = .ok (.iadd, 1) := by decide +kernel
theorem dX0_gather_55 : decode cX0_gather 55 = .ok (.putfield 29, 3) := by decide +kernel
theorem dX0_gather_58 : decode cX0_gather 58 = .ok (.iinc 1 1, 3) := by decide +kernel
theorem dX0_gather_61 : decode cX0_gather 61 = .ok (.goto (-54), 3) := by decide +kernel
theorem dX0_gather_64 : decode cX0_gather 64 = .ok (.return_, 1) := by decide +kernel
def B_X0_gather_58 (o0 : Nat) (i1 : Int32) (μ : Me) (K7 : Int32 → Me → Prop) (Q : Me → Prop) : Prop := K7 (i1 + 1) μ
set_option maxHeartbeats 4000000 in
set_option maxRecDepth 100000 in
theorem tB_X0_gather_58 {x : GX} (f : Fx x cX0_gather RX0 2 (rmc 5 0 0)) {o0 : Nat} {i1 : Int32} {μ : Me} {Q : Me → Prop} (hq : Rt x none (qV Q)) {K7 : Int32 → Me → Prop} (hK7 : ∀ (a1 : Int32) (ν : Me), K7 a1 ν → G x 2 7 [(0, .ref (gB x + o0)), (1, .int a1)] [] ν 0 0) (h : B_X0_gather_58 o0 i1 μ K7 Q) : G x 2 58 [(0, .ref (gB x + o0)), (1, .int i1)] [] μ 0 0 := by
  unfold B_X0_gather_58 at h
  refine h_iinc f 1 1 dX0_gather_58 rfl kc_1 (by decide) ?_
  refine g_goto f 7 dX0_gather_61 rfl ?_
  exact h_sub [1, 0] rfl (hK7 _ _ h)
def B_X0_gather_7 (o0 : Nat) (i1 : Int32) (μ : Me) (K7 : Int32 → Me → Prop) (Q : Me → Prop) : Prop := mok μ o0 0 ∧ ∃ t4, mgr μ o0 0 = some t4 ∧ mok μ t4 9 ∧ S_X9_allRings t4 μ (fun r8 μ6 => ((r8 ≤ i1 → Q μ6) ∧ (¬ r8 ≤ i1 → ∃ t9, mgr μ6 o0 1 = some t9 ∧ mok μ6 t9 2 ∧ S_X2_next t9 i1 μ6 (fun r13 μ11 => ((¬ r13 = i1 → B_X0_gather_58 o0 i1 μ11 K7 Q) ∧ (r13 = i1 → S_X0_fitsHeard o0 i1 μ11 (fun r16 μ14 => ((r16 = 0 → B_X0_gather_58 o0 i1 μ14 K7 Q) ∧ (¬ r16 = 0 → ∃ t17, mgr μ14 o0 2 = some t17 ∧ mok μ14 t17 12 ∧ vp_in (mgi μ14 o0 5) (mln μ14 t17) ∧ ∀ μ19, μ19 = msi μ14 t17 (mgi μ14 o0 5).toNatClampNeg i1 → ∀ μ20, μ20 = msi μ19 o0 5 ((mgi μ19 o0 5) + 1) → B_X0_gather_58 o0 i1 μ20 K7 Q)))))))))
set_option maxHeartbeats 4000000 in
set_option maxRecDepth 100000 in
theorem tB_X0_gather_7 {x : GX} (f : Fx x cX0_gather RX0 2 (rmc 5 0 0)) {o0 : Nat} {i1 : Int32} {μ : Me} {Q : Me → Prop} (hq : Rt x none (qV Q)) {K7 : Int32 → Me → Prop} (hK7 : ∀ (a1 : Int32) (ν : Me), K7 a1 ν → G x 2 7 [(0, .ref (gB x + o0)), (1, .int a1)] [] ν 0 0) (h : B_X0_gather_7 o0 i1 μ K7 Q) : G x 2 7 [(0, .ref (gB x + o0)), (1, .int i1)] [] μ 0 0 := by
  unfold B_X0_gather_7 at h
  refine g_iload_n f 1 dX0_gather_7 rfl rfl ?_
  refine g_aload_n f 0 dX0_gather_8 rfl rfl ?_
  obtain ⟨v3, h⟩ := h
  refine g_getR f fk_X0_21 v3 dX0_gather_9 rfl h (fun t4 h => ?_)
  obtain ⟨v5, h⟩ := h
  refine g_callV f mk_X0_33 v5 (c_X9_allRings h) dX0_gather_12 rfl rfl (Nat.le_of_ble_eq_true rfl) (rm_ok (by decide) (by decide)) ⟨Nat.le_of_ble_eq_true rfl, Nat.le_of_ble_eq_true rfl⟩ (kI fun r8 μ6 x7 h => ?_)
  refine g_ic_ge f 64 dX0_gather_15 rfl h (fun h => ?_) (fun h => ?_)
  · exact g_vret f hq (Nat.le_of_ble_eq_true rfl) (Nat.le_of_ble_eq_true rfl) dX0_gather_64 h
  · refine g_aload_n f 0 dX0_gather_18 rfl rfl ?_
    have v3 := mex_ok x7 v3
    refine g_getR f fk_X0_25 v3 dX0_gather_19 rfl h (fun t9 h => ?_)
    refine g_iload_n f 1 dX0_gather_22 rfl rfl ?_
    obtain ⟨v10, h⟩ := h
    refine g_callV f mk_X0_39 v10 (c_X2_next h) dX0_gather_23 rfl rfl (Nat.le_of_ble_eq_true rfl) (rm_ok (by decide) (by decide)) ⟨Nat.le_of_ble_eq_true rfl, Nat.le_of_ble_eq_true rfl⟩ (kI fun r13 μ11 x12 h => ?_)
    refine g_iload_n f 1 dX0_gather_26 rfl rfl ?_
    refine g_ic_ne f 58 dX0_gather_27 rfl h (fun h => ?_) (fun h => ?_)
    · exact h_sub [0, 1] rfl (tB_X0_gather_58 f hq hK7 h)
    · refine g_aload_n f 0 dX0_gather_30 rfl rfl ?_
      refine g_iload_n f 1 dX0_gather_31 rfl rfl ?_
      have v3 := mex_ok x12 v3
      refine g_callV f mk_X0_45 v3 (c_X0_fitsHeard h) dX0_gather_32 rfl rfl (Nat.le_of_ble_eq_true rfl) (rm_ok (by decide) (by decide)) ⟨Nat.le_of_ble_eq_true rfl, Nat.le_of_ble_eq_true rfl⟩ (kI fun r16 μ14 x15 h => ?_)
      refine g_if_eq f 58 dX0_gather_35 rfl h (fun h => ?_) (fun h => ?_)
      · exact h_sub [0, 1] rfl (tB_X0_gather_58 f hq hK7 h)
      · refine g_aload_n f 0 dX0_gather_38 rfl rfl ?_
        have v3 := mex_ok x15 v3
        refine g_getR f fk_X0_9 v3 dX0_gather_39 rfl h (fun t17 h => ?_)
        refine g_aload_n f 0 dX0_gather_42 rfl rfl ?_
        refine g_getI f fk_X0_29 v3 dX0_gather_43 rfl ?_
        refine g_iload_n f 1 dX0_gather_46 rfl rfl ?_
        obtain ⟨v18, h⟩ := h
        refine g_iast f v18 dX0_gather_47 h (fun h => ?_)
        refine g_aload_n f 0 dX0_gather_48 rfl rfl ?_
        refine g_dup f dX0_gather_49 rfl ?_
        refine g_getI f fk_X0_29 v3 dX0_gather_50 rfl ?_
        refine g_iconst f 1 dX0_gather_53 kc_1 ?_
        refine g_iadd f dX0_gather_54 ?_
        refine g_putI f fk_X0_29 v3 dX0_gather_55 rfl h (fun h => ?_)
        exact h_sub [0, 1] rfl (tB_X0_gather_58 f hq hK7 h)
def L_X0_gather_7 (o0 : Nat) (i1 : Int32) (μ : Me) (Q : Me → Prop) : Prop := ∃ I : Int32 → Me → Nat → Prop, (∃ n, I i1 μ n) ∧ ∀ (i1 : Int32) (μ : Me) (n : Nat), I i1 μ n → B_X0_gather_7 o0 i1 μ (fun a1 ν => ∃ n', n' < n ∧ I a1 ν n') Q
set_option maxHeartbeats 4000000 in
set_option maxRecDepth 100000 in
theorem tL_X0_gather_7 {x : GX} (f : Fx x cX0_gather RX0 2 (rmc 5 0 0)) {o0 : Nat} {i1 : Int32} {μ : Me} {Q : Me → Prop} (hq : Rt x none (qV Q)) (h : L_X0_gather_7 o0 i1 μ Q) : G x 2 7 [(0, .ref (gB x + o0)), (1, .int i1)] [] μ 0 0 := by
  obtain ⟨I, ⟨n, hI⟩, hs⟩ := h
  induction n using Nat.strongRecOn generalizing i1 μ with
  | ind n ih => exact tB_X0_gather_7 f hq (fun a1 ν hk => by obtain ⟨n2, hn, hI2⟩ := hk; exact ih n2 hn hI2) (hs _ _ _ hI)
def S_X0_gather (o0 : Nat) (μ : Me) (Q : Me → Prop) : Prop := mok μ o0 0 ∧ ∀ μ2, μ2 = msi μ o0 5 0 → L_X0_gather_7 o0 0 μ2 Q
set_option maxHeartbeats 4000000 in
set_option maxRecDepth 100000 in
theorem t_X0_gather {x : GX} (f : Fx x cX0_gather RX0 2 (rmc 5 0 0)) {o0 : Nat} {μ : Me} {Q : Me → Prop} (hq : Rt x none (qV Q)) (h : S_X0_gather o0 μ Q) : G x 2 0 [(0, .ref (gB x + o0))] [] μ 0 0 := by
  unfold S_X0_gather at h
  refine g_aload_n f 0 dX0_gather_0 rfl rfl ?_
  refine g_iconst f 0 dX0_gather_1 kc_0 ?_
  obtain ⟨v1, h⟩ := h
  refine g_putI f fk_X0_29 v1 dX0_gather_2 rfl h (fun h => ?_)
  refine g_iconst f 0 dX0_gather_5 kc_0 ?_
  refine h_istore_n f dX0_gather_6 rfl (by decide) ?_
  exact h_sub [1, 0] rfl (tL_X0_gather_7 f hq h)
theorem c_X0_gather {Ω : OM} {o0 : Nat} {μ : Me} {Q : Me → Prop} (h : S_X0_gather o0 μ Q) : CT Ω yX0_gather cX0_gather 2 none (rmc 5 0 0) [.ref (oB Ω + o0)] μ (qV Q) := CT_of (by decide) rfl (by simp [lg_sl, Value.category]) (fun x hΩ f hq hi => by subst hΩ; exact t_X0_gather f hq h)
theorem dX0_commonOf_0 : decode cX0_commonOf 0 = .ok (.iload_n 0, 1) := by decide +kernel
theorem dX0_commonOf_1 : decode cX0_commonOf 1 = .ok (.istore_n 2, 1) := by decide +kernel
theorem dX0_commonOf_2 : decode cX0_commonOf 2 = .ok (.iload_n 1, 1) := by decide +kernel
theorem dX0_commonOf_3 : decode cX0_commonOf 3 = .ok (.istore_n 3, 1) := by decide +kernel
theorem dX0_commonOf_4 : decode cX0_commonOf 4 = .ok (.iconst 0, 1) := by decide +kernel
theorem dX0_commonOf_5 : decode cX0_commonOf 5 = .ok (.istore 4, 2) := by decide +kernel
theorem dX0_commonOf_7 : decode cX0_commonOf 7 = .ok (.iload 4, 2) := by decide +kernel
theorem dX0_commonOf_9 : decode cX0_commonOf 9 = .ok (.sipush 256, 3) := by decide +kernel
theorem dX0_commonOf_12 : decode cX0_commonOf 12 = .ok (.if_icmp .ge 23, 3) := by decide +kernel
theorem dX0_commonOf_15 : decode cX0_commonOf 15 = .ok (.iload_n 3, 1) := by decide +kernel
theorem dX0_commonOf_16 : decode cX0_commonOf 16 = .ok (.ifCond .eq 19, 3) := by decide +kernel
theorem dX0_commonOf_19 : decode cX0_commonOf 19 = .ok (.iload_n 2, 1) := by decide +kernel
theorem dX0_commonOf_20 : decode cX0_commonOf 20 = .ok (.iload_n 3, 1) := by decide +kernel
theorem dX0_commonOf_21 : decode cX0_commonOf 21 = .ok (.irem, 1) := by decide +kernel
theorem dX0_commonOf_22 : decode cX0_commonOf 22 = .ok (.istore 5, 2) := by decide +kernel
theorem dX0_commonOf_24 : decode cX0_commonOf 24 = .ok (.iload_n 3, 1) := by decide +kernel
theorem dX0_commonOf_25 : decode cX0_commonOf 25 = .ok (.istore_n 2, 1) := by decide +kernel
theorem dX0_commonOf_26 : decode cX0_commonOf 26 = .ok (.iload 5, 2) := by decide +kernel
theorem dX0_commonOf_28 : decode cX0_commonOf 28 = .ok (.istore_n 3, 1) := by decide +kernel
theorem dX0_commonOf_29 : decode cX0_commonOf 29 = .ok (.iinc 4 1, 3) := by decide +kernel
theorem dX0_commonOf_32 : decode cX0_commonOf 32 = .ok (.goto (-25), 3) := by decide +kernel
theorem dX0_commonOf_35 : decode cX0_commonOf 35 = .ok (.iconst 1, 1) := by decide +kernel
theorem dX0_commonOf_36 : decode cX0_commonOf 36 = .ok (.iload_n 2, 1) := by decide +kernel
theorem dX0_commonOf_37 : decode cX0_commonOf 37 = .ok (.invokestatic 62, 3) := by decide +kernel
theorem dX0_commonOf_40 : decode cX0_commonOf 40 = .ok (.ireturn, 1) := by decide +kernel
def B_X0_commonOf_35 (i2 : Int32) (μ : Me) (Q : Int32 → Me → Prop) : Prop := Q (if 1 < i2 then i2 else 1) μ
set_option maxHeartbeats 4000000 in
set_option maxRecDepth 100000 in
theorem tB_X0_commonOf_35 {x : GX} (f : Fx x cX0_commonOf RX0 6 (rmc 0 0 0)) {i2 : Int32} {μ : Me} {Q : Int32 → Me → Prop} (hq : Rt x (some .int) (qI Q)) (h : B_X0_commonOf_35 i2 μ Q) : G x 6 35 [(2, .int i2)] [] μ 0 0 := by
  unfold B_X0_commonOf_35 at h
  refine g_iconst f 1 dX0_commonOf_35 kc_1 ?_
  refine g_iload_n f 0 dX0_commonOf_36 rfl rfl ?_
  refine g_max f maxk_X0_62 dX0_commonOf_37 rm_fr (rm_mx (Nat.le_of_ble_eq_true rfl)) (Nat.zero_le _) (Nat.zero_le _) ?_
  exact g_iret f hq (Nat.le_of_ble_eq_true rfl) (Nat.le_of_ble_eq_true rfl) dX0_commonOf_40 h
def B_X0_commonOf_7 (i2 : Int32) (i3 : Int32) (i4 : Int32) (μ : Me) (K7 : Int32 → Int32 → Int32 → Me → Prop) (Q : Int32 → Me → Prop) : Prop := ((256 ≤ i4 → B_X0_commonOf_35 i2 μ Q) ∧ (¬ 256 ≤ i4 → ((i3 = 0 → B_X0_commonOf_35 i2 μ Q) ∧ (¬ i3 = 0 → ¬ i3 = 0 ∧ K7 i3 (i2 - i2 / i3 * i3) (i4 + 1) μ))))
set_option maxHeartbeats 4000000 in
set_option maxRecDepth 100000 in
theorem tB_X0_commonOf_7 {x : GX} (f : Fx x cX0_commonOf RX0 6 (rmc 0 0 0)) {i2 : Int32} {i3 : Int32} {i4 : Int32} {μ : Me} {Q : Int32 → Me → Prop} (hq : Rt x (some .int) (qI Q)) {K7 : Int32 → Int32 → Int32 → Me → Prop} (hK7 : ∀ (a2 : Int32) (a3 : Int32) (a4 : Int32) (ν : Me), K7 a2 a3 a4 ν → G x 6 7 [(2, .int a2), (3, .int a3), (4, .int a4)] [] ν 0 0) (h : B_X0_commonOf_7 i2 i3 i4 μ K7 Q) : G x 6 7 [(2, .int i2), (3, .int i3), (4, .int i4)] [] μ 0 0 := by
  unfold B_X0_commonOf_7 at h
  refine g_iload f 2 dX0_commonOf_7 rfl ?_
  refine g_sipush f 256 dX0_commonOf_9 ks_256 ?_
  refine g_ic_ge f 35 dX0_commonOf_12 rfl h (fun h => ?_) (fun h => ?_)
  · exact h_sub [0] rfl (tB_X0_commonOf_35 f hq h)
  · refine g_iload_n f 1 dX0_commonOf_15 rfl rfl ?_
    refine g_if_eq f 35 dX0_commonOf_16 rfl h (fun h => ?_) (fun h => ?_)
    · exact h_sub [0] rfl (tB_X0_commonOf_35 f hq h)
    · refine g_iload_n f 0 dX0_commonOf_19 rfl rfl ?_
      refine g_iload_n f 1 dX0_commonOf_20 rfl rfl ?_
      obtain ⟨z1, h⟩ := h
      refine g_irem f dX0_commonOf_21 z1 ?_
      refine h_istore f dX0_commonOf_22 (by decide) ?_
      refine g_iload_n f 2 dX0_commonOf_24 rfl rfl ?_
      refine h_istore_n f dX0_commonOf_25 rfl (by decide) ?_
      refine g_iload f 1 dX0_commonOf_26 rfl ?_
      refine h_istore_n f dX0_commonOf_28 rfl (by decide) ?_
      refine h_iinc f 3 1 dX0_commonOf_29 rfl kc_1 (by decide) ?_
      refine g_goto f 7 dX0_commonOf_32 rfl ?_
      exact h_sub [2, 1, 0] rfl (hK7 _ _ _ _ h)
def L_X0_commonOf_7 (i2 : Int32) (i3 : Int32) (i4 : Int32) (μ : Me) (Q : Int32 → Me → Prop) : Prop := ∃ I : Int32 → Int32 → Int32 → Me → Nat → Prop, (∃ n, I i2 i3 i4 μ n) ∧ ∀ (i2 : Int32) (i3 : Int32) (i4 : Int32) (μ : Me) (n : Nat), I i2 i3 i4 μ n → B_X0_commonOf_7 i2 i3 i4 μ (fun a2 a3 a4 ν => ∃ n', n' < n ∧ I a2 a3 a4 ν n') Q
set_option maxHeartbeats 4000000 in
set_option maxRecDepth 100000 in
theorem tL_X0_commonOf_7 {x : GX} (f : Fx x cX0_commonOf RX0 6 (rmc 0 0 0)) {i2 : Int32} {i3 : Int32} {i4 : Int32} {μ : Me} {Q : Int32 → Me → Prop} (hq : Rt x (some .int) (qI Q)) (h : L_X0_commonOf_7 i2 i3 i4 μ Q) : G x 6 7 [(2, .int i2), (3, .int i3), (4, .int i4)] [] μ 0 0 := by
  obtain ⟨I, ⟨n, hI⟩, hs⟩ := h
  induction n using Nat.strongRecOn generalizing i2 i3 i4 μ with
  | ind n ih => exact tB_X0_commonOf_7 f hq (fun a2 a3 a4 ν hk => by obtain ⟨n2, hn, hI2⟩ := hk; exact ih n2 hn hI2) (hs _ _ _ _ _ hI)
def S_X0_commonOf (i0 : Int32) (i1 : Int32) (μ : Me) (Q : Int32 → Me → Prop) : Prop := L_X0_commonOf_7 i0 i1 0 μ Q
set_option maxHeartbeats 4000000 in
set_option maxRecDepth 100000 in
theorem t_X0_commonOf {x : GX} (f : Fx x cX0_commonOf RX0 6 (rmc 0 0 0)) {i0 : Int32} {i1 : Int32} {μ : Me} {Q : Int32 → Me → Prop} (hq : Rt x (some .int) (qI Q)) (h : S_X0_commonOf i0 i1 μ Q) : G x 6 0 [(0, .int i0), (1, .int i1)] [] μ 0 0 := by
  unfold S_X0_commonOf at h
  refine g_iload_n f 0 dX0_commonOf_0 rfl rfl ?_
  refine h_istore_n f dX0_commonOf_1 rfl (by decide) ?_
  refine g_iload_n f 2 dX0_commonOf_2 rfl rfl ?_
  refine h_istore_n f dX0_commonOf_3 rfl (by decide) ?_
  refine g_iconst f 0 dX0_commonOf_4 kc_0 ?_
  refine h_istore f dX0_commonOf_5 (by decide) ?_
  exact h_sub [2, 1, 0] rfl (tL_X0_commonOf_7 f hq h)
theorem c_X0_commonOf {Ω : OM} {i0 : Int32} {i1 : Int32} {μ : Me} {Q : Int32 → Me → Prop} (h : S_X0_commonOf i0 i1 μ Q) : CT Ω yX0_commonOf cX0_commonOf 6 (some .int) (rmc 0 0 0) [.int i0, .int i1] μ (qI Q) := CT_of (by decide) rfl (by simp [lg_sl, Value.category]) (fun x hΩ f hq hi => by subst hΩ; exact t_X0_commonOf f hq h)
