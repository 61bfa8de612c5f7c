/-! contracts by program (wip/whole/gen.py) -/
theorem dX11_isIn_0 : decode cX11_isIn 0 = .ok (.iload_n 0, 1) := by decide +kernel
theorem dX11_isIn_1 : decode cX11_isIn 1 = .ok (.iload_n 1, 1) := by decide +kernel
theorem dX11_isIn_2 : decode cX11_isIn 2 = .ok (.if_icmp .lt 12, 3) := by decide +kernel
theorem dX11_isIn_5 : decode cX11_isIn 5 = .ok (.iload_n 0, 1) := by decide +kernel
theorem dX11_isIn_6 : decode cX11_isIn 6 = .ok (.iload_n 2, 1) := by decide +kernel
theorem dX11_isIn_7 : decode cX11_isIn 7 = .ok (.if_icmp .gt 7, 3) := by decide +kernel
theorem dX11_isIn_10 : decode cX11_isIn 10 = .ok (.iconst 1, 1) := by decide +kernel
theorem dX11_isIn_11 : decode cX11_isIn 11 = .ok (.goto 4, 3) := by decide +kernel
theorem dX11_isIn_14 : decode cX11_isIn 14 = .ok (.iconst 0, 1) := by decide +kernel
theorem dX11_isIn_15 : decode cX11_isIn 15 = .ok (.ireturn, 1) := by decide +kernel
def S_X11_isIn (i0 : Int32) (i1 : Int32) (i2 : Int32) (μ : Me) (Q : Int32 → Me → Prop) : Prop := ((i0 < i1 → Q 0 μ) ∧ (¬ i0 < i1 → ((i2 < i0 → Q 0 μ) ∧ (¬ i2 < i0 → Q 1 μ))))
set_option maxHeartbeats 4000000 in
set_option maxRecDepth 100000 in
theorem t_X11_isIn {x : GX} (f : Fx x cX11_isIn RX11 3 (rmc 0 0 0)) {i0 : Int32} {i1 : Int32} {i2 : Int32} {μ : Me} {Q : Int32 → Me → Prop} (hq : Rt x (some .boolean) (qI Q)) (h : S_X11_isIn i0 i1 i2 μ Q) : G x 3 0 [(0, .int i0), (1, .int i1), (2, .int i2)] [] μ 0 0 := by
  unfold S_X11_isIn at h
  refine g_iload_n f 0 dX11_isIn_0 rfl rfl ?_
  refine g_iload_n f 1 dX11_isIn_1 rfl rfl ?_
  refine g_ic_lt f 14 dX11_isIn_2 rfl h (fun h => ?_) (fun h => ?_)
  · refine g_iconst f 0 dX11_isIn_14 kc_0 ?_
    exact g_zret f hq (Nat.le_of_ble_eq_true rfl) (Nat.le_of_ble_eq_true rfl) dX11_isIn_15 zb_0.1 h
  · refine g_iload_n f 0 dX11_isIn_5 rfl rfl ?_
    refine g_iload_n f 2 dX11_isIn_6 rfl rfl ?_
    refine g_ic_gt f 14 dX11_isIn_7 rfl h (fun h => ?_) (fun h => ?_)
    · refine g_iconst f 0 dX11_isIn_14 kc_0 ?_
      exact g_zret f hq (Nat.le_of_ble_eq_true rfl) (Nat.le_of_ble_eq_true rfl) dX11_isIn_15 zb_0.1 h
    · refine g_iconst f 1 dX11_isIn_10 kc_1 ?_
      refine g_goto f 15 dX11_isIn_11 rfl ?_
      exact g_zret f hq (Nat.le_of_ble_eq_true rfl) (Nat.le_of_ble_eq_true rfl) dX11_isIn_15 zb_1.1 h
theorem c_X11_isIn {Ω : OM} {i0 : Int32} {i1 : Int32} {i2 : Int32} {μ : Me} {Q : Int32 → Me → Prop} (h : S_X11_isIn i0 i1 i2 μ Q) : CT Ω yX11_isIn cX11_isIn 3 (some .boolean) (rmc 0 0 0) [.int i0, .int i1, .int i2] μ (qI Q) := CT_of (by decide) rfl (by simp [lg_sl, Value.category]) (fun x hΩ f hq hi => by subst hΩ; exact t_X11_isIn f hq h)
theorem dX11_put_0 : decode cX11_put 0 = .ok (.aload_n 0, 1) := by decide +kernel
theorem dX11_put_1 : decode cX11_put 1 = .ok (.getfield 7, 3) := by decide +kernel
theorem dX11_put_4 : decode cX11_put 4 = .ok (.bipush 11, 2) := by decide +kernel
theorem dX11_put_6 : decode cX11_put 6 = .ok (.bipush 7, 2) := by decide +kernel
theorem dX11_put_8 : decode cX11_put 8 = .ok (.iload_n 1, 1) := by decide +kernel
theorem dX11_put_9 : decode cX11_put 9 = .ok (.imul, 1) := by decide +kernel
theorem dX11_put_10 : decode cX11_put 10 = .ok (.iadd, 1) := by decide +kernel
theorem dX11_put_11 : decode cX11_put 11 = .ok (.iload_n 2, 1) := by decide +kernel
theorem dX11_put_12 : decode cX11_put 12 = .ok (.iadd, 1) := by decide +kernel
theorem dX11_put_13 : decode cX11_put 13 = .ok (.iload_n 3, 1) := by decide +kernel
theorem dX11_put_14 : decode cX11_put 14 = .ok (.iastore, 1) := by decide +kernel
theorem dX11_put_15 : decode cX11_put 15 = .ok (.return_, 1) := by decide +kernel
def S_X11_put (o0 : Nat) (i1 : Int32) (i2 : Int32) (i3 : Int32) (μ : Me) (Q : Me → Prop) : Prop := mok μ o0 11 ∧ ∃ t2, mgr μ o0 0 = some t2 ∧ mok μ t2 12 ∧ vp_in ((11 + (7 * i1)) + i2) (mln μ t2) ∧ ∀ μ4, μ4 = msi μ t2 ((11 + (7 * i1)) + i2).toNatClampNeg i3 → Q μ4
set_option maxHeartbeats 4000000 in
set_option maxRecDepth 100000 in
theorem t_X11_put {x : GX} (f : Fx x cX11_put RX11 4 (rmc 0 0 0)) {o0 : Nat} {i1 : Int32} {i2 : Int32} {i3 : Int32} {μ : Me} {Q : Me → Prop} (hq : Rt x none (qV Q)) (h : S_X11_put o0 i1 i2 i3 μ Q) : G x 4 0 [(0, .ref (gB x + o0)), (1, .int i1), (2, .int i2), (3, .int i3)] [] μ 0 0 := by
  unfold S_X11_put at h
  refine g_aload_n f 0 dX11_put_0 rfl rfl ?_
  obtain ⟨v1, h⟩ := h
  refine g_getR f fk_X11_7 v1 dX11_put_1 rfl h (fun t2 h => ?_)
  refine g_bipush f 11 dX11_put_4 kb_11 ?_
  refine g_bipush f 7 dX11_put_6 kb_7 ?_
  refine g_iload_n f 1 dX11_put_8 rfl rfl ?_
  refine g_imul f dX11_put_9 ?_
  refine g_iadd f dX11_put_10 ?_
  refine g_iload_n f 2 dX11_put_11 rfl rfl ?_
  refine g_iadd f dX11_put_12 ?_
  refine g_iload_n f 3 dX11_put_13 rfl rfl ?_
  obtain ⟨v3, h⟩ := h
  refine g_iast f v3 dX11_put_14 h (fun h => ?_)
  exact g_vret f hq (Nat.le_of_ble_eq_true rfl) (Nat.le_of_ble_eq_true rfl) dX11_put_15 h
theorem c_X11_put {Ω : OM} {o0 : Nat} {i1 : Int32} {i2 : Int32} {i3 : Int32} {μ : Me} {Q : Me → Prop} (h : S_X11_put o0 i1 i2 i3 μ Q) : CT Ω yX11_put cX11_put 4 none (rmc 0 0 0) [.ref (oB Ω + o0), .int i1, .int i2, .int i3] μ (qV Q) := CT_of (by decide) rfl (by simp [lg_sl, Value.category]) (fun x hΩ f hq hi => by subst hΩ; exact t_X11_put f hq h)
theorem dX11_get_0 : decode cX11_get 0 = .ok (.aload_n 0, 1) := by decide +kernel
theorem dX11_get_1 : decode cX11_get 1 = .ok (.getfield 7, 3) := by decide +kernel
theorem dX11_get_4 : decode cX11_get 4 = .ok (.bipush 11, 2) := by decide +kernel
theorem dX11_get_6 : decode cX11_get 6 = .ok (.bipush 7, 2) := by decide +kernel
theorem dX11_get_8 : decode cX11_get 8 = .ok (.iload_n 1, 1) := by decide +kernel
theorem dX11_get_9 : decode cX11_get 9 = .ok (.imul, 1) := by decide +kernel
theorem dX11_get_10 : decode cX11_get 10 = .ok (.iadd, 1) := by decide +kernel
theorem dX11_get_11 : decode cX11_get 11 = .ok (.iload_n 2, 1) := by decide +kernel
theorem dX11_get_12 : decode cX11_get 12 = .ok (.iadd, 1) := by decide +kernel
theorem dX11_get_13 : decode cX11_get 13 = .ok (.iaload, 1) := by decide +kernel
theorem dX11_get_14 : decode cX11_get 14 = .ok (.ireturn, 1) := by decide +kernel
def S_X11_get (o0 : Nat) (i1 : Int32) (i2 : Int32) (μ : Me) (Q : Int32 → Me → Prop) : Prop := mok μ o0 11 ∧ ∃ t2, mgr μ o0 0 = some t2 ∧ mok μ t2 12 ∧ vp_in ((11 + (7 * i1)) + i2) (mln μ t2) ∧ Q (mgi μ t2 ((11 + (7 * i1)) + i2).toNatClampNeg) μ
set_option maxHeartbeats 4000000 in
set_option maxRecDepth 100000 in
theorem t_X11_get {x : GX} (f : Fx x cX11_get RX11 3 (rmc 0 0 0)) {o0 : Nat} {i1 : Int32} {i2 : Int32} {μ : Me} {Q : Int32 → Me → Prop} (hq : Rt x (some .int) (qI Q)) (h : S_X11_get o0 i1 i2 μ Q) : G x 3 0 [(0, .ref (gB x + o0)), (1, .int i1), (2, .int i2)] [] μ 0 0 := by
  unfold S_X11_get at h
  refine g_aload_n f 0 dX11_get_0 rfl rfl ?_
  obtain ⟨v1, h⟩ := h
  refine g_getR f fk_X11_7 v1 dX11_get_1 rfl h (fun t2 h => ?_)
  refine g_bipush f 11 dX11_get_4 kb_11 ?_
  refine g_bipush f 7 dX11_get_6 kb_7 ?_
  refine g_iload_n f 1 dX11_get_8 rfl rfl ?_
  refine g_imul f dX11_get_9 ?_
  refine g_iadd f dX11_get_10 ?_
  refine g_iload_n f 2 dX11_get_11 rfl rfl ?_
  refine g_iadd f dX11_get_12 ?_
  obtain ⟨v3, h⟩ := h
  refine g_iald f v3 dX11_get_13 h (fun h => ?_)
  exact g_iret f hq (Nat.le_of_ble_eq_true rfl) (Nat.le_of_ble_eq_true rfl) dX11_get_14 h
theorem c_X11_get {Ω : OM} {o0 : Nat} {i1 : Int32} {i2 : Int32} {μ : Me} {Q : Int32 → Me → Prop} (h : S_X11_get o0 i1 i2 μ Q) : CT Ω yX11_get cX11_get 3 (some .int) (rmc 0 0 0) [.ref (oB Ω + o0), .int i1, .int i2] μ (qI Q) := CT_of (by decide) rfl (by simp [lg_sl, Value.category]) (fun x hΩ f hq hi => by subst hΩ; exact t_X11_get f hq h)
theorem dX11_begin_0 : decode cX11_begin 0 = .ok (.aload_n 0, 1) := by decide +kernel
theorem dX11_begin_1 : decode cX11_begin 1 = .ok (.iload_n 1, 1) := by decide +kernel
theorem dX11_begin_2 : decode cX11_begin 2 = .ok (.iconst 0, 1) := by decide +kernel
theorem dX11_begin_3 : decode cX11_begin 3 = .ok (.aload_n 0, 1) := by decide +kernel
theorem dX11_begin_4 : decode cX11_begin 4 = .ok (.iload_n 1, 1) := by decide +kernel
theorem dX11_begin_5 : decode cX11_begin 5 = .ok (.bipush 6, 2) := by decide +kernel
theorem dX11_begin_7 : decode cX11_begin 7 = .ok (.invokevirtual 74, 3) := by decide +kernel
theorem dX11_begin_10 : decode cX11_begin 10 = .ok (.invokevirtual 78, 3) := by decide +kernel
theorem dX11_begin_13 : decode cX11_begin 13 = .ok (.aload_n 0, 1) := by decide +kernel
theorem dX11_begin_14 : decode cX11_begin 14 = .ok (.iload_n 1, 1) := by decide +kernel
theorem dX11_begin_15 : decode cX11_begin 15 = .ok (.iconst 1, 1) := by decide +kernel
theorem dX11_begin_16 : decode cX11_begin 16 = .ok (.iconst 0, 1) := by decide +kernel
theorem dX11_begin_17 : decode cX11_begin 17 = .ok (.invokevirtual 78, 3) := by decide +kernel
theorem dX11_begin_20 : decode cX11_begin 20 = .ok (.aload_n 0, 1) := by decide +kernel
theorem dX11_begin_21 : decode cX11_begin 21 = .ok (.iload_n 1, 1) := by decide +kernel
theorem dX11_begin_22 : decode cX11_begin 22 = .ok (.iconst 2, 1) := by decide +kernel
theorem dX11_begin_23 : decode cX11_begin 23 = .ok (.iconst 0, 1) := by decide +kernel
theorem dX11_begin_24 : decode cX11_begin 24 = .ok (.invokevirtual 78, 3) := by decide +kernel
theorem dX11_begin_27 : decode cX11_begin 27 = .ok (.return_, 1) := by decide +kernel
def S_X11_begin (o0 : Nat) (i1 : Int32) (μ : Me) (Q : Me → Prop) : Prop := mok μ o0 11 ∧ S_X11_get o0 i1 6 μ (fun r4 μ2 => S_X11_put o0 i1 0 r4 μ2 (fun μ5 => S_X11_put o0 i1 1 0 μ5 (fun μ8 => S_X11_put o0 i1 2 0 μ8 (fun μ11 => Q μ11))))
set_option maxHeartbeats 4000000 in
set_option maxRecDepth 100000 in
theorem t_X11_begin {x : GX} (f : Fx x cX11_begin RX11 2 (rmc 1 0 0)) {o0 : Nat} {i1 : Int32} {μ : Me} {Q : Me → Prop} (hq : Rt x none (qV Q)) (h : S_X11_begin o0 i1 μ Q) : G x 2 0 [(0, .ref (gB x + o0)), (1, .int i1)] [] μ 0 0 := by
  unfold S_X11_begin at h
  refine g_aload_n f 0 dX11_begin_0 rfl rfl ?_
  refine g_iload_n f 1 dX11_begin_1 rfl rfl ?_
  refine g_iconst f 0 dX11_begin_2 kc_0 ?_
  refine g_aload_n f 0 dX11_begin_3 rfl rfl ?_
  refine g_iload_n f 1 dX11_begin_4 rfl rfl ?_
  refine g_bipush f 6 dX11_begin_5 kb_6 ?_
  obtain ⟨v1, h⟩ := h
  refine g_callV f mk_X11_74 v1 (c_X11_get h) dX11_begin_7 rfl rfl (Nat.le_of_ble_eq_true rfl) (rm_ok (by decide) (by decide)) ⟨Nat.le_of_ble_eq_true rfl, Nat.le_of_ble_eq_true rfl⟩ (kI fun r4 μ2 x3 h => ?_)
  have v1 := mex_ok x3 v1
  refine g_callV f mk_X11_78 v1 (c_X11_put h) dX11_begin_10 rfl rfl (Nat.le_of_ble_eq_true rfl) (rm_ok (by decide) (by decide)) ⟨Nat.le_of_ble_eq_true rfl, Nat.le_of_ble_eq_true rfl⟩ (kV fun μ5 x6 h => ?_)
  refine g_aload_n f 0 dX11_begin_13 rfl rfl ?_
  refine g_iload_n f 1 dX11_begin_14 rfl rfl ?_
  refine g_iconst f 1 dX11_begin_15 kc_1 ?_
  refine g_iconst f 0 dX11_begin_16 kc_0 ?_
  have v1 := mex_ok x6 v1
  refine g_callV f mk_X11_78 v1 (c_X11_put h) dX11_begin_17 rfl rfl (Nat.le_of_ble_eq_true rfl) (rm_ok (by decide) (by decide)) ⟨Nat.le_of_ble_eq_true rfl, Nat.le_of_ble_eq_true rfl⟩ (kV fun μ8 x9 h => ?_)
  refine g_aload_n f 0 dX11_begin_20 rfl rfl ?_
  refine g_iload_n f 1 dX11_begin_21 rfl rfl ?_
  refine g_iconst f 2 dX11_begin_22 kc_2 ?_
  refine g_iconst f 0 dX11_begin_23 kc_0 ?_
  have v1 := mex_ok x9 v1
  refine g_callV f mk_X11_78 v1 (c_X11_put h) dX11_begin_24 rfl rfl (Nat.le_of_ble_eq_true rfl) (rm_ok (by decide) (by decide)) ⟨Nat.le_of_ble_eq_true rfl, Nat.le_of_ble_eq_true rfl⟩ (kV fun μ11 x12 h => ?_)
  exact g_vret f hq (Nat.le_of_ble_eq_true rfl) (Nat.le_of_ble_eq_true rfl) dX11_begin_27 h
theorem c_X11_begin {Ω : OM} {o0 : Nat} {i1 : Int32} {μ : Me} {Q : Me → Prop} (h : S_X11_begin o0 i1 μ Q) : CT Ω yX11_begin cX11_begin 2 none (rmc 1 0 0) [.ref (oB Ω + o0), .int i1] μ (qV Q) := CT_of (by decide) rfl (by simp [lg_sl, Value.category]) (fun x hΩ f hq hi => by subst hΩ; exact t_X11_begin f hq h)
theorem dX11_person_0 : decode cX11_person 0 = .ok (.iload_n 1, 1) := by decide +kernel
theorem dX11_person_1 : decode cX11_person 1 = .ok (.iconst 0, 1) := by decide +kernel
theorem dX11_person_2 : decode cX11_person 2 = .ok (.iconst 3, 1) := by decide +kernel
theorem dX11_person_3 : decode cX11_person 3 = .ok (.invokestatic 66, 3) := by decide +kernel
theorem dX11_person_6 : decode cX11_person 6 = .ok (.ifCond .eq 45, 3) := by decide +kernel
theorem dX11_person_9 : decode cX11_person 9 = .ok (.iload_n 2, 1) := by decide +kernel
theorem dX11_person_10 : decode cX11_person 10 = .ok (.iconst 1, 1) := by decide +kernel
theorem dX11_person_11 : decode cX11_person 11 = .ok (.bipush 99, 2) := by decide +kernel
theorem dX11_person_13 : decode cX11_person 13 = .ok (.invokestatic 66, 3) := by decide +kernel
theorem dX11_person_16 : decode cX11_person 16 = .ok (.ifCond .eq 35, 3) := by decide +kernel
theorem dX11_person_19 : decode cX11_person 19 = .ok (.iload_n 3, 1) := by decide +kernel
theorem dX11_person_20 : decode cX11_person 20 = .ok (.iconst 1, 1) := by decide +kernel
theorem dX11_person_21 : decode cX11_person 21 = .ok (.bipush 99, 2) := by decide +kernel
theorem dX11_person_23 : decode cX11_person 23 = .ok (.invokestatic 66, 3) := by decide +kernel
theorem dX11_person_26 : decode cX11_person 26 = .ok (.ifCond .eq 25, 3) := by decide +kernel
theorem dX11_person_29 : decode cX11_person 29 = .ok (.iload 4, 2) := by decide +kernel
theorem dX11_person_31 : decode cX11_person 31 = .ok (.iconst 0, 1) := by decide +kernel
theorem dX11_person_32 : decode cX11_person 32 = .ok (.bipush 99, 2) := by decide +kernel
theorem dX11_person_34 : decode cX11_person 34 = .ok (.invokestatic 66, 3) := by decide +kernel
theorem dX11_person_37 : decode cX11_person 37 = .ok (.ifCond .eq 14, 3) := by decide +kernel
theorem dX11_person_40 : decode cX11_person 40 = .ok (.aload_n 0, 1) := by decide +kernel
theorem dX11_person_41 : decode cX11_person 41 = .ok (.getfield 7, 3) := by decide +kernel
theorem dX11_person_44 : decode cX11_person 44 = .ok (.iconst 0, 1) := by decide +kernel
theorem dX11_person_45 : decode cX11_person 45 = .ok (.iaload, 1) := by decide +kernel
theorem dX11_person_46 : decode cX11_person 46 = .ok (.bipush 8, 2) := by decide +kernel
theorem dX11_person_48 : decode cX11_person 48 = .ok (.if_icmp .ne 5, 3) := by decide +kernel
theorem dX11_person_51 : decode cX11_person 51 = .ok (.iconst (-1), 1) := by decide +kernel
theorem dX11_person_52 : decode cX11_person 52 = .ok (.ireturn, 1) := by decide +kernel
theorem dX11_person_53 : decode cX11_person 53 = .ok (.aload_n 0, 1) := by decide +kernel
theorem dX11_person_54 : decode cX11_person 54 = .ok (.getfield 7, 3) := by decide +kernel
theorem dX11_person_57 : decode cX11_person 57 = .ok (.iconst 0, 1) := by decide +kernel
theorem dX11_person_58 : decode cX11_person 58 = .ok (.iaload, 1) := by decide +kernel
theorem dX11_person_59 : decode cX11_person 59 = .ok (.istore 5, 2) := by decide +kernel
theorem dX11_person_61 : decode cX11_person 61 = .ok (.aload_n 0, 1) := by decide +kernel
theorem dX11_person_62 : decode cX11_person 62 = .ok (.iload 5, 2) := by decide +kernel
theorem dX11_person_64 : decode cX11_person 64 = .ok (.iconst 3, 1) := by decide +kernel
theorem dX11_person_65 : decode cX11_person 65 = .ok (.iload_n 1, 1) := by decide +kernel
theorem dX11_person_66 : decode cX11_person 66 = .ok (.invokevirtual 78, 3) := by decide +kernel
theorem dX11_person_69 : decode cX11_person 69 = .ok (.aload_n 0, 1) := by decide +kernel
theorem dX11_person_70 : decode cX11_person 70 = .ok (.iload 5, 2) := by decide +kernel
theorem dX11_person_72 : decode cX11_person 72 = .ok (.iconst 4, 1) := by decide +kernel
theorem dX11_person_73 : decode cX11_person 73 = .ok (.iload_n 2, 1) := by decide +kernel
theorem dX11_person_74 : decode cX11_person 74 = .ok (.invokevirtual 78, 3) := by decide +kernel
theorem dX11_person_77 : decode cX11_person 77 = .ok (.aload_n 0, 1) := by decide +kernel
theorem dX11_person_78 : decode cX11_person 78 = .ok (.iload 5, 2) := by decide +kernel
theorem dX11_person_80 : decode cX11_person 80 = .ok (.iconst 5, 1) := by decide +kernel
theorem dX11_person_81 : decode cX11_person 81 = .ok (.iload_n 3, 1) := by decide +kernel
theorem dX11_person_82 : decode cX11_person 82 = .ok (.invokevirtual 78, 3) := by decide +kernel
theorem dX11_person_85 : decode cX11_person 85 = .ok (.aload_n 0, 1) := by decide +kernel
theorem dX11_person_86 : decode cX11_person 86 = .ok (.iload 5, 2) := by decide +kernel
theorem dX11_person_88 : decode cX11_person 88 = .ok (.bipush 6, 2) := by decide +kernel
theorem dX11_person_90 : decode cX11_person 90 = .ok (.iload 4, 2) := by decide +kernel
theorem dX11_person_92 : decode cX11_person 92 = .ok (.invokevirtual 78, 3) := by decide +kernel
theorem dX11_person_95 : decode cX11_person 95 = .ok (.aload_n 0, 1) := by decide +kernel
theorem dX11_person_96 : decode cX11_person 96 = .ok (.iload 5, 2) := by decide +kernel
theorem dX11_person_98 : decode cX11_person 98 = .ok (.invokevirtual 82, 3) := by decide +kernel
theorem dX11_person_101 : decode cX11_person 101 = .ok (.aload_n 0, 1) := by decide +kernel
theorem dX11_person_102 : decode cX11_person 102 = .ok (.getfield 7, 3) := by decide +kernel
theorem dX11_person_105 : decode cX11_person 105 = .ok (.iconst 0, 1) := by decide +kernel
theorem dX11_person_106 : decode cX11_person 106 = .ok (.dup2, 1) := by decide +kernel
theorem dX11_person_107 : decode cX11_person 107 = .ok (.iaload, 1) := by decide +kernel
theorem dX11_person_108 : decode cX11_person 108 = .ok (.iconst 1, 1) := by decide +kernel
theorem dX11_person_109 : decode cX11_person 109 = .ok (.iadd, 1) := by decide +kernel
theorem dX11_person_110 : decode cX11_person 110 = .ok (.iastore, 1) := by decide +kernel
theorem dX11_person_111 : decode cX11_person 111 = .ok (.iload 5, 2) := by decide +kernel
theorem dX11_person_113 : decode cX11_person 113 = .ok (.ireturn, 1) := by decide +kernel
def S_X11_person (o0 : Nat) (i1 : Int32) (i2 : Int32) (i3 : Int32) (i4 : Int32) (μ : Me) (Q : Int32 → Me → Prop) : Prop := S_X11_isIn i1 0 3 μ (fun r3 μ1 => ((r3 = 0 → Q (-1) μ1) ∧ (¬ r3 = 0 → S_X11_isIn i2 1 99 μ1 (fun r6 μ4 => ((r6 = 0 → Q (-1) μ4) ∧ (¬ r6 = 0 → S_X11_isIn i3 1 99 μ4 (fun r9 μ7 => ((r9 = 0 → Q (-1) μ7) ∧ (¬ r9 = 0 → S_X11_isIn i4 0 99 μ7 (fun r12 μ10 => ((r12 = 0 → Q (-1) μ10) ∧ (¬ r12 = 0 → mok μ10 o0 11 ∧ ∃ t14, mgr μ10 o0 0 = some t14 ∧ mok μ10 t14 12 ∧ vp_in (0 : Int32) (mln μ10 t14) ∧ ((¬ (mgi μ10 t14 (0 : Int32).toNatClampNeg) = 8 → ∃ t16, mgr μ10 o0 0 = some t16 ∧ mok μ10 t16 12 ∧ vp_in (0 : Int32) (mln μ10 t16) ∧ S_X11_put o0 (mgi μ10 t16 (0 : Int32).toNatClampNeg) 3 i1 μ10 (fun μ18 => S_X11_put o0 (mgi μ10 t16 (0 : Int32).toNatClampNeg) 4 i2 μ18 (fun μ21 => S_X11_put o0 (mgi μ10 t16 (0 : Int32).toNatClampNeg) 5 i3 μ21 (fun μ24 => S_X11_put o0 (mgi μ10 t16 (0 : Int32).toNatClampNeg) 6 i4 μ24 (fun μ27 => S_X11_begin o0 (mgi μ10 t16 (0 : Int32).toNatClampNeg) μ27 (fun μ30 => ∃ t33, mgr μ30 o0 0 = some t33 ∧ mok μ30 t33 12 ∧ vp_in (0 : Int32) (mln μ30 t33) ∧ vp_in (0 : Int32) (mln μ30 t33) ∧ ∀ μ35, μ35 = msi μ30 t33 (0 : Int32).toNatClampNeg ((mgi μ30 t33 (0 : Int32).toNatClampNeg) + 1) → Q (mgi μ10 t16 (0 : Int32).toNatClampNeg) μ35)))))) ∧ ((mgi μ10 t14 (0 : Int32).toNatClampNeg) = 8 → Q (-1) μ10))))))))))))))
set_option maxHeartbeats 4000000 in
set_option maxRecDepth 100000 in
theorem t_X11_person {x : GX} (f : Fx x cX11_person RX11 6 (rmc 2 0 0)) {o0 : Nat} {i1 : Int32} {i2 : Int32} {i3 : Int32} {i4 : Int32} {μ : Me} {Q : Int32 → Me → Prop} (hq : Rt x (some .int) (qI Q)) (h : S_X11_person o0 i1 i2 i3 i4 μ Q) : G x 6 0 [(0, .ref (gB x + o0)), (1, .int i1), (2, .int i2), (3, .int i3), (4, .int i4)] [] μ 0 0 := by
  unfold S_X11_person at h
  refine g_iload_n f 1 dX11_person_0 rfl rfl ?_
  refine g_iconst f 0 dX11_person_1 kc_0 ?_
  refine g_iconst f 3 dX11_person_2 kc_3 ?_
  refine g_callS f mk_X11_66 (c_X11_isIn h) dX11_person_3 rfl rfl (Nat.le_of_ble_eq_true rfl) (rm_ok (by decide) (by decide)) ⟨Nat.le_of_ble_eq_true rfl, Nat.le_of_ble_eq_true rfl⟩ (kI fun r3 μ1 x2 h => ?_)
  refine g_if_eq f 51 dX11_person_6 rfl h (fun h => ?_) (fun h => ?_)
  · refine g_iconst f (-1) dX11_person_51 kc_m1 ?_
    exact g_iret f hq (Nat.le_of_ble_eq_true rfl) (Nat.le_of_ble_eq_true rfl) dX11_person_52 h
  · refine g_iload_n f 2 dX11_person_9 rfl rfl ?_
    refine g_iconst f 1 dX11_person_10 kc_1 ?_
    refine g_bipush f 99 dX11_person_11 kb_99 ?_
    refine g_callS f mk_X11_66 (c_X11_isIn h) dX11_person_13 rfl rfl (Nat.le_of_ble_eq_true rfl) (rm_ok (by decide) (by decide)) ⟨Nat.le_of_ble_eq_true rfl, Nat.le_of_ble_eq_true rfl⟩ (kI fun r6 μ4 x5 h => ?_)
    refine g_if_eq f 51 dX11_person_16 rfl h (fun h => ?_) (fun h => ?_)
    · refine g_iconst f (-1) dX11_person_51 kc_m1 ?_
      exact g_iret f hq (Nat.le_of_ble_eq_true rfl) (Nat.le_of_ble_eq_true rfl) dX11_person_52 h
    · refine g_iload_n f 3 dX11_person_19 rfl rfl ?_
      refine g_iconst f 1 dX11_person_20 kc_1 ?_
      refine g_bipush f 99 dX11_person_21 kb_99 ?_
      refine g_callS f mk_X11_66 (c_X11_isIn h) dX11_person_23 rfl rfl (Nat.le_of_ble_eq_true rfl) (rm_ok (by decide) (by decide)) ⟨Nat.le_of_ble_eq_true rfl, Nat.le_of_ble_eq_true rfl⟩ (kI fun r9 μ7 x8 h => ?_)
      refine g_if_eq f 51 dX11_person_26 rfl h (fun h => ?_) (fun h => ?_)
      · refine g_iconst f (-1) dX11_person_51 kc_m1 ?_
        exact g_iret f hq (Nat.le_of_ble_eq_true rfl) (Nat.le_of_ble_eq_true rfl) dX11_person_52 h
      · refine g_iload f 4 dX11_person_29 rfl ?_
        refine g_iconst f 0 dX11_person_31 kc_0 ?_
        refine g_bipush f 99 dX11_person_32 kb_99 ?_
        refine g_callS f mk_X11_66 (c_X11_isIn h) dX11_person_34 rfl rfl (Nat.le_of_ble_eq_true rfl) (rm_ok (by decide) (by decide)) ⟨Nat.le_of_ble_eq_true rfl, Nat.le_of_ble_eq_true rfl⟩ (kI fun r12 μ10 x11 h => ?_)
        refine g_if_eq f 51 dX11_person_37 rfl h (fun h => ?_) (fun h => ?_)
        · refine g_iconst f (-1) dX11_person_51 kc_m1 ?_
          exact g_iret f hq (Nat.le_of_ble_eq_true rfl) (Nat.le_of_ble_eq_true rfl) dX11_person_52 h
        · refine g_aload_n f 0 dX11_person_40 rfl rfl ?_
          obtain ⟨v13, h⟩ := h
          refine g_getR f fk_X11_7 v13 dX11_person_41 rfl h (fun t14 h => ?_)
          refine g_iconst f 0 dX11_person_44 kc_0 ?_
          obtain ⟨v15, h⟩ := h
          refine g_iald f v15 dX11_person_45 h (fun h => ?_)
          refine g_bipush f 8 dX11_person_46 kb_8 ?_
          refine g_ic_ne f 53 dX11_person_48 rfl h (fun h => ?_) (fun h => ?_)
          · refine g_aload_n f 0 dX11_person_53 rfl rfl ?_
            refine g_getR f fk_X11_7 v13 dX11_person_54 rfl h (fun t16 h => ?_)
            refine g_iconst f 0 dX11_person_57 kc_0 ?_
            obtain ⟨v17, h⟩ := h
            refine g_iald f v17 dX11_person_58 h (fun h => ?_)
            refine h_istore f dX11_person_59 (by decide) ?_
            refine g_aload_n f 1 dX11_person_61 rfl rfl ?_
            refine g_iload f 0 dX11_person_62 rfl ?_
            refine g_iconst f 3 dX11_person_64 kc_3 ?_
            refine g_iload_n f 2 dX11_person_65 rfl rfl ?_
            refine g_callV f mk_X11_78 v13 (c_X11_put h) dX11_person_66 rfl rfl (Nat.le_of_ble_eq_true rfl) (rm_ok (by decide) (by decide)) ⟨Nat.le_of_ble_eq_true rfl, Nat.le_of_ble_eq_true rfl⟩ (kV fun μ18 x19 h => ?_)
            refine g_aload_n f 1 dX11_person_69 rfl rfl ?_
            refine g_iload f 0 dX11_person_70 rfl ?_
            refine g_iconst f 4 dX11_person_72 kc_4 ?_
            refine g_iload_n f 3 dX11_person_73 rfl rfl ?_
            have v13 := mex_ok x19 v13
            refine g_callV f mk_X11_78 v13 (c_X11_put h) dX11_person_74 rfl rfl (Nat.le_of_ble_eq_true rfl) (rm_ok (by decide) (by decide)) ⟨Nat.le_of_ble_eq_true rfl, Nat.le_of_ble_eq_true rfl⟩ (kV fun μ21 x22 h => ?_)
            refine g_aload_n f 1 dX11_person_77 rfl rfl ?_
            refine g_iload f 0 dX11_person_78 rfl ?_
            refine g_iconst f 5 dX11_person_80 kc_5 ?_
            refine g_iload_n f 4 dX11_person_81 rfl rfl ?_
            have v13 := mex_ok x22 v13
            refine g_callV f mk_X11_78 v13 (c_X11_put h) dX11_person_82 rfl rfl (Nat.le_of_ble_eq_true rfl) (rm_ok (by decide) (by decide)) ⟨Nat.le_of_ble_eq_true rfl, Nat.le_of_ble_eq_true rfl⟩ (kV fun μ24 x25 h => ?_)
            refine g_aload_n f 1 dX11_person_85 rfl rfl ?_
            refine g_iload f 0 dX11_person_86 rfl ?_
            refine g_bipush f 6 dX11_person_88 kb_6 ?_
            refine g_iload f 5 dX11_person_90 rfl ?_
            have v13 := mex_ok x25 v13
            refine g_callV f mk_X11_78 v13 (c_X11_put h) dX11_person_92 rfl rfl (Nat.le_of_ble_eq_true rfl) (rm_ok (by decide) (by decide)) ⟨Nat.le_of_ble_eq_true rfl, Nat.le_of_ble_eq_true rfl⟩ (kV fun μ27 x28 h => ?_)
            refine g_aload_n f 1 dX11_person_95 rfl rfl ?_
            refine g_iload f 0 dX11_person_96 rfl ?_
            have v13 := mex_ok x28 v13
            refine g_callV f mk_X11_82 v13 (c_X11_begin h) dX11_person_98 rfl rfl (Nat.le_of_ble_eq_true rfl) (rm_ok (by decide) (by decide)) ⟨Nat.le_of_ble_eq_true rfl, Nat.le_of_ble_eq_true rfl⟩ (kV fun μ30 x31 h => ?_)
            refine g_aload_n f 1 dX11_person_101 rfl rfl ?_
            have v13 := mex_ok x31 v13
            refine g_getR f fk_X11_7 v13 dX11_person_102 rfl h (fun t33 h => ?_)
            refine g_iconst f 0 dX11_person_105 kc_0 ?_
            refine g_dup2_11 f dX11_person_106 rfl rfl ?_
            obtain ⟨v34, h⟩ := h
            refine g_iald f v34 dX11_person_107 h (fun h => ?_)
            refine g_iconst f 1 dX11_person_108 kc_1 ?_
            refine g_iadd f dX11_person_109 ?_
            refine g_iast f v34 dX11_person_110 h (fun h => ?_)
            refine g_iload f 0 dX11_person_111 rfl ?_
            exact g_iret f hq (Nat.le_of_ble_eq_true rfl) (Nat.le_of_ble_eq_true rfl) dX11_person_113 h
          · refine g_iconst f (-1) dX11_person_51 kc_m1 ?_
            exact g_iret f hq (Nat.le_of_ble_eq_true rfl) (Nat.le_of_ble_eq_true rfl) dX11_person_52 h
theorem c_X11_person {Ω : OM} {o0 : Nat} {i1 : Int32} {i2 : Int32} {i3 : Int32} {i4 : Int32} {μ : Me} {Q : Int32 → Me → Prop} (h : S_X11_person o0 i1 i2 i3 i4 μ Q) : CT Ω yX11_person cX11_person 6 (some .int) (rmc 2 0 0) [.ref (oB Ω + o0), .int i1, .int i2, .int i3, .int i4] μ (qI Q) := CT_of (by decide) rfl (by simp [lg_sl, Value.category]) (fun x hΩ f hq hi => by subst hΩ; exact t_X11_person f hq h)
theorem dX11_hears_0 : decode cX11_hears 0 = .ok (.iload_n 1, 1) := by decide +kernel
theorem dX11_hears_1 : decode cX11_hears 1 = .ok (.iconst 0, 1) := by decide +kernel
theorem dX11_hears_2 : decode cX11_hears 2 = .ok (.bipush 7, 2) := by decide +kernel
theorem dX11_hears_4 : decode cX11_hears 4 = .ok (.invokestatic 66, 3) := by decide +kernel
theorem dX11_hears_7 : decode cX11_hears 7 = .ok (.ifCond .eq 13, 3) := by decide +kernel
theorem dX11_hears_10 : decode cX11_hears 10 = .ok (.iload_n 2, 1) := by decide +kernel
theorem dX11_hears_11 : decode cX11_hears 11 = .ok (.iconst 0, 1) := by decide +kernel
theorem dX11_hears_12 : decode cX11_hears 12 = .ok (.bipush 7, 2) := by decide +kernel
theorem dX11_hears_14 : decode cX11_hears 14 = .ok (.invokestatic 66, 3) := by decide +kernel
theorem dX11_hears_17 : decode cX11_hears 17 = .ok (.ifCond .ne 5, 3) := by decide +kernel
theorem dX11_hears_20 : decode cX11_hears 20 = .ok (.iconst 0, 1) := by decide +kernel
theorem dX11_hears_21 : decode cX11_hears 21 = .ok (.ireturn, 1) := by decide +kernel
theorem dX11_hears_22 : decode cX11_hears 22 = .ok (.aload_n 0, 1) := by decide +kernel
theorem dX11_hears_23 : decode cX11_hears 23 = .ok (.getfield 7, 3) := by decide +kernel
theorem dX11_hears_26 : decode cX11_hears 26 = .ok (.bipush 67, 2) := by decide +kernel
theorem dX11_hears_28 : decode cX11_hears 28 = .ok (.iload_n 1, 1) := by decide +kernel
theorem dX11_hears_29 : decode cX11_hears 29 = .ok (.iadd, 1) := by decide +kernel
theorem dX11_hears_30 : decode cX11_hears 30 = .ok (.iload_n 3, 1) := by decide +kernel
theorem dX11_hears_31 : decode cX11_hears 31 = .ok (.ifCond .eq 19, 3) := by decide +kernel
theorem dX11_hears_34 : decode cX11_hears 34 = .ok (.aload_n 0, 1) := by decide +kernel
theorem dX11_hears_35 : decode cX11_hears 35 = .ok (.getfield 7, 3) := by decide +kernel
theorem dX11_hears_38 : decode cX11_hears 38 = .ok (.bipush 67, 2) := by decide +kernel
theorem dX11_hears_40 : decode cX11_hears 40 = .ok (.iload_n 1, 1) := by decide +kernel
theorem dX11_hears_41 : decode cX11_hears 41 = .ok (.iadd, 1) := by decide +kernel
theorem dX11_hears_42 : decode cX11_hears 42 = .ok (.iaload, 1) := by decide +kernel
theorem dX11_hears_43 : decode cX11_hears 43 = .ok (.iconst 1, 1) := by decide +kernel
theorem dX11_hears_44 : decode cX11_hears 44 = .ok (.iload_n 2, 1) := by decide +kernel
theorem dX11_hears_45 : decode cX11_hears 45 = .ok (.ishl, 1) := by decide +kernel
theorem dX11_hears_46 : decode cX11_hears 46 = .ok (.ior, 1) := by decide +kernel
theorem dX11_hears_47 : decode cX11_hears 47 = .ok (.goto 18, 3) := by decide +kernel
theorem dX11_hears_50 : decode cX11_hears 50 = .ok (.aload_n 0, 1) := by decide +kernel
theorem dX11_hears_51 : decode cX11_hears 51 = .ok (.getfield 7, 3) := by decide +kernel
theorem dX11_hears_54 : decode cX11_hears 54 = .ok (.bipush 67, 2) := by decide +kernel
theorem dX11_hears_56 : decode cX11_hears 56 = .ok (.iload_n 1, 1) := by decide +kernel
theorem dX11_hears_57 : decode cX11_hears 57 = .ok (.iadd, 1) := by decide +kernel
theorem dX11_hears_58 : decode cX11_hears 58 = .ok (.iaload, 1) := by decide +kernel
theorem dX11_hears_59 : decode cX11_hears 59 = .ok (.iconst 1, 1) := by decide +kernel
theorem dX11_hears_60 : decode cX11_hears 60 = .ok (.iload_n 2, 1) := by decide +kernel
theorem dX11_hears_61 : decode cX11_hears 61 = .ok (.ishl, 1) := by decide +kernel
theorem dX11_hears_62 : decode cX11_hears 62 = .ok (.iconst (-1), 1) := by decide +kernel
theorem dX11_hears_63 : decode cX11_hears 63 = .ok (.ixor, 1) := by decide +kernel
theorem dX11_hears_64 : decode cX11_hears 64 = .ok (.iand, 1) := by decide +kernel
theorem dX11_hears_65 : decode cX11_hears 65 = .ok (.iastore, 1) := by decide +kernel
theorem dX11_hears_66 : decode cX11_hears 66 = .ok (.iconst 1, 1) := by decide +kernel
theorem dX11_hears_67 : decode cX11_hears 67 = .ok (.ireturn, 1) := by decide +kernel
def B_X11_hears_65 (s0 : Int32) (s1 : Int32) (s2 : Option Nat) (μ : Me) (Q : Int32 → Me → Prop) : Prop := ∃ t11, s2 = some t11 ∧ mok μ t11 12 ∧ vp_in s1 (mln μ t11) ∧ ∀ μ15, μ15 = msi μ t11 s1.toNatClampNeg s0 → Q 1 μ15
set_option maxHeartbeats 4000000 in
set_option maxRecDepth 100000 in
theorem tB_X11_hears_65 {x : GX} (f : Fx x cX11_hears RX11 4 (rmc 1 0 0)) {s0 : Int32} {s1 : Int32} {s2 : Option Nat} {μ : Me} {Q : Int32 → Me → Prop} (hq : Rt x (some .boolean) (qI Q)) (h : B_X11_hears_65 s0 s1 s2 μ Q) : G x 4 65 [] [.int s0, .int s1, vr (gB x) s2] μ 0 0 := by
  unfold B_X11_hears_65 at h
  obtain ⟨t11, e12, h13⟩ := h
  subst e12
  have h := h13
  obtain ⟨v14, h⟩ := h
  refine g_iast f v14 dX11_hears_65 h (fun h => ?_)
  refine g_iconst f 1 dX11_hears_66 kc_1 ?_
  exact g_zret f hq (Nat.le_of_ble_eq_true rfl) (Nat.le_of_ble_eq_true rfl) dX11_hears_67 zb_1.1 h
def S_X11_hears (o0 : Nat) (i1 : Int32) (i2 : Int32) (i3 : Int32) (μ : Me) (Q : Int32 → Me → Prop) : Prop := S_X11_isIn i1 0 7 μ (fun r3 μ1 => ((r3 = 0 → Q 0 μ1) ∧ (¬ r3 = 0 → S_X11_isIn i2 0 7 μ1 (fun r6 μ4 => ((¬ r6 = 0 → mok μ4 o0 11 ∧ ∃ t8, mgr μ4 o0 0 = some t8 ∧ ((i3 = 0 → ∃ t9, mgr μ4 o0 0 = some t9 ∧ mok μ4 t9 12 ∧ vp_in (67 + i1) (mln μ4 t9) ∧ B_X11_hears_65 ((mgi μ4 t9 (67 + i1).toNatClampNeg) &&& ((1 <<< (i2 &&& 31)) ^^^ (-1))) (67 + i1) (some t8) μ4 Q) ∧ (¬ i3 = 0 → ∃ t16, mgr μ4 o0 0 = some t16 ∧ mok μ4 t16 12 ∧ vp_in (67 + i1) (mln μ4 t16) ∧ B_X11_hears_65 ((mgi μ4 t16 (67 + i1).toNatClampNeg) ||| (1 <<< (i2 &&& 31))) (67 + i1) (some t8) μ4 Q))) ∧ (r6 = 0 → Q 0 μ4))))))
set_option maxHeartbeats 4000000 in
set_option maxRecDepth 100000 in
theorem t_X11_hears {x : GX} (f : Fx x cX11_hears RX11 4 (rmc 1 0 0)) {o0 : Nat} {i1 : Int32} {i2 : Int32} {i3 : Int32} {μ : Me} {Q : Int32 → Me → Prop} (hq : Rt x (some .boolean) (qI Q)) (h : S_X11_hears o0 i1 i2 i3 μ Q) : G x 4 0 [(0, .ref (gB x + o0)), (1, .int i1), (2, .int i2), (3, .int i3)] [] μ 0 0 := by
  unfold S_X11_hears at h
  refine g_iload_n f 1 dX11_hears_0 rfl rfl ?_
  refine g_iconst f 0 dX11_hears_1 kc_0 ?_
  refine g_bipush f 7 dX11_hears_2 kb_7 ?_
  refine g_callS f mk_X11_66 (c_X11_isIn h) dX11_hears_4 rfl rfl (Nat.le_of_ble_eq_true rfl) (rm_ok (by decide) (by decide)) ⟨Nat.le_of_ble_eq_true rfl, Nat.le_of_ble_eq_true rfl⟩ (kI fun r3 μ1 x2 h => ?_)
  refine g_if_eq f 20 dX11_hears_7 rfl h (fun h => ?_) (fun h => ?_)
  · refine g_iconst f 0 dX11_hears_20 kc_0 ?_
    exact g_zret f hq (Nat.le_of_ble_eq_true rfl) (Nat.le_of_ble_eq_true rfl) dX11_hears_21 zb_0.1 h
  · refine g_iload_n f 2 dX11_hears_10 rfl rfl ?_
    refine g_iconst f 0 dX11_hears_11 kc_0 ?_
    refine g_bipush f 7 dX11_hears_12 kb_7 ?_
    refine g_callS f mk_X11_66 (c_X11_isIn h) dX11_hears_14 rfl rfl (Nat.le_of_ble_eq_true rfl) (rm_ok (by decide) (by decide)) ⟨Nat.le_of_ble_eq_true rfl, Nat.le_of_ble_eq_true rfl⟩ (kI fun r6 μ4 x5 h => ?_)
    refine g_if_ne f 22 dX11_hears_17 rfl h (fun h => ?_) (fun h => ?_)
    · refine g_aload_n f 0 dX11_hears_22 rfl rfl ?_
      obtain ⟨v7, h⟩ := h
      refine g_getR f fk_X11_7 v7 dX11_hears_23 rfl h (fun t8 h => ?_)
      refine g_bipush f 67 dX11_hears_26 kb_67 ?_
      refine g_iload_n f 1 dX11_hears_28 rfl rfl ?_
      refine g_iadd f dX11_hears_29 ?_
      refine g_iload_n f 3 dX11_hears_30 rfl rfl ?_
      refine g_if_eq f 50 dX11_hears_31 rfl h (fun h => ?_) (fun h => ?_)
      · refine g_aload_n f 0 dX11_hears_50 rfl rfl ?_
        refine g_getR f fk_X11_7 v7 dX11_hears_51 rfl h (fun t9 h => ?_)
        refine g_bipush f 67 dX11_hears_54 kb_67 ?_
        refine g_iload_n f 1 dX11_hears_56 rfl rfl ?_
        refine g_iadd f dX11_hears_57 ?_
        obtain ⟨v10, h⟩ := h
        refine g_iald f v10 dX11_hears_58 h (fun h => ?_)
        refine g_iconst f 1 dX11_hears_59 kc_1 ?_
        refine g_iload_n f 2 dX11_hears_60 rfl rfl ?_
        refine g_ishl f dX11_hears_61 ?_
        refine g_iconst f (-1) dX11_hears_62 kc_m1 ?_
        refine g_ixor f dX11_hears_63 ?_
        refine g_iand f dX11_hears_64 ?_
        exact h_sub [] rfl (tB_X11_hears_65 f hq h)
      · refine g_aload_n f 0 dX11_hears_34 rfl rfl ?_
        refine g_getR f fk_X11_7 v7 dX11_hears_35 rfl h (fun t16 h => ?_)
        refine g_bipush f 67 dX11_hears_38 kb_67 ?_
        refine g_iload_n f 1 dX11_hears_40 rfl rfl ?_
        refine g_iadd f dX11_hears_41 ?_
        obtain ⟨v17, h⟩ := h
        refine g_iald f v17 dX11_hears_42 h (fun h => ?_)
        refine g_iconst f 1 dX11_hears_43 kc_1 ?_
        refine g_iload_n f 2 dX11_hears_44 rfl rfl ?_
        refine g_ishl f dX11_hears_45 ?_
        refine g_ior f dX11_hears_46 ?_
        refine g_goto f 65 dX11_hears_47 rfl ?_
        exact h_sub [] rfl (tB_X11_hears_65 f hq h)
    · refine g_iconst f 0 dX11_hears_20 kc_0 ?_
      exact g_zret f hq (Nat.le_of_ble_eq_true rfl) (Nat.le_of_ble_eq_true rfl) dX11_hears_21 zb_0.1 h
theorem c_X11_hears {Ω : OM} {o0 : Nat} {i1 : Int32} {i2 : Int32} {i3 : Int32} {μ : Me} {Q : Int32 → Me → Prop} (h : S_X11_hears o0 i1 i2 i3 μ Q) : CT Ω yX11_hears cX11_hears 4 (some .boolean) (rmc 1 0 0) [.ref (oB Ω + o0), .int i1, .int i2, .int i3] μ (qI Q) := CT_of (by decide) rfl (by simp [lg_sl, Value.category]) (fun x hΩ f hq hi => by subst hΩ; exact t_X11_hears f hq h)
theorem dX11_four_0 : decode cX11_four 0 = .ok (.bipush 24, 2) := by decide +kernel
theorem dX11_four_2 : decode cX11_four 2 = .ok (.istore_n 2, 1) := by decide +kernel
theorem dX11_four_3 : decode cX11_four 3 = .ok (.iload_n 2, 1) := by decide +kernel
theorem dX11_four_4 : decode cX11_four 4 = .ok (.ifCond .lt 35, 3) := by decide +kernel
theorem dX11_four_7 : decode cX11_four 7 = .ok (.aload_n 0, 1) := by decide +kernel
theorem dX11_four_8 : decode cX11_four 8 = .ok (.getfield 19, 3) := by decide +kernel
theorem dX11_four_11 : decode cX11_four 11 = .ok (.aload_n 0, 1) := by decide +kernel
theorem dX11_four_12 : decode cX11_four 12 = .ok (.getfield 86, 3) := by decide +kernel
theorem dX11_four_15 : decode cX11_four 15 = .ok (.iload_n 1, 1) := by decide +kernel
theorem dX11_four_16 : decode cX11_four 16 = .ok (.iload_n 2, 1) := by decide +kernel
theorem dX11_four_17 : decode cX11_four 17 = .ok (.ishr, 1) := by decide +kernel
theorem dX11_four_18 : decode cX11_four 18 = .ok (.sipush 255, 3) := by decide +kernel
theorem dX11_four_21 : decode cX11_four 21 = .ok (.iand, 1) := by decide +kernel
theorem dX11_four_22 : decode cX11_four 22 = .ok (.iastore, 1) := by decide +kernel
theorem dX11_four_23 : decode cX11_four 23 = .ok (.aload_n 0, 1) := by decide +kernel
theorem dX11_four_24 : decode cX11_four 24 = .ok (.dup, 1) := by decide +kernel
theorem dX11_four_25 : decode cX11_four 25 = .ok (.getfield 86, 3) := by decide +kernel
theorem dX11_four_28 : decode cX11_four 28 = .ok (.iconst 1, 1) := by decide +kernel
theorem dX11_four_29 : decode cX11_four 29 = .ok (.iadd, 1) := by decide +kernel
theorem dX11_four_30 : decode cX11_four 30 = .ok (.putfield 86, 3) := by decide +kernel
theorem dX11_four_33 : decode cX11_four 33 = .ok (.iinc 2 (-8), 3) := by decide +kernel
theorem dX11_four_36 : decode cX11_four 36 = .ok (.goto (-33), 3) := by decide +kernel
theorem dX11_four_39 : decode cX11_four 39 = .ok (.return_, 1) := by decide +kernel
def B_X11_four_3 (o0 : Nat) (i1 : Int32) (i2 : Int32) (μ : Me) (K3 : Int32 → Me → Prop) (Q : Me → Prop) : Prop := ((i2 < 0 → Q μ) ∧ (¬ i2 < 0 → mok μ o0 11 ∧ ∃ t2, mgr μ o0 3 = some t2 ∧ mok μ t2 12 ∧ vp_in (mgi μ o0 4) (mln μ t2) ∧ ∀ μ4, μ4 = msi μ t2 (mgi μ o0 4).toNatClampNeg ((i1 >>> (i2 &&& 31)) &&& 255) → ∀ μ5, μ5 = msi μ4 o0 4 ((mgi μ4 o0 4) + 1) → K3 (i2 + (-8)) μ5))
set_option maxHeartbeats 4000000 in
set_option maxRecDepth 100000 in
theorem tB_X11_four_3 {x : GX} (f : Fx x cX11_four RX11 3 (rmc 0 0 0)) {o0 : Nat} {i1 : Int32} {i2 : Int32} {μ : Me} {Q : Me → Prop} (hq : Rt x none (qV Q)) {K3 : Int32 → Me → Prop} (hK3 : ∀ (a2 : Int32) (ν : Me), K3 a2 ν → G x 3 3 [(0, .ref (gB x + o0)), (1, .int i1), (2, .int a2)] [] ν 0 0) (h : B_X11_four_3 o0 i1 i2 μ K3 Q) : G x 3 3 [(0, .ref (gB x + o0)), (1, .int i1), (2, .int i2)] [] μ 0 0 := by
  unfold B_X11_four_3 at h
  refine g_iload_n f 2 dX11_four_3 rfl rfl ?_
  refine g_if_lt f 39 dX11_four_4 rfl h (fun h => ?_) (fun h => ?_)
  · exact g_vret f hq (Nat.le_of_ble_eq_true rfl) (Nat.le_of_ble_eq_true rfl) dX11_four_39 h
  · refine g_aload_n f 0 dX11_four_7 rfl rfl ?_
    obtain ⟨v1, h⟩ := h
    refine g_getR f fk_X11_19 v1 dX11_four_8 rfl h (fun t2 h => ?_)
    refine g_aload_n f 0 dX11_four_11 rfl rfl ?_
    refine g_getI f fk_X11_86 v1 dX11_four_12 rfl ?_
    refine g_iload_n f 1 dX11_four_15 rfl rfl ?_
    refine g_iload_n f 2 dX11_four_16 rfl rfl ?_
    refine g_ishr f dX11_four_17 ?_
    refine g_sipush f 255 dX11_four_18 ks_255 ?_
    refine g_iand f dX11_four_21 ?_
    obtain ⟨v3, h⟩ := h
    refine g_iast f v3 dX11_four_22 h (fun h => ?_)
    refine g_aload_n f 0 dX11_four_23 rfl rfl ?_
    refine g_dup f dX11_four_24 rfl ?_
    refine g_getI f fk_X11_86 v1 dX11_four_25 rfl ?_
    refine g_iconst f 1 dX11_four_28 kc_1 ?_
    refine g_iadd f dX11_four_29 ?_
    refine g_putI f fk_X11_86 v1 dX11_four_30 rfl h (fun h => ?_)
    refine h_iinc f 2 (-8) dX11_four_33 rfl kc_m8 (by decide) ?_
    refine g_goto f 3 dX11_four_36 rfl ?_
    exact h_sub [1, 2, 0] rfl (hK3 _ _ h)
def L_X11_four_3 (o0 : Nat) (i1 : Int32) (i2 : Int32) (μ : Me) (Q : Me → Prop) : Prop := ∃ I : Int32 → Me → Nat → Prop, (∃ n, I i2 μ n) ∧ ∀ (i2 : Int32) (μ : Me) (n : Nat), I i2 μ n → B_X11_four_3 o0 i1 i2 μ (fun a2 ν => ∃ n', n' < n ∧ I a2 ν n') Q
set_option maxHeartbeats 4000000 in
set_option maxRecDepth 100000 in
theorem tL_X11_four_3 {x : GX} (f : Fx x cX11_four RX11 3 (rmc 0 0 0)) {o0 : Nat} {i1 : Int32} {i2 : Int32} {μ : Me} {Q : Me → Prop} (hq : Rt x none (qV Q)) (h : L_X11_four_3 o0 i1 i2 μ Q) : G x 3 3 [(0, .ref (gB x + o0)), (1, .int i1), (2, .int i2)] [] μ 0 0 := by
  obtain ⟨I, ⟨n, hI⟩, hs⟩ := h
  induction n using Nat.strongRecOn generalizing i2 μ with
  | ind n ih => exact tB_X11_four_3 f hq (fun a2 ν hk => by obtain ⟨n2, hn, hI2⟩ := hk; exact ih n2 hn hI2) (hs _ _ _ hI)
def S_X11_four (o0 : Nat) (i1 : Int32) (μ : Me) (Q : Me → Prop) : Prop := L_X11_four_3 o0 i1 24 μ Q
set_option maxHeartbeats 4000000 in
set_option maxRecDepth 100000 in
theorem t_X11_four {x : GX} (f : Fx x cX11_four RX11 3 (rmc 0 0 0)) {o0 : Nat} {i1 : Int32} {μ : Me} {Q : Me → Prop} (hq : Rt x none (qV Q)) (h : S_X11_four o0 i1 μ Q) : G x 3 0 [(0, .ref (gB x + o0)), (1, .int i1)] [] μ 0 0 := by
  unfold S_X11_four at h
  refine g_bipush f 24 dX11_four_0 kb_24 ?_
  refine h_istore_n f dX11_four_2 rfl (by decide) ?_
  exact h_sub [1, 2, 0] rfl (tL_X11_four_3 f hq h)
theorem c_X11_four {Ω : OM} {o0 : Nat} {i1 : Int32} {μ : Me} {Q : Me → Prop} (h : S_X11_four o0 i1 μ Q) : CT Ω yX11_four cX11_four 3 none (rmc 0 0 0) [.ref (oB Ω + o0), .int i1] μ (qV Q) := CT_of (by decide) rfl (by simp [lg_sl, Value.category]) (fun x hΩ f hq hi => by subst hΩ; exact t_X11_four f hq h)
theorem dX11_feed_0 : decode cX11_feed 0 = .ok (.aload_n 0, 1) := by decide +kernel
theorem dX11_feed_1 : decode cX11_feed 1 = .ok (.getfield 86, 3) := by decide +kernel
theorem dX11_feed_4 : decode cX11_feed 4 = .ok (.bipush 20, 2) := by decide +kernel
theorem dX11_feed_6 : decode cX11_feed 6 = .ok (.iadd, 1) := by decide +kernel
theorem dX11_feed_7 : decode cX11_feed 7 = .ok (.sipush 300, 3) := by decide +kernel
theorem dX11_feed_10 : decode cX11_feed 10 = .ok (.if_icmp .le 5, 3) := by decide +kernel
theorem dX11_feed_13 : decode cX11_feed 13 = .ok (.iconst (-1), 1) := by decide +kernel
theorem dX11_feed_14 : decode cX11_feed 14 = .ok (.ireturn, 1) := by decide +kernel
theorem dX11_feed_15 : decode cX11_feed 15 = .ok (.aload_n 0, 1) := by decide +kernel
theorem dX11_feed_16 : decode cX11_feed 16 = .ok (.iload_n 1, 1) := by decide +kernel
theorem dX11_feed_17 : decode cX11_feed 17 = .ok (.invokevirtual 89, 3) := by decide +kernel
theorem dX11_feed_20 : decode cX11_feed 20 = .ok (.aload_n 0, 1) := by decide +kernel
theorem dX11_feed_21 : decode cX11_feed 21 = .ok (.iload_n 2, 1) := by decide +kernel
theorem dX11_feed_22 : decode cX11_feed 22 = .ok (.invokevirtual 89, 3) := by decide +kernel
theorem dX11_feed_25 : decode cX11_feed 25 = .ok (.aload_n 0, 1) := by decide +kernel
theorem dX11_feed_26 : decode cX11_feed 26 = .ok (.iload_n 3, 1) := by decide +kernel
theorem dX11_feed_27 : decode cX11_feed 27 = .ok (.invokevirtual 89, 3) := by decide +kernel
theorem dX11_feed_30 : decode cX11_feed 30 = .ok (.aload_n 0, 1) := by decide +kernel
theorem dX11_feed_31 : decode cX11_feed 31 = .ok (.iload 4, 2) := by decide +kernel
theorem dX11_feed_33 : decode cX11_feed 33 = .ok (.invokevirtual 89, 3) := by decide +kernel
theorem dX11_feed_36 : decode cX11_feed 36 = .ok (.aload_n 0, 1) := by decide +kernel
theorem dX11_feed_37 : decode cX11_feed 37 = .ok (.iload 5, 2) := by decide +kernel
theorem dX11_feed_39 : decode cX11_feed 39 = .ok (.invokevirtual 89, 3) := by decide +kernel
theorem dX11_feed_42 : decode cX11_feed 42 = .ok (.aload_n 0, 1) := by decide +kernel
theorem dX11_feed_43 : decode cX11_feed 43 = .ok (.getfield 86, 3) := by decide +kernel
theorem dX11_feed_46 : decode cX11_feed 46 = .ok (.ireturn, 1) := by decide +kernel
def S_X11_feed (o0 : Nat) (i1 : Int32) (i2 : Int32) (i3 : Int32) (i4 : Int32) (i5 : Int32) (μ : Me) (Q : Int32 → Me → Prop) : Prop := mok μ o0 11 ∧ ((((mgi μ o0 4) + 20) ≤ 300 → S_X11_four o0 i1 μ (fun μ2 => S_X11_four o0 i2 μ2 (fun μ5 => S_X11_four o0 i3 μ5 (fun μ8 => S_X11_four o0 i4 μ8 (fun μ11 => S_X11_four o0 i5 μ11 (fun μ14 => Q (mgi μ14 o0 4) μ14)))))) ∧ (¬ ((mgi μ o0 4) + 20) ≤ 300 → Q (-1) μ))
set_option maxHeartbeats 4000000 in
set_option maxRecDepth 100000 in
theorem t_X11_feed {x : GX} (f : Fx x cX11_feed RX11 6 (rmc 1 0 0)) {o0 : Nat} {i1 : Int32} {i2 : Int32} {i3 : Int32} {i4 : Int32} {i5 : Int32} {μ : Me} {Q : Int32 → Me → Prop} (hq : Rt x (some .int) (qI Q)) (h : S_X11_feed o0 i1 i2 i3 i4 i5 μ Q) : G x 6 0 [(0, .ref (gB x + o0)), (1, .int i1), (2, .int i2), (3, .int i3), (4, .int i4), (5, .int i5)] [] μ 0 0 := by
  unfold S_X11_feed at h
  refine g_aload_n f 0 dX11_feed_0 rfl rfl ?_
  obtain ⟨v1, h⟩ := h
  refine g_getI f fk_X11_86 v1 dX11_feed_1 rfl ?_
  refine g_bipush f 20 dX11_feed_4 kb_20 ?_
  refine g_iadd f dX11_feed_6 ?_
  refine g_sipush f 300 dX11_feed_7 ks_300 ?_
  refine g_ic_le f 15 dX11_feed_10 rfl h (fun h => ?_) (fun h => ?_)
  · refine g_aload_n f 0 dX11_feed_15 rfl rfl ?_
    refine g_iload_n f 1 dX11_feed_16 rfl rfl ?_
    refine g_callV f mk_X11_89 v1 (c_X11_four h) dX11_feed_17 rfl rfl (Nat.le_of_ble_eq_true rfl) (rm_ok (by decide) (by decide)) ⟨Nat.le_of_ble_eq_true rfl, Nat.le_of_ble_eq_true rfl⟩ (kV fun μ2 x3 h => ?_)
    refine g_aload_n f 0 dX11_feed_20 rfl rfl ?_
    refine g_iload_n f 2 dX11_feed_21 rfl rfl ?_
    have v1 := mex_ok x3 v1
    refine g_callV f mk_X11_89 v1 (c_X11_four h) dX11_feed_22 rfl rfl (Nat.le_of_ble_eq_true rfl) (rm_ok (by decide) (by decide)) ⟨Nat.le_of_ble_eq_true rfl, Nat.le_of_ble_eq_true rfl⟩ (kV fun μ5 x6 h => ?_)
    refine g_aload_n f 0 dX11_feed_25 rfl rfl ?_
    refine g_iload_n f 3 dX11_feed_26 rfl rfl ?_
    have v1 := mex_ok x6 v1
    refine g_callV f mk_X11_89 v1 (c_X11_four h) dX11_feed_27 rfl rfl (Nat.le_of_ble_eq_true rfl) (rm_ok (by decide) (by decide)) ⟨Nat.le_of_ble_eq_true rfl, Nat.le_of_ble_eq_true rfl⟩ (kV fun μ8 x9 h => ?_)
    refine g_aload_n f 0 dX11_feed_30 rfl rfl ?_
    refine g_iload f 4 dX11_feed_31 rfl ?_
    have v1 := mex_ok x9 v1
    refine g_callV f mk_X11_89 v1 (c_X11_four h) dX11_feed_33 rfl rfl (Nat.le_of_ble_eq_true rfl) (rm_ok (by decide) (by decide)) ⟨Nat.le_of_ble_eq_true rfl, Nat.le_of_ble_eq_true rfl⟩ (kV fun μ11 x12 h => ?_)
    refine g_aload_n f 0 dX11_feed_36 rfl rfl ?_
    refine g_iload f 5 dX11_feed_37 rfl ?_
    have v1 := mex_ok x12 v1
    refine g_callV f mk_X11_89 v1 (c_X11_four h) dX11_feed_39 rfl rfl (Nat.le_of_ble_eq_true rfl) (rm_ok (by decide) (by decide)) ⟨Nat.le_of_ble_eq_true rfl, Nat.le_of_ble_eq_true rfl⟩ (kV fun μ14 x15 h => ?_)
    refine g_aload_n f 0 dX11_feed_42 rfl rfl ?_
    have v1 := mex_ok x15 v1
    refine g_getI f fk_X11_86 v1 dX11_feed_43 rfl ?_
    exact g_iret f hq (Nat.le_of_ble_eq_true rfl) (Nat.le_of_ble_eq_true rfl) dX11_feed_46 h
  · refine g_iconst f (-1) dX11_feed_13 kc_m1 ?_
    exact g_iret f hq (Nat.le_of_ble_eq_true rfl) (Nat.le_of_ble_eq_true rfl) dX11_feed_14 h
theorem c_X11_feed {Ω : OM} {o0 : Nat} {i1 : Int32} {i2 : Int32} {i3 : Int32} {i4 : Int32} {i5 : Int32} {μ : Me} {Q : Int32 → Me → Prop} (h : S_X11_feed o0 i1 i2 i3 i4 i5 μ Q) : CT Ω yX11_feed cX11_feed 6 (some .int) (rmc 1 0 0) [.ref (oB Ω + o0), .int i1, .int i2, .int i3, .int i4, .int i5] μ (qI Q) := CT_of (by decide) rfl (by simp [lg_sl, Value.category]) (fun x hΩ f hq hi => by subst hΩ; exact t_X11_feed f hq h)
theorem dX11_end_0 : decode cX11_end 0 = .ok (.iload_n 1, 1) := by decide +kernel
theorem dX11_end_1 : decode cX11_end 1 = .ok (.iconst 0, 1) := by decide +kernel
theorem dX11_end_2 : decode cX11_end 2 = .ok (.aload_n 0, 1) := by decide +kernel
theorem dX11_end_3 : decode cX11_end 3 = .ok (.getfield 86, 3) := by decide +kernel
theorem dX11_end_6 : decode cX11_end 6 = .ok (.invokestatic 66, 3) := by decide +kernel
theorem dX11_end_9 : decode cX11_end 9 = .ok (.ifCond .ne 5, 3) := by decide +kernel
theorem dX11_end_12 : decode cX11_end 12 = .ok (.iconst (-1), 1) := by decide +kernel
theorem dX11_end_13 : decode cX11_end 13 = .ok (.ireturn, 1) := by decide +kernel
theorem dX11_end_14 : decode cX11_end 14 = .ok (.aload_n 0, 1) := by decide +kernel
theorem dX11_end_15 : decode cX11_end 15 = .ok (.iload_n 1, 1) := by decide +kernel
theorem dX11_end_16 : decode cX11_end 16 = .ok (.putfield 86, 3) := by decide +kernel
theorem dX11_end_19 : decode cX11_end 19 = .ok (.iload_n 1, 1) := by decide +kernel
theorem dX11_end_20 : decode cX11_end 20 = .ok (.ireturn, 1) := by decide +kernel
def S_X11_end (o0 : Nat) (i1 : Int32) (μ : Me) (Q : Int32 → Me → Prop) : Prop := mok μ o0 11 ∧ S_X11_isIn i1 0 (mgi μ o0 4) μ (fun r4 μ2 => ((¬ r4 = 0 → ∀ μ5, μ5 = msi μ2 o0 4 i1 → Q i1 μ5) ∧ (r4 = 0 → Q (-1) μ2)))
set_option maxHeartbeats 4000000 in
set_option maxRecDepth 100000 in
theorem t_X11_end {x : GX} (f : Fx x cX11_end RX11 2 (rmc 1 0 0)) {o0 : Nat} {i1 : Int32} {μ : Me} {Q : Int32 → Me → Prop} (hq : Rt x (some .int) (qI Q)) (h : S_X11_end o0 i1 μ Q) : G x 2 0 [(0, .ref (gB x + o0)), (1, .int i1)] [] μ 0 0 := by
  unfold S_X11_end at h
  refine g_iload_n f 1 dX11_end_0 rfl rfl ?_
  refine g_iconst f 0 dX11_end_1 kc_0 ?_
  refine g_aload_n f 0 dX11_end_2 rfl rfl ?_
  obtain ⟨v1, h⟩ := h
  refine g_getI f fk_X11_86 v1 dX11_end_3 rfl ?_
  refine g_callS f mk_X11_66 (c_X11_isIn h) dX11_end_6 rfl rfl (Nat.le_of_ble_eq_true rfl) (rm_ok (by decide) (by decide)) ⟨Nat.le_of_ble_eq_true rfl, Nat.le_of_ble_eq_true rfl⟩ (kI fun r4 μ2 x3 h => ?_)
  refine g_if_ne f 14 dX11_end_9 rfl h (fun h => ?_) (fun h => ?_)
  · refine g_aload_n f 0 dX11_end_14 rfl rfl ?_
    refine g_iload_n f 1 dX11_end_15 rfl rfl ?_
    have v1 := mex_ok x3 v1
    refine g_putI f fk_X11_86 v1 dX11_end_16 rfl h (fun h => ?_)
    refine g_iload_n f 1 dX11_end_19 rfl rfl ?_
    exact g_iret f hq (Nat.le_of_ble_eq_true rfl) (Nat.le_of_ble_eq_true rfl) dX11_end_20 h
  · refine g_iconst f (-1) dX11_end_12 kc_m1 ?_
    exact g_iret f hq (Nat.le_of_ble_eq_true rfl) (Nat.le_of_ble_eq_true rfl) dX11_end_13 h
theorem c_X11_end {Ω : OM} {o0 : Nat} {i1 : Int32} {μ : Me} {Q : Int32 → Me → Prop} (h : S_X11_end o0 i1 μ Q) : CT Ω yX11_end cX11_end 2 (some .int) (rmc 1 0 0) [.ref (oB Ω + o0), .int i1] μ (qI Q) := CT_of (by decide) rfl (by simp [lg_sl, Value.category]) (fun x hΩ f hq hi => by subst hΩ; exact t_X11_end f hq h)
theorem dX11_byteAt_0 : decode cX11_byteAt 0 = .ok (.iload_n 1, 1) := by decide +kernel
theorem dX11_byteAt_1 : decode cX11_byteAt 1 = .ok (.aload_n 0, 1) := by decide +kernel
theorem dX11_byteAt_2 : decode cX11_byteAt 2 = .ok (.getfield 86, 3) := by decide +kernel
theorem dX11_byteAt_5 : decode cX11_byteAt 5 = .ok (.if_icmp .ge 12, 3) := by decide +kernel
theorem dX11_byteAt_8 : decode cX11_byteAt 8 = .ok (.aload_n 0, 1) := by decide +kernel
theorem dX11_byteAt_9 : decode cX11_byteAt 9 = .ok (.getfield 19, 3) := by decide +kernel
theorem dX11_byteAt_12 : decode cX11_byteAt 12 = .ok (.iload_n 1, 1) := by decide +kernel
theorem dX11_byteAt_13 : decode cX11_byteAt 13 = .ok (.iaload, 1) := by decide +kernel
theorem dX11_byteAt_14 : decode cX11_byteAt 14 = .ok (.goto 4, 3) := by decide +kernel
theorem dX11_byteAt_17 : decode cX11_byteAt 17 = .ok (.iconst (-1), 1) := by decide +kernel
theorem dX11_byteAt_18 : decode cX11_byteAt 18 = .ok (.ireturn, 1) := by decide +kernel
def S_X11_byteAt (o0 : Nat) (i1 : Int32) (μ : Me) (Q : Int32 → Me → Prop) : Prop := mok μ o0 11 ∧ (((mgi μ o0 4) ≤ i1 → Q (-1) μ) ∧ (¬ (mgi μ o0 4) ≤ i1 → ∃ t2, mgr μ o0 3 = some t2 ∧ mok μ t2 12 ∧ vp_in i1 (mln μ t2) ∧ Q (mgi μ t2 i1.toNatClampNeg) μ))
set_option maxHeartbeats 4000000 in
set_option maxRecDepth 100000 in
theorem t_X11_byteAt {x : GX} (f : Fx x cX11_byteAt RX11 2 (rmc 0 0 0)) {o0 : Nat} {i1 : Int32} {μ : Me} {Q : Int32 → Me → Prop} (hq : Rt x (some .int) (qI Q)) (h : S_X11_byteAt o0 i1 μ Q) : G x 2 0 [(0, .ref (gB x + o0)), (1, .int i1)] [] μ 0 0 := by
  unfold S_X11_byteAt at h
  refine g_iload_n f 1 dX11_byteAt_0 rfl rfl ?_
  refine g_aload_n f 0 dX11_byteAt_1 rfl rfl ?_
  obtain ⟨v1, h⟩ := h
  refine g_getI f fk_X11_86 v1 dX11_byteAt_2 rfl ?_
  refine g_ic_ge f 17 dX11_byteAt_5 rfl h (fun h => ?_) (fun h => ?_)
  · refine g_iconst f (-1) dX11_byteAt_17 kc_m1 ?_
    exact g_iret f hq (Nat.le_of_ble_eq_true rfl) (Nat.le_of_ble_eq_true rfl) dX11_byteAt_18 h
  · refine g_aload_n f 0 dX11_byteAt_8 rfl rfl ?_
    refine g_getR f fk_X11_19 v1 dX11_byteAt_9 rfl h (fun t2 h => ?_)
    refine g_iload_n f 1 dX11_byteAt_12 rfl rfl ?_
    obtain ⟨v3, h⟩ := h
    refine g_iald f v3 dX11_byteAt_13 h (fun h => ?_)
    refine g_goto f 18 dX11_byteAt_14 rfl ?_
    exact g_iret f hq (Nat.le_of_ble_eq_true rfl) (Nat.le_of_ble_eq_true rfl) dX11_byteAt_18 h
theorem c_X11_byteAt {Ω : OM} {o0 : Nat} {i1 : Int32} {μ : Me} {Q : Int32 → Me → Prop} (h : S_X11_byteAt o0 i1 μ Q) : CT Ω yX11_byteAt cX11_byteAt 2 (some .int) (rmc 0 0 0) [.ref (oB Ω + o0), .int i1] μ (qI Q) := CT_of (by decide) rfl (by simp [lg_sl, Value.category]) (fun x hΩ f hq hi => by subst hΩ; exact t_X11_byteAt f hq h)
theorem dX11_isFigure_0 : decode cX11_isFigure 0 = .ok (.iload_n 0, 1) := by decide +kernel
theorem dX11_isFigure_1 : decode cX11_isFigure 1 = .ok (.bipush 48, 2) := by decide +kernel
theorem dX11_isFigure_3 : decode cX11_isFigure 3 = .ok (.if_icmp .lt 13, 3) := by decide +kernel
theorem dX11_isFigure_6 : decode cX11_isFigure 6 = .ok (.iload_n 0, 1) := by decide +kernel
theorem dX11_isFigure_7 : decode cX11_isFigure 7 = .ok (.bipush 57, 2) := by decide +kernel
theorem dX11_isFigure_9 : decode cX11_isFigure 9 = .ok (.if_icmp .gt 7, 3) := by decide +kernel
theorem dX11_isFigure_12 : decode cX11_isFigure 12 = .ok (.iconst 1, 1) := by decide +kernel
theorem dX11_isFigure_13 : decode cX11_isFigure 13 = .ok (.goto 4, 3) := by decide +kernel
theorem dX11_isFigure_16 : decode cX11_isFigure 16 = .ok (.iconst 0, 1) := by decide +kernel
theorem dX11_isFigure_17 : decode cX11_isFigure 17 = .ok (.ireturn, 1) := by decide +kernel
def S_X11_isFigure (i0 : Int32) (μ : Me) (Q : Int32 → Me → Prop) : Prop := ((i0 < 48 → Q 0 μ) ∧ (¬ i0 < 48 → ((57 < i0 → Q 0 μ) ∧ (¬ 57 < i0 → Q 1 μ))))
set_option maxHeartbeats 4000000 in
set_option maxRecDepth 100000 in
theorem t_X11_isFigure {x : GX} (f : Fx x cX11_isFigure RX11 1 (rmc 0 0 0)) {i0 : Int32} {μ : Me} {Q : Int32 → Me → Prop} (hq : Rt x (some .boolean) (qI Q)) (h : S_X11_isFigure i0 μ Q) : G x 1 0 [(0, .int i0)] [] μ 0 0 := by
  unfold S_X11_isFigure at h
  refine g_iload_n f 0 dX11_isFigure_0 rfl rfl ?_
  refine g_bipush f 48 dX11_isFigure_1 kb_48 ?_
  refine g_ic_lt f 16 dX11_isFigure_3 rfl h (fun h => ?_) (fun h => ?_)
  · refine g_iconst f 0 dX11_isFigure_16 kc_0 ?_
    exact g_zret f hq (Nat.le_of_ble_eq_true rfl) (Nat.le_of_ble_eq_true rfl) dX11_isFigure_17 zb_0.1 h
  · refine g_iload_n f 0 dX11_isFigure_6 rfl rfl ?_
    refine g_bipush f 57 dX11_isFigure_7 kb_57 ?_
    refine g_ic_gt f 16 dX11_isFigure_9 rfl h (fun h => ?_) (fun h => ?_)
    · refine g_iconst f 0 dX11_isFigure_16 kc_0 ?_
      exact g_zret f hq (Nat.le_of_ble_eq_true rfl) (Nat.le_of_ble_eq_true rfl) dX11_isFigure_17 zb_0.1 h
    · refine g_iconst f 1 dX11_isFigure_12 kc_1 ?_
      refine g_goto f 17 dX11_isFigure_13 rfl ?_
      exact g_zret f hq (Nat.le_of_ble_eq_true rfl) (Nat.le_of_ble_eq_true rfl) dX11_isFigure_17 zb_1.1 h
theorem c_X11_isFigure {Ω : OM} {i0 : Int32} {μ : Me} {Q : Int32 → Me → Prop} (h : S_X11_isFigure i0 μ Q) : CT Ω yX11_isFigure cX11_isFigure 1 (some .boolean) (rmc 0 0 0) [.int i0] μ (qI Q) := CT_of (by decide) rfl (by simp [lg_sl, Value.category]) (fun x hΩ f hq hi => by subst hΩ; exact t_X11_isFigure f hq h)
theorem dX11_isLetterByte_0 : decode cX11_isLetterByte 0 = .ok (.iload_n 0, 1) := by decide +kernel
theorem dX11_isLetterByte_1 : decode cX11_isLetterByte 1 = .ok (.bipush 97, 2) := by decide +kernel
theorem dX11_isLetterByte_3 : decode cX11_isLetterByte 3 = .ok (.if_icmp .lt 9, 3) := by decide +kernel
theorem dX11_isLetterByte_6 : decode cX11_isLetterByte 6 = .ok (.iload_n 0, 1) := by decide +kernel
theorem dX11_isLetterByte_7 : decode cX11_isLetterByte 7 = .ok (.bipush 122, 2) := by decide +kernel
theorem dX11_isLetterByte_9 : decode cX11_isLetterByte 9 = .ok (.if_icmp .le 15, 3) := by decide +kernel
theorem dX11_isLetterByte_12 : decode cX11_isLetterByte 12 = .ok (.iload_n 0, 1) := by decide +kernel
theorem dX11_isLetterByte_13 : decode cX11_isLetterByte 13 = .ok (.bipush 65, 2) := by decide +kernel
theorem dX11_isLetterByte_15 : decode cX11_isLetterByte 15 = .ok (.if_icmp .lt 13, 3) := by decide +kernel
theorem dX11_isLetterByte_18 : decode cX11_isLetterByte 18 = .ok (.iload_n 0, 1) := by decide +kernel
theorem dX11_isLetterByte_19 : decode cX11_isLetterByte 19 = .ok (.bipush 90, 2) := by decide +kernel
theorem dX11_isLetterByte_21 : decode cX11_isLetterByte 21 = .ok (.if_icmp .gt 7, 3) := by decide +kernel
theorem dX11_isLetterByte_24 : decode cX11_isLetterByte 24 = .ok (.iconst 1, 1) := by decide +kernel
theorem dX11_isLetterByte_25 : decode cX11_isLetterByte 25 = .ok (.goto 4, 3) := by decide +kernel
theorem dX11_isLetterByte_28 : decode cX11_isLetterByte 28 = .ok (.iconst 0, 1) := by decide +kernel
theorem dX11_isLetterByte_29 : decode cX11_isLetterByte 29 = .ok (.ireturn, 1) := by decide +kernel
def B_X11_isLetterByte_12 (i0 : Int32) (μ : Me) (Q : Int32 → Me → Prop) : Prop := ((i0 < 65 → Q 0 μ) ∧ (¬ i0 < 65 → ((90 < i0 → Q 0 μ) ∧ (¬ 90 < i0 → Q 1 μ))))
set_option maxHeartbeats 4000000 in
set_option maxRecDepth 100000 in
theorem tB_X11_isLetterByte_12 {x : GX} (f : Fx x cX11_isLetterByte RX11 1 (rmc 0 0 0)) {i0 : Int32} {μ : Me} {Q : Int32 → Me → Prop} (hq : Rt x (some .boolean) (qI Q)) (h : B_X11_isLetterByte_12 i0 μ Q) : G x 1 12 [(0, .int i0)] [] μ 0 0 := by
  unfold B_X11_isLetterByte_12 at h
  refine g_iload_n f 0 dX11_isLetterByte_12 rfl rfl ?_
  refine g_bipush f 65 dX11_isLetterByte_13 kb_65 ?_
  refine g_ic_lt f 28 dX11_isLetterByte_15 rfl h (fun h => ?_) (fun h => ?_)
  · refine g_iconst f 0 dX11_isLetterByte_28 kc_0 ?_
    exact g_zret f hq (Nat.le_of_ble_eq_true rfl) (Nat.le_of_ble_eq_true rfl) dX11_isLetterByte_29 zb_0.1 h
  · refine g_iload_n f 0 dX11_isLetterByte_18 rfl rfl ?_
    refine g_bipush f 90 dX11_isLetterByte_19 kb_90 ?_
    refine g_ic_gt f 28 dX11_isLetterByte_21 rfl h (fun h => ?_) (fun h => ?_)
    · refine g_iconst f 0 dX11_isLetterByte_28 kc_0 ?_
      exact g_zret f hq (Nat.le_of_ble_eq_true rfl) (Nat.le_of_ble_eq_true rfl) dX11_isLetterByte_29 zb_0.1 h
    · refine g_iconst f 1 dX11_isLetterByte_24 kc_1 ?_
      refine g_goto f 29 dX11_isLetterByte_25 rfl ?_
      exact g_zret f hq (Nat.le_of_ble_eq_true rfl) (Nat.le_of_ble_eq_true rfl) dX11_isLetterByte_29 zb_1.1 h
def S_X11_isLetterByte (i0 : Int32) (μ : Me) (Q : Int32 → Me → Prop) : Prop := ((i0 < 97 → B_X11_isLetterByte_12 i0 μ Q) ∧ (¬ i0 < 97 → ((i0 ≤ 122 → Q 1 μ) ∧ (¬ i0 ≤ 122 → B_X11_isLetterByte_12 i0 μ Q))))
set_option maxHeartbeats 4000000 in
set_option maxRecDepth 100000 in
theorem t_X11_isLetterByte {x : GX} (f : Fx x cX11_isLetterByte RX11 1 (rmc 0 0 0)) {i0 : Int32} {μ : Me} {Q : Int32 → Me → Prop} (hq : Rt x (some .boolean) (qI Q)) (h : S_X11_isLetterByte i0 μ Q) : G x 1 0 [(0, .int i0)] [] μ 0 0 := by
  unfold S_X11_isLetterByte at h
  refine g_iload_n f 0 dX11_isLetterByte_0 rfl rfl ?_
  refine g_bipush f 97 dX11_isLetterByte_1 kb_97 ?_
  refine g_ic_lt f 12 dX11_isLetterByte_3 rfl h (fun h => ?_) (fun h => ?_)
  · exact h_sub [0] rfl (tB_X11_isLetterByte_12 f hq h)
  · refine g_iload_n f 0 dX11_isLetterByte_6 rfl rfl ?_
    refine g_bipush f 122 dX11_isLetterByte_7 kb_122 ?_
    refine g_ic_le f 24 dX11_isLetterByte_9 rfl h (fun h => ?_) (fun h => ?_)
    · refine g_iconst f 1 dX11_isLetterByte_24 kc_1 ?_
      refine g_goto f 29 dX11_isLetterByte_25 rfl ?_
      exact g_zret f hq (Nat.le_of_ble_eq_true rfl) (Nat.le_of_ble_eq_true rfl) dX11_isLetterByte_29 zb_1.1 h
    · exact h_sub [0] rfl (tB_X11_isLetterByte_12 f hq h)
theorem c_X11_isLetterByte {Ω : OM} {i0 : Int32} {μ : Me} {Q : Int32 → Me → Prop} (h : S_X11_isLetterByte i0 μ Q) : CT Ω yX11_isLetterByte cX11_isLetterByte 1 (some .boolean) (rmc 0 0 0) [.int i0] μ (qI Q) := CT_of (by decide) rfl (by simp [lg_sl, Value.category]) (fun x hΩ f hq hi => by subst hΩ; exact t_X11_isLetterByte f hq h)
theorem dX11_isSign_0 : decode cX11_isSign 0 = .ok (.iload_n 0, 1) := by decide +kernel
theorem dX11_isSign_1 : decode cX11_isSign 1 = .ok (.tableswitch 129 35 62 #[127, 129, 129, 129, 129, 127, 127, 127, 127, 129, 127, 129, 127, 129, 129, 129, 129, 129, 129, 129, 129, 129, 129, 127, 127, 127, 127, 127], 127) := by decide +kernel
theorem dX11_isSign_128 : decode cX11_isSign 128 = .ok (.iconst 1, 1) := by decide +kernel
theorem dX11_isSign_129 : decode cX11_isSign 129 = .ok (.ireturn, 1) := by decide +kernel
theorem dX11_isSign_130 : decode cX11_isSign 130 = .ok (.iconst 0, 1) := by decide +kernel
theorem dX11_isSign_131 : decode cX11_isSign 131 = .ok (.ireturn, 1) := by decide +kernel
def S_X11_isSign (i0 : Int32) (μ : Me) (Q : Int32 → Me → Prop) : Prop := ((i0 = 35 → Q 1 μ) ∧ (¬ i0 = 35 → (i0 = 36 → Q 0 μ) ∧ (¬ i0 = 36 → (i0 = 37 → Q 0 μ) ∧ (¬ i0 = 37 → (i0 = 38 → Q 0 μ) ∧ (¬ i0 = 38 → (i0 = 39 → Q 0 μ) ∧ (¬ i0 = 39 → (i0 = 40 → Q 1 μ) ∧ (¬ i0 = 40 → (i0 = 41 → Q 1 μ) ∧ (¬ i0 = 41 → (i0 = 42 → Q 1 μ) ∧ (¬ i0 = 42 → (i0 = 43 → Q 1 μ) ∧ (¬ i0 = 43 → (i0 = 44 → Q 0 μ) ∧ (¬ i0 = 44 → (i0 = 45 → Q 1 μ) ∧ (¬ i0 = 45 → (i0 = 46 → Q 0 μ) ∧ (¬ i0 = 46 → (i0 = 47 → Q 1 μ) ∧ (¬ i0 = 47 → (i0 = 48 → Q 0 μ) ∧ (¬ i0 = 48 → (i0 = 49 → Q 0 μ) ∧ (¬ i0 = 49 → (i0 = 50 → Q 0 μ) ∧ (¬ i0 = 50 → (i0 = 51 → Q 0 μ) ∧ (¬ i0 = 51 → (i0 = 52 → Q 0 μ) ∧ (¬ i0 = 52 → (i0 = 53 → Q 0 μ) ∧ (¬ i0 = 53 → (i0 = 54 → Q 0 μ) ∧ (¬ i0 = 54 → (i0 = 55 → Q 0 μ) ∧ (¬ i0 = 55 → (i0 = 56 → Q 0 μ) ∧ (¬ i0 = 56 → (i0 = 57 → Q 0 μ) ∧ (¬ i0 = 57 → (i0 = 58 → Q 1 μ) ∧ (¬ i0 = 58 → (i0 = 59 → Q 1 μ) ∧ (¬ i0 = 59 → (i0 = 60 → Q 1 μ) ∧ (¬ i0 = 60 → (i0 = 61 → Q 1 μ) ∧ (¬ i0 = 61 → (i0 = 62 → Q 1 μ) ∧ (¬ i0 = 62 → Q 0 μ)))))))))))))))))))))))))))))
set_option maxHeartbeats 4000000 in
set_option maxRecDepth 100000 in
theorem t_X11_isSign {x : GX} (f : Fx x cX11_isSign RX11 1 (rmc 0 0 0)) {i0 : Int32} {μ : Me} {Q : Int32 → Me → Prop} (hq : Rt x (some .boolean) (qI Q)) (h : S_X11_isSign i0 μ Q) : G x 1 0 [(0, .int i0)] [] μ 0 0 := by
  unfold S_X11_isSign at h
  refine g_iload_n f 0 dX11_isSign_0 rfl rfl ?_
  rcases dec_or h with ⟨e1, h⟩ | ⟨e1, h⟩
  · refine g_tableIn f 128 dX11_isSign_1 (by rw [e1] <;> decide) (by rw [e1] <;> decide) (by rw [e1] <;> rfl) rfl ?_
    refine g_iconst f 1 dX11_isSign_128 kc_1 ?_
    exact g_zret f hq (Nat.le_of_ble_eq_true rfl) (Nat.le_of_ble_eq_true rfl) dX11_isSign_129 zb_1.1 h
  · skip
    rcases dec_or h with ⟨e2, h⟩ | ⟨e2, h⟩
    · refine g_tableIn f 130 dX11_isSign_1 (by rw [e2] <;> decide) (by rw [e2] <;> decide) (by rw [e2] <;> rfl) rfl ?_
      refine g_iconst f 0 dX11_isSign_130 kc_0 ?_
      exact g_zret f hq (Nat.le_of_ble_eq_true rfl) (Nat.le_of_ble_eq_true rfl) dX11_isSign_131 zb_0.1 h
    · skip
      rcases dec_or h with ⟨e3, h⟩ | ⟨e3, h⟩
      · refine g_tableIn f 130 dX11_isSign_1 (by rw [e3] <;> decide) (by rw [e3] <;> decide) (by rw [e3] <;> rfl) rfl ?_
        refine g_iconst f 0 dX11_isSign_130 kc_0 ?_
        exact g_zret f hq (Nat.le_of_ble_eq_true rfl) (Nat.le_of_ble_eq_true rfl) dX11_isSign_131 zb_0.1 h
      · skip
        rcases dec_or h with ⟨e4, h⟩ | ⟨e4, h⟩
        · refine g_tableIn f 130 dX11_isSign_1 (by rw [e4] <;> decide) (by rw [e4] <;> decide) (by rw [e4] <;> rfl) rfl ?_
          refine g_iconst f 0 dX11_isSign_130 kc_0 ?_
          exact g_zret f hq (Nat.le_of_ble_eq_true rfl) (Nat.le_of_ble_eq_true rfl) dX11_isSign_131 zb_0.1 h
        · skip
          rcases dec_or h with ⟨e5, h⟩ | ⟨e5, h⟩
          · refine g_tableIn f 130 dX11_isSign_1 (by rw [e5] <;> decide) (by rw [e5] <;> decide) (by rw [e5] <;> rfl) rfl ?_
            refine g_iconst f 0 dX11_isSign_130 kc_0 ?_
            exact g_zret f hq (Nat.le_of_ble_eq_true rfl) (Nat.le_of_ble_eq_true rfl) dX11_isSign_131 zb_0.1 h
          · skip
            rcases dec_or h with ⟨e6, h⟩ | ⟨e6, h⟩
            · refine g_tableIn f 128 dX11_isSign_1 (by rw [e6] <;> decide) (by rw [e6] <;> decide) (by rw [e6] <;> rfl) rfl ?_
              refine g_iconst f 1 dX11_isSign_128 kc_1 ?_
              exact g_zret f hq (Nat.le_of_ble_eq_true rfl) (Nat.le_of_ble_eq_true rfl) dX11_isSign_129 zb_1.1 h
            · skip
              rcases dec_or h with ⟨e7, h⟩ | ⟨e7, h⟩
              · refine g_tableIn f 128 dX11_isSign_1 (by rw [e7] <;> decide) (by rw [e7] <;> decide) (by rw [e7] <;> rfl) rfl ?_
                refine g_iconst f 1 dX11_isSign_128 kc_1 ?_
                exact g_zret f hq (Nat.le_of_ble_eq_true rfl) (Nat.le_of_ble_eq_true rfl) dX11_isSign_129 zb_1.1 h
              · skip
                rcases dec_or h with ⟨e8, h⟩ | ⟨e8, h⟩
                · refine g_tableIn f 128 dX11_isSign_1 (by rw [e8] <;> decide) (by rw [e8] <;> decide) (by rw [e8] <;> rfl) rfl ?_
                  refine g_iconst f 1 dX11_isSign_128 kc_1 ?_
                  exact g_zret f hq (Nat.le_of_ble_eq_true rfl) (Nat.le_of_ble_eq_true rfl) dX11_isSign_129 zb_1.1 h
                · skip
                  rcases dec_or h with ⟨e9, h⟩ | ⟨e9, h⟩
                  · refine g_tableIn f 128 dX11_isSign_1 (by rw [e9] <;> decide) (by rw [e9] <;> decide) (by rw [e9] <;> rfl) rfl ?_
                    refine g_iconst f 1 dX11_isSign_128 kc_1 ?_
                    exact g_zret f hq (Nat.le_of_ble_eq_true rfl) (Nat.le_of_ble_eq_true rfl) dX11_isSign_129 zb_1.1 h
                  · skip
                    rcases dec_or h with ⟨e10, h⟩ | ⟨e10, h⟩
                    · refine g_tableIn f 130 dX11_isSign_1 (by rw [e10] <;> decide) (by rw [e10] <;> decide) (by rw [e10] <;> rfl) rfl ?_
                      refine g_iconst f 0 dX11_isSign_130 kc_0 ?_
                      exact g_zret f hq (Nat.le_of_ble_eq_true rfl) (Nat.le_of_ble_eq_true rfl) dX11_isSign_131 zb_0.1 h
                    · skip
                      rcases dec_or h with ⟨e11, h⟩ | ⟨e11, h⟩
                      · refine g_tableIn f 128 dX11_isSign_1 (by rw [e11] <;> decide) (by rw [e11] <;> decide) (by rw [e11] <;> rfl) rfl ?_
                        refine g_iconst f 1 dX11_isSign_128 kc_1 ?_
                        exact g_zret f hq (Nat.le_of_ble_eq_true rfl) (Nat.le_of_ble_eq_true rfl) dX11_isSign_129 zb_1.1 h
                      · skip
                        rcases dec_or h with ⟨e12, h⟩ | ⟨e12, h⟩
                        · refine g_tableIn f 130 dX11_isSign_1 (by rw [e12] <;> decide) (by rw [e12] <;> decide) (by rw [e12] <;> rfl) rfl ?_
                          refine g_iconst f 0 dX11_isSign_130 kc_0 ?_
                          exact g_zret f hq (Nat.le_of_ble_eq_true rfl) (Nat.le_of_ble_eq_true rfl) dX11_isSign_131 zb_0.1 h
                        · skip
                          rcases dec_or h with ⟨e13, h⟩ | ⟨e13, h⟩
                          · refine g_tableIn f 128 dX11_isSign_1 (by rw [e13] <;> decide) (by rw [e13] <;> decide) (by rw [e13] <;> rfl) rfl ?_
                            refine g_iconst f 1 dX11_isSign_128 kc_1 ?_
                            exact g_zret f hq (Nat.le_of_ble_eq_true rfl) (Nat.le_of_ble_eq_true rfl) dX11_isSign_129 zb_1.1 h
                          · skip
                            rcases dec_or h with ⟨e14, h⟩ | ⟨e14, h⟩
                            · refine g_tableIn f 130 dX11_isSign_1 (by rw [e14] <;> decide) (by rw [e14] <;> decide) (by rw [e14] <;> rfl) rfl ?_
                              refine g_iconst f 0 dX11_isSign_130 kc_0 ?_
                              exact g_zret f hq (Nat.le_of_ble_eq_true rfl) (Nat.le_of_ble_eq_true rfl) dX11_isSign_131 zb_0.1 h
                            · skip
                              rcases dec_or h with ⟨e15, h⟩ | ⟨e15, h⟩
                              · refine g_tableIn f 130 dX11_isSign_1 (by rw [e15] <;> decide) (by rw [e15] <;> decide) (by rw [e15] <;> rfl) rfl ?_
                                refine g_iconst f 0 dX11_isSign_130 kc_0 ?_
                                exact g_zret f hq (Nat.le_of_ble_eq_true rfl) (Nat.le_of_ble_eq_true rfl) dX11_isSign_131 zb_0.1 h
                              · skip
                                rcases dec_or h with ⟨e16, h⟩ | ⟨e16, h⟩
                                · refine g_tableIn f 130 dX11_isSign_1 (by rw [e16] <;> decide) (by rw [e16] <;> decide) (by rw [e16] <;> rfl) rfl ?_
                                  refine g_iconst f 0 dX11_isSign_130 kc_0 ?_
                                  exact g_zret f hq (Nat.le_of_ble_eq_true rfl) (Nat.le_of_ble_eq_true rfl) dX11_isSign_131 zb_0.1 h
                                · skip
                                  rcases dec_or h with ⟨e17, h⟩ | ⟨e17, h⟩
                                  · refine g_tableIn f 130 dX11_isSign_1 (by rw [e17] <;> decide) (by rw [e17] <;> decide) (by rw [e17] <;> rfl) rfl ?_
                                    refine g_iconst f 0 dX11_isSign_130 kc_0 ?_
                                    exact g_zret f hq (Nat.le_of_ble_eq_true rfl) (Nat.le_of_ble_eq_true rfl) dX11_isSign_131 zb_0.1 h
                                  · skip
                                    rcases dec_or h with ⟨e18, h⟩ | ⟨e18, h⟩
                                    · refine g_tableIn f 130 dX11_isSign_1 (by rw [e18] <;> decide) (by rw [e18] <;> decide) (by rw [e18] <;> rfl) rfl ?_
                                      refine g_iconst f 0 dX11_isSign_130 kc_0 ?_
                                      exact g_zret f hq (Nat.le_of_ble_eq_true rfl) (Nat.le_of_ble_eq_true rfl) dX11_isSign_131 zb_0.1 h
                                    · skip
                                      rcases dec_or h with ⟨e19, h⟩ | ⟨e19, h⟩
                                      · refine g_tableIn f 130 dX11_isSign_1 (by rw [e19] <;> decide) (by rw [e19] <;> decide) (by rw [e19] <;> rfl) rfl ?_
                                        refine g_iconst f 0 dX11_isSign_130 kc_0 ?_
                                        exact g_zret f hq (Nat.le_of_ble_eq_true rfl) (Nat.le_of_ble_eq_true rfl) dX11_isSign_131 zb_0.1 h
                                      · skip
                                        rcases dec_or h with ⟨e20, h⟩ | ⟨e20, h⟩
                                        · refine g_tableIn f 130 dX11_isSign_1 (by rw [e20] <;> decide) (by rw [e20] <;> decide) (by rw [e20] <;> rfl) rfl ?_
                                          refine g_iconst f 0 dX11_isSign_130 kc_0 ?_
                                          exact g_zret f hq (Nat.le_of_ble_eq_true rfl) (Nat.le_of_ble_eq_true rfl) dX11_isSign_131 zb_0.1 h
                                        · skip
                                          rcases dec_or h with ⟨e21, h⟩ | ⟨e21, h⟩
                                          · refine g_tableIn f 130 dX11_isSign_1 (by rw [e21] <;> decide) (by rw [e21] <;> decide) (by rw [e21] <;> rfl) rfl ?_
                                            refine g_iconst f 0 dX11_isSign_130 kc_0 ?_
                                            exact g_zret f hq (Nat.le_of_ble_eq_true rfl) (Nat.le_of_ble_eq_true rfl) dX11_isSign_131 zb_0.1 h
                                          · skip
                                            rcases dec_or h with ⟨e22, h⟩ | ⟨e22, h⟩
                                            · refine g_tableIn f 130 dX11_isSign_1 (by rw [e22] <;> decide) (by rw [e22] <;> decide) (by rw [e22] <;> rfl) rfl ?_
                                              refine g_iconst f 0 dX11_isSign_130 kc_0 ?_
                                              exact g_zret f hq (Nat.le_of_ble_eq_true rfl) (Nat.le_of_ble_eq_true rfl) dX11_isSign_131 zb_0.1 h
                                            · skip
                                              rcases dec_or h with ⟨e23, h⟩ | ⟨e23, h⟩
                                              · refine g_tableIn f 130 dX11_isSign_1 (by rw [e23] <;> decide) (by rw [e23] <;> decide) (by rw [e23] <;> rfl) rfl ?_
                                                refine g_iconst f 0 dX11_isSign_130 kc_0 ?_
                                                exact g_zret f hq (Nat.le_of_ble_eq_true rfl) (Nat.le_of_ble_eq_true rfl) dX11_isSign_131 zb_0.1 h
                                              · skip
                                                rcases dec_or h with ⟨e24, h⟩ | ⟨e24, h⟩
                                                · refine g_tableIn f 128 dX11_isSign_1 (by rw [e24] <;> decide) (by rw [e24] <;> decide) (by rw [e24] <;> rfl) rfl ?_
                                                  refine g_iconst f 1 dX11_isSign_128 kc_1 ?_
                                                  exact g_zret f hq (Nat.le_of_ble_eq_true rfl) (Nat.le_of_ble_eq_true rfl) dX11_isSign_129 zb_1.1 h
                                                · skip
                                                  rcases dec_or h with ⟨e25, h⟩ | ⟨e25, h⟩
                                                  · refine g_tableIn f 128 dX11_isSign_1 (by rw [e25] <;> decide) (by rw [e25] <;> decide) (by rw [e25] <;> rfl) rfl ?_
                                                    refine g_iconst f 1 dX11_isSign_128 kc_1 ?_
                                                    exact g_zret f hq (Nat.le_of_ble_eq_true rfl) (Nat.le_of_ble_eq_true rfl) dX11_isSign_129 zb_1.1 h
                                                  · skip
                                                    rcases dec_or h with ⟨e26, h⟩ | ⟨e26, h⟩
                                                    · refine g_tableIn f 128 dX11_isSign_1 (by rw [e26] <;> decide) (by rw [e26] <;> decide) (by rw [e26] <;> rfl) rfl ?_
                                                      refine g_iconst f 1 dX11_isSign_128 kc_1 ?_
                                                      exact g_zret f hq (Nat.le_of_ble_eq_true rfl) (Nat.le_of_ble_eq_true rfl) dX11_isSign_129 zb_1.1 h
                                                    · skip
                                                      rcases dec_or h with ⟨e27, h⟩ | ⟨e27, h⟩
                                                      · refine g_tableIn f 128 dX11_isSign_1 (by rw [e27] <;> decide) (by rw [e27] <;> decide) (by rw [e27] <;> rfl) rfl ?_
                                                        refine g_iconst f 1 dX11_isSign_128 kc_1 ?_
                                                        exact g_zret f hq (Nat.le_of_ble_eq_true rfl) (Nat.le_of_ble_eq_true rfl) dX11_isSign_129 zb_1.1 h
                                                      · skip
                                                        rcases dec_or h with ⟨e28, h⟩ | ⟨e28, h⟩
                                                        · refine g_tableIn f 128 dX11_isSign_1 (by rw [e28] <;> decide) (by rw [e28] <;> decide) (by rw [e28] <;> rfl) rfl ?_
                                                          refine g_iconst f 1 dX11_isSign_128 kc_1 ?_
                                                          exact g_zret f hq (Nat.le_of_ble_eq_true rfl) (Nat.le_of_ble_eq_true rfl) dX11_isSign_129 zb_1.1 h
                                                        · skip
                                                          have e1 := lv_neT (a := 35) e1 (by decide)
                                                          have e2 := lv_neT (a := 36) e2 (by decide)
                                                          have e3 := lv_neT (a := 37) e3 (by decide)
                                                          have e4 := lv_neT (a := 38) e4 (by decide)
                                                          have e5 := lv_neT (a := 39) e5 (by decide)
                                                          have e6 := lv_neT (a := 40) e6 (by decide)
                                                          have e7 := lv_neT (a := 41) e7 (by decide)
                                                          have e8 := lv_neT (a := 42) e8 (by decide)
                                                          have e9 := lv_neT (a := 43) e9 (by decide)
                                                          have e10 := lv_neT (a := 44) e10 (by decide)
                                                          have e11 := lv_neT (a := 45) e11 (by decide)
                                                          have e12 := lv_neT (a := 46) e12 (by decide)
                                                          have e13 := lv_neT (a := 47) e13 (by decide)
                                                          have e14 := lv_neT (a := 48) e14 (by decide)
                                                          have e15 := lv_neT (a := 49) e15 (by decide)
                                                          have e16 := lv_neT (a := 50) e16 (by decide)
                                                          have e17 := lv_neT (a := 51) e17 (by decide)
                                                          have e18 := lv_neT (a := 52) e18 (by decide)
                                                          have e19 := lv_neT (a := 53) e19 (by decide)
                                                          have e20 := lv_neT (a := 54) e20 (by decide)
                                                          have e21 := lv_neT (a := 55) e21 (by decide)
                                                          have e22 := lv_neT (a := 56) e22 (by decide)
                                                          have e23 := lv_neT (a := 57) e23 (by decide)
                                                          have e24 := lv_neT (a := 58) e24 (by decide)
                                                          have e25 := lv_neT (a := 59) e25 (by decide)
                                                          have e26 := lv_neT (a := 60) e26 (by decide)
                                                          have e27 := lv_neT (a := 61) e27 (by decide)
                                                          have e28 := lv_neT (a := 62) e28 (by decide)
                                                          refine g_tableOut f 130 dX11_isSign_1 (by omega) rfl ?_
                                                          refine g_iconst f 0 dX11_isSign_130 kc_0 ?_
                                                          exact g_zret f hq (Nat.le_of_ble_eq_true rfl) (Nat.le_of_ble_eq_true rfl) dX11_isSign_131 zb_0.1 h
theorem c_X11_isSign {Ω : OM} {i0 : Int32} {μ : Me} {Q : Int32 → Me → Prop} (h : S_X11_isSign i0 μ Q) : CT Ω yX11_isSign cX11_isSign 1 (some .boolean) (rmc 0 0 0) [.int i0] μ (qI Q) := CT_of (by decide) rfl (by simp [lg_sl, Value.category]) (fun x hΩ f hq hi => by subst hΩ; exact t_X11_isSign f hq h)
theorem dX11_nextToken_0 : decode cX11_nextToken 0 = .ok (.aload_n 0, 1) := by decide +kernel
theorem dX11_nextToken_1 : decode cX11_nextToken 1 = .ok (.aload_n 0, 1) := by decide +kernel
theorem dX11_nextToken_2 : decode cX11_nextToken 2 = .ok (.getfield 92, 3) := by decide +kernel
theorem dX11_nextToken_5 : decode cX11_nextToken 5 = .ok (.invokevirtual 95, 3) := by decide +kernel
theorem dX11_nextToken_8 : decode cX11_nextToken 8 = .ok (.bipush 32, 2) := by decide +kernel
theorem dX11_nextToken_10 : decode cX11_nextToken 10 = .ok (.if_icmp .eq 16, 3) := by decide +kernel
theorem dX11_nextToken_13 : decode cX11_nextToken 13 = .ok (.aload_n 0, 1) := by decide +kernel
theorem dX11_nextToken_14 : decode cX11_nextToken 14 = .ok (.aload_n 0, 1) := by decide +kernel
theorem dX11_nextToken_15 : decode cX11_nextToken 15 = .ok (.getfield 92, 3) := by decide +kernel
theorem dX11_nextToken_18 : decode cX11_nextToken 18 = .ok (.invokevirtual 95, 3) := by decide +kernel
theorem dX11_nextToken_21 : decode cX11_nextToken 21 = .ok (.bipush 10, 2) := by decide +kernel
theorem dX11_nextToken_23 : decode cX11_nextToken 23 = .ok (.if_icmp .ne 16, 3) := by decide +kernel
theorem dX11_nextToken_26 : decode cX11_nextToken 26 = .ok (.aload_n 0, 1) := by decide +kernel
theorem dX11_nextToken_27 : decode cX11_nextToken 27 = .ok (.dup, 1) := by decide +kernel
theorem dX11_nextToken_28 : decode cX11_nextToken 28 = .ok (.getfield 92, 3) := by decide +kernel
theorem dX11_nextToken_31 : decode cX11_nextToken 31 = .ok (.iconst 1, 1) := by decide +kernel
theorem dX11_nextToken_32 : decode cX11_nextToken 32 = .ok (.iadd, 1) := by decide +kernel
theorem dX11_nextToken_33 : decode cX11_nextToken 33 = .ok (.putfield 92, 3) := by decide +kernel
theorem dX11_nextToken_36 : decode cX11_nextToken 36 = .ok (.goto (-36), 3) := by decide +kernel
theorem dX11_nextToken_39 : decode cX11_nextToken 39 = .ok (.aload_n 0, 1) := by decide +kernel
theorem dX11_nextToken_40 : decode cX11_nextToken 40 = .ok (.aload_n 0, 1) := by decide +kernel
theorem dX11_nextToken_41 : decode cX11_nextToken 41 = .ok (.getfield 92, 3) := by decide +kernel
theorem dX11_nextToken_44 : decode cX11_nextToken 44 = .ok (.putfield 99, 3) := by decide +kernel
theorem dX11_nextToken_47 : decode cX11_nextToken 47 = .ok (.aload_n 0, 1) := by decide +kernel
theorem dX11_nextToken_48 : decode cX11_nextToken 48 = .ok (.aload_n 0, 1) := by decide +kernel
theorem dX11_nextToken_49 : decode cX11_nextToken 49 = .ok (.getfield 92, 3) := by decide +kernel
theorem dX11_nextToken_52 : decode cX11_nextToken 52 = .ok (.invokevirtual 95, 3) := by decide +kernel
theorem dX11_nextToken_55 : decode cX11_nextToken 55 = .ok (.istore_n 1, 1) := by decide +kernel
theorem dX11_nextToken_56 : decode cX11_nextToken 56 = .ok (.iload_n 1, 1) := by decide +kernel
theorem dX11_nextToken_57 : decode cX11_nextToken 57 = .ok (.ifCond .ge 11, 3) := by decide +kernel
theorem dX11_nextToken_60 : decode cX11_nextToken 60 = .ok (.aload_n 0, 1) := by decide +kernel
theorem dX11_nextToken_61 : decode cX11_nextToken 61 = .ok (.iconst 0, 1) := by decide +kernel
theorem dX11_nextToken_62 : decode cX11_nextToken 62 = .ok (.putfield 102, 3) := by decide +kernel
theorem dX11_nextToken_65 : decode cX11_nextToken 65 = .ok (.goto 245, 3) := by decide +kernel
theorem dX11_nextToken_68 : decode cX11_nextToken 68 = .ok (.iload_n 1, 1) := by decide +kernel
theorem dX11_nextToken_69 : decode cX11_nextToken 69 = .ok (.invokestatic 105, 3) := by decide +kernel
theorem dX11_nextToken_72 : decode cX11_nextToken 72 = .ok (.ifCond .eq 79, 3) := by decide +kernel
theorem dX11_nextToken_75 : decode cX11_nextToken 75 = .ok (.aload_n 0, 1) := by decide +kernel
theorem dX11_nextToken_76 : decode cX11_nextToken 76 = .ok (.iconst 1, 1) := by decide +kernel
theorem dX11_nextToken_77 : decode cX11_nextToken 77 = .ok (.putfield 102, 3) := by decide +kernel
theorem dX11_nextToken_80 : decode cX11_nextToken 80 = .ok (.aload_n 0, 1) := by decide +kernel
theorem dX11_nextToken_81 : decode cX11_nextToken 81 = .ok (.iconst 0, 1) := by decide +kernel
theorem dX11_nextToken_82 : decode cX11_nextToken 82 = .ok (.putfield 109, 3) := by decide +kernel
theorem dX11_nextToken_85 : decode cX11_nextToken 85 = .ok (.aload_n 0, 1) := by decide +kernel
theorem dX11_nextToken_86 : decode cX11_nextToken 86 = .ok (.aload_n 0, 1) := by decide +kernel
theorem dX11_nextToken_87 : decode cX11_nextToken 87 = .ok (.getfield 92, 3) := by decide +kernel
theorem dX11_nextToken_90 : decode cX11_nextToken 90 = .ok (.invokevirtual 95, 3) := by decide +kernel
theorem dX11_nextToken_93 : decode cX11_nextToken 93 = .ok (.invokestatic 105, 3) := by decide +kernel
theorem dX11_nextToken_96 : decode cX11_nextToken 96 = .ok (.ifCond .eq 214, 3) := by decide +kernel
theorem dX11_nextToken_99 : decode cX11_nextToken 99 = .ok (.aload_n 0, 1) := by decide +kernel
theorem dX11_nextToken_100 : decode cX11_nextToken 100 = .ok (.aload_n 0, 1) := by decide +kernel
theorem dX11_nextToken_101 : decode cX11_nextToken 101 = .ok (.getfield 109, 3) := by decide +kernel
theorem dX11_nextToken_104 : decode cX11_nextToken 104 = .ok (.ldc 112, 2) := by decide +kernel
theorem dX11_nextToken_106 : decode cX11_nextToken 106 = .ok (.if_icmp .le 10, 3) := by decide +kernel
theorem dX11_nextToken_109 : decode cX11_nextToken 109 = .ok (.aload_n 0, 1) := by decide +kernel
theorem dX11_nextToken_110 : decode cX11_nextToken 110 = .ok (.getfield 109, 3) := by decide +kernel
theorem dX11_nextToken_113 : decode cX11_nextToken 113 = .ok (.goto 22, 3) := by decide +kernel
theorem dX11_nextToken_116 : decode cX11_nextToken 116 = .ok (.bipush 10, 2) := by decide +kernel
theorem dX11_nextToken_118 : decode cX11_nextToken 118 = .ok (.aload_n 0, 1) := by decide +kernel
theorem dX11_nextToken_119 : decode cX11_nextToken 119 = .ok (.getfield 109, 3) := by decide +kernel
theorem dX11_nextToken_122 : decode cX11_nextToken 122 = .ok (.imul, 1) := by decide +kernel
theorem dX11_nextToken_123 : decode cX11_nextToken 123 = .ok (.aload_n 0, 1) := by decide +kernel
theorem dX11_nextToken_124 : decode cX11_nextToken 124 = .ok (.aload_n 0, 1) := by decide +kernel
theorem dX11_nextToken_125 : decode cX11_nextToken 125 = .ok (.getfield 92, 3) := by decide +kernel
theorem dX11_nextToken_128 : decode cX11_nextToken 128 = .ok (.invokevirtual 95, 3) := by decide +kernel
theorem dX11_nextToken_131 : decode cX11_nextToken 131 = .ok (.iadd, 1) := by decide +kernel
theorem dX11_nextToken_132 : decode cX11_nextToken 132 = .ok (.bipush 48, 2) := by decide +kernel
theorem dX11_nextToken_134 : decode cX11_nextToken 134 = .ok (.isub, 1) := by decide +kernel
theorem dX11_nextToken_135 : decode cX11_nextToken 135 = .ok (.putfield 109, 3) := by decide +kernel
theorem dX11_nextToken_138 : decode cX11_nextToken 138 = .ok (.aload_n 0, 1) := by decide +kernel
theorem dX11_nextToken_139 : decode cX11_nextToken 139 = .ok (.dup, 1) := by decide +kernel
theorem dX11_nextToken_140 : decode cX11_nextToken 140 = .ok (.getfield 92, 3) := by decide +kernel
theorem dX11_nextToken_143 : decode cX11_nextToken 143 = .ok (.iconst 1, 1) := by decide +kernel
theorem dX11_nextToken_144 : decode cX11_nextToken 144 = .ok (.iadd, 1) := by decide +kernel
theorem dX11_nextToken_145 : decode cX11_nextToken 145 = .ok (.putfield 92, 3) := by decide +kernel
theorem dX11_nextToken_148 : decode cX11_nextToken 148 = .ok (.goto (-63), 3) := by decide +kernel
theorem dX11_nextToken_151 : decode cX11_nextToken 151 = .ok (.iload_n 1, 1) := by decide +kernel
theorem dX11_nextToken_152 : decode cX11_nextToken 152 = .ok (.invokestatic 113, 3) := by decide +kernel
theorem dX11_nextToken_155 : decode cX11_nextToken 155 = .ok (.ifCond .eq 79, 3) := by decide +kernel
theorem dX11_nextToken_158 : decode cX11_nextToken 158 = .ok (.aload_n 0, 1) := by decide +kernel
theorem dX11_nextToken_159 : decode cX11_nextToken 159 = .ok (.iconst 2, 1) := by decide +kernel
theorem dX11_nextToken_160 : decode cX11_nextToken 160 = .ok (.putfield 102, 3) := by decide +kernel
theorem dX11_nextToken_163 : decode cX11_nextToken 163 = .ok (.aload_n 0, 1) := by decide +kernel
theorem dX11_nextToken_164 : decode cX11_nextToken 164 = .ok (.lconst 0, 1) := by decide +kernel
theorem dX11_nextToken_165 : decode cX11_nextToken 165 = .ok (.putfield 116, 3) := by decide +kernel
theorem dX11_nextToken_168 : decode cX11_nextToken 168 = .ok (.aload_n 0, 1) := by decide +kernel
theorem dX11_nextToken_169 : decode cX11_nextToken 169 = .ok (.aload_n 0, 1) := by decide +kernel
theorem dX11_nextToken_170 : decode cX11_nextToken 170 = .ok (.getfield 92, 3) := by decide +kernel
theorem dX11_nextToken_173 : decode cX11_nextToken 173 = .ok (.invokevirtual 95, 3) := by decide +kernel
theorem dX11_nextToken_176 : decode cX11_nextToken 176 = .ok (.invokestatic 113, 3) := by decide +kernel
theorem dX11_nextToken_179 : decode cX11_nextToken 179 = .ok (.ifCond .eq 131, 3) := by decide +kernel
theorem dX11_nextToken_182 : decode cX11_nextToken 182 = .ok (.aload_n 0, 1) := by decide +kernel
theorem dX11_nextToken_183 : decode cX11_nextToken 183 = .ok (.aload_n 0, 1) := by decide +kernel
theorem dX11_nextToken_184 : decode cX11_nextToken 184 = .ok (.getfield 116, 3) := by decide +kernel
theorem dX11_nextToken_187 : decode cX11_nextToken 187 = .ok (.bipush 48, 2) := by decide +kernel
theorem dX11_nextToken_189 : decode cX11_nextToken 189 = .ok (.lshr, 1) := by decide +kernel
theorem dX11_nextToken_190 : decode cX11_nextToken 190 = .ok (.lconst 0, 1) := by decide +kernel
theorem dX11_nextToken_191 : decode cX11_nextToken 191 = .ok (.lcmp, 1) := by decide +kernel
theorem dX11_nextToken_192 : decode cX11_nextToken 192 = .ok (.ifCond .eq 9, 3) := by decide +kernel
theorem dX11_nextToken_195 : decode cX11_nextToken 195 = .ok (.ldc2_w 120, 3) := by decide +kernel
theorem dX11_nextToken_198 : decode cX11_nextToken 198 = .ok (.goto 20, 3) := by decide +kernel
theorem dX11_nextToken_201 : decode cX11_nextToken 201 = .ok (.aload_n 0, 1) := by decide +kernel
theorem dX11_nextToken_202 : decode cX11_nextToken 202 = .ok (.getfield 116, 3) := by decide +kernel
theorem dX11_nextToken_205 : decode cX11_nextToken 205 = .ok (.bipush 8, 2) := by decide +kernel
theorem dX11_nextToken_207 : decode cX11_nextToken 207 = .ok (.lshl, 1) := by decide +kernel
theorem dX11_nextToken_208 : decode cX11_nextToken 208 = .ok (.aload_n 0, 1) := by decide +kernel
theorem dX11_nextToken_209 : decode cX11_nextToken 209 = .ok (.aload_n 0, 1) := by decide +kernel
theorem dX11_nextToken_210 : decode cX11_nextToken 210 = .ok (.getfield 92, 3) := by decide +kernel
theorem dX11_nextToken_213 : decode cX11_nextToken 213 = .ok (.invokevirtual 95, 3) := by decide +kernel
theorem dX11_nextToken_216 : decode cX11_nextToken 216 = .ok (.i2l, 1) := by decide +kernel
theorem dX11_nextToken_217 : decode cX11_nextToken 217 = .ok (.lor, 1) := by decide +kernel
theorem dX11_nextToken_218 : decode cX11_nextToken 218 = .ok (.putfield 116, 3) := by decide +kernel
theorem dX11_nextToken_221 : decode cX11_nextToken 221 = .ok (.aload_n 0, 1) := by decide +kernel
theorem dX11_nextToken_222 : decode cX11_nextToken 222 = .ok (.dup, 1) := by decide +kernel
theorem dX11_nextToken_223 : decode cX11_nextToken 223 = .ok (.getfield 92, 3) := by decide +kernel
theorem dX11_nextToken_226 : decode cX11_nextToken 226 = .ok (.iconst 1, 1) := by decide +kernel
theorem dX11_nextToken_227 : decode cX11_nextToken 227 = .ok (.iadd, 1) := by decide +kernel
theorem dX11_nextToken_228 : decode cX11_nextToken 228 = .ok (.putfield 92, 3) := by decide +kernel
theorem dX11_nextToken_231 : decode cX11_nextToken 231 = .ok (.goto (-63), 3) := by decide +kernel
theorem dX11_nextToken_234 : decode cX11_nextToken 234 = .ok (.aload_n 0, 1) := by decide +kernel
theorem dX11_nextToken_235 : decode cX11_nextToken 235 = .ok (.iload_n 1, 1) := by decide +kernel
theorem dX11_nextToken_236 : decode cX11_nextToken 236 = .ok (.invokestatic 122, 3) := by decide +kernel
theorem dX11_nextToken_239 : decode cX11_nextToken 239 = .ok (.ifCond .eq 7, 3) := by decide +kernel
theorem dX11_nextToken_242 : decode cX11_nextToken 242 = .ok (.iload_n 1, 1) := by decide +kernel
theorem dX11_nextToken_243 : decode cX11_nextToken 243 = .ok (.goto 4, 3) := by decide +kernel
theorem dX11_nextToken_246 : decode cX11_nextToken 246 = .ok (.iconst 3, 1) := by decide +kernel
theorem dX11_nextToken_247 : decode cX11_nextToken 247 = .ok (.putfield 102, 3) := by decide +kernel
theorem dX11_nextToken_250 : decode cX11_nextToken 250 = .ok (.aload_n 0, 1) := by decide +kernel
theorem dX11_nextToken_251 : decode cX11_nextToken 251 = .ok (.dup, 1) := by decide +kernel
theorem dX11_nextToken_252 : decode cX11_nextToken 252 = .ok (.getfield 92, 3) := by decide +kernel
theorem dX11_nextToken_255 : decode cX11_nextToken 255 = .ok (.iconst 1, 1) := by decide +kernel
theorem dX11_nextToken_256 : decode cX11_nextToken 256 = .ok (.iadd, 1) := by decide +kernel
theorem dX11_nextToken_257 : decode cX11_nextToken 257 = .ok (.putfield 92, 3) := by decide +kernel
theorem dX11_nextToken_260 : decode cX11_nextToken 260 = .ok (.iload_n 1, 1) := by decide +kernel
theorem dX11_nextToken_261 : decode cX11_nextToken 261 = .ok (.bipush 60, 2) := by decide +kernel
theorem dX11_nextToken_263 : decode cX11_nextToken 263 = .ok (.if_icmp .eq 9, 3) := by decide +kernel
theorem dX11_nextToken_266 : decode cX11_nextToken 266 = .ok (.iload_n 1, 1) := by decide +kernel
theorem dX11_nextToken_267 : decode cX11_nextToken 267 = .ok (.bipush 62, 2) := by decide +kernel
theorem dX11_nextToken_269 : decode cX11_nextToken 269 = .ok (.if_icmp .ne 41, 3) := by decide +kernel
theorem dX11_nextToken_272 : decode cX11_nextToken 272 = .ok (.aload_n 0, 1) := by decide +kernel
theorem dX11_nextToken_273 : decode cX11_nextToken 273 = .ok (.aload_n 0, 1) := by decide +kernel
theorem dX11_nextToken_274 : decode cX11_nextToken 274 = .ok (.getfield 92, 3) := by decide +kernel
theorem dX11_nextToken_277 : decode cX11_nextToken 277 = .ok (.invokevirtual 95, 3) := by decide +kernel
theorem dX11_nextToken_280 : decode cX11_nextToken 280 = .ok (.bipush 61, 2) := by decide +kernel
theorem dX11_nextToken_282 : decode cX11_nextToken 282 = .ok (.if_icmp .ne 28, 3) := by decide +kernel
theorem dX11_nextToken_285 : decode cX11_nextToken 285 = .ok (.aload_n 0, 1) := by decide +kernel
theorem dX11_nextToken_286 : decode cX11_nextToken 286 = .ok (.iload_n 1, 1) := by decide +kernel
theorem dX11_nextToken_287 : decode cX11_nextToken 287 = .ok (.bipush 60, 2) := by decide +kernel
theorem dX11_nextToken_289 : decode cX11_nextToken 289 = .ok (.if_icmp .ne 7, 3) := by decide +kernel
theorem dX11_nextToken_292 : decode cX11_nextToken 292 = .ok (.iconst 4, 1) := by decide +kernel
theorem dX11_nextToken_293 : decode cX11_nextToken 293 = .ok (.goto 4, 3) := by decide +kernel
theorem dX11_nextToken_296 : decode cX11_nextToken 296 = .ok (.iconst 5, 1) := by decide +kernel
theorem dX11_nextToken_297 : decode cX11_nextToken 297 = .ok (.putfield 102, 3) := by decide +kernel
theorem dX11_nextToken_300 : decode cX11_nextToken 300 = .ok (.aload_n 0, 1) := by decide +kernel
theorem dX11_nextToken_301 : decode cX11_nextToken 301 = .ok (.dup, 1) := by decide +kernel
theorem dX11_nextToken_302 : decode cX11_nextToken 302 = .ok (.getfield 92, 3) := by decide +kernel
theorem dX11_nextToken_305 : decode cX11_nextToken 305 = .ok (.iconst 1, 1) := by decide +kernel
theorem dX11_nextToken_306 : decode cX11_nextToken 306 = .ok (.iadd, 1) := by decide +kernel
theorem dX11_nextToken_307 : decode cX11_nextToken 307 = .ok (.putfield 92, 3) := by decide +kernel
theorem dX11_nextToken_310 : decode cX11_nextToken 310 = .ok (.return_, 1) := by decide +kernel
def B_X11_nextToken_26 (o0 : Nat) (μ : Me) (K0 : Me → Prop) (Q : Me → Prop) : Prop := mok μ o0 11 ∧ ∀ μ6, μ6 = msi μ o0 7 ((mgi μ o0 7) + 1) → K0 μ6
set_option maxHeartbeats 4000000 in
set_option maxRecDepth 100000 in
theorem tB_X11_nextToken_26 {x : GX} (f : Fx x cX11_nextToken RX11 2 (rmc 1 0 0)) {o0 : Nat} {μ : Me} {Q : Me → Prop} (hq : Rt x none (qV Q)) {K0 : Me → Prop} (hK0 : ∀ (ν : Me), K0 ν → G x 2 0 [(0, .ref (gB x + o0))] [] ν 0 0) (h : B_X11_nextToken_26 o0 μ K0 Q) : G x 2 26 [(0, .ref (gB x + o0))] [] μ 0 0 := by
  unfold B_X11_nextToken_26 at h
  refine g_aload_n f 0 dX11_nextToken_26 rfl rfl ?_
  refine g_dup f dX11_nextToken_27 rfl ?_
  obtain ⟨v5, h⟩ := h
  refine g_getI f fk_X11_92 v5 dX11_nextToken_28 rfl ?_
  refine g_iconst f 1 dX11_nextToken_31 kc_1 ?_
  refine g_iadd f dX11_nextToken_32 ?_
  refine g_putI f fk_X11_92 v5 dX11_nextToken_33 rfl h (fun h => ?_)
  refine g_goto f 0 dX11_nextToken_36 rfl ?_
  exact h_sub [0] rfl (hK0 _ h)
def B_X11_nextToken_297 (o0 : Nat) (s0 : Int32) (s1 : Option Nat) (μ : Me) (Q : Me → Prop) : Prop := ∃ t34, s1 = some t34 ∧ mok μ t34 11 ∧ ∀ μ38, μ38 = msi μ t34 9 s0 → mok μ38 o0 11 ∧ ∀ μ40, μ40 = msi μ38 o0 7 ((mgi μ38 o0 7) + 1) → Q μ40
set_option maxHeartbeats 4000000 in
set_option maxRecDepth 100000 in
theorem tB_X11_nextToken_297 {x : GX} (f : Fx x cX11_nextToken RX11 2 (rmc 1 0 0)) {o0 : Nat} {s0 : Int32} {s1 : Option Nat} {μ : Me} {Q : Me → Prop} (hq : Rt x none (qV Q)) (h : B_X11_nextToken_297 o0 s0 s1 μ Q) : G x 2 297 [(0, .ref (gB x + o0))] [.int s0, vr (gB x) s1] μ 0 0 := by
  unfold B_X11_nextToken_297 at h
  obtain ⟨t34, e35, h36⟩ := h
  subst e35
  have h := h36
  obtain ⟨v37, h⟩ := h
  refine g_putI f fk_X11_102 v37 dX11_nextToken_297 rfl h (fun h => ?_)
  refine g_aload_n f 0 dX11_nextToken_300 rfl rfl ?_
  refine g_dup f dX11_nextToken_301 rfl ?_
  obtain ⟨v39, h⟩ := h
  refine g_getI f fk_X11_92 v39 dX11_nextToken_302 rfl ?_
  refine g_iconst f 1 dX11_nextToken_305 kc_1 ?_
  refine g_iadd f dX11_nextToken_306 ?_
  refine g_putI f fk_X11_92 v39 dX11_nextToken_307 rfl h (fun h => ?_)
  exact g_vret f hq (Nat.le_of_ble_eq_true rfl) (Nat.le_of_ble_eq_true rfl) dX11_nextToken_310 h
def B_X11_nextToken_272 (o0 : Nat) (i1 : Int32) (μ : Me) (Q : Me → Prop) : Prop := mok μ o0 11 ∧ S_X11_byteAt o0 (mgi μ o0 7) μ (fun r33 μ31 => ((¬ r33 = 61 → Q μ31) ∧ (r33 = 61 → ((¬ i1 = 60 → B_X11_nextToken_297 o0 5 (some o0) μ31 Q) ∧ (i1 = 60 → B_X11_nextToken_297 o0 4 (some o0) μ31 Q)))))
set_option maxHeartbeats 4000000 in
set_option maxRecDepth 100000 in
theorem tB_X11_nextToken_272 {x : GX} (f : Fx x cX11_nextToken RX11 2 (rmc 1 0 0)) {o0 : Nat} {i1 : Int32} {μ : Me} {Q : Me → Prop} (hq : Rt x none (qV Q)) (h : B_X11_nextToken_272 o0 i1 μ Q) : G x 2 272 [(0, .ref (gB x + o0)), (1, .int i1)] [] μ 0 0 := by
  unfold B_X11_nextToken_272 at h
  refine g_aload_n f 0 dX11_nextToken_272 rfl rfl ?_
  refine g_aload_n f 0 dX11_nextToken_273 rfl rfl ?_
  obtain ⟨v30, h⟩ := h
  refine g_getI f fk_X11_92 v30 dX11_nextToken_274 rfl ?_
  refine g_callV f mk_X11_95 v30 (c_X11_byteAt h) dX11_nextToken_277 rfl rfl (Nat.le_of_ble_eq_true rfl) (rm_ok (by decide) (by decide)) ⟨Nat.le_of_ble_eq_true rfl, Nat.le_of_ble_eq_true rfl⟩ (kI fun r33 μ31 x32 h => ?_)
  refine g_bipush f 61 dX11_nextToken_280 kb_61 ?_
  refine g_ic_ne f 310 dX11_nextToken_282 rfl h (fun h => ?_) (fun h => ?_)
  · exact g_vret f hq (Nat.le_of_ble_eq_true rfl) (Nat.le_of_ble_eq_true rfl) dX11_nextToken_310 h
  · refine g_aload_n f 0 dX11_nextToken_285 rfl rfl ?_
    refine g_iload_n f 1 dX11_nextToken_286 rfl rfl ?_
    refine g_bipush f 60 dX11_nextToken_287 kb_60 ?_
    refine g_ic_ne f 296 dX11_nextToken_289 rfl h (fun h => ?_) (fun h => ?_)
    · refine g_iconst f 5 dX11_nextToken_296 kc_5 ?_
      exact h_sub [0] rfl (tB_X11_nextToken_297 f hq h)
    · refine g_iconst f 4 dX11_nextToken_292 kc_4 ?_
      refine g_goto f 297 dX11_nextToken_293 rfl ?_
      exact h_sub [0] rfl (tB_X11_nextToken_297 f hq h)
def B_X11_nextToken_247 (o0 : Nat) (i1 : Int32) (s0 : Int32) (s1 : Option Nat) (μ : Me) (Q : Me → Prop) : Prop := ∃ t23, s1 = some t23 ∧ mok μ t23 11 ∧ ∀ μ27, μ27 = msi μ t23 9 s0 → mok μ27 o0 11 ∧ ∀ μ29, μ29 = msi μ27 o0 7 ((mgi μ27 o0 7) + 1) → ((i1 = 60 → B_X11_nextToken_272 o0 i1 μ29 Q) ∧ (¬ i1 = 60 → ((¬ i1 = 62 → Q μ29) ∧ (i1 = 62 → B_X11_nextToken_272 o0 i1 μ29 Q))))
set_option maxHeartbeats 4000000 in
set_option maxRecDepth 100000 in
theorem tB_X11_nextToken_247 {x : GX} (f : Fx x cX11_nextToken RX11 2 (rmc 1 0 0)) {o0 : Nat} {i1 : Int32} {s0 : Int32} {s1 : Option Nat} {μ : Me} {Q : Me → Prop} (hq : Rt x none (qV Q)) (h : B_X11_nextToken_247 o0 i1 s0 s1 μ Q) : G x 2 247 [(0, .ref (gB x + o0)), (1, .int i1)] [.int s0, vr (gB x) s1] μ 0 0 := by
  unfold B_X11_nextToken_247 at h
  obtain ⟨t23, e24, h25⟩ := h
  subst e24
  have h := h25
  obtain ⟨v26, h⟩ := h
  refine g_putI f fk_X11_102 v26 dX11_nextToken_247 rfl h (fun h => ?_)
  refine g_aload_n f 0 dX11_nextToken_250 rfl rfl ?_
  refine g_dup f dX11_nextToken_251 rfl ?_
  obtain ⟨v28, h⟩ := h
  refine g_getI f fk_X11_92 v28 dX11_nextToken_252 rfl ?_
  refine g_iconst f 1 dX11_nextToken_255 kc_1 ?_
  refine g_iadd f dX11_nextToken_256 ?_
  refine g_putI f fk_X11_92 v28 dX11_nextToken_257 rfl h (fun h => ?_)
  refine g_iload_n f 1 dX11_nextToken_260 rfl rfl ?_
  refine g_bipush f 60 dX11_nextToken_261 kb_60 ?_
  refine g_ic_eq f 272 dX11_nextToken_263 rfl h (fun h => ?_) (fun h => ?_)
  · exact h_sub [0, 1] rfl (tB_X11_nextToken_272 f hq h)
  · refine g_iload_n f 1 dX11_nextToken_266 rfl rfl ?_
    refine g_bipush f 62 dX11_nextToken_267 kb_62 ?_
    refine g_ic_ne f 310 dX11_nextToken_269 rfl h (fun h => ?_) (fun h => ?_)
    · exact g_vret f hq (Nat.le_of_ble_eq_true rfl) (Nat.le_of_ble_eq_true rfl) dX11_nextToken_310 h
    · exact h_sub [0, 1] rfl (tB_X11_nextToken_272 f hq h)
def B_X11_nextToken_218 (o0 : Nat) (s0 : Int64) (s1 : Option Nat) (μ : Me) (K168 : Me → Prop) (Q : Me → Prop) : Prop := ∃ t53, s1 = some t53 ∧ mok μ t53 11 ∧ ∀ μ57, μ57 = msl μ t53 11 s0 → mok μ57 o0 11 ∧ ∀ μ59, μ59 = msi μ57 o0 7 ((mgi μ57 o0 7) + 1) → K168 μ59
set_option maxHeartbeats 4000000 in
set_option maxRecDepth 100000 in
theorem tB_X11_nextToken_218 {x : GX} (f : Fx x cX11_nextToken RX11 2 (rmc 1 0 0)) {o0 : Nat} {s0 : Int64} {s1 : Option Nat} {μ : Me} {Q : Me → Prop} (hq : Rt x none (qV Q)) {K168 : Me → Prop} (hK168 : ∀ (ν : Me), K168 ν → G x 2 168 [(0, .ref (gB x + o0))] [] ν 0 0) (h : B_X11_nextToken_218 o0 s0 s1 μ K168 Q) : G x 2 218 [(0, .ref (gB x + o0))] [.long s0, vr (gB x) s1] μ 0 0 := by
  unfold B_X11_nextToken_218 at h
  obtain ⟨t53, e54, h55⟩ := h
  subst e54
  have h := h55
  obtain ⟨v56, h⟩ := h
  refine g_putL f fk_X11_116 v56 dX11_nextToken_218 rfl h (fun h => ?_)
  refine g_aload_n f 0 dX11_nextToken_221 rfl rfl ?_
  refine g_dup f dX11_nextToken_222 rfl ?_
  obtain ⟨v58, h⟩ := h
  refine g_getI f fk_X11_92 v58 dX11_nextToken_223 rfl ?_
  refine g_iconst f 1 dX11_nextToken_226 kc_1 ?_
  refine g_iadd f dX11_nextToken_227 ?_
  refine g_putI f fk_X11_92 v58 dX11_nextToken_228 rfl h (fun h => ?_)
  refine g_goto f 168 dX11_nextToken_231 rfl ?_
  exact h_sub [0] rfl (hK168 _ h)
def B_X11_nextToken_168 (o0 : Nat) (μ : Me) (K168 : Me → Prop) (Q : Me → Prop) : Prop := mok μ o0 11 ∧ S_X11_byteAt o0 (mgi μ o0 7) μ (fun r46 μ44 => S_X11_isLetterByte r46 μ44 (fun r49 μ47 => ((r49 = 0 → Q μ47) ∧ (¬ r49 = 0 → (((lg_cmp ((mgl μ47 o0 11) >>> ((48 : Int32).toInt64 &&& 63)) (0 : Int64)) = 0 → S_X11_byteAt o0 (mgi μ47 o0 7) μ47 (fun r52 μ50 => B_X11_nextToken_218 o0 (((mgl μ47 o0 11) <<< ((8 : Int32).toInt64 &&& 63)) ||| r52.toInt64) (some o0) μ50 K168 Q)) ∧ (¬ (lg_cmp ((mgl μ47 o0 11) >>> ((48 : Int32).toInt64 &&& 63)) (0 : Int64)) = 0 → B_X11_nextToken_218 o0 1152921504606846976 (some o0) μ47 K168 Q))))))
set_option maxHeartbeats 4000000 in
set_option maxRecDepth 100000 in
theorem tB_X11_nextToken_168 {x : GX} (f : Fx x cX11_nextToken RX11 2 (rmc 1 0 0)) {o0 : Nat} {μ : Me} {Q : Me → Prop} (hq : Rt x none (qV Q)) {K168 : Me → Prop} (hK168 : ∀ (ν : Me), K168 ν → G x 2 168 [(0, .ref (gB x + o0))] [] ν 0 0) (h : B_X11_nextToken_168 o0 μ K168 Q) : G x 2 168 [(0, .ref (gB x + o0))] [] μ 0 0 := by
  unfold B_X11_nextToken_168 at h
  refine g_aload_n f 0 dX11_nextToken_168 rfl rfl ?_
  refine g_aload_n f 0 dX11_nextToken_169 rfl rfl ?_
  obtain ⟨v43, h⟩ := h
  refine g_getI f fk_X11_92 v43 dX11_nextToken_170 rfl ?_
  refine g_callV f mk_X11_95 v43 (c_X11_byteAt h) dX11_nextToken_173 rfl rfl (Nat.le_of_ble_eq_true rfl) (rm_ok (by decide) (by decide)) ⟨Nat.le_of_ble_eq_true rfl, Nat.le_of_ble_eq_true rfl⟩ (kI fun r46 μ44 x45 h => ?_)
  refine g_callS f mk_X11_113 (c_X11_isLetterByte h) dX11_nextToken_176 rfl rfl (Nat.le_of_ble_eq_true rfl) (rm_ok (by decide) (by decide)) ⟨Nat.le_of_ble_eq_true rfl, Nat.le_of_ble_eq_true rfl⟩ (kI fun r49 μ47 x48 h => ?_)
  refine g_if_eq f 310 dX11_nextToken_179 rfl h (fun h => ?_) (fun h => ?_)
  · exact g_vret f hq (Nat.le_of_ble_eq_true rfl) (Nat.le_of_ble_eq_true rfl) dX11_nextToken_310 h
  · refine g_aload_n f 0 dX11_nextToken_182 rfl rfl ?_
    refine g_aload_n f 0 dX11_nextToken_183 rfl rfl ?_
    have v43 := mex_ok x45 v43
    have v43 := mex_ok x48 v43
    refine g_getL f fk_X11_116 v43 dX11_nextToken_184 rfl ?_
    refine g_bipush f 48 dX11_nextToken_187 kb_48 ?_
    refine g_lshr f dX11_nextToken_189 ?_
    refine g_lconst f 0 dX11_nextToken_190 rfl ?_
    refine g_lcmp f dX11_nextToken_191 ?_
    refine g_if_eq f 201 dX11_nextToken_192 rfl h (fun h => ?_) (fun h => ?_)
    · refine g_aload_n f 0 dX11_nextToken_201 rfl rfl ?_
      refine g_getL f fk_X11_116 v43 dX11_nextToken_202 rfl ?_
      refine g_bipush f 8 dX11_nextToken_205 kb_8 ?_
      refine g_lshl f dX11_nextToken_207 ?_
      refine g_aload_n f 0 dX11_nextToken_208 rfl rfl ?_
      refine g_aload_n f 0 dX11_nextToken_209 rfl rfl ?_
      refine g_getI f fk_X11_92 v43 dX11_nextToken_210 rfl ?_
      refine g_callV f mk_X11_95 v43 (c_X11_byteAt h) dX11_nextToken_213 rfl rfl (Nat.le_of_ble_eq_true rfl) (rm_ok (by decide) (by decide)) ⟨Nat.le_of_ble_eq_true rfl, Nat.le_of_ble_eq_true rfl⟩ (kI fun r52 μ50 x51 h => ?_)
      refine g_i2l f dX11_nextToken_216 ?_
      refine g_lor f dX11_nextToken_217 ?_
      exact h_sub [0] rfl (tB_X11_nextToken_218 f hq hK168 h)
    · refine g_ldc2 f w_1526 dX11_nextToken_195 ?_
      refine g_goto f 218 dX11_nextToken_198 rfl ?_
      exact h_sub [0] rfl (tB_X11_nextToken_218 f hq hK168 h)
def L_X11_nextToken_168 (o0 : Nat) (μ : Me) (Q : Me → Prop) : Prop := ∃ I : Me → Nat → Prop, (∃ n, I μ n) ∧ ∀ (μ : Me) (n : Nat), I μ n → B_X11_nextToken_168 o0 μ (fun ν => ∃ n', n' < n ∧ I ν n') Q
set_option maxHeartbeats 4000000 in
set_option maxRecDepth 100000 in
theorem tL_X11_nextToken_168 {x : GX} (f : Fx x cX11_nextToken RX11 2 (rmc 1 0 0)) {o0 : Nat} {μ : Me} {Q : Me → Prop} (hq : Rt x none (qV Q)) (h : L_X11_nextToken_168 o0 μ Q) : G x 2 168 [(0, .ref (gB x + o0))] [] μ 0 0 := by
  obtain ⟨I, ⟨n, hI⟩, hs⟩ := h
  induction n using Nat.strongRecOn generalizing μ with
  | ind n ih => exact tB_X11_nextToken_168 f hq (fun ν hk => by obtain ⟨n2, hn, hI2⟩ := hk; exact ih n2 hn hI2) (hs _ _ hI)
def B_X11_nextToken_135 (o0 : Nat) (s0 : Int32) (s1 : Option Nat) (μ : Me) (K85 : Me → Prop) (Q : Me → Prop) : Prop := ∃ t72, s1 = some t72 ∧ mok μ t72 11 ∧ ∀ μ76, μ76 = msi μ t72 10 s0 → mok μ76 o0 11 ∧ ∀ μ78, μ78 = msi μ76 o0 7 ((mgi μ76 o0 7) + 1) → K85 μ78
set_option maxHeartbeats 4000000 in
set_option maxRecDepth 100000 in
theorem tB_X11_nextToken_135 {x : GX} (f : Fx x cX11_nextToken RX11 2 (rmc 1 0 0)) {o0 : Nat} {s0 : Int32} {s1 : Option Nat} {μ : Me} {Q : Me → Prop} (hq : Rt x none (qV Q)) {K85 : Me → Prop} (hK85 : ∀ (ν : Me), K85 ν → G x 2 85 [(0, .ref (gB x + o0))] [] ν 0 0) (h : B_X11_nextToken_135 o0 s0 s1 μ K85 Q) : G x 2 135 [(0, .ref (gB x + o0))] [.int s0, vr (gB x) s1] μ 0 0 := by
  unfold B_X11_nextToken_135 at h
  obtain ⟨t72, e73, h74⟩ := h
  subst e73
  have h := h74
  obtain ⟨v75, h⟩ := h
  refine g_putI f fk_X11_109 v75 dX11_nextToken_135 rfl h (fun h => ?_)
  refine g_aload_n f 0 dX11_nextToken_138 rfl rfl ?_
  refine g_dup f dX11_nextToken_139 rfl ?_
  obtain ⟨v77, h⟩ := h
  refine g_getI f fk_X11_92 v77 dX11_nextToken_140 rfl ?_
  refine g_iconst f 1 dX11_nextToken_143 kc_1 ?_
  refine g_iadd f dX11_nextToken_144 ?_
  refine g_putI f fk_X11_92 v77 dX11_nextToken_145 rfl h (fun h => ?_)
  refine g_goto f 85 dX11_nextToken_148 rfl ?_
  exact h_sub [0] rfl (hK85 _ h)
def B_X11_nextToken_85 (o0 : Nat) (μ : Me) (K85 : Me → Prop) (Q : Me → Prop) : Prop := mok μ o0 11 ∧ S_X11_byteAt o0 (mgi μ o0 7) μ (fun r65 μ63 => S_X11_isFigure r65 μ63 (fun r68 μ66 => ((r68 = 0 → Q μ66) ∧ (¬ r68 = 0 → (((mgi μ66 o0 10) ≤ 99999 → S_X11_byteAt o0 (mgi μ66 o0 7) μ66 (fun r71 μ69 => B_X11_nextToken_135 o0 (((10 * (mgi μ66 o0 10)) + r71) - 48) (some o0) μ69 K85 Q)) ∧ (¬ (mgi μ66 o0 10) ≤ 99999 → B_X11_nextToken_135 o0 (mgi μ66 o0 10) (some o0) μ66 K85 Q))))))
set_option maxHeartbeats 4000000 in
set_option maxRecDepth 100000 in
theorem tB_X11_nextToken_85 {x : GX} (f : Fx x cX11_nextToken RX11 2 (rmc 1 0 0)) {o0 : Nat} {μ : Me} {Q : Me → Prop} (hq : Rt x none (qV Q)) {K85 : Me → Prop} (hK85 : ∀ (ν : Me), K85 ν → G x 2 85 [(0, .ref (gB x + o0))] [] ν 0 0) (h : B_X11_nextToken_85 o0 μ K85 Q) : G x 2 85 [(0, .ref (gB x + o0))] [] μ 0 0 := by
  unfold B_X11_nextToken_85 at h
  refine g_aload_n f 0 dX11_nextToken_85 rfl rfl ?_
  refine g_aload_n f 0 dX11_nextToken_86 rfl rfl ?_
  obtain ⟨v62, h⟩ := h
  refine g_getI f fk_X11_92 v62 dX11_nextToken_87 rfl ?_
  refine g_callV f mk_X11_95 v62 (c_X11_byteAt h) dX11_nextToken_90 rfl rfl (Nat.le_of_ble_eq_true rfl) (rm_ok (by decide) (by decide)) ⟨Nat.le_of_ble_eq_true rfl, Nat.le_of_ble_eq_true rfl⟩ (kI fun r65 μ63 x64 h => ?_)
  refine g_callS f mk_X11_105 (c_X11_isFigure h) dX11_nextToken_93 rfl rfl (Nat.le_of_ble_eq_true rfl) (rm_ok (by decide) (by decide)) ⟨Nat.le_of_ble_eq_true rfl, Nat.le_of_ble_eq_true rfl⟩ (kI fun r68 μ66 x67 h => ?_)
  refine g_if_eq f 310 dX11_nextToken_96 rfl h (fun h => ?_) (fun h => ?_)
  · exact g_vret f hq (Nat.le_of_ble_eq_true rfl) (Nat.le_of_ble_eq_true rfl) dX11_nextToken_310 h
  · refine g_aload_n f 0 dX11_nextToken_99 rfl rfl ?_
    refine g_aload_n f 0 dX11_nextToken_100 rfl rfl ?_
    have v62 := mex_ok x64 v62
    have v62 := mex_ok x67 v62
    refine g_getI f fk_X11_109 v62 dX11_nextToken_101 rfl ?_
    refine g_ldc f w_1522 dX11_nextToken_104 ?_
    refine g_ic_le f 116 dX11_nextToken_106 rfl h (fun h => ?_) (fun h => ?_)
    · refine g_bipush f 10 dX11_nextToken_116 kb_10 ?_
      refine g_aload_n f 0 dX11_nextToken_118 rfl rfl ?_
      refine g_getI f fk_X11_109 v62 dX11_nextToken_119 rfl ?_
      refine g_imul f dX11_nextToken_122 ?_
      refine g_aload_n f 0 dX11_nextToken_123 rfl rfl ?_
      refine g_aload_n f 0 dX11_nextToken_124 rfl rfl ?_
      refine g_getI f fk_X11_92 v62 dX11_nextToken_125 rfl ?_
      refine g_callV f mk_X11_95 v62 (c_X11_byteAt h) dX11_nextToken_128 rfl rfl (Nat.le_of_ble_eq_true rfl) (rm_ok (by decide) (by decide)) ⟨Nat.le_of_ble_eq_true rfl, Nat.le_of_ble_eq_true rfl⟩ (kI fun r71 μ69 x70 h => ?_)
      refine g_iadd f dX11_nextToken_131 ?_
      refine g_bipush f 48 dX11_nextToken_132 kb_48 ?_
      refine g_isub f dX11_nextToken_134 ?_
      exact h_sub [0] rfl (tB_X11_nextToken_135 f hq hK85 h)
    · refine g_aload_n f 0 dX11_nextToken_109 rfl rfl ?_
      refine g_getI f fk_X11_109 v62 dX11_nextToken_110 rfl ?_
      refine g_goto f 135 dX11_nextToken_113 rfl ?_
      exact h_sub [0] rfl (tB_X11_nextToken_135 f hq hK85 h)
def L_X11_nextToken_85 (o0 : Nat) (μ : Me) (Q : Me → Prop) : Prop := ∃ I : Me → Nat → Prop, (∃ n, I μ n) ∧ ∀ (μ : Me) (n : Nat), I μ n → B_X11_nextToken_85 o0 μ (fun ν => ∃ n', n' < n ∧ I ν n') Q
set_option maxHeartbeats 4000000 in
set_option maxRecDepth 100000 in
theorem tL_X11_nextToken_85 {x : GX} (f : Fx x cX11_nextToken RX11 2 (rmc 1 0 0)) {o0 : Nat} {μ : Me} {Q : Me → Prop} (hq : Rt x none (qV Q)) (h : L_X11_nextToken_85 o0 μ Q) : G x 2 85 [(0, .ref (gB x + o0))] [] μ 0 0 := by
  obtain ⟨I, ⟨n, hI⟩, hs⟩ := h
  induction n using Nat.strongRecOn generalizing μ with
  | ind n ih => exact tB_X11_nextToken_85 f hq (fun ν hk => by obtain ⟨n2, hn, hI2⟩ := hk; exact ih n2 hn hI2) (hs _ _ hI)
def B_X11_nextToken_0 (o0 : Nat) (μ : Me) (K0 : Me → Prop) (Q : Me → Prop) : Prop := mok μ o0 11 ∧ S_X11_byteAt o0 (mgi μ o0 7) μ (fun r4 μ2 => ((r4 = 32 → B_X11_nextToken_26 o0 μ2 K0 Q) ∧ (¬ r4 = 32 → S_X11_byteAt o0 (mgi μ2 o0 7) μ2 (fun r9 μ7 => ((¬ r9 = 10 → ∀ μ10, μ10 = msi μ7 o0 8 (mgi μ7 o0 7) → S_X11_byteAt o0 (mgi μ10 o0 7) μ10 (fun r13 μ11 => ((0 ≤ r13 → S_X11_isFigure r13 μ11 (fun r16 μ14 => ((r16 = 0 → S_X11_isLetterByte r13 μ14 (fun r19 μ17 => ((r19 = 0 → S_X11_isSign r13 μ17 (fun r22 μ20 => ((r22 = 0 → B_X11_nextToken_247 o0 r13 3 (some o0) μ20 Q) ∧ (¬ r22 = 0 → B_X11_nextToken_247 o0 r13 r13 (some o0) μ20 Q)))) ∧ (¬ r19 = 0 → ∀ μ41, μ41 = msi μ17 o0 9 2 → ∀ μ42, μ42 = msl μ41 o0 11 0 → L_X11_nextToken_168 o0 μ42 Q)))) ∧ (¬ r16 = 0 → ∀ μ60, μ60 = msi μ14 o0 9 1 → ∀ μ61, μ61 = msi μ60 o0 10 0 → L_X11_nextToken_85 o0 μ61 Q)))) ∧ (¬ 0 ≤ r13 → ∀ μ79, μ79 = msi μ11 o0 9 0 → Q μ79)))) ∧ (r9 = 10 → B_X11_nextToken_26 o0 μ7 K0 Q))))))
set_option maxHeartbeats 4000000 in
set_option maxRecDepth 100000 in
theorem tB_X11_nextToken_0 {x : GX} (f : Fx x cX11_nextToken RX11 2 (rmc 1 0 0)) {o0 : Nat} {μ : Me} {Q : Me → Prop} (hq : Rt x none (qV Q)) {K0 : Me → Prop} (hK0 : ∀ (ν : Me), K0 ν → G x 2 0 [(0, .ref (gB x + o0))] [] ν 0 0) (h : B_X11_nextToken_0 o0 μ K0 Q) : G x 2 0 [(0, .ref (gB x + o0))] [] μ 0 0 := by
  unfold B_X11_nextToken_0 at h
  refine g_aload_n f 0 dX11_nextToken_0 rfl rfl ?_
  refine g_aload_n f 0 dX11_nextToken_1 rfl rfl ?_
  obtain ⟨v1, h⟩ := h
  refine g_getI f fk_X11_92 v1 dX11_nextToken_2 rfl ?_
  refine g_callV f mk_X11_95 v1 (c_X11_byteAt h) dX11_nextToken_5 rfl rfl (Nat.le_of_ble_eq_true rfl) (rm_ok (by decide) (by decide)) ⟨Nat.le_of_ble_eq_true rfl, Nat.le_of_ble_eq_true rfl⟩ (kI fun r4 μ2 x3 h => ?_)
  refine g_bipush f 32 dX11_nextToken_8 kb_32 ?_
  refine g_ic_eq f 26 dX11_nextToken_10 rfl h (fun h => ?_) (fun h => ?_)
  · exact h_sub [0] rfl (tB_X11_nextToken_26 f hq hK0 h)
  · refine g_aload_n f 0 dX11_nextToken_13 rfl rfl ?_
    refine g_aload_n f 0 dX11_nextToken_14 rfl rfl ?_
    have v1 := mex_ok x3 v1
    refine g_getI f fk_X11_92 v1 dX11_nextToken_15 rfl ?_
    refine g_callV f mk_X11_95 v1 (c_X11_byteAt h) dX11_nextToken_18 rfl rfl (Nat.le_of_ble_eq_true rfl) (rm_ok (by decide) (by decide)) ⟨Nat.le_of_ble_eq_true rfl, Nat.le_of_ble_eq_true rfl⟩ (kI fun r9 μ7 x8 h => ?_)
    refine g_bipush f 10 dX11_nextToken_21 kb_10 ?_
    refine g_ic_ne f 39 dX11_nextToken_23 rfl h (fun h => ?_) (fun h => ?_)
    · refine g_aload_n f 0 dX11_nextToken_39 rfl rfl ?_
      refine g_aload_n f 0 dX11_nextToken_40 rfl rfl ?_
      have v1 := mex_ok x8 v1
      refine g_getI f fk_X11_92 v1 dX11_nextToken_41 rfl ?_
      refine g_putI f fk_X11_99 v1 dX11_nextToken_44 rfl h (fun h => ?_)
      refine g_aload_n f 0 dX11_nextToken_47 rfl rfl ?_
      refine g_aload_n f 0 dX11_nextToken_48 rfl rfl ?_
      refine g_getI f fk_X11_92 v1 dX11_nextToken_49 rfl ?_
      refine g_callV f mk_X11_95 v1 (c_X11_byteAt h) dX11_nextToken_52 rfl rfl (Nat.le_of_ble_eq_true rfl) (rm_ok (by decide) (by decide)) ⟨Nat.le_of_ble_eq_true rfl, Nat.le_of_ble_eq_true rfl⟩ (kI fun r13 μ11 x12 h => ?_)
      refine h_istore_n f dX11_nextToken_55 rfl (by decide) ?_
      refine g_iload_n f 0 dX11_nextToken_56 rfl rfl ?_
      refine g_if_ge f 68 dX11_nextToken_57 rfl h (fun h => ?_) (fun h => ?_)
      · refine g_iload_n f 0 dX11_nextToken_68 rfl rfl ?_
        refine g_callS f mk_X11_105 (c_X11_isFigure h) dX11_nextToken_69 rfl rfl (Nat.le_of_ble_eq_true rfl) (rm_ok (by decide) (by decide)) ⟨Nat.le_of_ble_eq_true rfl, Nat.le_of_ble_eq_true rfl⟩ (kI fun r16 μ14 x15 h => ?_)
        refine g_if_eq f 151 dX11_nextToken_72 rfl h (fun h => ?_) (fun h => ?_)
        · refine g_iload_n f 0 dX11_nextToken_151 rfl rfl ?_
          refine g_callS f mk_X11_113 (c_X11_isLetterByte h) dX11_nextToken_152 rfl rfl (Nat.le_of_ble_eq_true rfl) (rm_ok (by decide) (by decide)) ⟨Nat.le_of_ble_eq_true rfl, Nat.le_of_ble_eq_true rfl⟩ (kI fun r19 μ17 x18 h => ?_)
          refine g_if_eq f 234 dX11_nextToken_155 rfl h (fun h => ?_) (fun h => ?_)
          · refine g_aload_n f 1 dX11_nextToken_234 rfl rfl ?_
            refine g_iload_n f 0 dX11_nextToken_235 rfl rfl ?_
            refine g_callS f mk_X11_122 (c_X11_isSign h) dX11_nextToken_236 rfl rfl (Nat.le_of_ble_eq_true rfl) (rm_ok (by decide) (by decide)) ⟨Nat.le_of_ble_eq_true rfl, Nat.le_of_ble_eq_true rfl⟩ (kI fun r22 μ20 x21 h => ?_)
            refine g_if_eq f 246 dX11_nextToken_239 rfl h (fun h => ?_) (fun h => ?_)
            · refine g_iconst f 3 dX11_nextToken_246 kc_3 ?_
              exact h_sub [1, 0] rfl (tB_X11_nextToken_247 f hq h)
            · refine g_iload_n f 0 dX11_nextToken_242 rfl rfl ?_
              refine g_goto f 247 dX11_nextToken_243 rfl ?_
              exact h_sub [1, 0] rfl (tB_X11_nextToken_247 f hq h)
          · refine g_aload_n f 1 dX11_nextToken_158 rfl rfl ?_
            refine g_iconst f 2 dX11_nextToken_159 kc_2 ?_
            have v1 := mex_ok x12 v1
            have v1 := mex_ok x15 v1
            have v1 := mex_ok x18 v1
            refine g_putI f fk_X11_102 v1 dX11_nextToken_160 rfl h (fun h => ?_)
            refine g_aload_n f 1 dX11_nextToken_163 rfl rfl ?_
            refine g_lconst f 0 dX11_nextToken_164 rfl ?_
            refine g_putL f fk_X11_116 v1 dX11_nextToken_165 rfl h (fun h => ?_)
            exact h_sub [1] rfl (tL_X11_nextToken_168 f hq h)
        · refine g_aload_n f 1 dX11_nextToken_75 rfl rfl ?_
          refine g_iconst f 1 dX11_nextToken_76 kc_1 ?_
          have v1 := mex_ok x12 v1
          have v1 := mex_ok x15 v1
          refine g_putI f fk_X11_102 v1 dX11_nextToken_77 rfl h (fun h => ?_)
          refine g_aload_n f 1 dX11_nextToken_80 rfl rfl ?_
          refine g_iconst f 0 dX11_nextToken_81 kc_0 ?_
          refine g_putI f fk_X11_109 v1 dX11_nextToken_82 rfl h (fun h => ?_)
          exact h_sub [1] rfl (tL_X11_nextToken_85 f hq h)
      · refine g_aload_n f 1 dX11_nextToken_60 rfl rfl ?_
        refine g_iconst f 0 dX11_nextToken_61 kc_0 ?_
        have v1 := mex_ok x12 v1
        refine g_putI f fk_X11_102 v1 dX11_nextToken_62 rfl h (fun h => ?_)
        refine g_goto f 310 dX11_nextToken_65 rfl ?_
        exact g_vret f hq (Nat.le_of_ble_eq_true rfl) (Nat.le_of_ble_eq_true rfl) dX11_nextToken_310 h
    · exact h_sub [0] rfl (tB_X11_nextToken_26 f hq hK0 h)
def L_X11_nextToken_0 (o0 : Nat) (μ : Me) (Q : Me → Prop) : Prop := ∃ I : Me → Nat → Prop, (∃ n, I μ n) ∧ ∀ (μ : Me) (n : Nat), I μ n → B_X11_nextToken_0 o0 μ (fun ν => ∃ n', n' < n ∧ I ν n') Q
set_option maxHeartbeats 4000000 in
set_option maxRecDepth 100000 in
theorem tL_X11_nextToken_0 {x : GX} (f : Fx x cX11_nextToken RX11 2 (rmc 1 0 0)) {o0 : Nat} {μ : Me} {Q : Me → Prop} (hq : Rt x none (qV Q)) (h : L_X11_nextToken_0 o0 μ Q) : G x 2 0 [(0, .ref (gB x + o0))] [] μ 0 0 := by
  obtain ⟨I, ⟨n, hI⟩, hs⟩ := h
  induction n using Nat.strongRecOn generalizing μ with
  | ind n ih => exact tB_X11_nextToken_0 f hq (fun ν hk => by obtain ⟨n2, hn, hI2⟩ := hk; exact ih n2 hn hI2) (hs _ _ hI)
def S_X11_nextToken (o0 : Nat) (μ : Me) (Q : Me → Prop) : Prop := L_X11_nextToken_0 o0 μ Q
set_option maxHeartbeats 4000000 in
set_option maxRecDepth 100000 in
theorem t_X11_nextToken {x : GX} (f : Fx x cX11_nextToken RX11 2 (rmc 1 0 0)) {o0 : Nat} {μ : Me} {Q : Me → Prop} (hq : Rt x none (qV Q)) (h : S_X11_nextToken o0 μ Q) : G x 2 0 [(0, .ref (gB x + o0))] [] μ 0 0 := by
  unfold S_X11_nextToken at h
  exact h_sub [0] rfl (tL_X11_nextToken_0 f hq h)
theorem c_X11_nextToken {Ω : OM} {o0 : Nat} {μ : Me} {Q : Me → Prop} (h : S_X11_nextToken o0 μ Q) : CT Ω yX11_nextToken cX11_nextToken 2 none (rmc 1 0 0) [.ref (oB Ω + o0)] μ (qV Q) := CT_of (by decide) rfl (by simp [lg_sl, Value.category]) (fun x hΩ f hq hi => by subst hΩ; exact t_X11_nextToken f hq h)
theorem dX11_w2_0 : decode cX11_w2 0 = .ok (.iload_n 0, 1) := by decide +kernel
theorem dX11_w2_1 : decode cX11_w2 1 = .ok (.i2l, 1) := by decide +kernel
theorem dX11_w2_2 : decode cX11_w2 2 = .ok (.bipush 8, 2) := by decide +kernel
theorem dX11_w2_4 : decode cX11_w2 4 = .ok (.lshl, 1) := by decide +kernel
theorem dX11_w2_5 : decode cX11_w2 5 = .ok (.iload_n 1, 1) := by decide +kernel
theorem dX11_w2_6 : decode cX11_w2 6 = .ok (.i2l, 1) := by decide +kernel
theorem dX11_w2_7 : decode cX11_w2 7 = .ok (.lor, 1) := by decide +kernel
theorem dX11_w2_8 : decode cX11_w2 8 = .ok (.lreturn, 1) := by decide +kernel
def S_X11_w2 (i0 : Int32) (i1 : Int32) (μ : Me) (Q : Int64 → Me → Prop) : Prop := Q ((i0.toInt64 <<< ((8 : Int32).toInt64 &&& 63)) ||| i1.toInt64) μ
set_option maxHeartbeats 4000000 in
set_option maxRecDepth 100000 in
theorem t_X11_w2 {x : GX} (f : Fx x cX11_w2 RX11 2 (rmc 0 0 0)) {i0 : Int32} {i1 : Int32} {μ : Me} {Q : Int64 → Me → Prop} (hq : Rt x (some .long) (qL Q)) (h : S_X11_w2 i0 i1 μ Q) : G x 2 0 [(0, .int i0), (1, .int i1)] [] μ 0 0 := by
  unfold S_X11_w2 at h
  refine g_iload_n f 0 dX11_w2_0 rfl rfl ?_
  refine g_i2l f dX11_w2_1 ?_
  refine g_bipush f 8 dX11_w2_2 kb_8 ?_
  refine g_lshl f dX11_w2_4 ?_
  refine g_iload_n f 1 dX11_w2_5 rfl rfl ?_
  refine g_i2l f dX11_w2_6 ?_
  refine g_lor f dX11_w2_7 ?_
  exact g_lret f hq (Nat.le_of_ble_eq_true rfl) (Nat.le_of_ble_eq_true rfl) dX11_w2_8 h
theorem c_X11_w2 {Ω : OM} {i0 : Int32} {i1 : Int32} {μ : Me} {Q : Int64 → Me → Prop} (h : S_X11_w2 i0 i1 μ Q) : CT Ω yX11_w2 cX11_w2 2 (some .long) (rmc 0 0 0) [.int i0, .int i1] μ (qL Q) := CT_of (by decide) rfl (by simp [lg_sl, Value.category]) (fun x hΩ f hq hi => by subst hΩ; exact t_X11_w2 f hq h)
theorem dX11_w3_0 : decode cX11_w3 0 = .ok (.iload_n 0, 1) := by decide +kernel
theorem dX11_w3_1 : decode cX11_w3 1 = .ok (.iload_n 1, 1) := by decide +kernel
theorem dX11_w3_2 : decode cX11_w3 2 = .ok (.invokestatic 125, 3) := by decide +kernel
theorem dX11_w3_5 : decode cX11_w3 5 = .ok (.bipush 8, 2) := by decide +kernel
theorem dX11_w3_7 : decode cX11_w3 7 = .ok (.lshl, 1) := by decide +kernel
theorem dX11_w3_8 : decode cX11_w3 8 = .ok (.iload_n 2, 1) := by decide +kernel
theorem dX11_w3_9 : decode cX11_w3 9 = .ok (.i2l, 1) := by decide +kernel
theorem dX11_w3_10 : decode cX11_w3 10 = .ok (.lor, 1) := by decide +kernel
theorem dX11_w3_11 : decode cX11_w3 11 = .ok (.lreturn, 1) := by decide +kernel
def S_X11_w3 (i0 : Int32) (i1 : Int32) (i2 : Int32) (μ : Me) (Q : Int64 → Me → Prop) : Prop := S_X11_w2 i0 i1 μ (fun r3 μ1 => Q ((r3 <<< ((8 : Int32).toInt64 &&& 63)) ||| i2.toInt64) μ1)
set_option maxHeartbeats 4000000 in
set_option maxRecDepth 100000 in
theorem t_X11_w3 {x : GX} (f : Fx x cX11_w3 RX11 3 (rmc 1 0 0)) {i0 : Int32} {i1 : Int32} {i2 : Int32} {μ : Me} {Q : Int64 → Me → Prop} (hq : Rt x (some .long) (qL Q)) (h : S_X11_w3 i0 i1 i2 μ Q) : G x 3 0 [(0, .int i0), (1, .int i1), (2, .int i2)] [] μ 0 0 := by
  unfold S_X11_w3 at h
  refine g_iload_n f 0 dX11_w3_0 rfl rfl ?_
  refine g_iload_n f 1 dX11_w3_1 rfl rfl ?_
  refine g_callS f mk_X11_125 (c_X11_w2 h) dX11_w3_2 rfl rfl (Nat.le_of_ble_eq_true rfl) (rm_ok (by decide) (by decide)) ⟨Nat.le_of_ble_eq_true rfl, Nat.le_of_ble_eq_true rfl⟩ (kL fun r3 μ1 x2 h => ?_)
  refine g_bipush f 8 dX11_w3_5 kb_8 ?_
  refine g_lshl f dX11_w3_7 ?_
  refine g_iload_n f 2 dX11_w3_8 rfl rfl ?_
  refine g_i2l f dX11_w3_9 ?_
  refine g_lor f dX11_w3_10 ?_
  exact g_lret f hq (Nat.le_of_ble_eq_true rfl) (Nat.le_of_ble_eq_true rfl) dX11_w3_11 h
theorem c_X11_w3 {Ω : OM} {i0 : Int32} {i1 : Int32} {i2 : Int32} {μ : Me} {Q : Int64 → Me → Prop} (h : S_X11_w3 i0 i1 i2 μ Q) : CT Ω yX11_w3 cX11_w3 3 (some .long) (rmc 1 0 0) [.int i0, .int i1, .int i2] μ (qL Q) := CT_of (by decide) rfl (by simp [lg_sl, Value.category]) (fun x hΩ f hq hi => by subst hΩ; exact t_X11_w3 f hq h)
theorem dX11_w4_0 : decode cX11_w4 0 = .ok (.iload_n 0, 1) := by decide +kernel
theorem dX11_w4_1 : decode cX11_w4 1 = .ok (.iload_n 1, 1) := by decide +kernel
theorem dX11_w4_2 : decode cX11_w4 2 = .ok (.iload_n 2, 1) := by decide +kernel
theorem dX11_w4_3 : decode cX11_w4 3 = .ok (.invokestatic 129, 3) := by decide +kernel
theorem dX11_w4_6 : decode cX11_w4 6 = .ok (.bipush 8, 2) := by decide +kernel
theorem dX11_w4_8 : decode cX11_w4 8 = .ok (.lshl, 1) := by decide +kernel
theorem dX11_w4_9 : decode cX11_w4 9 = .ok (.iload_n 3, 1) := by decide +kernel
theorem dX11_w4_10 : decode cX11_w4 10 = .ok (.i2l, 1) := by decide +kernel
theorem dX11_w4_11 : decode cX11_w4 11 = .ok (.lor, 1) := by decide +kernel
theorem dX11_w4_12 : decode cX11_w4 12 = .ok (.lreturn, 1) := by decide +kernel
def S_X11_w4 (i0 : Int32) (i1 : Int32) (i2 : Int32) (i3 : Int32) (μ : Me) (Q : Int64 → Me → Prop) : Prop := S_X11_w3 i0 i1 i2 μ (fun r3 μ1 => Q ((r3 <<< ((8 : Int32).toInt64 &&& 63)) ||| i3.toInt64) μ1)
set_option maxHeartbeats 4000000 in
set_option maxRecDepth 100000 in
theorem t_X11_w4 {x : GX} (f : Fx x cX11_w4 RX11 4 (rmc 2 0 0)) {i0 : Int32} {i1 : Int32} {i2 : Int32} {i3 : Int32} {μ : Me} {Q : Int64 → Me → Prop} (hq : Rt x (some .long) (qL Q)) (h : S_X11_w4 i0 i1 i2 i3 μ Q) : G x 4 0 [(0, .int i0), (1, .int i1), (2, .int i2), (3, .int i3)] [] μ 0 0 := by
  unfold S_X11_w4 at h
  refine g_iload_n f 0 dX11_w4_0 rfl rfl ?_
  refine g_iload_n f 1 dX11_w4_1 rfl rfl ?_
  refine g_iload_n f 2 dX11_w4_2 rfl rfl ?_
  refine g_callS f mk_X11_129 (c_X11_w3 h) dX11_w4_3 rfl rfl (Nat.le_of_ble_eq_true rfl) (rm_ok (by decide) (by decide)) ⟨Nat.le_of_ble_eq_true rfl, Nat.le_of_ble_eq_true rfl⟩ (kL fun r3 μ1 x2 h => ?_)
  refine g_bipush f 8 dX11_w4_6 kb_8 ?_
  refine g_lshl f dX11_w4_8 ?_
  refine g_iload_n f 3 dX11_w4_9 rfl rfl ?_
  refine g_i2l f dX11_w4_10 ?_
  refine g_lor f dX11_w4_11 ?_
  exact g_lret f hq (Nat.le_of_ble_eq_true rfl) (Nat.le_of_ble_eq_true rfl) dX11_w4_12 h
theorem c_X11_w4 {Ω : OM} {i0 : Int32} {i1 : Int32} {i2 : Int32} {i3 : Int32} {μ : Me} {Q : Int64 → Me → Prop} (h : S_X11_w4 i0 i1 i2 i3 μ Q) : CT Ω yX11_w4 cX11_w4 4 (some .long) (rmc 2 0 0) [.int i0, .int i1, .int i2, .int i3] μ (qL Q) := CT_of (by decide) rfl (by simp [lg_sl, Value.category]) (fun x hΩ f hq hi => by subst hΩ; exact t_X11_w4 f hq h)
theorem dX11_isWord_0 : decode cX11_isWord 0 = .ok (.aload_n 0, 1) := by decide +kernel
theorem dX11_isWord_1 : decode cX11_isWord 1 = .ok (.getfield 102, 3) := by decide +kernel
theorem dX11_isWord_4 : decode cX11_isWord 4 = .ok (.iconst 2, 1) := by decide +kernel
theorem dX11_isWord_5 : decode cX11_isWord 5 = .ok (.if_icmp .ne 16, 3) := by decide +kernel
theorem dX11_isWord_8 : decode cX11_isWord 8 = .ok (.aload_n 0, 1) := by decide +kernel
theorem dX11_isWord_9 : decode cX11_isWord 9 = .ok (.getfield 116, 3) := by decide +kernel
theorem dX11_isWord_12 : decode cX11_isWord 12 = .ok (.lload_n 1, 1) := by decide +kernel
theorem dX11_isWord_13 : decode cX11_isWord 13 = .ok (.lcmp, 1) := by decide +kernel
theorem dX11_isWord_14 : decode cX11_isWord 14 = .ok (.ifCond .ne 7, 3) := by decide +kernel
theorem dX11_isWord_17 : decode cX11_isWord 17 = .ok (.iconst 1, 1) := by decide +kernel
theorem dX11_isWord_18 : decode cX11_isWord 18 = .ok (.goto 4, 3) := by decide +kernel
theorem dX11_isWord_21 : decode cX11_isWord 21 = .ok (.iconst 0, 1) := by decide +kernel
theorem dX11_isWord_22 : decode cX11_isWord 22 = .ok (.ireturn, 1) := by decide +kernel
def S_X11_isWord (o0 : Nat) (j1 : Int64) (μ : Me) (Q : Int32 → Me → Prop) : Prop := mok μ o0 11 ∧ ((¬ (mgi μ o0 9) = 2 → Q 0 μ) ∧ ((mgi μ o0 9) = 2 → ((¬ (lg_cmp (mgl μ o0 11) j1) = 0 → Q 0 μ) ∧ ((lg_cmp (mgl μ o0 11) j1) = 0 → Q 1 μ))))
set_option maxHeartbeats 4000000 in
set_option maxRecDepth 100000 in
theorem t_X11_isWord {x : GX} (f : Fx x cX11_isWord RX11 3 (rmc 0 0 0)) {o0 : Nat} {j1 : Int64} {μ : Me} {Q : Int32 → Me → Prop} (hq : Rt x (some .boolean) (qI Q)) (h : S_X11_isWord o0 j1 μ Q) : G x 3 0 [(0, .ref (gB x + o0)), (1, .long j1)] [] μ 0 0 := by
  unfold S_X11_isWord at h
  refine g_aload_n f 0 dX11_isWord_0 rfl rfl ?_
  obtain ⟨v1, h⟩ := h
  refine g_getI f fk_X11_102 v1 dX11_isWord_1 rfl ?_
  refine g_iconst f 2 dX11_isWord_4 kc_2 ?_
  refine g_ic_ne f 21 dX11_isWord_5 rfl h (fun h => ?_) (fun h => ?_)
  · refine g_iconst f 0 dX11_isWord_21 kc_0 ?_
    exact g_zret f hq (Nat.le_of_ble_eq_true rfl) (Nat.le_of_ble_eq_true rfl) dX11_isWord_22 zb_0.1 h
  · refine g_aload_n f 0 dX11_isWord_8 rfl rfl ?_
    refine g_getL f fk_X11_116 v1 dX11_isWord_9 rfl ?_
    refine g_lload_n f 1 dX11_isWord_12 rfl rfl ?_
    refine g_lcmp f dX11_isWord_13 ?_
    refine g_if_ne f 21 dX11_isWord_14 rfl h (fun h => ?_) (fun h => ?_)
    · refine g_iconst f 0 dX11_isWord_21 kc_0 ?_
      exact g_zret f hq (Nat.le_of_ble_eq_true rfl) (Nat.le_of_ble_eq_true rfl) dX11_isWord_22 zb_0.1 h
    · refine g_iconst f 1 dX11_isWord_17 kc_1 ?_
      refine g_goto f 22 dX11_isWord_18 rfl ?_
      exact g_zret f hq (Nat.le_of_ble_eq_true rfl) (Nat.le_of_ble_eq_true rfl) dX11_isWord_22 zb_1.1 h
theorem c_X11_isWord {Ω : OM} {o0 : Nat} {j1 : Int64} {μ : Me} {Q : Int32 → Me → Prop} (h : S_X11_isWord o0 j1 μ Q) : CT Ω yX11_isWord cX11_isWord 3 (some .boolean) (rmc 0 0 0) [.ref (oB Ω + o0), .long j1] μ (qI Q) := CT_of (by decide) rfl (by simp [lg_sl, Value.category]) (fun x hΩ f hq hi => by subst hΩ; exact t_X11_isWord f hq h)
theorem dX11_w5_0 : decode cX11_w5 0 = .ok (.iload_n 0, 1) := by decide +kernel
theorem dX11_w5_1 : decode cX11_w5 1 = .ok (.iload_n 1, 1) := by decide +kernel
theorem dX11_w5_2 : decode cX11_w5 2 = .ok (.iload_n 2, 1) := by decide +kernel
theorem dX11_w5_3 : decode cX11_w5 3 = .ok (.iload_n 3, 1) := by decide +kernel
theorem dX11_w5_4 : decode cX11_w5 4 = .ok (.invokestatic 133, 3) := by decide +kernel
theorem dX11_w5_7 : decode cX11_w5 7 = .ok (.bipush 8, 2) := by decide +kernel
theorem dX11_w5_9 : decode cX11_w5 9 = .ok (.lshl, 1) := by decide +kernel
theorem dX11_w5_10 : decode cX11_w5 10 = .ok (.iload 4, 2) := by decide +kernel
theorem dX11_w5_12 : decode cX11_w5 12 = .ok (.i2l, 1) := by decide +kernel
theorem dX11_w5_13 : decode cX11_w5 13 = .ok (.lor, 1) := by decide +kernel
theorem dX11_w5_14 : decode cX11_w5 14 = .ok (.lreturn, 1) := by decide +kernel
def S_X11_w5 (i0 : Int32) (i1 : Int32) (i2 : Int32) (i3 : Int32) (i4 : Int32) (μ : Me) (Q : Int64 → Me → Prop) : Prop := S_X11_w4 i0 i1 i2 i3 μ (fun r3 μ1 => Q ((r3 <<< ((8 : Int32).toInt64 &&& 63)) ||| i4.toInt64) μ1)
set_option maxHeartbeats 4000000 in
set_option maxRecDepth 100000 in
theorem t_X11_w5 {x : GX} (f : Fx x cX11_w5 RX11 5 (rmc 3 0 0)) {i0 : Int32} {i1 : Int32} {i2 : Int32} {i3 : Int32} {i4 : Int32} {μ : Me} {Q : Int64 → Me → Prop} (hq : Rt x (some .long) (qL Q)) (h : S_X11_w5 i0 i1 i2 i3 i4 μ Q) : G x 5 0 [(0, .int i0), (1, .int i1), (2, .int i2), (3, .int i3), (4, .int i4)] [] μ 0 0 := by
  unfold S_X11_w5 at h
  refine g_iload_n f 0 dX11_w5_0 rfl rfl ?_
  refine g_iload_n f 1 dX11_w5_1 rfl rfl ?_
  refine g_iload_n f 2 dX11_w5_2 rfl rfl ?_
  refine g_iload_n f 3 dX11_w5_3 rfl rfl ?_
  refine g_callS f mk_X11_133 (c_X11_w4 h) dX11_w5_4 rfl rfl (Nat.le_of_ble_eq_true rfl) (rm_ok (by decide) (by decide)) ⟨Nat.le_of_ble_eq_true rfl, Nat.le_of_ble_eq_true rfl⟩ (kL fun r3 μ1 x2 h => ?_)
  refine g_bipush f 8 dX11_w5_7 kb_8 ?_
  refine g_lshl f dX11_w5_9 ?_
  refine g_iload f 4 dX11_w5_10 rfl ?_
  refine g_i2l f dX11_w5_12 ?_
  refine g_lor f dX11_w5_13 ?_
  exact g_lret f hq (Nat.le_of_ble_eq_true rfl) (Nat.le_of_ble_eq_true rfl) dX11_w5_14 h
theorem c_X11_w5 {Ω : OM} {i0 : Int32} {i1 : Int32} {i2 : Int32} {i3 : Int32} {i4 : Int32} {μ : Me} {Q : Int64 → Me → Prop} (h : S_X11_w5 i0 i1 i2 i3 i4 μ Q) : CT Ω yX11_w5 cX11_w5 5 (some .long) (rmc 3 0 0) [.int i0, .int i1, .int i2, .int i3, .int i4] μ (qL Q) := CT_of (by decide) rfl (by simp [lg_sl, Value.category]) (fun x hΩ f hq hi => by subst hΩ; exact t_X11_w5 f hq h)
theorem dX11_w6_0 : decode cX11_w6 0 = .ok (.iload_n 0, 1) := by decide +kernel
theorem dX11_w6_1 : decode cX11_w6 1 = .ok (.iload_n 1, 1) := by decide +kernel
theorem dX11_w6_2 : decode cX11_w6 2 = .ok (.iload_n 2, 1) := by decide +kernel
theorem dX11_w6_3 : decode cX11_w6 3 = .ok (.iload_n 3, 1) := by decide +kernel
theorem dX11_w6_4 : decode cX11_w6 4 = .ok (.iload 4, 2) := by decide +kernel
theorem dX11_w6_6 : decode cX11_w6 6 = .ok (.invokestatic 137, 3) := by decide +kernel
theorem dX11_w6_9 : decode cX11_w6 9 = .ok (.bipush 8, 2) := by decide +kernel
theorem dX11_w6_11 : decode cX11_w6 11 = .ok (.lshl, 1) := by decide +kernel
theorem dX11_w6_12 : decode cX11_w6 12 = .ok (.iload 5, 2) := by decide +kernel
theorem dX11_w6_14 : decode cX11_w6 14 = .ok (.i2l, 1) := by decide +kernel
theorem dX11_w6_15 : decode cX11_w6 15 = .ok (.lor, 1) := by decide +kernel
theorem dX11_w6_16 : decode cX11_w6 16 = .ok (.lreturn, 1) := by decide +kernel
def S_X11_w6 (i0 : Int32) (i1 : Int32) (i2 : Int32) (i3 : Int32) (i4 : Int32) (i5 : Int32) (μ : Me) (Q : Int64 → Me → Prop) : Prop := S_X11_w5 i0 i1 i2 i3 i4 μ (fun r3 μ1 => Q ((r3 <<< ((8 : Int32).toInt64 &&& 63)) ||| i5.toInt64) μ1)
set_option maxHeartbeats 4000000 in
set_option maxRecDepth 100000 in
theorem t_X11_w6 {x : GX} (f : Fx x cX11_w6 RX11 6 (rmc 4 0 0)) {i0 : Int32} {i1 : Int32} {i2 : Int32} {i3 : Int32} {i4 : Int32} {i5 : Int32} {μ : Me} {Q : Int64 → Me → Prop} (hq : Rt x (some .long) (qL Q)) (h : S_X11_w6 i0 i1 i2 i3 i4 i5 μ Q) : G x 6 0 [(0, .int i0), (1, .int i1), (2, .int i2), (3, .int i3), (4, .int i4), (5, .int i5)] [] μ 0 0 := by
  unfold S_X11_w6 at h
  refine g_iload_n f 0 dX11_w6_0 rfl rfl ?_
  refine g_iload_n f 1 dX11_w6_1 rfl rfl ?_
  refine g_iload_n f 2 dX11_w6_2 rfl rfl ?_
  refine g_iload_n f 3 dX11_w6_3 rfl rfl ?_
  refine g_iload f 4 dX11_w6_4 rfl ?_
  refine g_callS f mk_X11_137 (c_X11_w5 h) dX11_w6_6 rfl rfl (Nat.le_of_ble_eq_true rfl) (rm_ok (by decide) (by decide)) ⟨Nat.le_of_ble_eq_true rfl, Nat.le_of_ble_eq_true rfl⟩ (kL fun r3 μ1 x2 h => ?_)
  refine g_bipush f 8 dX11_w6_9 kb_8 ?_
  refine g_lshl f dX11_w6_11 ?_
  refine g_iload f 5 dX11_w6_12 rfl ?_
  refine g_i2l f dX11_w6_14 ?_
  refine g_lor f dX11_w6_15 ?_
  exact g_lret f hq (Nat.le_of_ble_eq_true rfl) (Nat.le_of_ble_eq_true rfl) dX11_w6_16 h
theorem c_X11_w6 {Ω : OM} {i0 : Int32} {i1 : Int32} {i2 : Int32} {i3 : Int32} {i4 : Int32} {i5 : Int32} {μ : Me} {Q : Int64 → Me → Prop} (h : S_X11_w6 i0 i1 i2 i3 i4 i5 μ Q) : CT Ω yX11_w6 cX11_w6 6 (some .long) (rmc 4 0 0) [.int i0, .int i1, .int i2, .int i3, .int i4, .int i5] μ (qL Q) := CT_of (by decide) rfl (by simp [lg_sl, Value.category]) (fun x hΩ f hq hi => by subst hΩ; exact t_X11_w6 f hq h)
theorem dX11_sortOf_0 : decode cX11_sortOf 0 = .ok (.aload_n 0, 1) := by decide +kernel
theorem dX11_sortOf_1 : decode cX11_sortOf 1 = .ok (.bipush 114, 2) := by decide +kernel
theorem dX11_sortOf_3 : decode cX11_sortOf 3 = .ok (.bipush 117, 2) := by decide +kernel
theorem dX11_sortOf_5 : decode cX11_sortOf 5 = .ok (.bipush 110, 2) := by decide +kernel
theorem dX11_sortOf_7 : decode cX11_sortOf 7 = .ok (.bipush 115, 2) := by decide +kernel
theorem dX11_sortOf_9 : decode cX11_sortOf 9 = .ok (.invokestatic 133, 3) := by decide +kernel
theorem dX11_sortOf_12 : decode cX11_sortOf 12 = .ok (.invokevirtual 191, 3) := by decide +kernel
theorem dX11_sortOf_15 : decode cX11_sortOf 15 = .ok (.ifCond .eq 5, 3) := by decide +kernel
theorem dX11_sortOf_18 : decode cX11_sortOf 18 = .ok (.iconst 0, 1) := by decide +kernel
theorem dX11_sortOf_19 : decode cX11_sortOf 19 = .ok (.ireturn, 1) := by decide +kernel
theorem dX11_sortOf_20 : decode cX11_sortOf 20 = .ok (.aload_n 0, 1) := by decide +kernel
theorem dX11_sortOf_21 : decode cX11_sortOf 21 = .ok (.bipush 116, 2) := by decide +kernel
theorem dX11_sortOf_23 : decode cX11_sortOf 23 = .ok (.bipush 97, 2) := by decide +kernel
theorem dX11_sortOf_25 : decode cX11_sortOf 25 = .ok (.bipush 107, 2) := by decide +kernel
theorem dX11_sortOf_27 : decode cX11_sortOf 27 = .ok (.bipush 101, 2) := by decide +kernel
theorem dX11_sortOf_29 : decode cX11_sortOf 29 = .ok (.bipush 115, 2) := by decide +kernel
theorem dX11_sortOf_31 : decode cX11_sortOf 31 = .ok (.invokestatic 137, 3) := by decide +kernel
theorem dX11_sortOf_34 : decode cX11_sortOf 34 = .ok (.invokevirtual 191, 3) := by decide +kernel
theorem dX11_sortOf_37 : decode cX11_sortOf 37 = .ok (.ifCond .eq 5, 3) := by decide +kernel
theorem dX11_sortOf_40 : decode cX11_sortOf 40 = .ok (.iconst 1, 1) := by decide +kernel
theorem dX11_sortOf_41 : decode cX11_sortOf 41 = .ok (.ireturn, 1) := by decide +kernel
theorem dX11_sortOf_42 : decode cX11_sortOf 42 = .ok (.aload_n 0, 1) := by decide +kernel
theorem dX11_sortOf_43 : decode cX11_sortOf 43 = .ok (.bipush 112, 2) := by decide +kernel
theorem dX11_sortOf_45 : decode cX11_sortOf 45 = .ok (.bipush 101, 2) := by decide +kernel
theorem dX11_sortOf_47 : decode cX11_sortOf 47 = .ok (.bipush 114, 2) := by decide +kernel
theorem dX11_sortOf_49 : decode cX11_sortOf 49 = .ok (.bipush 115, 2) := by decide +kernel
theorem dX11_sortOf_51 : decode cX11_sortOf 51 = .ok (.bipush 111, 2) := by decide +kernel
theorem dX11_sortOf_53 : decode cX11_sortOf 53 = .ok (.bipush 110, 2) := by decide +kernel
theorem dX11_sortOf_55 : decode cX11_sortOf 55 = .ok (.invokestatic 236, 3) := by decide +kernel
theorem dX11_sortOf_58 : decode cX11_sortOf 58 = .ok (.invokevirtual 191, 3) := by decide +kernel
theorem dX11_sortOf_61 : decode cX11_sortOf 61 = .ok (.ifCond .eq 5, 3) := by decide +kernel
theorem dX11_sortOf_64 : decode cX11_sortOf 64 = .ok (.iconst 2, 1) := by decide +kernel
theorem dX11_sortOf_65 : decode cX11_sortOf 65 = .ok (.ireturn, 1) := by decide +kernel
theorem dX11_sortOf_66 : decode cX11_sortOf 66 = .ok (.aload_n 0, 1) := by decide +kernel
theorem dX11_sortOf_67 : decode cX11_sortOf 67 = .ok (.bipush 114, 2) := by decide +kernel
theorem dX11_sortOf_69 : decode cX11_sortOf 69 = .ok (.bipush 105, 2) := by decide +kernel
theorem dX11_sortOf_71 : decode cX11_sortOf 71 = .ok (.bipush 110, 2) := by decide +kernel
theorem dX11_sortOf_73 : decode cX11_sortOf 73 = .ok (.bipush 103, 2) := by decide +kernel
theorem dX11_sortOf_75 : decode cX11_sortOf 75 = .ok (.invokestatic 133, 3) := by decide +kernel
theorem dX11_sortOf_78 : decode cX11_sortOf 78 = .ok (.invokevirtual 191, 3) := by decide +kernel
theorem dX11_sortOf_81 : decode cX11_sortOf 81 = .ok (.ifCond .eq 5, 3) := by decide +kernel
theorem dX11_sortOf_84 : decode cX11_sortOf 84 = .ok (.iconst 3, 1) := by decide +kernel
theorem dX11_sortOf_85 : decode cX11_sortOf 85 = .ok (.ireturn, 1) := by decide +kernel
theorem dX11_sortOf_86 : decode cX11_sortOf 86 = .ok (.aload_n 0, 1) := by decide +kernel
theorem dX11_sortOf_87 : decode cX11_sortOf 87 = .ok (.bipush 100, 2) := by decide +kernel
theorem dX11_sortOf_89 : decode cX11_sortOf 89 = .ok (.bipush 117, 2) := by decide +kernel
theorem dX11_sortOf_91 : decode cX11_sortOf 91 = .ok (.bipush 101, 2) := by decide +kernel
theorem dX11_sortOf_93 : decode cX11_sortOf 93 = .ok (.invokestatic 129, 3) := by decide +kernel
theorem dX11_sortOf_96 : decode cX11_sortOf 96 = .ok (.invokevirtual 191, 3) := by decide +kernel
theorem dX11_sortOf_99 : decode cX11_sortOf 99 = .ok (.ifCond .eq 5, 3) := by decide +kernel
theorem dX11_sortOf_102 : decode cX11_sortOf 102 = .ok (.iconst 4, 1) := by decide +kernel
theorem dX11_sortOf_103 : decode cX11_sortOf 103 = .ok (.ireturn, 1) := by decide +kernel
theorem dX11_sortOf_104 : decode cX11_sortOf 104 = .ok (.aload_n 0, 1) := by decide +kernel
theorem dX11_sortOf_105 : decode cX11_sortOf 105 = .ok (.bipush 98, 2) := by decide +kernel
theorem dX11_sortOf_107 : decode cX11_sortOf 107 = .ok (.bipush 101, 2) := by decide +kernel
theorem dX11_sortOf_109 : decode cX11_sortOf 109 = .ok (.bipush 100, 2) := by decide +kernel
theorem dX11_sortOf_111 : decode cX11_sortOf 111 = .ok (.invokestatic 129, 3) := by decide +kernel
theorem dX11_sortOf_114 : decode cX11_sortOf 114 = .ok (.invokevirtual 191, 3) := by decide +kernel
theorem dX11_sortOf_117 : decode cX11_sortOf 117 = .ok (.ifCond .eq 5, 3) := by decide +kernel
theorem dX11_sortOf_120 : decode cX11_sortOf 120 = .ok (.iconst 5, 1) := by decide +kernel
theorem dX11_sortOf_121 : decode cX11_sortOf 121 = .ok (.ireturn, 1) := by decide +kernel
theorem dX11_sortOf_122 : decode cX11_sortOf 122 = .ok (.aload_n 0, 1) := by decide +kernel
theorem dX11_sortOf_123 : decode cX11_sortOf 123 = .ok (.bipush 117, 2) := by decide +kernel
theorem dX11_sortOf_125 : decode cX11_sortOf 125 = .ok (.bipush 112, 2) := by decide +kernel
theorem dX11_sortOf_127 : decode cX11_sortOf 127 = .ok (.invokestatic 125, 3) := by decide +kernel
theorem dX11_sortOf_130 : decode cX11_sortOf 130 = .ok (.invokevirtual 191, 3) := by decide +kernel
theorem dX11_sortOf_133 : decode cX11_sortOf 133 = .ok (.ifCond .eq 8, 3) := by decide +kernel
theorem dX11_sortOf_136 : decode cX11_sortOf 136 = .ok (.bipush 6, 2) := by decide +kernel
theorem dX11_sortOf_138 : decode cX11_sortOf 138 = .ok (.goto 25, 3) := by decide +kernel
theorem dX11_sortOf_141 : decode cX11_sortOf 141 = .ok (.aload_n 0, 1) := by decide +kernel
theorem dX11_sortOf_142 : decode cX11_sortOf 142 = .ok (.bipush 100, 2) := by decide +kernel
theorem dX11_sortOf_144 : decode cX11_sortOf 144 = .ok (.bipush 97, 2) := by decide +kernel
theorem dX11_sortOf_146 : decode cX11_sortOf 146 = .ok (.bipush 121, 2) := by decide +kernel
theorem dX11_sortOf_148 : decode cX11_sortOf 148 = .ok (.invokestatic 129, 3) := by decide +kernel
theorem dX11_sortOf_151 : decode cX11_sortOf 151 = .ok (.invokevirtual 191, 3) := by decide +kernel
theorem dX11_sortOf_154 : decode cX11_sortOf 154 = .ok (.ifCond .eq 8, 3) := by decide +kernel
theorem dX11_sortOf_157 : decode cX11_sortOf 157 = .ok (.bipush 7, 2) := by decide +kernel
theorem dX11_sortOf_159 : decode cX11_sortOf 159 = .ok (.goto 4, 3) := by decide +kernel
theorem dX11_sortOf_162 : decode cX11_sortOf 162 = .ok (.iconst (-1), 1) := by decide +kernel
theorem dX11_sortOf_163 : decode cX11_sortOf 163 = .ok (.ireturn, 1) := by decide +kernel
def S_X11_sortOf (o0 : Nat) (μ : Me) (Q : Int32 → Me → Prop) : Prop := S_X11_w4 114 117 110 115 μ (fun r3 μ1 => mok μ1 o0 11 ∧ S_X11_isWord o0 r3 μ1 (fun r7 μ5 => ((r7 = 0 → S_X11_w5 116 97 107 101 115 μ5 (fun r10 μ8 => S_X11_isWord o0 r10 μ8 (fun r13 μ11 => ((r13 = 0 → S_X11_w6 112 101 114 115 111 110 μ11 (fun r16 μ14 => S_X11_isWord o0 r16 μ14 (fun r19 μ17 => ((r19 = 0 → S_X11_w4 114 105 110 103 μ17 (fun r22 μ20 => S_X11_isWord o0 r22 μ20 (fun r25 μ23 => ((r25 = 0 → S_X11_w3 100 117 101 μ23 (fun r28 μ26 => S_X11_isWord o0 r28 μ26 (fun r31 μ29 => ((r31 = 0 → S_X11_w3 98 101 100 μ29 (fun r34 μ32 => S_X11_isWord o0 r34 μ32 (fun r37 μ35 => ((r37 = 0 → S_X11_w2 117 112 μ35 (fun r40 μ38 => S_X11_isWord o0 r40 μ38 (fun r43 μ41 => ((r43 = 0 → S_X11_w3 100 97 121 μ41 (fun r46 μ44 => S_X11_isWord o0 r46 μ44 (fun r49 μ47 => ((r49 = 0 → Q (-1) μ47) ∧ (¬ r49 = 0 → Q 7 μ47))))) ∧ (¬ r43 = 0 → Q 6 μ41))))) ∧ (¬ r37 = 0 → Q 5 μ35))))) ∧ (¬ r31 = 0 → Q 4 μ29))))) ∧ (¬ r25 = 0 → Q 3 μ23))))) ∧ (¬ r19 = 0 → Q 2 μ17))))) ∧ (¬ r13 = 0 → Q 1 μ11))))) ∧ (¬ r7 = 0 → Q 0 μ5))))
set_option maxHeartbeats 4000000 in
set_option maxRecDepth 100000 in
theorem t_X11_sortOf {x : GX} (f : Fx x cX11_sortOf RX11 1 (rmc 5 0 0)) {o0 : Nat} {μ : Me} {Q : Int32 → Me → Prop} (hq : Rt x (some .int) (qI Q)) (h : S_X11_sortOf o0 μ Q) : G x 1 0 [(0, .ref (gB x + o0))] [] μ 0 0 := by
  unfold S_X11_sortOf at h
  refine g_aload_n f 0 dX11_sortOf_0 rfl rfl ?_
  refine g_bipush f 114 dX11_sortOf_1 kb_114 ?_
  refine g_bipush f 117 dX11_sortOf_3 kb_117 ?_
  refine g_bipush f 110 dX11_sortOf_5 kb_110 ?_
  refine g_bipush f 115 dX11_sortOf_7 kb_115 ?_
  refine g_callS f mk_X11_133 (c_X11_w4 h) dX11_sortOf_9 rfl rfl (Nat.le_of_ble_eq_true rfl) (rm_ok (by decide) (by decide)) ⟨Nat.le_of_ble_eq_true rfl, Nat.le_of_ble_eq_true rfl⟩ (kL fun r3 μ1 x2 h => ?_)
  obtain ⟨v4, h⟩ := h
  refine g_callV f mk_X11_191 v4 (c_X11_isWord h) dX11_sortOf_12 rfl rfl (Nat.le_of_ble_eq_true rfl) (rm_ok (by decide) (by decide)) ⟨Nat.le_of_ble_eq_true rfl, Nat.le_of_ble_eq_true rfl⟩ (kI fun r7 μ5 x6 h => ?_)
  refine g_if_eq f 20 dX11_sortOf_15 rfl h (fun h => ?_) (fun h => ?_)
  · refine g_aload_n f 0 dX11_sortOf_20 rfl rfl ?_
    refine g_bipush f 116 dX11_sortOf_21 kb_116 ?_
    refine g_bipush f 97 dX11_sortOf_23 kb_97 ?_
    refine g_bipush f 107 dX11_sortOf_25 kb_107 ?_
    refine g_bipush f 101 dX11_sortOf_27 kb_101 ?_
    refine g_bipush f 115 dX11_sortOf_29 kb_115 ?_
    refine g_callS f mk_X11_137 (c_X11_w5 h) dX11_sortOf_31 rfl rfl (Nat.le_of_ble_eq_true rfl) (rm_ok (by decide) (by decide)) ⟨Nat.le_of_ble_eq_true rfl, Nat.le_of_ble_eq_true rfl⟩ (kL fun r10 μ8 x9 h => ?_)
    have v4 := mex_ok x6 v4
    have v4 := mex_ok x9 v4
    refine g_callV f mk_X11_191 v4 (c_X11_isWord h) dX11_sortOf_34 rfl rfl (Nat.le_of_ble_eq_true rfl) (rm_ok (by decide) (by decide)) ⟨Nat.le_of_ble_eq_true rfl, Nat.le_of_ble_eq_true rfl⟩ (kI fun r13 μ11 x12 h => ?_)
    refine g_if_eq f 42 dX11_sortOf_37 rfl h (fun h => ?_) (fun h => ?_)
    · refine g_aload_n f 0 dX11_sortOf_42 rfl rfl ?_
      refine g_bipush f 112 dX11_sortOf_43 kb_112 ?_
      refine g_bipush f 101 dX11_sortOf_45 kb_101 ?_
      refine g_bipush f 114 dX11_sortOf_47 kb_114 ?_
      refine g_bipush f 115 dX11_sortOf_49 kb_115 ?_
      refine g_bipush f 111 dX11_sortOf_51 kb_111 ?_
      refine g_bipush f 110 dX11_sortOf_53 kb_110 ?_
      refine g_callS f mk_X11_236 (c_X11_w6 h) dX11_sortOf_55 rfl rfl (Nat.le_of_ble_eq_true rfl) (rm_ok (by decide) (by decide)) ⟨Nat.le_of_ble_eq_true rfl, Nat.le_of_ble_eq_true rfl⟩ (kL fun r16 μ14 x15 h => ?_)
      have v4 := mex_ok x12 v4
      have v4 := mex_ok x15 v4
      refine g_callV f mk_X11_191 v4 (c_X11_isWord h) dX11_sortOf_58 rfl rfl (Nat.le_of_ble_eq_true rfl) (rm_ok (by decide) (by decide)) ⟨Nat.le_of_ble_eq_true rfl, Nat.le_of_ble_eq_true rfl⟩ (kI fun r19 μ17 x18 h => ?_)
      refine g_if_eq f 66 dX11_sortOf_61 rfl h (fun h => ?_) (fun h => ?_)
      · refine g_aload_n f 0 dX11_sortOf_66 rfl rfl ?_
        refine g_bipush f 114 dX11_sortOf_67 kb_114 ?_
        refine g_bipush f 105 dX11_sortOf_69 kb_105 ?_
        refine g_bipush f 110 dX11_sortOf_71 kb_110 ?_
        refine g_bipush f 103 dX11_sortOf_73 kb_103 ?_
        refine g_callS f mk_X11_133 (c_X11_w4 h) dX11_sortOf_75 rfl rfl (Nat.le_of_ble_eq_true rfl) (rm_ok (by decide) (by decide)) ⟨Nat.le_of_ble_eq_true rfl, Nat.le_of_ble_eq_true rfl⟩ (kL fun r22 μ20 x21 h => ?_)
        have v4 := mex_ok x18 v4
        have v4 := mex_ok x21 v4
        refine g_callV f mk_X11_191 v4 (c_X11_isWord h) dX11_sortOf_78 rfl rfl (Nat.le_of_ble_eq_true rfl) (rm_ok (by decide) (by decide)) ⟨Nat.le_of_ble_eq_true rfl, Nat.le_of_ble_eq_true rfl⟩ (kI fun r25 μ23 x24 h => ?_)
        refine g_if_eq f 86 dX11_sortOf_81 rfl h (fun h => ?_) (fun h => ?_)
        · refine g_aload_n f 0 dX11_sortOf_86 rfl rfl ?_
          refine g_bipush f 100 dX11_sortOf_87 kb_100 ?_
          refine g_bipush f 117 dX11_sortOf_89 kb_117 ?_
          refine g_bipush f 101 dX11_sortOf_91 kb_101 ?_
          refine g_callS f mk_X11_129 (c_X11_w3 h) dX11_sortOf_93 rfl rfl (Nat.le_of_ble_eq_true rfl) (rm_ok (by decide) (by decide)) ⟨Nat.le_of_ble_eq_true rfl, Nat.le_of_ble_eq_true rfl⟩ (kL fun r28 μ26 x27 h => ?_)
          have v4 := mex_ok x24 v4
          have v4 := mex_ok x27 v4
          refine g_callV f mk_X11_191 v4 (c_X11_isWord h) dX11_sortOf_96 rfl rfl (Nat.le_of_ble_eq_true rfl) (rm_ok (by decide) (by decide)) ⟨Nat.le_of_ble_eq_true rfl, Nat.le_of_ble_eq_true rfl⟩ (kI fun r31 μ29 x30 h => ?_)
          refine g_if_eq f 104 dX11_sortOf_99 rfl h (fun h => ?_) (fun h => ?_)
          · refine g_aload_n f 0 dX11_sortOf_104 rfl rfl ?_
            refine g_bipush f 98 dX11_sortOf_105 kb_98 ?_
            refine g_bipush f 101 dX11_sortOf_107 kb_101 ?_
            refine g_bipush f 100 dX11_sortOf_109 kb_100 ?_
            refine g_callS f mk_X11_129 (c_X11_w3 h) dX11_sortOf_111 rfl rfl (Nat.le_of_ble_eq_true rfl) (rm_ok (by decide) (by decide)) ⟨Nat.le_of_ble_eq_true rfl, Nat.le_of_ble_eq_true rfl⟩ (kL fun r34 μ32 x33 h => ?_)
            have v4 := mex_ok x30 v4
            have v4 := mex_ok x33 v4
            refine g_callV f mk_X11_191 v4 (c_X11_isWord h) dX11_sortOf_114 rfl rfl (Nat.le_of_ble_eq_true rfl) (rm_ok (by decide) (by decide)) ⟨Nat.le_of_ble_eq_true rfl, Nat.le_of_ble_eq_true rfl⟩ (kI fun r37 μ35 x36 h => ?_)
            refine g_if_eq f 122 dX11_sortOf_117 rfl h (fun h => ?_) (fun h => ?_)
            · refine g_aload_n f 0 dX11_sortOf_122 rfl rfl ?_
              refine g_bipush f 117 dX11_sortOf_123 kb_117 ?_
              refine g_bipush f 112 dX11_sortOf_125 kb_112 ?_
              refine g_callS f mk_X11_125 (c_X11_w2 h) dX11_sortOf_127 rfl rfl (Nat.le_of_ble_eq_true rfl) (rm_ok (by decide) (by decide)) ⟨Nat.le_of_ble_eq_true rfl, Nat.le_of_ble_eq_true rfl⟩ (kL fun r40 μ38 x39 h => ?_)
              have v4 := mex_ok x36 v4
              have v4 := mex_ok x39 v4
              refine g_callV f mk_X11_191 v4 (c_X11_isWord h) dX11_sortOf_130 rfl rfl (Nat.le_of_ble_eq_true rfl) (rm_ok (by decide) (by decide)) ⟨Nat.le_of_ble_eq_true rfl, Nat.le_of_ble_eq_true rfl⟩ (kI fun r43 μ41 x42 h => ?_)
              refine g_if_eq f 141 dX11_sortOf_133 rfl h (fun h => ?_) (fun h => ?_)
              · refine g_aload_n f 0 dX11_sortOf_141 rfl rfl ?_
                refine g_bipush f 100 dX11_sortOf_142 kb_100 ?_
                refine g_bipush f 97 dX11_sortOf_144 kb_97 ?_
                refine g_bipush f 121 dX11_sortOf_146 kb_121 ?_
                refine g_callS f mk_X11_129 (c_X11_w3 h) dX11_sortOf_148 rfl rfl (Nat.le_of_ble_eq_true rfl) (rm_ok (by decide) (by decide)) ⟨Nat.le_of_ble_eq_true rfl, Nat.le_of_ble_eq_true rfl⟩ (kL fun r46 μ44 x45 h => ?_)
                have v4 := mex_ok x42 v4
                have v4 := mex_ok x45 v4
                refine g_callV f mk_X11_191 v4 (c_X11_isWord h) dX11_sortOf_151 rfl rfl (Nat.le_of_ble_eq_true rfl) (rm_ok (by decide) (by decide)) ⟨Nat.le_of_ble_eq_true rfl, Nat.le_of_ble_eq_true rfl⟩ (kI fun r49 μ47 x48 h => ?_)
                refine g_if_eq f 162 dX11_sortOf_154 rfl h (fun h => ?_) (fun h => ?_)
                · refine g_iconst f (-1) dX11_sortOf_162 kc_m1 ?_
                  exact g_iret f hq (Nat.le_of_ble_eq_true rfl) (Nat.le_of_ble_eq_true rfl) dX11_sortOf_163 h
                · refine g_bipush f 7 dX11_sortOf_157 kb_7 ?_
                  refine g_goto f 163 dX11_sortOf_159 rfl ?_
                  exact g_iret f hq (Nat.le_of_ble_eq_true rfl) (Nat.le_of_ble_eq_true rfl) dX11_sortOf_163 h
              · refine g_bipush f 6 dX11_sortOf_136 kb_6 ?_
                refine g_goto f 163 dX11_sortOf_138 rfl ?_
                exact g_iret f hq (Nat.le_of_ble_eq_true rfl) (Nat.le_of_ble_eq_true rfl) dX11_sortOf_163 h
            · refine g_iconst f 5 dX11_sortOf_120 kc_5 ?_
              exact g_iret f hq (Nat.le_of_ble_eq_true rfl) (Nat.le_of_ble_eq_true rfl) dX11_sortOf_121 h
          · refine g_iconst f 4 dX11_sortOf_102 kc_4 ?_
            exact g_iret f hq (Nat.le_of_ble_eq_true rfl) (Nat.le_of_ble_eq_true rfl) dX11_sortOf_103 h
        · refine g_iconst f 3 dX11_sortOf_84 kc_3 ?_
          exact g_iret f hq (Nat.le_of_ble_eq_true rfl) (Nat.le_of_ble_eq_true rfl) dX11_sortOf_85 h
      · refine g_iconst f 2 dX11_sortOf_64 kc_2 ?_
        exact g_iret f hq (Nat.le_of_ble_eq_true rfl) (Nat.le_of_ble_eq_true rfl) dX11_sortOf_65 h
    · refine g_iconst f 1 dX11_sortOf_40 kc_1 ?_
      exact g_iret f hq (Nat.le_of_ble_eq_true rfl) (Nat.le_of_ble_eq_true rfl) dX11_sortOf_41 h
  · refine g_iconst f 0 dX11_sortOf_18 kc_0 ?_
    exact g_iret f hq (Nat.le_of_ble_eq_true rfl) (Nat.le_of_ble_eq_true rfl) dX11_sortOf_19 h
theorem c_X11_sortOf {Ω : OM} {o0 : Nat} {μ : Me} {Q : Int32 → Me → Prop} (h : S_X11_sortOf o0 μ Q) : CT Ω yX11_sortOf cX11_sortOf 1 (some .int) (rmc 5 0 0) [.ref (oB Ω + o0)] μ (qI Q) := CT_of (by decide) rfl (by simp [lg_sl, Value.category]) (fun x hΩ f hq hi => by subst hΩ; exact t_X11_sortOf f hq h)
theorem dX11_has_0 : decode cX11_has 0 = .ok (.iload_n 0, 1) := by decide +kernel
theorem dX11_has_1 : decode cX11_has 1 = .ok (.iload_n 1, 1) := by decide +kernel
theorem dX11_has_2 : decode cX11_has 2 = .ok (.ishr, 1) := by decide +kernel
theorem dX11_has_3 : decode cX11_has 3 = .ok (.iconst 1, 1) := by decide +kernel
theorem dX11_has_4 : decode cX11_has 4 = .ok (.iand, 1) := by decide +kernel
theorem dX11_has_5 : decode cX11_has 5 = .ok (.iconst 1, 1) := by decide +kernel
theorem dX11_has_6 : decode cX11_has 6 = .ok (.if_icmp .ne 7, 3) := by decide +kernel
theorem dX11_has_9 : decode cX11_has 9 = .ok (.iconst 1, 1) := by decide +kernel
theorem dX11_has_10 : decode cX11_has 10 = .ok (.goto 4, 3) := by decide +kernel
theorem dX11_has_13 : decode cX11_has 13 = .ok (.iconst 0, 1) := by decide +kernel
theorem dX11_has_14 : decode cX11_has 14 = .ok (.ireturn, 1) := by decide +kernel
def S_X11_has (i0 : Int32) (i1 : Int32) (μ : Me) (Q : Int32 → Me → Prop) : Prop := ((¬ ((i0 >>> (i1 &&& 31)) &&& 1) = 1 → Q 0 μ) ∧ (((i0 >>> (i1 &&& 31)) &&& 1) = 1 → Q 1 μ))
set_option maxHeartbeats 4000000 in
set_option maxRecDepth 100000 in
theorem t_X11_has {x : GX} (f : Fx x cX11_has RX11 2 (rmc 0 0 0)) {i0 : Int32} {i1 : Int32} {μ : Me} {Q : Int32 → Me → Prop} (hq : Rt x (some .boolean) (qI Q)) (h : S_X11_has i0 i1 μ Q) : G x 2 0 [(0, .int i0), (1, .int i1)] [] μ 0 0 := by
  unfold S_X11_has at h
  refine g_iload_n f 0 dX11_has_0 rfl rfl ?_
  refine g_iload_n f 1 dX11_has_1 rfl rfl ?_
  refine g_ishr f dX11_has_2 ?_
  refine g_iconst f 1 dX11_has_3 kc_1 ?_
  refine g_iand f dX11_has_4 ?_
  refine g_iconst f 1 dX11_has_5 kc_1 ?_
  refine g_ic_ne f 13 dX11_has_6 rfl h (fun h => ?_) (fun h => ?_)
  · refine g_iconst f 0 dX11_has_13 kc_0 ?_
    exact g_zret f hq (Nat.le_of_ble_eq_true rfl) (Nat.le_of_ble_eq_true rfl) dX11_has_14 zb_0.1 h
  · refine g_iconst f 1 dX11_has_9 kc_1 ?_
    refine g_goto f 14 dX11_has_10 rfl ?_
    exact g_zret f hq (Nat.le_of_ble_eq_true rfl) (Nat.le_of_ble_eq_true rfl) dX11_has_14 zb_1.1 h
theorem c_X11_has {Ω : OM} {i0 : Int32} {i1 : Int32} {μ : Me} {Q : Int32 → Me → Prop} (h : S_X11_has i0 i1 μ Q) : CT Ω yX11_has cX11_has 2 (some .boolean) (rmc 0 0 0) [.int i0, .int i1] μ (qI Q) := CT_of (by decide) rfl (by simp [lg_sl, Value.category]) (fun x hΩ f hq hi => by subst hΩ; exact t_X11_has f hq h)
theorem dX11_figure_0 : decode cX11_figure 0 = .ok (.aload_n 0, 1) := by decide +kernel
theorem dX11_figure_1 : decode cX11_figure 1 = .ok (.getfield 102, 3) := by decide +kernel
theorem dX11_figure_4 : decode cX11_figure 4 = .ok (.iconst 1, 1) := by decide +kernel
theorem dX11_figure_5 : decode cX11_figure 5 = .ok (.if_icmp .eq 5, 3) := by decide +kernel
theorem dX11_figure_8 : decode cX11_figure 8 = .ok (.iconst 1, 1) := by decide +kernel
theorem dX11_figure_9 : decode cX11_figure 9 = .ok (.ireturn, 1) := by decide +kernel
theorem dX11_figure_10 : decode cX11_figure 10 = .ok (.aload_n 0, 1) := by decide +kernel
theorem dX11_figure_11 : decode cX11_figure 11 = .ok (.getfield 109, 3) := by decide +kernel
theorem dX11_figure_14 : decode cX11_figure 14 = .ok (.iload_n 2, 1) := by decide +kernel
theorem dX11_figure_15 : decode cX11_figure 15 = .ok (.iload_n 3, 1) := by decide +kernel
theorem dX11_figure_16 : decode cX11_figure 16 = .ok (.invokestatic 66, 3) := by decide +kernel
theorem dX11_figure_19 : decode cX11_figure 19 = .ok (.ifCond .ne 5, 3) := by decide +kernel
theorem dX11_figure_22 : decode cX11_figure 22 = .ok (.iconst 2, 1) := by decide +kernel
theorem dX11_figure_23 : decode cX11_figure 23 = .ok (.ireturn, 1) := by decide +kernel
theorem dX11_figure_24 : decode cX11_figure 24 = .ok (.aload_n 0, 1) := by decide +kernel
theorem dX11_figure_25 : decode cX11_figure 25 = .ok (.getfield 16, 3) := by decide +kernel
theorem dX11_figure_28 : decode cX11_figure 28 = .ok (.iload_n 1, 1) := by decide +kernel
theorem dX11_figure_29 : decode cX11_figure 29 = .ok (.aload_n 0, 1) := by decide +kernel
theorem dX11_figure_30 : decode cX11_figure 30 = .ok (.getfield 109, 3) := by decide +kernel
theorem dX11_figure_33 : decode cX11_figure 33 = .ok (.iastore, 1) := by decide +kernel
theorem dX11_figure_34 : decode cX11_figure 34 = .ok (.aload_n 0, 1) := by decide +kernel
theorem dX11_figure_35 : decode cX11_figure 35 = .ok (.invokevirtual 173, 3) := by decide +kernel
theorem dX11_figure_38 : decode cX11_figure 38 = .ok (.iconst 0, 1) := by decide +kernel
theorem dX11_figure_39 : decode cX11_figure 39 = .ok (.ireturn, 1) := by decide +kernel
def S_X11_figure (o0 : Nat) (i1 : Int32) (i2 : Int32) (i3 : Int32) (μ : Me) (Q : Int32 → Me → Prop) : Prop := mok μ o0 11 ∧ (((mgi μ o0 9) = 1 → S_X11_isIn (mgi μ o0 10) i2 i3 μ (fun r4 μ2 => ((¬ r4 = 0 → ∃ t5, mgr μ2 o0 2 = some t5 ∧ mok μ2 t5 12 ∧ vp_in i1 (mln μ2 t5) ∧ ∀ μ7, μ7 = msi μ2 t5 i1.toNatClampNeg (mgi μ2 o0 10) → S_X11_nextToken o0 μ7 (fun μ8 => Q 0 μ8)) ∧ (r4 = 0 → Q 2 μ2)))) ∧ (¬ (mgi μ o0 9) = 1 → Q 1 μ))
set_option maxHeartbeats 4000000 in
set_option maxRecDepth 100000 in
theorem t_X11_figure {x : GX} (f : Fx x cX11_figure RX11 4 (rmc 2 0 0)) {o0 : Nat} {i1 : Int32} {i2 : Int32} {i3 : Int32} {μ : Me} {Q : Int32 → Me → Prop} (hq : Rt x (some .int) (qI Q)) (h : S_X11_figure o0 i1 i2 i3 μ Q) : G x 4 0 [(0, .ref (gB x + o0)), (1, .int i1), (2, .int i2), (3, .int i3)] [] μ 0 0 := by
  unfold S_X11_figure at h
  refine g_aload_n f 0 dX11_figure_0 rfl rfl ?_
  obtain ⟨v1, h⟩ := h
  refine g_getI f fk_X11_102 v1 dX11_figure_1 rfl ?_
  refine g_iconst f 1 dX11_figure_4 kc_1 ?_
  refine g_ic_eq f 10 dX11_figure_5 rfl h (fun h => ?_) (fun h => ?_)
  · refine g_aload_n f 0 dX11_figure_10 rfl rfl ?_
    refine g_getI f fk_X11_109 v1 dX11_figure_11 rfl ?_
    refine g_iload_n f 2 dX11_figure_14 rfl rfl ?_
    refine g_iload_n f 3 dX11_figure_15 rfl rfl ?_
    refine g_callS f mk_X11_66 (c_X11_isIn h) dX11_figure_16 rfl rfl (Nat.le_of_ble_eq_true rfl) (rm_ok (by decide) (by decide)) ⟨Nat.le_of_ble_eq_true rfl, Nat.le_of_ble_eq_true rfl⟩ (kI fun r4 μ2 x3 h => ?_)
    refine g_if_ne f 24 dX11_figure_19 rfl h (fun h => ?_) (fun h => ?_)
    · refine g_aload_n f 0 dX11_figure_24 rfl rfl ?_
      have v1 := mex_ok x3 v1
      refine g_getR f fk_X11_16 v1 dX11_figure_25 rfl h (fun t5 h => ?_)
      refine g_iload_n f 1 dX11_figure_28 rfl rfl ?_
      refine g_aload_n f 0 dX11_figure_29 rfl rfl ?_
      refine g_getI f fk_X11_109 v1 dX11_figure_30 rfl ?_
      obtain ⟨v6, h⟩ := h
      refine g_iast f v6 dX11_figure_33 h (fun h => ?_)
      refine g_aload_n f 0 dX11_figure_34 rfl rfl ?_
      refine g_callV f mk_X11_173 v1 (c_X11_nextToken h) dX11_figure_35 rfl rfl (Nat.le_of_ble_eq_true rfl) (rm_ok (by decide) (by decide)) ⟨Nat.le_of_ble_eq_true rfl, Nat.le_of_ble_eq_true rfl⟩ (kV fun μ8 x9 h => ?_)
      refine g_iconst f 0 dX11_figure_38 kc_0 ?_
      exact g_iret f hq (Nat.le_of_ble_eq_true rfl) (Nat.le_of_ble_eq_true rfl) dX11_figure_39 h
    · refine g_iconst f 2 dX11_figure_22 kc_2 ?_
      exact g_iret f hq (Nat.le_of_ble_eq_true rfl) (Nat.le_of_ble_eq_true rfl) dX11_figure_23 h
  · refine g_iconst f 1 dX11_figure_8 kc_1 ?_
    exact g_iret f hq (Nat.le_of_ble_eq_true rfl) (Nat.le_of_ble_eq_true rfl) dX11_figure_9 h
theorem c_X11_figure {Ω : OM} {o0 : Nat} {i1 : Int32} {i2 : Int32} {i3 : Int32} {μ : Me} {Q : Int32 → Me → Prop} (h : S_X11_figure o0 i1 i2 i3 μ Q) : CT Ω yX11_figure cX11_figure 4 (some .int) (rmc 2 0 0) [.ref (oB Ω + o0), .int i1, .int i2, .int i3] μ (qI Q) := CT_of (by decide) rfl (by simp [lg_sl, Value.category]) (fun x hΩ f hq hi => by subst hΩ; exact t_X11_figure f hq h)
theorem dX11_worded_0 : decode cX11_worded 0 = .ok (.aload_n 0, 1) := by decide +kernel
theorem dX11_worded_1 : decode cX11_worded 1 = .ok (.lload_n 1, 1) := by decide +kernel
theorem dX11_worded_2 : decode cX11_worded 2 = .ok (.invokevirtual 191, 3) := by decide +kernel
theorem dX11_worded_5 : decode cX11_worded 5 = .ok (.ifCond .ne 5, 3) := by decide +kernel
theorem dX11_worded_8 : decode cX11_worded 8 = .ok (.iconst 1, 1) := by decide +kernel
theorem dX11_worded_9 : decode cX11_worded 9 = .ok (.ireturn, 1) := by decide +kernel
theorem dX11_worded_10 : decode cX11_worded 10 = .ok (.aload_n 0, 1) := by decide +kernel
theorem dX11_worded_11 : decode cX11_worded 11 = .ok (.invokevirtual 173, 3) := by decide +kernel
theorem dX11_worded_14 : decode cX11_worded 14 = .ok (.aload_n 0, 1) := by decide +kernel
theorem dX11_worded_15 : decode cX11_worded 15 = .ok (.iload_n 3, 1) := by decide +kernel
theorem dX11_worded_16 : decode cX11_worded 16 = .ok (.iload 4, 2) := by decide +kernel
theorem dX11_worded_18 : decode cX11_worded 18 = .ok (.iload 5, 2) := by decide +kernel
theorem dX11_worded_20 : decode cX11_worded 20 = .ok (.invokevirtual 216, 3) := by decide +kernel
theorem dX11_worded_23 : decode cX11_worded 23 = .ok (.ireturn, 1) := by decide +kernel
def S_X11_worded (o0 : Nat) (j1 : Int64) (i3 : Int32) (i4 : Int32) (i5 : Int32) (μ : Me) (Q : Int32 → Me → Prop) : Prop := mok μ o0 11 ∧ S_X11_isWord o0 j1 μ (fun r4 μ2 => ((¬ r4 = 0 → S_X11_nextToken o0 μ2 (fun μ5 => S_X11_figure o0 i3 i4 i5 μ5 (fun r10 μ8 => Q r10 μ8))) ∧ (r4 = 0 → Q 1 μ2)))
set_option maxHeartbeats 4000000 in
set_option maxRecDepth 100000 in
theorem t_X11_worded {x : GX} (f : Fx x cX11_worded RX11 6 (rmc 3 0 0)) {o0 : Nat} {j1 : Int64} {i3 : Int32} {i4 : Int32} {i5 : Int32} {μ : Me} {Q : Int32 → Me → Prop} (hq : Rt x (some .int) (qI Q)) (h : S_X11_worded o0 j1 i3 i4 i5 μ Q) : G x 6 0 [(0, .ref (gB x + o0)), (1, .long j1), (3, .int i3), (4, .int i4), (5, .int i5)] [] μ 0 0 := by
  unfold S_X11_worded at h
  refine g_aload_n f 0 dX11_worded_0 rfl rfl ?_
  refine g_lload_n f 1 dX11_worded_1 rfl rfl ?_
  obtain ⟨v1, h⟩ := h
  refine g_callV f mk_X11_191 v1 (c_X11_isWord h) dX11_worded_2 rfl rfl (Nat.le_of_ble_eq_true rfl) (rm_ok (by decide) (by decide)) ⟨Nat.le_of_ble_eq_true rfl, Nat.le_of_ble_eq_true rfl⟩ (kI fun r4 μ2 x3 h => ?_)
  refine g_if_ne f 10 dX11_worded_5 rfl h (fun h => ?_) (fun h => ?_)
  · refine g_aload_n f 0 dX11_worded_10 rfl rfl ?_
    have v1 := mex_ok x3 v1
    refine g_callV f mk_X11_173 v1 (c_X11_nextToken h) dX11_worded_11 rfl rfl (Nat.le_of_ble_eq_true rfl) (rm_ok (by decide) (by decide)) ⟨Nat.le_of_ble_eq_true rfl, Nat.le_of_ble_eq_true rfl⟩ (kV fun μ5 x6 h => ?_)
    refine g_aload_n f 0 dX11_worded_14 rfl rfl ?_
    refine g_iload_n f 2 dX11_worded_15 rfl rfl ?_
    refine g_iload f 3 dX11_worded_16 rfl ?_
    refine g_iload f 4 dX11_worded_18 rfl ?_
    have v1 := mex_ok x6 v1
    refine g_callV f mk_X11_216 v1 (c_X11_figure h) dX11_worded_20 rfl rfl (Nat.le_of_ble_eq_true rfl) (rm_ok (by decide) (by decide)) ⟨Nat.le_of_ble_eq_true rfl, Nat.le_of_ble_eq_true rfl⟩ (kI fun r10 μ8 x9 h => ?_)
    exact g_iret f hq (Nat.le_of_ble_eq_true rfl) (Nat.le_of_ble_eq_true rfl) dX11_worded_23 h
  · refine g_iconst f 1 dX11_worded_8 kc_1 ?_
    exact g_iret f hq (Nat.le_of_ble_eq_true rfl) (Nat.le_of_ble_eq_true rfl) dX11_worded_9 h
theorem c_X11_worded {Ω : OM} {o0 : Nat} {j1 : Int64} {i3 : Int32} {i4 : Int32} {i5 : Int32} {μ : Me} {Q : Int32 → Me → Prop} (h : S_X11_worded o0 j1 i3 i4 i5 μ Q) : CT Ω yX11_worded cX11_worded 6 (some .int) (rmc 3 0 0) [.ref (oB Ω + o0), .long j1, .int i3, .int i4, .int i5] μ (qI Q) := CT_of (by decide) rfl (by simp [lg_sl, Value.category]) (fun x hΩ f hq hi => by subst hΩ; exact t_X11_worded f hq h)
theorem dX11_personClause_0 : decode cX11_personClause 0 = .ok (.aload_n 0, 1) := by decide +kernel
theorem dX11_personClause_1 : decode cX11_personClause 1 = .ok (.iload_n 1, 1) := by decide +kernel
theorem dX11_personClause_2 : decode cX11_personClause 2 = .ok (.iconst 1, 1) := by decide +kernel
theorem dX11_personClause_3 : decode cX11_personClause 3 = .ok (.iadd, 1) := by decide +kernel
theorem dX11_personClause_4 : decode cX11_personClause 4 = .ok (.iconst 0, 1) := by decide +kernel
theorem dX11_personClause_5 : decode cX11_personClause 5 = .ok (.iconst 3, 1) := by decide +kernel
theorem dX11_personClause_6 : decode cX11_personClause 6 = .ok (.invokevirtual 216, 3) := by decide +kernel
theorem dX11_personClause_9 : decode cX11_personClause 9 = .ok (.istore_n 2, 1) := by decide +kernel
theorem dX11_personClause_10 : decode cX11_personClause 10 = .ok (.iload_n 2, 1) := by decide +kernel
theorem dX11_personClause_11 : decode cX11_personClause 11 = .ok (.ifCond .ne 25, 3) := by decide +kernel
theorem dX11_personClause_14 : decode cX11_personClause 14 = .ok (.aload_n 0, 1) := by decide +kernel
theorem dX11_personClause_15 : decode cX11_personClause 15 = .ok (.bipush 119, 2) := by decide +kernel
theorem dX11_personClause_17 : decode cX11_personClause 17 = .ok (.bipush 97, 2) := by decide +kernel
theorem dX11_personClause_19 : decode cX11_personClause 19 = .ok (.bipush 108, 2) := by decide +kernel
theorem dX11_personClause_21 : decode cX11_personClause 21 = .ok (.bipush 107, 2) := by decide +kernel
theorem dX11_personClause_23 : decode cX11_personClause 23 = .ok (.invokestatic 133, 3) := by decide +kernel
theorem dX11_personClause_26 : decode cX11_personClause 26 = .ok (.iload_n 1, 1) := by decide +kernel
theorem dX11_personClause_27 : decode cX11_personClause 27 = .ok (.iconst 2, 1) := by decide +kernel
theorem dX11_personClause_28 : decode cX11_personClause 28 = .ok (.iadd, 1) := by decide +kernel
theorem dX11_personClause_29 : decode cX11_personClause 29 = .ok (.iconst 1, 1) := by decide +kernel
theorem dX11_personClause_30 : decode cX11_personClause 30 = .ok (.bipush 99, 2) := by decide +kernel
theorem dX11_personClause_32 : decode cX11_personClause 32 = .ok (.invokevirtual 223, 3) := by decide +kernel
theorem dX11_personClause_35 : decode cX11_personClause 35 = .ok (.istore_n 2, 1) := by decide +kernel
theorem dX11_personClause_36 : decode cX11_personClause 36 = .ok (.iload_n 2, 1) := by decide +kernel
theorem dX11_personClause_37 : decode cX11_personClause 37 = .ok (.ifCond .ne 23, 3) := by decide +kernel
theorem dX11_personClause_40 : decode cX11_personClause 40 = .ok (.aload_n 0, 1) := by decide +kernel
theorem dX11_personClause_41 : decode cX11_personClause 41 = .ok (.bipush 114, 2) := by decide +kernel
theorem dX11_personClause_43 : decode cX11_personClause 43 = .ok (.bipush 117, 2) := by decide +kernel
theorem dX11_personClause_45 : decode cX11_personClause 45 = .ok (.bipush 110, 2) := by decide +kernel
theorem dX11_personClause_47 : decode cX11_personClause 47 = .ok (.invokestatic 129, 3) := by decide +kernel
theorem dX11_personClause_50 : decode cX11_personClause 50 = .ok (.iload_n 1, 1) := by decide +kernel
theorem dX11_personClause_51 : decode cX11_personClause 51 = .ok (.iconst 3, 1) := by decide +kernel
theorem dX11_personClause_52 : decode cX11_personClause 52 = .ok (.iadd, 1) := by decide +kernel
theorem dX11_personClause_53 : decode cX11_personClause 53 = .ok (.iconst 1, 1) := by decide +kernel
theorem dX11_personClause_54 : decode cX11_personClause 54 = .ok (.bipush 99, 2) := by decide +kernel
theorem dX11_personClause_56 : decode cX11_personClause 56 = .ok (.invokevirtual 223, 3) := by decide +kernel
theorem dX11_personClause_59 : decode cX11_personClause 59 = .ok (.istore_n 2, 1) := by decide +kernel
theorem dX11_personClause_60 : decode cX11_personClause 60 = .ok (.iload_n 2, 1) := by decide +kernel
theorem dX11_personClause_61 : decode cX11_personClause 61 = .ok (.ifCond .eq 7, 3) := by decide +kernel
theorem dX11_personClause_64 : decode cX11_personClause 64 = .ok (.iload_n 2, 1) := by decide +kernel
theorem dX11_personClause_65 : decode cX11_personClause 65 = .ok (.goto 22, 3) := by decide +kernel
theorem dX11_personClause_68 : decode cX11_personClause 68 = .ok (.aload_n 0, 1) := by decide +kernel
theorem dX11_personClause_69 : decode cX11_personClause 69 = .ok (.bipush 100, 2) := by decide +kernel
theorem dX11_personClause_71 : decode cX11_personClause 71 = .ok (.bipush 117, 2) := by decide +kernel
theorem dX11_personClause_73 : decode cX11_personClause 73 = .ok (.bipush 101, 2) := by decide +kernel
theorem dX11_personClause_75 : decode cX11_personClause 75 = .ok (.invokestatic 129, 3) := by decide +kernel
theorem dX11_personClause_78 : decode cX11_personClause 78 = .ok (.iload_n 1, 1) := by decide +kernel
theorem dX11_personClause_79 : decode cX11_personClause 79 = .ok (.iconst 4, 1) := by decide +kernel
theorem dX11_personClause_80 : decode cX11_personClause 80 = .ok (.iadd, 1) := by decide +kernel
theorem dX11_personClause_81 : decode cX11_personClause 81 = .ok (.iconst 0, 1) := by decide +kernel
theorem dX11_personClause_82 : decode cX11_personClause 82 = .ok (.bipush 99, 2) := by decide +kernel
theorem dX11_personClause_84 : decode cX11_personClause 84 = .ok (.invokevirtual 223, 3) := by decide +kernel
theorem dX11_personClause_87 : decode cX11_personClause 87 = .ok (.ireturn, 1) := by decide +kernel
def B_X11_personClause_60 (o0 : Nat) (i1 : Int32) (i2 : Int32) (μ : Me) (Q : Int32 → Me → Prop) : Prop := ((i2 = 0 → S_X11_w3 100 117 101 μ (fun r7 μ5 => mok μ5 o0 11 ∧ S_X11_worded o0 r7 (i1 + 4) 0 99 μ5 (fun r11 μ9 => Q r11 μ9))) ∧ (¬ i2 = 0 → Q i2 μ))
set_option maxHeartbeats 4000000 in
set_option maxRecDepth 100000 in
theorem tB_X11_personClause_60 {x : GX} (f : Fx x cX11_personClause RX11 3 (rmc 4 0 0)) {o0 : Nat} {i1 : Int32} {i2 : Int32} {μ : Me} {Q : Int32 → Me → Prop} (hq : Rt x (some .int) (qI Q)) (h : B_X11_personClause_60 o0 i1 i2 μ Q) : G x 3 60 [(0, .ref (gB x + o0)), (1, .int i1), (2, .int i2)] [] μ 0 0 := by
  unfold B_X11_personClause_60 at h
  refine g_iload_n f 2 dX11_personClause_60 rfl rfl ?_
  refine g_if_eq f 68 dX11_personClause_61 rfl h (fun h => ?_) (fun h => ?_)
  · refine g_aload_n f 0 dX11_personClause_68 rfl rfl ?_
    refine g_bipush f 100 dX11_personClause_69 kb_100 ?_
    refine g_bipush f 117 dX11_personClause_71 kb_117 ?_
    refine g_bipush f 101 dX11_personClause_73 kb_101 ?_
    refine g_callS f mk_X11_129 (c_X11_w3 h) dX11_personClause_75 rfl rfl (Nat.le_of_ble_eq_true rfl) (rm_ok (by decide) (by decide)) ⟨Nat.le_of_ble_eq_true rfl, Nat.le_of_ble_eq_true rfl⟩ (kL fun r7 μ5 x6 h => ?_)
    refine g_iload_n f 1 dX11_personClause_78 rfl rfl ?_
    refine g_iconst f 4 dX11_personClause_79 kc_4 ?_
    refine g_iadd f dX11_personClause_80 ?_
    refine g_iconst f 0 dX11_personClause_81 kc_0 ?_
    refine g_bipush f 99 dX11_personClause_82 kb_99 ?_
    obtain ⟨v8, h⟩ := h
    refine g_callV f mk_X11_223 v8 (c_X11_worded h) dX11_personClause_84 rfl rfl (Nat.le_of_ble_eq_true rfl) (rm_ok (by decide) (by decide)) ⟨Nat.le_of_ble_eq_true rfl, Nat.le_of_ble_eq_true rfl⟩ (kI fun r11 μ9 x10 h => ?_)
    exact g_iret f hq (Nat.le_of_ble_eq_true rfl) (Nat.le_of_ble_eq_true rfl) dX11_personClause_87 h
  · refine g_iload_n f 2 dX11_personClause_64 rfl rfl ?_
    refine g_goto f 87 dX11_personClause_65 rfl ?_
    exact g_iret f hq (Nat.le_of_ble_eq_true rfl) (Nat.le_of_ble_eq_true rfl) dX11_personClause_87 h
def B_X11_personClause_36 (o0 : Nat) (i1 : Int32) (i2 : Int32) (μ : Me) (Q : Int32 → Me → Prop) : Prop := ((¬ i2 = 0 → B_X11_personClause_60 o0 i1 i2 μ Q) ∧ (i2 = 0 → S_X11_w3 114 117 110 μ (fun r14 μ12 => mok μ12 o0 11 ∧ S_X11_worded o0 r14 (i1 + 3) 1 99 μ12 (fun r18 μ16 => B_X11_personClause_60 o0 i1 r18 μ16 Q))))
set_option maxHeartbeats 4000000 in
set_option maxRecDepth 100000 in
theorem tB_X11_personClause_36 {x : GX} (f : Fx x cX11_personClause RX11 3 (rmc 4 0 0)) {o0 : Nat} {i1 : Int32} {i2 : Int32} {μ : Me} {Q : Int32 → Me → Prop} (hq : Rt x (some .int) (qI Q)) (h : B_X11_personClause_36 o0 i1 i2 μ Q) : G x 3 36 [(0, .ref (gB x + o0)), (1, .int i1), (2, .int i2)] [] μ 0 0 := by
  unfold B_X11_personClause_36 at h
  refine g_iload_n f 2 dX11_personClause_36 rfl rfl ?_
  refine g_if_ne f 60 dX11_personClause_37 rfl h (fun h => ?_) (fun h => ?_)
  · exact h_sub [0, 1, 2] rfl (tB_X11_personClause_60 f hq h)
  · refine g_aload_n f 0 dX11_personClause_40 rfl rfl ?_
    refine g_bipush f 114 dX11_personClause_41 kb_114 ?_
    refine g_bipush f 117 dX11_personClause_43 kb_117 ?_
    refine g_bipush f 110 dX11_personClause_45 kb_110 ?_
    refine g_callS f mk_X11_129 (c_X11_w3 h) dX11_personClause_47 rfl rfl (Nat.le_of_ble_eq_true rfl) (rm_ok (by decide) (by decide)) ⟨Nat.le_of_ble_eq_true rfl, Nat.le_of_ble_eq_true rfl⟩ (kL fun r14 μ12 x13 h => ?_)
    refine g_iload_n f 1 dX11_personClause_50 rfl rfl ?_
    refine g_iconst f 3 dX11_personClause_51 kc_3 ?_
    refine g_iadd f dX11_personClause_52 ?_
    refine g_iconst f 1 dX11_personClause_53 kc_1 ?_
    refine g_bipush f 99 dX11_personClause_54 kb_99 ?_
    obtain ⟨v15, h⟩ := h
    refine g_callV f mk_X11_223 v15 (c_X11_worded h) dX11_personClause_56 rfl rfl (Nat.le_of_ble_eq_true rfl) (rm_ok (by decide) (by decide)) ⟨Nat.le_of_ble_eq_true rfl, Nat.le_of_ble_eq_true rfl⟩ (kI fun r18 μ16 x17 h => ?_)
    refine h_istore_n f dX11_personClause_59 rfl (by decide) ?_
    exact h_sub [1, 2, 0] rfl (tB_X11_personClause_60 f hq h)
def S_X11_personClause (o0 : Nat) (i1 : Int32) (μ : Me) (Q : Int32 → Me → Prop) : Prop := mok μ o0 11 ∧ S_X11_figure o0 (i1 + 1) 0 3 μ (fun r4 μ2 => ((¬ r4 = 0 → B_X11_personClause_36 o0 i1 r4 μ2 Q) ∧ (r4 = 0 → S_X11_w4 119 97 108 107 μ2 (fun r21 μ19 => S_X11_worded o0 r21 (i1 + 2) 1 99 μ19 (fun r24 μ22 => B_X11_personClause_36 o0 i1 r24 μ22 Q)))))
set_option maxHeartbeats 4000000 in
set_option maxRecDepth 100000 in
theorem t_X11_personClause {x : GX} (f : Fx x cX11_personClause RX11 3 (rmc 4 0 0)) {o0 : Nat} {i1 : Int32} {μ : Me} {Q : Int32 → Me → Prop} (hq : Rt x (some .int) (qI Q)) (h : S_X11_personClause o0 i1 μ Q) : G x 3 0 [(0, .ref (gB x + o0)), (1, .int i1)] [] μ 0 0 := by
  unfold S_X11_personClause at h
  refine g_aload_n f 0 dX11_personClause_0 rfl rfl ?_
  refine g_iload_n f 1 dX11_personClause_1 rfl rfl ?_
  refine g_iconst f 1 dX11_personClause_2 kc_1 ?_
  refine g_iadd f dX11_personClause_3 ?_
  refine g_iconst f 0 dX11_personClause_4 kc_0 ?_
  refine g_iconst f 3 dX11_personClause_5 kc_3 ?_
  obtain ⟨v1, h⟩ := h
  refine g_callV f mk_X11_216 v1 (c_X11_figure h) dX11_personClause_6 rfl rfl (Nat.le_of_ble_eq_true rfl) (rm_ok (by decide) (by decide)) ⟨Nat.le_of_ble_eq_true rfl, Nat.le_of_ble_eq_true rfl⟩ (kI fun r4 μ2 x3 h => ?_)
  refine h_istore_n f dX11_personClause_9 rfl (by decide) ?_
  refine g_iload_n f 0 dX11_personClause_10 rfl rfl ?_
  refine g_if_ne f 36 dX11_personClause_11 rfl h (fun h => ?_) (fun h => ?_)
  · exact h_sub [1, 2, 0] rfl (tB_X11_personClause_36 f hq h)
  · refine g_aload_n f 1 dX11_personClause_14 rfl rfl ?_
    refine g_bipush f 119 dX11_personClause_15 kb_119 ?_
    refine g_bipush f 97 dX11_personClause_17 kb_97 ?_
    refine g_bipush f 108 dX11_personClause_19 kb_108 ?_
    refine g_bipush f 107 dX11_personClause_21 kb_107 ?_
    refine g_callS f mk_X11_133 (c_X11_w4 h) dX11_personClause_23 rfl rfl (Nat.le_of_ble_eq_true rfl) (rm_ok (by decide) (by decide)) ⟨Nat.le_of_ble_eq_true rfl, Nat.le_of_ble_eq_true rfl⟩ (kL fun r21 μ19 x20 h => ?_)
    refine g_iload_n f 2 dX11_personClause_26 rfl rfl ?_
    refine g_iconst f 2 dX11_personClause_27 kc_2 ?_
    refine g_iadd f dX11_personClause_28 ?_
    refine g_iconst f 1 dX11_personClause_29 kc_1 ?_
    refine g_bipush f 99 dX11_personClause_30 kb_99 ?_
    have v1 := mex_ok x3 v1
    have v1 := mex_ok x20 v1
    refine g_callV f mk_X11_223 v1 (c_X11_worded h) dX11_personClause_32 rfl rfl (Nat.le_of_ble_eq_true rfl) (rm_ok (by decide) (by decide)) ⟨Nat.le_of_ble_eq_true rfl, Nat.le_of_ble_eq_true rfl⟩ (kI fun r24 μ22 x23 h => ?_)
    refine h_istore_n f dX11_personClause_35 rfl (by decide) ?_
    exact h_sub [1, 2, 0] rfl (tB_X11_personClause_36 f hq h)
theorem c_X11_personClause {Ω : OM} {o0 : Nat} {i1 : Int32} {μ : Me} {Q : Int32 → Me → Prop} (h : S_X11_personClause o0 i1 μ Q) : CT Ω yX11_personClause cX11_personClause 3 (some .int) (rmc 4 0 0) [.ref (oB Ω + o0), .int i1] μ (qI Q) := CT_of (by decide) rfl (by simp [lg_sl, Value.category]) (fun x hΩ f hq hi => by subst hΩ; exact t_X11_personClause f hq h)
theorem dX11_dueClause_0 : decode cX11_dueClause 0 = .ok (.aload_n 0, 1) := by decide +kernel
theorem dX11_dueClause_1 : decode cX11_dueClause 1 = .ok (.iload_n 1, 1) := by decide +kernel
theorem dX11_dueClause_2 : decode cX11_dueClause 2 = .ok (.iconst 1, 1) := by decide +kernel
theorem dX11_dueClause_3 : decode cX11_dueClause 3 = .ok (.iadd, 1) := by decide +kernel
theorem dX11_dueClause_4 : decode cX11_dueClause 4 = .ok (.iconst 0, 1) := by decide +kernel
theorem dX11_dueClause_5 : decode cX11_dueClause 5 = .ok (.bipush 99, 2) := by decide +kernel
theorem dX11_dueClause_7 : decode cX11_dueClause 7 = .ok (.invokevirtual 216, 3) := by decide +kernel
theorem dX11_dueClause_10 : decode cX11_dueClause 10 = .ok (.istore_n 2, 1) := by decide +kernel
theorem dX11_dueClause_11 : decode cX11_dueClause 11 = .ok (.iload_n 2, 1) := by decide +kernel
theorem dX11_dueClause_12 : decode cX11_dueClause 12 = .ok (.ifCond .eq 7, 3) := by decide +kernel
theorem dX11_dueClause_15 : decode cX11_dueClause 15 = .ok (.iload_n 2, 1) := by decide +kernel
theorem dX11_dueClause_16 : decode cX11_dueClause 16 = .ok (.goto 20, 3) := by decide +kernel
theorem dX11_dueClause_19 : decode cX11_dueClause 19 = .ok (.aload_n 0, 1) := by decide +kernel
theorem dX11_dueClause_20 : decode cX11_dueClause 20 = .ok (.bipush 111, 2) := by decide +kernel
theorem dX11_dueClause_22 : decode cX11_dueClause 22 = .ok (.bipush 102, 2) := by decide +kernel
theorem dX11_dueClause_24 : decode cX11_dueClause 24 = .ok (.invokestatic 125, 3) := by decide +kernel
theorem dX11_dueClause_27 : decode cX11_dueClause 27 = .ok (.iload_n 1, 1) := by decide +kernel
theorem dX11_dueClause_28 : decode cX11_dueClause 28 = .ok (.iconst 2, 1) := by decide +kernel
theorem dX11_dueClause_29 : decode cX11_dueClause 29 = .ok (.iadd, 1) := by decide +kernel
theorem dX11_dueClause_30 : decode cX11_dueClause 30 = .ok (.iconst 0, 1) := by decide +kernel
theorem dX11_dueClause_31 : decode cX11_dueClause 31 = .ok (.bipush 7, 2) := by decide +kernel
theorem dX11_dueClause_33 : decode cX11_dueClause 33 = .ok (.invokevirtual 223, 3) := by decide +kernel
theorem dX11_dueClause_36 : decode cX11_dueClause 36 = .ok (.ireturn, 1) := by decide +kernel
def S_X11_dueClause (o0 : Nat) (i1 : Int32) (μ : Me) (Q : Int32 → Me → Prop) : Prop := mok μ o0 11 ∧ S_X11_figure o0 (i1 + 1) 0 99 μ (fun r4 μ2 => ((r4 = 0 → S_X11_w2 111 102 μ2 (fun r7 μ5 => S_X11_worded o0 r7 (i1 + 2) 0 7 μ5 (fun r10 μ8 => Q r10 μ8))) ∧ (¬ r4 = 0 → Q r4 μ2)))
set_option maxHeartbeats 4000000 in
set_option maxRecDepth 100000 in
theorem t_X11_dueClause {x : GX} (f : Fx x cX11_dueClause RX11 3 (rmc 4 0 0)) {o0 : Nat} {i1 : Int32} {μ : Me} {Q : Int32 → Me → Prop} (hq : Rt x (some .int) (qI Q)) (h : S_X11_dueClause o0 i1 μ Q) : G x 3 0 [(0, .ref (gB x + o0)), (1, .int i1)] [] μ 0 0 := by
  unfold S_X11_dueClause at h
  refine g_aload_n f 0 dX11_dueClause_0 rfl rfl ?_
  refine g_iload_n f 1 dX11_dueClause_1 rfl rfl ?_
  refine g_iconst f 1 dX11_dueClause_2 kc_1 ?_
  refine g_iadd f dX11_dueClause_3 ?_
  refine g_iconst f 0 dX11_dueClause_4 kc_0 ?_
  refine g_bipush f 99 dX11_dueClause_5 kb_99 ?_
  obtain ⟨v1, h⟩ := h
  refine g_callV f mk_X11_216 v1 (c_X11_figure h) dX11_dueClause_7 rfl rfl (Nat.le_of_ble_eq_true rfl) (rm_ok (by decide) (by decide)) ⟨Nat.le_of_ble_eq_true rfl, Nat.le_of_ble_eq_true rfl⟩ (kI fun r4 μ2 x3 h => ?_)
  refine h_istore_n f dX11_dueClause_10 rfl (by decide) ?_
  refine g_iload_n f 0 dX11_dueClause_11 rfl rfl ?_
  refine g_if_eq f 19 dX11_dueClause_12 rfl h (fun h => ?_) (fun h => ?_)
  · refine g_aload_n f 1 dX11_dueClause_19 rfl rfl ?_
    refine g_bipush f 111 dX11_dueClause_20 kb_111 ?_
    refine g_bipush f 102 dX11_dueClause_22 kb_102 ?_
    refine g_callS f mk_X11_125 (c_X11_w2 h) dX11_dueClause_24 rfl rfl (Nat.le_of_ble_eq_true rfl) (rm_ok (by decide) (by decide)) ⟨Nat.le_of_ble_eq_true rfl, Nat.le_of_ble_eq_true rfl⟩ (kL fun r7 μ5 x6 h => ?_)
    refine g_iload_n f 2 dX11_dueClause_27 rfl rfl ?_
    refine g_iconst f 2 dX11_dueClause_28 kc_2 ?_
    refine g_iadd f dX11_dueClause_29 ?_
    refine g_iconst f 0 dX11_dueClause_30 kc_0 ?_
    refine g_bipush f 7 dX11_dueClause_31 kb_7 ?_
    have v1 := mex_ok x3 v1
    have v1 := mex_ok x6 v1
    refine g_callV f mk_X11_223 v1 (c_X11_worded h) dX11_dueClause_33 rfl rfl (Nat.le_of_ble_eq_true rfl) (rm_ok (by decide) (by decide)) ⟨Nat.le_of_ble_eq_true rfl, Nat.le_of_ble_eq_true rfl⟩ (kI fun r10 μ8 x9 h => ?_)
    exact g_iret f hq (Nat.le_of_ble_eq_true rfl) (Nat.le_of_ble_eq_true rfl) dX11_dueClause_36 h
  · refine g_iload_n f 0 dX11_dueClause_15 rfl rfl ?_
    refine g_goto f 36 dX11_dueClause_16 rfl ?_
    exact g_iret f hq (Nat.le_of_ble_eq_true rfl) (Nat.le_of_ble_eq_true rfl) dX11_dueClause_36 h
theorem c_X11_dueClause {Ω : OM} {o0 : Nat} {i1 : Int32} {μ : Me} {Q : Int32 → Me → Prop} (h : S_X11_dueClause o0 i1 μ Q) : CT Ω yX11_dueClause cX11_dueClause 3 (some .int) (rmc 4 0 0) [.ref (oB Ω + o0), .int i1] μ (qI Q) := CT_of (by decide) rfl (by simp [lg_sl, Value.category]) (fun x hΩ f hq hi => by subst hΩ; exact t_X11_dueClause f hq h)
theorem dX11_openAt_0 : decode cX11_openAt 0 = .ok (.aload_n 0, 1) := by decide +kernel
theorem dX11_openAt_1 : decode cX11_openAt 1 = .ok (.getfield 154, 3) := by decide +kernel
theorem dX11_openAt_4 : decode cX11_openAt 4 = .ok (.iconst 1, 1) := by decide +kernel
theorem dX11_openAt_5 : decode cX11_openAt 5 = .ok (.isub, 1) := by decide +kernel
theorem dX11_openAt_6 : decode cX11_openAt 6 = .ok (.istore_n 1, 1) := by decide +kernel
theorem dX11_openAt_7 : decode cX11_openAt 7 = .ok (.iload_n 1, 1) := by decide +kernel
theorem dX11_openAt_8 : decode cX11_openAt 8 = .ok (.ifCond .lt 20, 3) := by decide +kernel
theorem dX11_openAt_11 : decode cX11_openAt 11 = .ok (.aload_n 0, 1) := by decide +kernel
theorem dX11_openAt_12 : decode cX11_openAt 12 = .ok (.getfield 29, 3) := by decide +kernel
theorem dX11_openAt_15 : decode cX11_openAt 15 = .ok (.iload_n 1, 1) := by decide +kernel
theorem dX11_openAt_16 : decode cX11_openAt 16 = .ok (.iaload, 1) := by decide +kernel
theorem dX11_openAt_17 : decode cX11_openAt 17 = .ok (.bipush 40, 2) := by decide +kernel
theorem dX11_openAt_19 : decode cX11_openAt 19 = .ok (.if_icmp .ge 9, 3) := by decide +kernel
theorem dX11_openAt_22 : decode cX11_openAt 22 = .ok (.iinc 1 (-1), 3) := by decide +kernel
theorem dX11_openAt_25 : decode cX11_openAt 25 = .ok (.goto (-18), 3) := by decide +kernel
theorem dX11_openAt_28 : decode cX11_openAt 28 = .ok (.iload_n 1, 1) := by decide +kernel
theorem dX11_openAt_29 : decode cX11_openAt 29 = .ok (.ireturn, 1) := by decide +kernel
def B_X11_openAt_7 (o0 : Nat) (i1 : Int32) (μ : Me) (K7 : Int32 → Me → Prop) (Q : Int32 → Me → Prop) : Prop := ((i1 < 0 → Q i1 μ) ∧ (¬ i1 < 0 → mok μ o0 11 ∧ ∃ t3, mgr μ o0 15 = some t3 ∧ mok μ t3 12 ∧ vp_in i1 (mln μ t3) ∧ ((40 ≤ (mgi μ t3 i1.toNatClampNeg) → Q i1 μ) ∧ (¬ 40 ≤ (mgi μ t3 i1.toNatClampNeg) → K7 (i1 + (-1)) μ))))
set_option maxHeartbeats 4000000 in
set_option maxRecDepth 100000 in
theorem tB_X11_openAt_7 {x : GX} (f : Fx x cX11_openAt RX11 2 (rmc 0 0 0)) {o0 : Nat} {i1 : Int32} {μ : Me} {Q : Int32 → Me → Prop} (hq : Rt x (some .int) (qI Q)) {K7 : Int32 → Me → Prop} (hK7 : ∀ (a1 : Int32) (ν : Me), K7 a1 ν → G x 2 7 [(0, .ref (gB x + o0)), (1, .int a1)] [] ν 0 0) (h : B_X11_openAt_7 o0 i1 μ K7 Q) : G x 2 7 [(0, .ref (gB x + o0)), (1, .int i1)] [] μ 0 0 := by
  unfold B_X11_openAt_7 at h
  refine g_iload_n f 1 dX11_openAt_7 rfl rfl ?_
  refine g_if_lt f 28 dX11_openAt_8 rfl h (fun h => ?_) (fun h => ?_)
  · refine g_iload_n f 1 dX11_openAt_28 rfl rfl ?_
    exact g_iret f hq (Nat.le_of_ble_eq_true rfl) (Nat.le_of_ble_eq_true rfl) dX11_openAt_29 h
  · refine g_aload_n f 0 dX11_openAt_11 rfl rfl ?_
    obtain ⟨v2, h⟩ := h
    refine g_getR f fk_X11_29 v2 dX11_openAt_12 rfl h (fun t3 h => ?_)
    refine g_iload_n f 1 dX11_openAt_15 rfl rfl ?_
    obtain ⟨v4, h⟩ := h
    refine g_iald f v4 dX11_openAt_16 h (fun h => ?_)
    refine g_bipush f 40 dX11_openAt_17 kb_40 ?_
    refine g_ic_ge f 28 dX11_openAt_19 rfl h (fun h => ?_) (fun h => ?_)
    · refine g_iload_n f 1 dX11_openAt_28 rfl rfl ?_
      exact g_iret f hq (Nat.le_of_ble_eq_true rfl) (Nat.le_of_ble_eq_true rfl) dX11_openAt_29 h
    · refine h_iinc f 1 (-1) dX11_openAt_22 rfl kc_m1 (by decide) ?_
      refine g_goto f 7 dX11_openAt_25 rfl ?_
      exact h_sub [1, 0] rfl (hK7 _ _ h)
def L_X11_openAt_7 (o0 : Nat) (i1 : Int32) (μ : Me) (Q : Int32 → Me → Prop) : Prop := ∃ I : Int32 → Me → Nat → Prop, (∃ n, I i1 μ n) ∧ ∀ (i1 : Int32) (μ : Me) (n : Nat), I i1 μ n → B_X11_openAt_7 o0 i1 μ (fun a1 ν => ∃ n', n' < n ∧ I a1 ν n') Q
set_option maxHeartbeats 4000000 in
set_option maxRecDepth 100000 in
theorem tL_X11_openAt_7 {x : GX} (f : Fx x cX11_openAt RX11 2 (rmc 0 0 0)) {o0 : Nat} {i1 : Int32} {μ : Me} {Q : Int32 → Me → Prop} (hq : Rt x (some .int) (qI Q)) (h : L_X11_openAt_7 o0 i1 μ Q) : G x 2 7 [(0, .ref (gB x + o0)), (1, .int i1)] [] μ 0 0 := by
  obtain ⟨I, ⟨n, hI⟩, hs⟩ := h
  induction n using Nat.strongRecOn generalizing i1 μ with
  | ind n ih => exact tB_X11_openAt_7 f hq (fun a1 ν hk => by obtain ⟨n2, hn, hI2⟩ := hk; exact ih n2 hn hI2) (hs _ _ _ hI)
def S_X11_openAt (o0 : Nat) (μ : Me) (Q : Int32 → Me → Prop) : Prop := mok μ o0 11 ∧ L_X11_openAt_7 o0 ((mgi μ o0 16) - 1) μ Q
set_option maxHeartbeats 4000000 in
set_option maxRecDepth 100000 in
theorem t_X11_openAt {x : GX} (f : Fx x cX11_openAt RX11 2 (rmc 0 0 0)) {o0 : Nat} {μ : Me} {Q : Int32 → Me → Prop} (hq : Rt x (some .int) (qI Q)) (h : S_X11_openAt o0 μ Q) : G x 2 0 [(0, .ref (gB x + o0))] [] μ 0 0 := by
  unfold S_X11_openAt at h
  refine g_aload_n f 0 dX11_openAt_0 rfl rfl ?_
  obtain ⟨v1, h⟩ := h
  refine g_getI f fk_X11_154 v1 dX11_openAt_1 rfl ?_
  refine g_iconst f 1 dX11_openAt_4 kc_1 ?_
  refine g_isub f dX11_openAt_5 ?_
  refine h_istore_n f dX11_openAt_6 rfl (by decide) ?_
  exact h_sub [1, 0] rfl (tL_X11_openAt_7 f hq h)
theorem c_X11_openAt {Ω : OM} {o0 : Nat} {μ : Me} {Q : Int32 → Me → Prop} (h : S_X11_openAt o0 μ Q) : CT Ω yX11_openAt cX11_openAt 2 (some .int) (rmc 0 0 0) [.ref (oB Ω + o0)] μ (qI Q) := CT_of (by decide) rfl (by simp [lg_sl, Value.category]) (fun x hΩ f hq hi => by subst hΩ; exact t_X11_openAt f hq h)
theorem dX11_openNow_0 : decode cX11_openNow 0 = .ok (.aload_n 0, 1) := by decide +kernel
theorem dX11_openNow_1 : decode cX11_openNow 1 = .ok (.invokevirtual 167, 3) := by decide +kernel
theorem dX11_openNow_4 : decode cX11_openNow 4 = .ok (.ifCond .ge 7, 3) := by decide +kernel
theorem dX11_openNow_7 : decode cX11_openNow 7 = .ok (.iconst (-1), 1) := by decide +kernel
theorem dX11_openNow_8 : decode cX11_openNow 8 = .ok (.goto 12, 3) := by decide +kernel
theorem dX11_openNow_11 : decode cX11_openNow 11 = .ok (.aload_n 0, 1) := by decide +kernel
theorem dX11_openNow_12 : decode cX11_openNow 12 = .ok (.getfield 29, 3) := by decide +kernel
theorem dX11_openNow_15 : decode cX11_openNow 15 = .ok (.aload_n 0, 1) := by decide +kernel
theorem dX11_openNow_16 : decode cX11_openNow 16 = .ok (.invokevirtual 167, 3) := by decide +kernel
theorem dX11_openNow_19 : decode cX11_openNow 19 = .ok (.iaload, 1) := by decide +kernel
theorem dX11_openNow_20 : decode cX11_openNow 20 = .ok (.ireturn, 1) := by decide +kernel
def S_X11_openNow (o0 : Nat) (μ : Me) (Q : Int32 → Me → Prop) : Prop := mok μ o0 11 ∧ S_X11_openAt o0 μ (fun r4 μ2 => ((0 ≤ r4 → ∃ t5, mgr μ2 o0 15 = some t5 ∧ S_X11_openAt o0 μ2 (fun r8 μ6 => mok μ6 t5 12 ∧ vp_in r8 (mln μ6 t5) ∧ Q (mgi μ6 t5 r8.toNatClampNeg) μ6)) ∧ (¬ 0 ≤ r4 → Q (-1) μ2)))
set_option maxHeartbeats 4000000 in
set_option maxRecDepth 100000 in
theorem t_X11_openNow {x : GX} (f : Fx x cX11_openNow RX11 1 (rmc 1 0 0)) {o0 : Nat} {μ : Me} {Q : Int32 → Me → Prop} (hq : Rt x (some .int) (qI Q)) (h : S_X11_openNow o0 μ Q) : G x 1 0 [(0, .ref (gB x + o0))] [] μ 0 0 := by
  unfold S_X11_openNow at h
  refine g_aload_n f 0 dX11_openNow_0 rfl rfl ?_
  obtain ⟨v1, h⟩ := h
  refine g_callV f mk_X11_167 v1 (c_X11_openAt h) dX11_openNow_1 rfl rfl (Nat.le_of_ble_eq_true rfl) (rm_ok (by decide) (by decide)) ⟨Nat.le_of_ble_eq_true rfl, Nat.le_of_ble_eq_true rfl⟩ (kI fun r4 μ2 x3 h => ?_)
  refine g_if_ge f 11 dX11_openNow_4 rfl h (fun h => ?_) (fun h => ?_)
  · refine g_aload_n f 0 dX11_openNow_11 rfl rfl ?_
    have v1 := mex_ok x3 v1
    refine g_getR f fk_X11_29 v1 dX11_openNow_12 rfl h (fun t5 h => ?_)
    refine g_aload_n f 0 dX11_openNow_15 rfl rfl ?_
    refine g_callV f mk_X11_167 v1 (c_X11_openAt h) dX11_openNow_16 rfl rfl (Nat.le_of_ble_eq_true rfl) (rm_ok (by decide) (by decide)) ⟨Nat.le_of_ble_eq_true rfl, Nat.le_of_ble_eq_true rfl⟩ (kI fun r8 μ6 x7 h => ?_)
    obtain ⟨v9, h⟩ := h
    refine g_iald f v9 dX11_openNow_19 h (fun h => ?_)
    exact g_iret f hq (Nat.le_of_ble_eq_true rfl) (Nat.le_of_ble_eq_true rfl) dX11_openNow_20 h
  · refine g_iconst f (-1) dX11_openNow_7 kc_m1 ?_
    refine g_goto f 20 dX11_openNow_8 rfl ?_
    exact g_iret f hq (Nat.le_of_ble_eq_true rfl) (Nat.le_of_ble_eq_true rfl) dX11_openNow_20 h
theorem c_X11_openNow {Ω : OM} {o0 : Nat} {μ : Me} {Q : Int32 → Me → Prop} (h : S_X11_openNow o0 μ Q) : CT Ω yX11_openNow cX11_openNow 1 (some .int) (rmc 1 0 0) [.ref (oB Ω + o0)] μ (qI Q) := CT_of (by decide) rfl (by simp [lg_sl, Value.category]) (fun x hΩ f hq hi => by subst hΩ; exact t_X11_openNow f hq h)
theorem dX11_rank_0 : decode cX11_rank 0 = .ok (.iload_n 0, 1) := by decide +kernel
theorem dX11_rank_1 : decode cX11_rank 1 = .ok (.bipush 40, 2) := by decide +kernel
theorem dX11_rank_3 : decode cX11_rank 3 = .ok (.if_icmp .lt 7, 3) := by decide +kernel
theorem dX11_rank_6 : decode cX11_rank 6 = .ok (.iconst 0, 1) := by decide +kernel
theorem dX11_rank_7 : decode cX11_rank 7 = .ok (.goto 70, 3) := by decide +kernel
theorem dX11_rank_10 : decode cX11_rank 10 = .ok (.iload_n 0, 1) := by decide +kernel
theorem dX11_rank_11 : decode cX11_rank 11 = .ok (.bipush 22, 2) := by decide +kernel
theorem dX11_rank_13 : decode cX11_rank 13 = .ok (.if_icmp .lt 7, 3) := by decide +kernel
theorem dX11_rank_16 : decode cX11_rank 16 = .ok (.iconst 1, 1) := by decide +kernel
theorem dX11_rank_17 : decode cX11_rank 17 = .ok (.goto 60, 3) := by decide +kernel
theorem dX11_rank_20 : decode cX11_rank 20 = .ok (.iload_n 0, 1) := by decide +kernel
theorem dX11_rank_21 : decode cX11_rank 21 = .ok (.bipush 21, 2) := by decide +kernel
theorem dX11_rank_23 : decode cX11_rank 23 = .ok (.if_icmp .ne 7, 3) := by decide +kernel
theorem dX11_rank_26 : decode cX11_rank 26 = .ok (.iconst 2, 1) := by decide +kernel
theorem dX11_rank_27 : decode cX11_rank 27 = .ok (.goto 50, 3) := by decide +kernel
theorem dX11_rank_30 : decode cX11_rank 30 = .ok (.iload_n 0, 1) := by decide +kernel
theorem dX11_rank_31 : decode cX11_rank 31 = .ok (.bipush 20, 2) := by decide +kernel
theorem dX11_rank_33 : decode cX11_rank 33 = .ok (.if_icmp .ne 7, 3) := by decide +kernel
theorem dX11_rank_36 : decode cX11_rank 36 = .ok (.iconst 3, 1) := by decide +kernel
theorem dX11_rank_37 : decode cX11_rank 37 = .ok (.goto 40, 3) := by decide +kernel
theorem dX11_rank_40 : decode cX11_rank 40 = .ok (.iload_n 0, 1) := by decide +kernel
theorem dX11_rank_41 : decode cX11_rank 41 = .ok (.bipush 10, 2) := by decide +kernel
theorem dX11_rank_43 : decode cX11_rank 43 = .ok (.if_icmp .lt 7, 3) := by decide +kernel
theorem dX11_rank_46 : decode cX11_rank 46 = .ok (.iconst 4, 1) := by decide +kernel
theorem dX11_rank_47 : decode cX11_rank 47 = .ok (.goto 30, 3) := by decide +kernel
theorem dX11_rank_50 : decode cX11_rank 50 = .ok (.iload_n 0, 1) := by decide +kernel
theorem dX11_rank_51 : decode cX11_rank 51 = .ok (.iconst 5, 1) := by decide +kernel
theorem dX11_rank_52 : decode cX11_rank 52 = .ok (.if_icmp .eq 8, 3) := by decide +kernel
theorem dX11_rank_55 : decode cX11_rank 55 = .ok (.iload_n 0, 1) := by decide +kernel
theorem dX11_rank_56 : decode cX11_rank 56 = .ok (.iconst 2, 1) := by decide +kernel
theorem dX11_rank_57 : decode cX11_rank 57 = .ok (.if_icmp .ne 8, 3) := by decide +kernel
theorem dX11_rank_60 : decode cX11_rank 60 = .ok (.bipush 7, 2) := by decide +kernel
theorem dX11_rank_62 : decode cX11_rank 62 = .ok (.goto 15, 3) := by decide +kernel
theorem dX11_rank_65 : decode cX11_rank 65 = .ok (.iload_n 0, 1) := by decide +kernel
theorem dX11_rank_66 : decode cX11_rank 66 = .ok (.bipush 8, 2) := by decide +kernel
theorem dX11_rank_68 : decode cX11_rank 68 = .ok (.if_icmp .lt 8, 3) := by decide +kernel
theorem dX11_rank_71 : decode cX11_rank 71 = .ok (.bipush 6, 2) := by decide +kernel
theorem dX11_rank_73 : decode cX11_rank 73 = .ok (.goto 4, 3) := by decide +kernel
theorem dX11_rank_76 : decode cX11_rank 76 = .ok (.iconst 5, 1) := by decide +kernel
theorem dX11_rank_77 : decode cX11_rank 77 = .ok (.ireturn, 1) := by decide +kernel
def S_X11_rank (i0 : Int32) (μ : Me) (Q : Int32 → Me → Prop) : Prop := ((i0 < 40 → ((i0 < 22 → ((¬ i0 = 21 → ((¬ i0 = 20 → ((i0 < 10 → ((i0 = 5 → Q 7 μ) ∧ (¬ i0 = 5 → ((¬ i0 = 2 → ((i0 < 8 → Q 5 μ) ∧ (¬ i0 < 8 → Q 6 μ))) ∧ (i0 = 2 → Q 7 μ))))) ∧ (¬ i0 < 10 → Q 4 μ))) ∧ (i0 = 20 → Q 3 μ))) ∧ (i0 = 21 → Q 2 μ))) ∧ (¬ i0 < 22 → Q 1 μ))) ∧ (¬ i0 < 40 → Q 0 μ))
set_option maxHeartbeats 4000000 in
set_option maxRecDepth 100000 in
theorem t_X11_rank {x : GX} (f : Fx x cX11_rank RX11 1 (rmc 0 0 0)) {i0 : Int32} {μ : Me} {Q : Int32 → Me → Prop} (hq : Rt x (some .int) (qI Q)) (h : S_X11_rank i0 μ Q) : G x 1 0 [(0, .int i0)] [] μ 0 0 := by
  unfold S_X11_rank at h
  refine g_iload_n f 0 dX11_rank_0 rfl rfl ?_
  refine g_bipush f 40 dX11_rank_1 kb_40 ?_
  refine g_ic_lt f 10 dX11_rank_3 rfl h (fun h => ?_) (fun h => ?_)
  · refine g_iload_n f 0 dX11_rank_10 rfl rfl ?_
    refine g_bipush f 22 dX11_rank_11 kb_22 ?_
    refine g_ic_lt f 20 dX11_rank_13 rfl h (fun h => ?_) (fun h => ?_)
    · refine g_iload_n f 0 dX11_rank_20 rfl rfl ?_
      refine g_bipush f 21 dX11_rank_21 kb_21 ?_
      refine g_ic_ne f 30 dX11_rank_23 rfl h (fun h => ?_) (fun h => ?_)
      · refine g_iload_n f 0 dX11_rank_30 rfl rfl ?_
        refine g_bipush f 20 dX11_rank_31 kb_20 ?_
        refine g_ic_ne f 40 dX11_rank_33 rfl h (fun h => ?_) (fun h => ?_)
        · refine g_iload_n f 0 dX11_rank_40 rfl rfl ?_
          refine g_bipush f 10 dX11_rank_41 kb_10 ?_
          refine g_ic_lt f 50 dX11_rank_43 rfl h (fun h => ?_) (fun h => ?_)
          · refine g_iload_n f 0 dX11_rank_50 rfl rfl ?_
            refine g_iconst f 5 dX11_rank_51 kc_5 ?_
            refine g_ic_eq f 60 dX11_rank_52 rfl h (fun h => ?_) (fun h => ?_)
            · refine g_bipush f 7 dX11_rank_60 kb_7 ?_
              refine g_goto f 77 dX11_rank_62 rfl ?_
              exact g_iret f hq (Nat.le_of_ble_eq_true rfl) (Nat.le_of_ble_eq_true rfl) dX11_rank_77 h
            · refine g_iload_n f 0 dX11_rank_55 rfl rfl ?_
              refine g_iconst f 2 dX11_rank_56 kc_2 ?_
              refine g_ic_ne f 65 dX11_rank_57 rfl h (fun h => ?_) (fun h => ?_)
              · refine g_iload_n f 0 dX11_rank_65 rfl rfl ?_
                refine g_bipush f 8 dX11_rank_66 kb_8 ?_
                refine g_ic_lt f 76 dX11_rank_68 rfl h (fun h => ?_) (fun h => ?_)
                · refine g_iconst f 5 dX11_rank_76 kc_5 ?_
                  exact g_iret f hq (Nat.le_of_ble_eq_true rfl) (Nat.le_of_ble_eq_true rfl) dX11_rank_77 h
                · refine g_bipush f 6 dX11_rank_71 kb_6 ?_
                  refine g_goto f 77 dX11_rank_73 rfl ?_
                  exact g_iret f hq (Nat.le_of_ble_eq_true rfl) (Nat.le_of_ble_eq_true rfl) dX11_rank_77 h
              · refine g_bipush f 7 dX11_rank_60 kb_7 ?_
                refine g_goto f 77 dX11_rank_62 rfl ?_
                exact g_iret f hq (Nat.le_of_ble_eq_true rfl) (Nat.le_of_ble_eq_true rfl) dX11_rank_77 h
          · refine g_iconst f 4 dX11_rank_46 kc_4 ?_
            refine g_goto f 77 dX11_rank_47 rfl ?_
            exact g_iret f hq (Nat.le_of_ble_eq_true rfl) (Nat.le_of_ble_eq_true rfl) dX11_rank_77 h
        · refine g_iconst f 3 dX11_rank_36 kc_3 ?_
          refine g_goto f 77 dX11_rank_37 rfl ?_
          exact g_iret f hq (Nat.le_of_ble_eq_true rfl) (Nat.le_of_ble_eq_true rfl) dX11_rank_77 h
      · refine g_iconst f 2 dX11_rank_26 kc_2 ?_
        refine g_goto f 77 dX11_rank_27 rfl ?_
        exact g_iret f hq (Nat.le_of_ble_eq_true rfl) (Nat.le_of_ble_eq_true rfl) dX11_rank_77 h
    · refine g_iconst f 1 dX11_rank_16 kc_1 ?_
      refine g_goto f 77 dX11_rank_17 rfl ?_
      exact g_iret f hq (Nat.le_of_ble_eq_true rfl) (Nat.le_of_ble_eq_true rfl) dX11_rank_77 h
  · refine g_iconst f 0 dX11_rank_6 kc_0 ?_
    refine g_goto f 77 dX11_rank_7 rfl ?_
    exact g_iret f hq (Nat.le_of_ble_eq_true rfl) (Nat.le_of_ble_eq_true rfl) dX11_rank_77 h
theorem c_X11_rank {Ω : OM} {i0 : Int32} {μ : Me} {Q : Int32 → Me → Prop} (h : S_X11_rank i0 μ Q) : CT Ω yX11_rank cX11_rank 1 (some .int) (rmc 0 0 0) [.int i0] μ (qI Q) := CT_of (by decide) rfl (by simp [lg_sl, Value.category]) (fun x hΩ f hq hi => by subst hΩ; exact t_X11_rank f hq h)
theorem dX11_isCompared_0 : decode cX11_isCompared 0 = .ok (.aload_n 0, 1) := by decide +kernel
theorem dX11_isCompared_1 : decode cX11_isCompared 1 = .ok (.getfield 154, 3) := by decide +kernel
theorem dX11_isCompared_4 : decode cX11_isCompared 4 = .ok (.iconst 1, 1) := by decide +kernel
theorem dX11_isCompared_5 : decode cX11_isCompared 5 = .ok (.isub, 1) := by decide +kernel
theorem dX11_isCompared_6 : decode cX11_isCompared 6 = .ok (.istore_n 1, 1) := by decide +kernel
theorem dX11_isCompared_7 : decode cX11_isCompared 7 = .ok (.iload_n 1, 1) := by decide +kernel
theorem dX11_isCompared_8 : decode cX11_isCompared 8 = .ok (.ifCond .lt 22, 3) := by decide +kernel
theorem dX11_isCompared_11 : decode cX11_isCompared 11 = .ok (.aload_n 0, 1) := by decide +kernel
theorem dX11_isCompared_12 : decode cX11_isCompared 12 = .ok (.getfield 29, 3) := by decide +kernel
theorem dX11_isCompared_15 : decode cX11_isCompared 15 = .ok (.iload_n 1, 1) := by decide +kernel
theorem dX11_isCompared_16 : decode cX11_isCompared 16 = .ok (.iaload, 1) := by decide +kernel
theorem dX11_isCompared_17 : decode cX11_isCompared 17 = .ok (.invokestatic 157, 3) := by decide +kernel
theorem dX11_isCompared_20 : decode cX11_isCompared 20 = .ok (.iconst 4, 1) := by decide +kernel
theorem dX11_isCompared_21 : decode cX11_isCompared 21 = .ok (.if_icmp .le 9, 3) := by decide +kernel
theorem dX11_isCompared_24 : decode cX11_isCompared 24 = .ok (.iinc 1 (-1), 3) := by decide +kernel
theorem dX11_isCompared_27 : decode cX11_isCompared 27 = .ok (.goto (-20), 3) := by decide +kernel
theorem dX11_isCompared_30 : decode cX11_isCompared 30 = .ok (.iload_n 1, 1) := by decide +kernel
theorem dX11_isCompared_31 : decode cX11_isCompared 31 = .ok (.ifCond .lt 20, 3) := by decide +kernel
theorem dX11_isCompared_34 : decode cX11_isCompared 34 = .ok (.aload_n 0, 1) := by decide +kernel
theorem dX11_isCompared_35 : decode cX11_isCompared 35 = .ok (.getfield 29, 3) := by decide +kernel
theorem dX11_isCompared_38 : decode cX11_isCompared 38 = .ok (.iload_n 1, 1) := by decide +kernel
theorem dX11_isCompared_39 : decode cX11_isCompared 39 = .ok (.iaload, 1) := by decide +kernel
theorem dX11_isCompared_40 : decode cX11_isCompared 40 = .ok (.invokestatic 157, 3) := by decide +kernel
theorem dX11_isCompared_43 : decode cX11_isCompared 43 = .ok (.iconst 4, 1) := by decide +kernel
theorem dX11_isCompared_44 : decode cX11_isCompared 44 = .ok (.if_icmp .ne 7, 3) := by decide +kernel
theorem dX11_isCompared_47 : decode cX11_isCompared 47 = .ok (.iconst 1, 1) := by decide +kernel
theorem dX11_isCompared_48 : decode cX11_isCompared 48 = .ok (.goto 4, 3) := by decide +kernel
theorem dX11_isCompared_51 : decode cX11_isCompared 51 = .ok (.iconst 0, 1) := by decide +kernel
theorem dX11_isCompared_52 : decode cX11_isCompared 52 = .ok (.ireturn, 1) := by decide +kernel
def B_X11_isCompared_30 (o0 : Nat) (i1 : Int32) (μ : Me) (Q : Int32 → Me → Prop) : Prop := ((i1 < 0 → Q 0 μ) ∧ (¬ i1 < 0 → mok μ o0 11 ∧ ∃ t3, mgr μ o0 15 = some t3 ∧ mok μ t3 12 ∧ vp_in i1 (mln μ t3) ∧ S_X11_rank (mgi μ t3 i1.toNatClampNeg) μ (fun r7 μ5 => ((¬ r7 = 4 → Q 0 μ5) ∧ (r7 = 4 → Q 1 μ5)))))
set_option maxHeartbeats 4000000 in
set_option maxRecDepth 100000 in
theorem tB_X11_isCompared_30 {x : GX} (f : Fx x cX11_isCompared RX11 2 (rmc 1 0 0)) {o0 : Nat} {i1 : Int32} {μ : Me} {Q : Int32 → Me → Prop} (hq : Rt x (some .boolean) (qI Q)) (h : B_X11_isCompared_30 o0 i1 μ Q) : G x 2 30 [(0, .ref (gB x + o0)), (1, .int i1)] [] μ 0 0 := by
  unfold B_X11_isCompared_30 at h
  refine g_iload_n f 1 dX11_isCompared_30 rfl rfl ?_
  refine g_if_lt f 51 dX11_isCompared_31 rfl h (fun h => ?_) (fun h => ?_)
  · refine g_iconst f 0 dX11_isCompared_51 kc_0 ?_
    exact g_zret f hq (Nat.le_of_ble_eq_true rfl) (Nat.le_of_ble_eq_true rfl) dX11_isCompared_52 zb_0.1 h
  · refine g_aload_n f 0 dX11_isCompared_34 rfl rfl ?_
    obtain ⟨v2, h⟩ := h
    refine g_getR f fk_X11_29 v2 dX11_isCompared_35 rfl h (fun t3 h => ?_)
    refine g_iload_n f 1 dX11_isCompared_38 rfl rfl ?_
    obtain ⟨v4, h⟩ := h
    refine g_iald f v4 dX11_isCompared_39 h (fun h => ?_)
    refine g_callS f mk_X11_157 (c_X11_rank h) dX11_isCompared_40 rfl rfl (Nat.le_of_ble_eq_true rfl) (rm_ok (by decide) (by decide)) ⟨Nat.le_of_ble_eq_true rfl, Nat.le_of_ble_eq_true rfl⟩ (kI fun r7 μ5 x6 h => ?_)
    refine g_iconst f 4 dX11_isCompared_43 kc_4 ?_
    refine g_ic_ne f 51 dX11_isCompared_44 rfl h (fun h => ?_) (fun h => ?_)
    · refine g_iconst f 0 dX11_isCompared_51 kc_0 ?_
      exact g_zret f hq (Nat.le_of_ble_eq_true rfl) (Nat.le_of_ble_eq_true rfl) dX11_isCompared_52 zb_0.1 h
    · refine g_iconst f 1 dX11_isCompared_47 kc_1 ?_
      refine g_goto f 52 dX11_isCompared_48 rfl ?_
      exact g_zret f hq (Nat.le_of_ble_eq_true rfl) (Nat.le_of_ble_eq_true rfl) dX11_isCompared_52 zb_1.1 h
def B_X11_isCompared_7 (o0 : Nat) (i1 : Int32) (μ : Me) (K7 : Int32 → Me → Prop) (Q : Int32 → Me → Prop) : Prop := ((i1 < 0 → B_X11_isCompared_30 o0 i1 μ Q) ∧ (¬ i1 < 0 → mok μ o0 11 ∧ ∃ t9, mgr μ o0 15 = some t9 ∧ mok μ t9 12 ∧ vp_in i1 (mln μ t9) ∧ S_X11_rank (mgi μ t9 i1.toNatClampNeg) μ (fun r13 μ11 => ((r13 ≤ 4 → B_X11_isCompared_30 o0 i1 μ11 Q) ∧ (¬ r13 ≤ 4 → K7 (i1 + (-1)) μ11)))))
set_option maxHeartbeats 4000000 in
set_option maxRecDepth 100000 in
theorem tB_X11_isCompared_7 {x : GX} (f : Fx x cX11_isCompared RX11 2 (rmc 1 0 0)) {o0 : Nat} {i1 : Int32} {μ : Me} {Q : Int32 → Me → Prop} (hq : Rt x (some .boolean) (qI Q)) {K7 : Int32 → Me → Prop} (hK7 : ∀ (a1 : Int32) (ν : Me), K7 a1 ν → G x 2 7 [(0, .ref (gB x + o0)), (1, .int a1)] [] ν 0 0) (h : B_X11_isCompared_7 o0 i1 μ K7 Q) : G x 2 7 [(0, .ref (gB x + o0)), (1, .int i1)] [] μ 0 0 := by
  unfold B_X11_isCompared_7 at h
  refine g_iload_n f 1 dX11_isCompared_7 rfl rfl ?_
  refine g_if_lt f 30 dX11_isCompared_8 rfl h (fun h => ?_) (fun h => ?_)
  · exact h_sub [0, 1] rfl (tB_X11_isCompared_30 f hq h)
  · refine g_aload_n f 0 dX11_isCompared_11 rfl rfl ?_
    obtain ⟨v8, h⟩ := h
    refine g_getR f fk_X11_29 v8 dX11_isCompared_12 rfl h (fun t9 h => ?_)
    refine g_iload_n f 1 dX11_isCompared_15 rfl rfl ?_
    obtain ⟨v10, h⟩ := h
    refine g_iald f v10 dX11_isCompared_16 h (fun h => ?_)
    refine g_callS f mk_X11_157 (c_X11_rank h) dX11_isCompared_17 rfl rfl (Nat.le_of_ble_eq_true rfl) (rm_ok (by decide) (by decide)) ⟨Nat.le_of_ble_eq_true rfl, Nat.le_of_ble_eq_true rfl⟩ (kI fun r13 μ11 x12 h => ?_)
    refine g_iconst f 4 dX11_isCompared_20 kc_4 ?_
    refine g_ic_le f 30 dX11_isCompared_21 rfl h (fun h => ?_) (fun h => ?_)
    · exact h_sub [0, 1] rfl (tB_X11_isCompared_30 f hq h)
    · refine h_iinc f 1 (-1) dX11_isCompared_24 rfl kc_m1 (by decide) ?_
      refine g_goto f 7 dX11_isCompared_27 rfl ?_
      exact h_sub [1, 0] rfl (hK7 _ _ h)
def L_X11_isCompared_7 (o0 : Nat) (i1 : Int32) (μ : Me) (Q : Int32 → Me → Prop) : Prop := ∃ I : Int32 → Me → Nat → Prop, (∃ n, I i1 μ n) ∧ ∀ (i1 : Int32) (μ : Me) (n : Nat), I i1 μ n → B_X11_isCompared_7 o0 i1 μ (fun a1 ν => ∃ n', n' < n ∧ I a1 ν n') Q
set_option maxHeartbeats 4000000 in
set_option maxRecDepth 100000 in
theorem tL_X11_isCompared_7 {x : GX} (f : Fx x cX11_isCompared RX11 2 (rmc 1 0 0)) {o0 : Nat} {i1 : Int32} {μ : Me} {Q : Int32 → Me → Prop} (hq : Rt x (some .boolean) (qI Q)) (h : L_X11_isCompared_7 o0 i1 μ Q) : G x 2 7 [(0, .ref (gB x + o0)), (1, .int i1)] [] μ 0 0 := by
  obtain ⟨I, ⟨n, hI⟩, hs⟩ := h
  induction n using Nat.strongRecOn generalizing i1 μ with
  | ind n ih => exact tB_X11_isCompared_7 f hq (fun a1 ν hk => by obtain ⟨n2, hn, hI2⟩ := hk; exact ih n2 hn hI2) (hs _ _ _ hI)
def S_X11_isCompared (o0 : Nat) (μ : Me) (Q : Int32 → Me → Prop) : Prop := mok μ o0 11 ∧ L_X11_isCompared_7 o0 ((mgi μ o0 16) - 1) μ Q
set_option maxHeartbeats 4000000 in
set_option maxRecDepth 100000 in
theorem t_X11_isCompared {x : GX} (f : Fx x cX11_isCompared RX11 2 (rmc 1 0 0)) {o0 : Nat} {μ : Me} {Q : Int32 → Me → Prop} (hq : Rt x (some .boolean) (qI Q)) (h : S_X11_isCompared o0 μ Q) : G x 2 0 [(0, .ref (gB x + o0))] [] μ 0 0 := by
  unfold S_X11_isCompared at h
  refine g_aload_n f 0 dX11_isCompared_0 rfl rfl ?_
  obtain ⟨v1, h⟩ := h
  refine g_getI f fk_X11_154 v1 dX11_isCompared_1 rfl ?_
  refine g_iconst f 1 dX11_isCompared_4 kc_1 ?_
  refine g_isub f dX11_isCompared_5 ?_
  refine h_istore_n f dX11_isCompared_6 rfl (by decide) ?_
  exact h_sub [1, 0] rfl (tL_X11_isCompared_7 f hq h)
theorem c_X11_isCompared {Ω : OM} {o0 : Nat} {μ : Me} {Q : Int32 → Me → Prop} (h : S_X11_isCompared o0 μ Q) : CT Ω yX11_isCompared cX11_isCompared 2 (some .boolean) (rmc 1 0 0) [.ref (oB Ω + o0)] μ (qI Q) := CT_of (by decide) rfl (by simp [lg_sl, Value.category]) (fun x hΩ f hq hi => by subst hΩ; exact t_X11_isCompared f hq h)
theorem dX11_compareOf_0 : decode cX11_compareOf 0 = .ok (.aload_n 0, 1) := by decide +kernel
theorem dX11_compareOf_1 : decode cX11_compareOf 1 = .ok (.getfield 102, 3) := by decide +kernel
theorem dX11_compareOf_4 : decode cX11_compareOf 4 = .ok (.bipush 60, 2) := by decide +kernel
theorem dX11_compareOf_6 : decode cX11_compareOf 6 = .ok (.if_icmp .ne 8, 3) := by decide +kernel
theorem dX11_compareOf_9 : decode cX11_compareOf 9 = .ok (.bipush 10, 2) := by decide +kernel
theorem dX11_compareOf_11 : decode cX11_compareOf 11 = .ok (.goto 72, 3) := by decide +kernel
theorem dX11_compareOf_14 : decode cX11_compareOf 14 = .ok (.aload_n 0, 1) := by decide +kernel
theorem dX11_compareOf_15 : decode cX11_compareOf 15 = .ok (.getfield 102, 3) := by decide +kernel
theorem dX11_compareOf_18 : decode cX11_compareOf 18 = .ok (.iconst 4, 1) := by decide +kernel
theorem dX11_compareOf_19 : decode cX11_compareOf 19 = .ok (.if_icmp .ne 8, 3) := by decide +kernel
theorem dX11_compareOf_22 : decode cX11_compareOf 22 = .ok (.bipush 11, 2) := by decide +kernel
theorem dX11_compareOf_24 : decode cX11_compareOf 24 = .ok (.goto 59, 3) := by decide +kernel
theorem dX11_compareOf_27 : decode cX11_compareOf 27 = .ok (.aload_n 0, 1) := by decide +kernel
theorem dX11_compareOf_28 : decode cX11_compareOf 28 = .ok (.getfield 102, 3) := by decide +kernel
theorem dX11_compareOf_31 : decode cX11_compareOf 31 = .ok (.bipush 62, 2) := by decide +kernel
theorem dX11_compareOf_33 : decode cX11_compareOf 33 = .ok (.if_icmp .ne 8, 3) := by decide +kernel
theorem dX11_compareOf_36 : decode cX11_compareOf 36 = .ok (.bipush 12, 2) := by decide +kernel
theorem dX11_compareOf_38 : decode cX11_compareOf 38 = .ok (.goto 45, 3) := by decide +kernel
theorem dX11_compareOf_41 : decode cX11_compareOf 41 = .ok (.aload_n 0, 1) := by decide +kernel
theorem dX11_compareOf_42 : decode cX11_compareOf 42 = .ok (.getfield 102, 3) := by decide +kernel
theorem dX11_compareOf_45 : decode cX11_compareOf 45 = .ok (.iconst 5, 1) := by decide +kernel
theorem dX11_compareOf_46 : decode cX11_compareOf 46 = .ok (.if_icmp .ne 8, 3) := by decide +kernel
theorem dX11_compareOf_49 : decode cX11_compareOf 49 = .ok (.bipush 13, 2) := by decide +kernel
theorem dX11_compareOf_51 : decode cX11_compareOf 51 = .ok (.goto 32, 3) := by decide +kernel
theorem dX11_compareOf_54 : decode cX11_compareOf 54 = .ok (.aload_n 0, 1) := by decide +kernel
theorem dX11_compareOf_55 : decode cX11_compareOf 55 = .ok (.getfield 102, 3) := by decide +kernel
theorem dX11_compareOf_58 : decode cX11_compareOf 58 = .ok (.bipush 61, 2) := by decide +kernel
theorem dX11_compareOf_60 : decode cX11_compareOf 60 = .ok (.if_icmp .ne 8, 3) := by decide +kernel
theorem dX11_compareOf_63 : decode cX11_compareOf 63 = .ok (.bipush 14, 2) := by decide +kernel
theorem dX11_compareOf_65 : decode cX11_compareOf 65 = .ok (.goto 18, 3) := by decide +kernel
theorem dX11_compareOf_68 : decode cX11_compareOf 68 = .ok (.aload_n 0, 1) := by decide +kernel
theorem dX11_compareOf_69 : decode cX11_compareOf 69 = .ok (.getfield 102, 3) := by decide +kernel
theorem dX11_compareOf_72 : decode cX11_compareOf 72 = .ok (.bipush 35, 2) := by decide +kernel
theorem dX11_compareOf_74 : decode cX11_compareOf 74 = .ok (.if_icmp .ne 8, 3) := by decide +kernel
theorem dX11_compareOf_77 : decode cX11_compareOf 77 = .ok (.bipush 15, 2) := by decide +kernel
theorem dX11_compareOf_79 : decode cX11_compareOf 79 = .ok (.goto 4, 3) := by decide +kernel
theorem dX11_compareOf_82 : decode cX11_compareOf 82 = .ok (.iconst (-1), 1) := by decide +kernel
theorem dX11_compareOf_83 : decode cX11_compareOf 83 = .ok (.ireturn, 1) := by decide +kernel
def S_X11_compareOf (o0 : Nat) (μ : Me) (Q : Int32 → Me → Prop) : Prop := mok μ o0 11 ∧ ((¬ (mgi μ o0 9) = 60 → ((¬ (mgi μ o0 9) = 4 → ((¬ (mgi μ o0 9) = 62 → ((¬ (mgi μ o0 9) = 5 → ((¬ (mgi μ o0 9) = 61 → ((¬ (mgi μ o0 9) = 35 → Q (-1) μ) ∧ ((mgi μ o0 9) = 35 → Q 15 μ))) ∧ ((mgi μ o0 9) = 61 → Q 14 μ))) ∧ ((mgi μ o0 9) = 5 → Q 13 μ))) ∧ ((mgi μ o0 9) = 62 → Q 12 μ))) ∧ ((mgi μ o0 9) = 4 → Q 11 μ))) ∧ ((mgi μ o0 9) = 60 → Q 10 μ))
set_option maxHeartbeats 4000000 in
set_option maxRecDepth 100000 in
theorem t_X11_compareOf {x : GX} (f : Fx x cX11_compareOf RX11 1 (rmc 0 0 0)) {o0 : Nat} {μ : Me} {Q : Int32 → Me → Prop} (hq : Rt x (some .int) (qI Q)) (h : S_X11_compareOf o0 μ Q) : G x 1 0 [(0, .ref (gB x + o0))] [] μ 0 0 := by
  unfold S_X11_compareOf at h
  refine g_aload_n f 0 dX11_compareOf_0 rfl rfl ?_
  obtain ⟨v1, h⟩ := h
  refine g_getI f fk_X11_102 v1 dX11_compareOf_1 rfl ?_
  refine g_bipush f 60 dX11_compareOf_4 kb_60 ?_
  refine g_ic_ne f 14 dX11_compareOf_6 rfl h (fun h => ?_) (fun h => ?_)
  · refine g_aload_n f 0 dX11_compareOf_14 rfl rfl ?_
    refine g_getI f fk_X11_102 v1 dX11_compareOf_15 rfl ?_
    refine g_iconst f 4 dX11_compareOf_18 kc_4 ?_
    refine g_ic_ne f 27 dX11_compareOf_19 rfl h (fun h => ?_) (fun h => ?_)
    · refine g_aload_n f 0 dX11_compareOf_27 rfl rfl ?_
      refine g_getI f fk_X11_102 v1 dX11_compareOf_28 rfl ?_
      refine g_bipush f 62 dX11_compareOf_31 kb_62 ?_
      refine g_ic_ne f 41 dX11_compareOf_33 rfl h (fun h => ?_) (fun h => ?_)
      · refine g_aload_n f 0 dX11_compareOf_41 rfl rfl ?_
        refine g_getI f fk_X11_102 v1 dX11_compareOf_42 rfl ?_
        refine g_iconst f 5 dX11_compareOf_45 kc_5 ?_
        refine g_ic_ne f 54 dX11_compareOf_46 rfl h (fun h => ?_) (fun h => ?_)
        · refine g_aload_n f 0 dX11_compareOf_54 rfl rfl ?_
          refine g_getI f fk_X11_102 v1 dX11_compareOf_55 rfl ?_
          refine g_bipush f 61 dX11_compareOf_58 kb_61 ?_
          refine g_ic_ne f 68 dX11_compareOf_60 rfl h (fun h => ?_) (fun h => ?_)
          · refine g_aload_n f 0 dX11_compareOf_68 rfl rfl ?_
            refine g_getI f fk_X11_102 v1 dX11_compareOf_69 rfl ?_
            refine g_bipush f 35 dX11_compareOf_72 kb_35 ?_
            refine g_ic_ne f 82 dX11_compareOf_74 rfl h (fun h => ?_) (fun h => ?_)
            · refine g_iconst f (-1) dX11_compareOf_82 kc_m1 ?_
              exact g_iret f hq (Nat.le_of_ble_eq_true rfl) (Nat.le_of_ble_eq_true rfl) dX11_compareOf_83 h
            · refine g_bipush f 15 dX11_compareOf_77 kb_15 ?_
              refine g_goto f 83 dX11_compareOf_79 rfl ?_
              exact g_iret f hq (Nat.le_of_ble_eq_true rfl) (Nat.le_of_ble_eq_true rfl) dX11_compareOf_83 h
          · refine g_bipush f 14 dX11_compareOf_63 kb_14 ?_
            refine g_goto f 83 dX11_compareOf_65 rfl ?_
            exact g_iret f hq (Nat.le_of_ble_eq_true rfl) (Nat.le_of_ble_eq_true rfl) dX11_compareOf_83 h
        · refine g_bipush f 13 dX11_compareOf_49 kb_13 ?_
          refine g_goto f 83 dX11_compareOf_51 rfl ?_
          exact g_iret f hq (Nat.le_of_ble_eq_true rfl) (Nat.le_of_ble_eq_true rfl) dX11_compareOf_83 h
      · refine g_bipush f 12 dX11_compareOf_36 kb_12 ?_
        refine g_goto f 83 dX11_compareOf_38 rfl ?_
        exact g_iret f hq (Nat.le_of_ble_eq_true rfl) (Nat.le_of_ble_eq_true rfl) dX11_compareOf_83 h
    · refine g_bipush f 11 dX11_compareOf_22 kb_11 ?_
      refine g_goto f 83 dX11_compareOf_24 rfl ?_
      exact g_iret f hq (Nat.le_of_ble_eq_true rfl) (Nat.le_of_ble_eq_true rfl) dX11_compareOf_83 h
  · refine g_bipush f 10 dX11_compareOf_9 kb_10 ?_
    refine g_goto f 83 dX11_compareOf_11 rfl ?_
    exact g_iret f hq (Nat.le_of_ble_eq_true rfl) (Nat.le_of_ble_eq_true rfl) dX11_compareOf_83 h
theorem c_X11_compareOf {Ω : OM} {o0 : Nat} {μ : Me} {Q : Int32 → Me → Prop} (h : S_X11_compareOf o0 μ Q) : CT Ω yX11_compareOf cX11_compareOf 1 (some .int) (rmc 0 0 0) [.ref (oB Ω + o0)] μ (qI Q) := CT_of (by decide) rfl (by simp [lg_sl, Value.category]) (fun x hΩ f hq hi => by subst hΩ; exact t_X11_compareOf f hq h)
theorem dX11_betweenOf_0 : decode cX11_betweenOf 0 = .ok (.aload_n 0, 1) := by decide +kernel
theorem dX11_betweenOf_1 : decode cX11_betweenOf 1 = .ok (.getfield 102, 3) := by decide +kernel
theorem dX11_betweenOf_4 : decode cX11_betweenOf 4 = .ok (.bipush 43, 2) := by decide +kernel
theorem dX11_betweenOf_6 : decode cX11_betweenOf 6 = .ok (.if_icmp .ne 6, 3) := by decide +kernel
theorem dX11_betweenOf_9 : decode cX11_betweenOf 9 = .ok (.bipush 6, 2) := by decide +kernel
theorem dX11_betweenOf_11 : decode cX11_betweenOf 11 = .ok (.ireturn, 1) := by decide +kernel
theorem dX11_betweenOf_12 : decode cX11_betweenOf 12 = .ok (.aload_n 0, 1) := by decide +kernel
theorem dX11_betweenOf_13 : decode cX11_betweenOf 13 = .ok (.getfield 102, 3) := by decide +kernel
theorem dX11_betweenOf_16 : decode cX11_betweenOf 16 = .ok (.bipush 45, 2) := by decide +kernel
theorem dX11_betweenOf_18 : decode cX11_betweenOf 18 = .ok (.if_icmp .ne 6, 3) := by decide +kernel
theorem dX11_betweenOf_21 : decode cX11_betweenOf 21 = .ok (.bipush 7, 2) := by decide +kernel
theorem dX11_betweenOf_23 : decode cX11_betweenOf 23 = .ok (.ireturn, 1) := by decide +kernel
theorem dX11_betweenOf_24 : decode cX11_betweenOf 24 = .ok (.aload_n 0, 1) := by decide +kernel
theorem dX11_betweenOf_25 : decode cX11_betweenOf 25 = .ok (.getfield 102, 3) := by decide +kernel
theorem dX11_betweenOf_28 : decode cX11_betweenOf 28 = .ok (.bipush 42, 2) := by decide +kernel
theorem dX11_betweenOf_30 : decode cX11_betweenOf 30 = .ok (.if_icmp .ne 6, 3) := by decide +kernel
theorem dX11_betweenOf_33 : decode cX11_betweenOf 33 = .ok (.bipush 8, 2) := by decide +kernel
theorem dX11_betweenOf_35 : decode cX11_betweenOf 35 = .ok (.ireturn, 1) := by decide +kernel
theorem dX11_betweenOf_36 : decode cX11_betweenOf 36 = .ok (.aload_n 0, 1) := by decide +kernel
theorem dX11_betweenOf_37 : decode cX11_betweenOf 37 = .ok (.getfield 102, 3) := by decide +kernel
theorem dX11_betweenOf_40 : decode cX11_betweenOf 40 = .ok (.bipush 47, 2) := by decide +kernel
theorem dX11_betweenOf_42 : decode cX11_betweenOf 42 = .ok (.if_icmp .ne 6, 3) := by decide +kernel
theorem dX11_betweenOf_45 : decode cX11_betweenOf 45 = .ok (.bipush 9, 2) := by decide +kernel
theorem dX11_betweenOf_47 : decode cX11_betweenOf 47 = .ok (.ireturn, 1) := by decide +kernel
theorem dX11_betweenOf_48 : decode cX11_betweenOf 48 = .ok (.aload_n 0, 1) := by decide +kernel
theorem dX11_betweenOf_49 : decode cX11_betweenOf 49 = .ok (.invokevirtual 170, 3) := by decide +kernel
theorem dX11_betweenOf_52 : decode cX11_betweenOf 52 = .ok (.bipush 41, 2) := by decide +kernel
theorem dX11_betweenOf_54 : decode cX11_betweenOf 54 = .ok (.if_icmp .eq 5, 3) := by decide +kernel
theorem dX11_betweenOf_57 : decode cX11_betweenOf 57 = .ok (.iconst (-1), 1) := by decide +kernel
theorem dX11_betweenOf_58 : decode cX11_betweenOf 58 = .ok (.ireturn, 1) := by decide +kernel
theorem dX11_betweenOf_59 : decode cX11_betweenOf 59 = .ok (.aload_n 0, 1) := by decide +kernel
theorem dX11_betweenOf_60 : decode cX11_betweenOf 60 = .ok (.invokevirtual 198, 3) := by decide +kernel
theorem dX11_betweenOf_63 : decode cX11_betweenOf 63 = .ok (.ifCond .ne 8, 3) := by decide +kernel
theorem dX11_betweenOf_66 : decode cX11_betweenOf 66 = .ok (.aload_n 0, 1) := by decide +kernel
theorem dX11_betweenOf_67 : decode cX11_betweenOf 67 = .ok (.invokevirtual 201, 3) := by decide +kernel
theorem dX11_betweenOf_70 : decode cX11_betweenOf 70 = .ok (.ireturn, 1) := by decide +kernel
theorem dX11_betweenOf_71 : decode cX11_betweenOf 71 = .ok (.aload_n 0, 1) := by decide +kernel
theorem dX11_betweenOf_72 : decode cX11_betweenOf 72 = .ok (.bipush 97, 2) := by decide +kernel
theorem dX11_betweenOf_74 : decode cX11_betweenOf 74 = .ok (.bipush 110, 2) := by decide +kernel
theorem dX11_betweenOf_76 : decode cX11_betweenOf 76 = .ok (.bipush 100, 2) := by decide +kernel
theorem dX11_betweenOf_78 : decode cX11_betweenOf 78 = .ok (.invokestatic 129, 3) := by decide +kernel
theorem dX11_betweenOf_81 : decode cX11_betweenOf 81 = .ok (.invokevirtual 191, 3) := by decide +kernel
theorem dX11_betweenOf_84 : decode cX11_betweenOf 84 = .ok (.ifCond .eq 8, 3) := by decide +kernel
theorem dX11_betweenOf_87 : decode cX11_betweenOf 87 = .ok (.bipush 21, 2) := by decide +kernel
theorem dX11_betweenOf_89 : decode cX11_betweenOf 89 = .ok (.goto 44, 3) := by decide +kernel
theorem dX11_betweenOf_92 : decode cX11_betweenOf 92 = .ok (.aload_n 0, 1) := by decide +kernel
theorem dX11_betweenOf_93 : decode cX11_betweenOf 93 = .ok (.bipush 111, 2) := by decide +kernel
theorem dX11_betweenOf_95 : decode cX11_betweenOf 95 = .ok (.bipush 114, 2) := by decide +kernel
theorem dX11_betweenOf_97 : decode cX11_betweenOf 97 = .ok (.invokestatic 125, 3) := by decide +kernel
theorem dX11_betweenOf_100 : decode cX11_betweenOf 100 = .ok (.invokevirtual 191, 3) := by decide +kernel
theorem dX11_betweenOf_103 : decode cX11_betweenOf 103 = .ok (.ifCond .eq 8, 3) := by decide +kernel
theorem dX11_betweenOf_106 : decode cX11_betweenOf 106 = .ok (.bipush 22, 2) := by decide +kernel
theorem dX11_betweenOf_108 : decode cX11_betweenOf 108 = .ok (.goto 25, 3) := by decide +kernel
theorem dX11_betweenOf_111 : decode cX11_betweenOf 111 = .ok (.aload_n 0, 1) := by decide +kernel
theorem dX11_betweenOf_112 : decode cX11_betweenOf 112 = .ok (.bipush 120, 2) := by decide +kernel
theorem dX11_betweenOf_114 : decode cX11_betweenOf 114 = .ok (.bipush 111, 2) := by decide +kernel
theorem dX11_betweenOf_116 : decode cX11_betweenOf 116 = .ok (.bipush 114, 2) := by decide +kernel
theorem dX11_betweenOf_118 : decode cX11_betweenOf 118 = .ok (.invokestatic 129, 3) := by decide +kernel
theorem dX11_betweenOf_121 : decode cX11_betweenOf 121 = .ok (.invokevirtual 191, 3) := by decide +kernel
theorem dX11_betweenOf_124 : decode cX11_betweenOf 124 = .ok (.ifCond .eq 8, 3) := by decide +kernel
theorem dX11_betweenOf_127 : decode cX11_betweenOf 127 = .ok (.bipush 23, 2) := by decide +kernel
theorem dX11_betweenOf_129 : decode cX11_betweenOf 129 = .ok (.goto 4, 3) := by decide +kernel
theorem dX11_betweenOf_132 : decode cX11_betweenOf 132 = .ok (.iconst (-1), 1) := by decide +kernel
theorem dX11_betweenOf_133 : decode cX11_betweenOf 133 = .ok (.ireturn, 1) := by decide +kernel
def S_X11_betweenOf (o0 : Nat) (μ : Me) (Q : Int32 → Me → Prop) : Prop := mok μ o0 11 ∧ ((¬ (mgi μ o0 9) = 43 → ((¬ (mgi μ o0 9) = 45 → ((¬ (mgi μ o0 9) = 42 → ((¬ (mgi μ o0 9) = 47 → S_X11_openNow o0 μ (fun r4 μ2 => ((r4 = 41 → S_X11_isCompared o0 μ2 (fun r7 μ5 => ((¬ r7 = 0 → S_X11_w3 97 110 100 μ5 (fun r10 μ8 => S_X11_isWord o0 r10 μ8 (fun r13 μ11 => ((r13 = 0 → S_X11_w2 111 114 μ11 (fun r16 μ14 => S_X11_isWord o0 r16 μ14 (fun r19 μ17 => ((r19 = 0 → S_X11_w3 120 111 114 μ17 (fun r22 μ20 => S_X11_isWord o0 r22 μ20 (fun r25 μ23 => ((r25 = 0 → Q (-1) μ23) ∧ (¬ r25 = 0 → Q 23 μ23))))) ∧ (¬ r19 = 0 → Q 22 μ17))))) ∧ (¬ r13 = 0 → Q 21 μ11))))) ∧ (r7 = 0 → S_X11_compareOf o0 μ5 (fun r28 μ26 => Q r28 μ26))))) ∧ (¬ r4 = 41 → Q (-1) μ2)))) ∧ ((mgi μ o0 9) = 47 → Q 9 μ))) ∧ ((mgi μ o0 9) = 42 → Q 8 μ))) ∧ ((mgi μ o0 9) = 45 → Q 7 μ))) ∧ ((mgi μ o0 9) = 43 → Q 6 μ))
set_option maxHeartbeats 4000000 in
set_option maxRecDepth 100000 in
theorem t_X11_betweenOf {x : GX} (f : Fx x cX11_betweenOf RX11 1 (rmc 2 0 0)) {o0 : Nat} {μ : Me} {Q : Int32 → Me → Prop} (hq : Rt x (some .int) (qI Q)) (h : S_X11_betweenOf o0 μ Q) : G x 1 0 [(0, .ref (gB x + o0))] [] μ 0 0 := by
  unfold S_X11_betweenOf at h
  refine g_aload_n f 0 dX11_betweenOf_0 rfl rfl ?_
  obtain ⟨v1, h⟩ := h
  refine g_getI f fk_X11_102 v1 dX11_betweenOf_1 rfl ?_
  refine g_bipush f 43 dX11_betweenOf_4 kb_43 ?_
  refine g_ic_ne f 12 dX11_betweenOf_6 rfl h (fun h => ?_) (fun h => ?_)
  · refine g_aload_n f 0 dX11_betweenOf_12 rfl rfl ?_
    refine g_getI f fk_X11_102 v1 dX11_betweenOf_13 rfl ?_
    refine g_bipush f 45 dX11_betweenOf_16 kb_45 ?_
    refine g_ic_ne f 24 dX11_betweenOf_18 rfl h (fun h => ?_) (fun h => ?_)
    · refine g_aload_n f 0 dX11_betweenOf_24 rfl rfl ?_
      refine g_getI f fk_X11_102 v1 dX11_betweenOf_25 rfl ?_
      refine g_bipush f 42 dX11_betweenOf_28 kb_42 ?_
      refine g_ic_ne f 36 dX11_betweenOf_30 rfl h (fun h => ?_) (fun h => ?_)
      · refine g_aload_n f 0 dX11_betweenOf_36 rfl rfl ?_
        refine g_getI f fk_X11_102 v1 dX11_betweenOf_37 rfl ?_
        refine g_bipush f 47 dX11_betweenOf_40 kb_47 ?_
        refine g_ic_ne f 48 dX11_betweenOf_42 rfl h (fun h => ?_) (fun h => ?_)
        · refine g_aload_n f 0 dX11_betweenOf_48 rfl rfl ?_
          refine g_callV f mk_X11_170 v1 (c_X11_openNow h) dX11_betweenOf_49 rfl rfl (Nat.le_of_ble_eq_true rfl) (rm_ok (by decide) (by decide)) ⟨Nat.le_of_ble_eq_true rfl, Nat.le_of_ble_eq_true rfl⟩ (kI fun r4 μ2 x3 h => ?_)
          refine g_bipush f 41 dX11_betweenOf_52 kb_41 ?_
          refine g_ic_eq f 59 dX11_betweenOf_54 rfl h (fun h => ?_) (fun h => ?_)
          · refine g_aload_n f 0 dX11_betweenOf_59 rfl rfl ?_
            have v1 := mex_ok x3 v1
            refine g_callV f mk_X11_198 v1 (c_X11_isCompared h) dX11_betweenOf_60 rfl rfl (Nat.le_of_ble_eq_true rfl) (rm_ok (by decide) (by decide)) ⟨Nat.le_of_ble_eq_true rfl, Nat.le_of_ble_eq_true rfl⟩ (kI fun r7 μ5 x6 h => ?_)
            refine g_if_ne f 71 dX11_betweenOf_63 rfl h (fun h => ?_) (fun h => ?_)
            · refine g_aload_n f 0 dX11_betweenOf_71 rfl rfl ?_
              refine g_bipush f 97 dX11_betweenOf_72 kb_97 ?_
              refine g_bipush f 110 dX11_betweenOf_74 kb_110 ?_
              refine g_bipush f 100 dX11_betweenOf_76 kb_100 ?_
              refine g_callS f mk_X11_129 (c_X11_w3 h) dX11_betweenOf_78 rfl rfl (Nat.le_of_ble_eq_true rfl) (rm_ok (by decide) (by decide)) ⟨Nat.le_of_ble_eq_true rfl, Nat.le_of_ble_eq_true rfl⟩ (kL fun r10 μ8 x9 h => ?_)
              have v1 := mex_ok x6 v1
              have v1 := mex_ok x9 v1
              refine g_callV f mk_X11_191 v1 (c_X11_isWord h) dX11_betweenOf_81 rfl rfl (Nat.le_of_ble_eq_true rfl) (rm_ok (by decide) (by decide)) ⟨Nat.le_of_ble_eq_true rfl, Nat.le_of_ble_eq_true rfl⟩ (kI fun r13 μ11 x12 h => ?_)
              refine g_if_eq f 92 dX11_betweenOf_84 rfl h (fun h => ?_) (fun h => ?_)
              · refine g_aload_n f 0 dX11_betweenOf_92 rfl rfl ?_
                refine g_bipush f 111 dX11_betweenOf_93 kb_111 ?_
                refine g_bipush f 114 dX11_betweenOf_95 kb_114 ?_
                refine g_callS f mk_X11_125 (c_X11_w2 h) dX11_betweenOf_97 rfl rfl (Nat.le_of_ble_eq_true rfl) (rm_ok (by decide) (by decide)) ⟨Nat.le_of_ble_eq_true rfl, Nat.le_of_ble_eq_true rfl⟩ (kL fun r16 μ14 x15 h => ?_)
                have v1 := mex_ok x12 v1
                have v1 := mex_ok x15 v1
                refine g_callV f mk_X11_191 v1 (c_X11_isWord h) dX11_betweenOf_100 rfl rfl (Nat.le_of_ble_eq_true rfl) (rm_ok (by decide) (by decide)) ⟨Nat.le_of_ble_eq_true rfl, Nat.le_of_ble_eq_true rfl⟩ (kI fun r19 μ17 x18 h => ?_)
                refine g_if_eq f 111 dX11_betweenOf_103 rfl h (fun h => ?_) (fun h => ?_)
                · refine g_aload_n f 0 dX11_betweenOf_111 rfl rfl ?_
                  refine g_bipush f 120 dX11_betweenOf_112 kb_120 ?_
                  refine g_bipush f 111 dX11_betweenOf_114 kb_111 ?_
                  refine g_bipush f 114 dX11_betweenOf_116 kb_114 ?_
                  refine g_callS f mk_X11_129 (c_X11_w3 h) dX11_betweenOf_118 rfl rfl (Nat.le_of_ble_eq_true rfl) (rm_ok (by decide) (by decide)) ⟨Nat.le_of_ble_eq_true rfl, Nat.le_of_ble_eq_true rfl⟩ (kL fun r22 μ20 x21 h => ?_)
                  have v1 := mex_ok x18 v1
                  have v1 := mex_ok x21 v1
                  refine g_callV f mk_X11_191 v1 (c_X11_isWord h) dX11_betweenOf_121 rfl rfl (Nat.le_of_ble_eq_true rfl) (rm_ok (by decide) (by decide)) ⟨Nat.le_of_ble_eq_true rfl, Nat.le_of_ble_eq_true rfl⟩ (kI fun r25 μ23 x24 h => ?_)
                  refine g_if_eq f 132 dX11_betweenOf_124 rfl h (fun h => ?_) (fun h => ?_)
                  · refine g_iconst f (-1) dX11_betweenOf_132 kc_m1 ?_
                    exact g_iret f hq (Nat.le_of_ble_eq_true rfl) (Nat.le_of_ble_eq_true rfl) dX11_betweenOf_133 h
                  · refine g_bipush f 23 dX11_betweenOf_127 kb_23 ?_
                    refine g_goto f 133 dX11_betweenOf_129 rfl ?_
                    exact g_iret f hq (Nat.le_of_ble_eq_true rfl) (Nat.le_of_ble_eq_true rfl) dX11_betweenOf_133 h
                · refine g_bipush f 22 dX11_betweenOf_106 kb_22 ?_
                  refine g_goto f 133 dX11_betweenOf_108 rfl ?_
                  exact g_iret f hq (Nat.le_of_ble_eq_true rfl) (Nat.le_of_ble_eq_true rfl) dX11_betweenOf_133 h
              · refine g_bipush f 21 dX11_betweenOf_87 kb_21 ?_
                refine g_goto f 133 dX11_betweenOf_89 rfl ?_
                exact g_iret f hq (Nat.le_of_ble_eq_true rfl) (Nat.le_of_ble_eq_true rfl) dX11_betweenOf_133 h
            · refine g_aload_n f 0 dX11_betweenOf_66 rfl rfl ?_
              have v1 := mex_ok x6 v1
              refine g_callV f mk_X11_201 v1 (c_X11_compareOf h) dX11_betweenOf_67 rfl rfl (Nat.le_of_ble_eq_true rfl) (rm_ok (by decide) (by decide)) ⟨Nat.le_of_ble_eq_true rfl, Nat.le_of_ble_eq_true rfl⟩ (kI fun r28 μ26 x27 h => ?_)
              exact g_iret f hq (Nat.le_of_ble_eq_true rfl) (Nat.le_of_ble_eq_true rfl) dX11_betweenOf_70 h
          · refine g_iconst f (-1) dX11_betweenOf_57 kc_m1 ?_
            exact g_iret f hq (Nat.le_of_ble_eq_true rfl) (Nat.le_of_ble_eq_true rfl) dX11_betweenOf_58 h
        · refine g_bipush f 9 dX11_betweenOf_45 kb_9 ?_
          exact g_iret f hq (Nat.le_of_ble_eq_true rfl) (Nat.le_of_ble_eq_true rfl) dX11_betweenOf_47 h
      · refine g_bipush f 8 dX11_betweenOf_33 kb_8 ?_
        exact g_iret f hq (Nat.le_of_ble_eq_true rfl) (Nat.le_of_ble_eq_true rfl) dX11_betweenOf_35 h
    · refine g_bipush f 7 dX11_betweenOf_21 kb_7 ?_
      exact g_iret f hq (Nat.le_of_ble_eq_true rfl) (Nat.le_of_ble_eq_true rfl) dX11_betweenOf_23 h
  · refine g_bipush f 6 dX11_betweenOf_9 kb_6 ?_
    exact g_iret f hq (Nat.le_of_ble_eq_true rfl) (Nat.le_of_ble_eq_true rfl) dX11_betweenOf_11 h
theorem c_X11_betweenOf {Ω : OM} {o0 : Nat} {μ : Me} {Q : Int32 → Me → Prop} (h : S_X11_betweenOf o0 μ Q) : CT Ω yX11_betweenOf cX11_betweenOf 1 (some .int) (rmc 2 0 0) [.ref (oB Ω + o0)] μ (qI Q) := CT_of (by decide) rfl (by simp [lg_sl, Value.category]) (fun x hΩ f hq hi => by subst hΩ; exact t_X11_betweenOf f hq h)
theorem dX11_emit_0 : decode cX11_emit 0 = .ok (.aload_n 0, 1) := by decide +kernel
theorem dX11_emit_1 : decode cX11_emit 1 = .ok (.getfield 16, 3) := by decide +kernel
theorem dX11_emit_4 : decode cX11_emit 4 = .ok (.aload_n 0, 1) := by decide +kernel
theorem dX11_emit_5 : decode cX11_emit 5 = .ok (.getfield 141, 3) := by decide +kernel
theorem dX11_emit_8 : decode cX11_emit 8 = .ok (.bipush 121, 2) := by decide +kernel
theorem dX11_emit_10 : decode cX11_emit 10 = .ok (.iadd, 1) := by decide +kernel
theorem dX11_emit_11 : decode cX11_emit 11 = .ok (.iconst 2, 1) := by decide +kernel
theorem dX11_emit_12 : decode cX11_emit 12 = .ok (.aload_n 0, 1) := by decide +kernel
theorem dX11_emit_13 : decode cX11_emit 13 = .ok (.getfield 144, 3) := by decide +kernel
theorem dX11_emit_16 : decode cX11_emit 16 = .ok (.imul, 1) := by decide +kernel
theorem dX11_emit_17 : decode cX11_emit 17 = .ok (.iadd, 1) := by decide +kernel
theorem dX11_emit_18 : decode cX11_emit 18 = .ok (.iload_n 1, 1) := by decide +kernel
theorem dX11_emit_19 : decode cX11_emit 19 = .ok (.iastore, 1) := by decide +kernel
theorem dX11_emit_20 : decode cX11_emit 20 = .ok (.aload_n 0, 1) := by decide +kernel
theorem dX11_emit_21 : decode cX11_emit 21 = .ok (.getfield 16, 3) := by decide +kernel
theorem dX11_emit_24 : decode cX11_emit 24 = .ok (.aload_n 0, 1) := by decide +kernel
theorem dX11_emit_25 : decode cX11_emit 25 = .ok (.getfield 141, 3) := by decide +kernel
theorem dX11_emit_28 : decode cX11_emit 28 = .ok (.bipush 121, 2) := by decide +kernel
theorem dX11_emit_30 : decode cX11_emit 30 = .ok (.iadd, 1) := by decide +kernel
theorem dX11_emit_31 : decode cX11_emit 31 = .ok (.iconst 2, 1) := by decide +kernel
theorem dX11_emit_32 : decode cX11_emit 32 = .ok (.aload_n 0, 1) := by decide +kernel
theorem dX11_emit_33 : decode cX11_emit 33 = .ok (.getfield 144, 3) := by decide +kernel
theorem dX11_emit_36 : decode cX11_emit 36 = .ok (.imul, 1) := by decide +kernel
theorem dX11_emit_37 : decode cX11_emit 37 = .ok (.iadd, 1) := by decide +kernel
theorem dX11_emit_38 : decode cX11_emit 38 = .ok (.iconst 1, 1) := by decide +kernel
theorem dX11_emit_39 : decode cX11_emit 39 = .ok (.iadd, 1) := by decide +kernel
theorem dX11_emit_40 : decode cX11_emit 40 = .ok (.iload_n 2, 1) := by decide +kernel
theorem dX11_emit_41 : decode cX11_emit 41 = .ok (.iastore, 1) := by decide +kernel
theorem dX11_emit_42 : decode cX11_emit 42 = .ok (.aload_n 0, 1) := by decide +kernel
theorem dX11_emit_43 : decode cX11_emit 43 = .ok (.dup, 1) := by decide +kernel
theorem dX11_emit_44 : decode cX11_emit 44 = .ok (.getfield 144, 3) := by decide +kernel
theorem dX11_emit_47 : decode cX11_emit 47 = .ok (.iconst 1, 1) := by decide +kernel
theorem dX11_emit_48 : decode cX11_emit 48 = .ok (.iadd, 1) := by decide +kernel
theorem dX11_emit_49 : decode cX11_emit 49 = .ok (.putfield 144, 3) := by decide +kernel
theorem dX11_emit_52 : decode cX11_emit 52 = .ok (.return_, 1) := by decide +kernel
def S_X11_emit (o0 : Nat) (i1 : Int32) (i2 : Int32) (μ : Me) (Q : Me → Prop) : Prop := mok μ o0 11 ∧ ∃ t2, mgr μ o0 2 = some t2 ∧ mok μ t2 12 ∧ vp_in (((mgi μ o0 12) + 121) + (2 * (mgi μ o0 13))) (mln μ t2) ∧ ∀ μ4, μ4 = msi μ t2 (((mgi μ o0 12) + 121) + (2 * (mgi μ o0 13))).toNatClampNeg i1 → ∃ t5, mgr μ4 o0 2 = some t5 ∧ mok μ4 t5 12 ∧ vp_in ((((mgi μ4 o0 12) + 121) + (2 * (mgi μ4 o0 13))) + 1) (mln μ4 t5) ∧ ∀ μ7, μ7 = msi μ4 t5 ((((mgi μ4 o0 12) + 121) + (2 * (mgi μ4 o0 13))) + 1).toNatClampNeg i2 → ∀ μ8, μ8 = msi μ7 o0 13 ((mgi μ7 o0 13) + 1) → Q μ8
set_option maxHeartbeats 4000000 in
set_option maxRecDepth 100000 in
theorem t_X11_emit {x : GX} (f : Fx x cX11_emit RX11 3 (rmc 0 0 0)) {o0 : Nat} {i1 : Int32} {i2 : Int32} {μ : Me} {Q : Me → Prop} (hq : Rt x none (qV Q)) (h : S_X11_emit o0 i1 i2 μ Q) : G x 3 0 [(0, .ref (gB x + o0)), (1, .int i1), (2, .int i2)] [] μ 0 0 := by
  unfold S_X11_emit at h
  refine g_aload_n f 0 dX11_emit_0 rfl rfl ?_
  obtain ⟨v1, h⟩ := h
  refine g_getR f fk_X11_16 v1 dX11_emit_1 rfl h (fun t2 h => ?_)
  refine g_aload_n f 0 dX11_emit_4 rfl rfl ?_
  refine g_getI f fk_X11_141 v1 dX11_emit_5 rfl ?_
  refine g_bipush f 121 dX11_emit_8 kb_121 ?_
  refine g_iadd f dX11_emit_10 ?_
  refine g_iconst f 2 dX11_emit_11 kc_2 ?_
  refine g_aload_n f 0 dX11_emit_12 rfl rfl ?_
  refine g_getI f fk_X11_144 v1 dX11_emit_13 rfl ?_
  refine g_imul f dX11_emit_16 ?_
  refine g_iadd f dX11_emit_17 ?_
  refine g_iload_n f 1 dX11_emit_18 rfl rfl ?_
  obtain ⟨v3, h⟩ := h
  refine g_iast f v3 dX11_emit_19 h (fun h => ?_)
  refine g_aload_n f 0 dX11_emit_20 rfl rfl ?_
  refine g_getR f fk_X11_16 v1 dX11_emit_21 rfl h (fun t5 h => ?_)
  refine g_aload_n f 0 dX11_emit_24 rfl rfl ?_
  refine g_getI f fk_X11_141 v1 dX11_emit_25 rfl ?_
  refine g_bipush f 121 dX11_emit_28 kb_121 ?_
  refine g_iadd f dX11_emit_30 ?_
  refine g_iconst f 2 dX11_emit_31 kc_2 ?_
  refine g_aload_n f 0 dX11_emit_32 rfl rfl ?_
  refine g_getI f fk_X11_144 v1 dX11_emit_33 rfl ?_
  refine g_imul f dX11_emit_36 ?_
  refine g_iadd f dX11_emit_37 ?_
  refine g_iconst f 1 dX11_emit_38 kc_1 ?_
  refine g_iadd f dX11_emit_39 ?_
  refine g_iload_n f 2 dX11_emit_40 rfl rfl ?_
  obtain ⟨v6, h⟩ := h
  refine g_iast f v6 dX11_emit_41 h (fun h => ?_)
  refine g_aload_n f 0 dX11_emit_42 rfl rfl ?_
  refine g_dup f dX11_emit_43 rfl ?_
  refine g_getI f fk_X11_144 v1 dX11_emit_44 rfl ?_
  refine g_iconst f 1 dX11_emit_47 kc_1 ?_
  refine g_iadd f dX11_emit_48 ?_
  refine g_putI f fk_X11_144 v1 dX11_emit_49 rfl h (fun h => ?_)
  exact g_vret f hq (Nat.le_of_ble_eq_true rfl) (Nat.le_of_ble_eq_true rfl) dX11_emit_52 h
theorem c_X11_emit {Ω : OM} {o0 : Nat} {i1 : Int32} {i2 : Int32} {μ : Me} {Q : Me → Prop} (h : S_X11_emit o0 i1 i2 μ Q) : CT Ω yX11_emit cX11_emit 3 none (rmc 0 0 0) [.ref (oB Ω + o0), .int i1, .int i2] μ (qV Q) := CT_of (by decide) rfl (by simp [lg_sl, Value.category]) (fun x hΩ f hq hi => by subst hΩ; exact t_X11_emit f hq h)
