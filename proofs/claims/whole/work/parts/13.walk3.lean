/-! contracts by program (wip/whole/gen.py) -/
theorem dX8_cut_0 : decode cX8_cut 0 = .ok (.aload_n 0, 1) := by decide +kernel
theorem dX8_cut_1 : decode cX8_cut 1 = .ok (.iconst 0, 1) := by decide +kernel
theorem dX8_cut_2 : decode cX8_cut 2 = .ok (.putfield 21, 3) := by decide +kernel
theorem dX8_cut_5 : decode cX8_cut 5 = .ok (.iconst 0, 1) := by decide +kernel
theorem dX8_cut_6 : decode cX8_cut 6 = .ok (.istore_n 2, 1) := by decide +kernel
theorem dX8_cut_7 : decode cX8_cut 7 = .ok (.iconst 0, 1) := by decide +kernel
theorem dX8_cut_8 : decode cX8_cut 8 = .ok (.istore_n 3, 1) := by decide +kernel
theorem dX8_cut_9 : decode cX8_cut 9 = .ok (.iload_n 3, 1) := by decide +kernel
theorem dX8_cut_10 : decode cX8_cut 10 = .ok (.sipush 300, 3) := by decide +kernel
theorem dX8_cut_13 : decode cX8_cut 13 = .ok (.if_icmp .ge 24, 3) := by decide +kernel
theorem dX8_cut_16 : decode cX8_cut 16 = .ok (.iload_n 2, 1) := by decide +kernel
theorem dX8_cut_17 : decode cX8_cut 17 = .ok (.aload_n 1, 1) := by decide +kernel
theorem dX8_cut_18 : decode cX8_cut 18 = .ok (.getfield 25, 3) := by decide +kernel
theorem dX8_cut_21 : decode cX8_cut 21 = .ok (.if_icmp .ge 16, 3) := by decide +kernel
theorem dX8_cut_24 : decode cX8_cut 24 = .ok (.aload_n 0, 1) := by decide +kernel
theorem dX8_cut_25 : decode cX8_cut 25 = .ok (.aload_n 1, 1) := by decide +kernel
theorem dX8_cut_26 : decode cX8_cut 26 = .ok (.iload_n 2, 1) := by decide +kernel
theorem dX8_cut_27 : decode cX8_cut 27 = .ok (.invokevirtual 30, 3) := by decide +kernel
theorem dX8_cut_30 : decode cX8_cut 30 = .ok (.istore_n 2, 1) := by decide +kernel
theorem dX8_cut_31 : decode cX8_cut 31 = .ok (.iinc 3 1, 3) := by decide +kernel
theorem dX8_cut_34 : decode cX8_cut 34 = .ok (.goto (-25), 3) := by decide +kernel
theorem dX8_cut_37 : decode cX8_cut 37 = .ok (.aload_n 0, 1) := by decide +kernel
theorem dX8_cut_38 : decode cX8_cut 38 = .ok (.bipush 51, 2) := by decide +kernel
theorem dX8_cut_40 : decode cX8_cut 40 = .ok (.aload_n 1, 1) := by decide +kernel
theorem dX8_cut_41 : decode cX8_cut 41 = .ok (.getfield 25, 3) := by decide +kernel
theorem dX8_cut_44 : decode cX8_cut 44 = .ok (.iconst 0, 1) := by decide +kernel
theorem dX8_cut_45 : decode cX8_cut 45 = .ok (.invokevirtual 34, 3) := by decide +kernel
theorem dX8_cut_48 : decode cX8_cut 48 = .ok (.return_, 1) := by decide +kernel
def B_X8_cut_37 (o0 : Nat) (o1 : Nat) (μ : Me) (Q : Me → Prop) : Prop := mok μ o1 6 ∧ mok μ o0 8 ∧ S_X8_add o0 51 (mgi μ o1 1) 0 μ (fun μ5 => Q μ5)
set_option maxHeartbeats 4000000 in
set_option maxRecDepth 100000 in
theorem tB_X8_cut_37 {x : GX} (f : Fx x cX8_cut RX8 4 (rmc 9 0 0)) {o0 : Nat} {o1 : Nat} {μ : Me} {Q : Me → Prop} (hq : Rt x none (qV Q)) (h : B_X8_cut_37 o0 o1 μ Q) : G x 4 37 [(0, .ref (gB x + o0)), (1, .ref (gB x + o1))] [] μ 0 0 := by
  unfold B_X8_cut_37 at h
  refine g_aload_n f 0 dX8_cut_37 rfl rfl ?_
  refine g_bipush f 51 dX8_cut_38 kb_51 ?_
  refine g_aload_n f 1 dX8_cut_40 rfl rfl ?_
  obtain ⟨v3, h⟩ := h
  refine g_getI f fk_X8_25 v3 dX8_cut_41 rfl ?_
  refine g_iconst f 0 dX8_cut_44 kc_0 ?_
  obtain ⟨v4, h⟩ := h
  refine g_callV f mk_X8_34 v4 (c_X8_add h) dX8_cut_45 rfl rfl (Nat.le_of_ble_eq_true rfl) (rm_ok (by decide) (by decide)) ⟨Nat.le_of_ble_eq_true rfl, Nat.le_of_ble_eq_true rfl⟩ (kV fun μ5 x6 h => ?_)
  exact g_vret f hq (Nat.le_of_ble_eq_true rfl) (Nat.le_of_ble_eq_true rfl) dX8_cut_48 h
def B_X8_cut_9 (o0 : Nat) (o1 : Nat) (i2 : Int32) (i3 : Int32) (μ : Me) (K9 : Int32 → Int32 → Me → Prop) (Q : Me → Prop) : Prop := ((300 ≤ i3 → B_X8_cut_37 o0 o1 μ Q) ∧ (¬ 300 ≤ i3 → mok μ o1 6 ∧ (((mgi μ o1 1) ≤ i2 → B_X8_cut_37 o0 o1 μ Q) ∧ (¬ (mgi μ o1 1) ≤ i2 → mok μ o0 8 ∧ S_X8_cutOne o0 o1 i2 μ (fun r12 μ10 => K9 r12 (i3 + 1) μ10)))))
set_option maxHeartbeats 4000000 in
set_option maxRecDepth 100000 in
theorem tB_X8_cut_9 {x : GX} (f : Fx x cX8_cut RX8 4 (rmc 9 0 0)) {o0 : Nat} {o1 : Nat} {i2 : Int32} {i3 : Int32} {μ : Me} {Q : Me → Prop} (hq : Rt x none (qV Q)) {K9 : Int32 → Int32 → Me → Prop} (hK9 : ∀ (a2 : Int32) (a3 : Int32) (ν : Me), K9 a2 a3 ν → G x 4 9 [(0, .ref (gB x + o0)), (1, .ref (gB x + o1)), (2, .int a2), (3, .int a3)] [] ν 0 0) (h : B_X8_cut_9 o0 o1 i2 i3 μ K9 Q) : G x 4 9 [(0, .ref (gB x + o0)), (1, .ref (gB x + o1)), (2, .int i2), (3, .int i3)] [] μ 0 0 := by
  unfold B_X8_cut_9 at h
  refine g_iload_n f 3 dX8_cut_9 rfl rfl ?_
  refine g_sipush f 300 dX8_cut_10 ks_300 ?_
  refine g_ic_ge f 37 dX8_cut_13 rfl h (fun h => ?_) (fun h => ?_)
  · exact h_sub [0, 1] rfl (tB_X8_cut_37 f hq h)
  · refine g_iload_n f 2 dX8_cut_16 rfl rfl ?_
    refine g_aload_n f 1 dX8_cut_17 rfl rfl ?_
    obtain ⟨v8, h⟩ := h
    refine g_getI f fk_X8_25 v8 dX8_cut_18 rfl ?_
    refine g_ic_ge f 37 dX8_cut_21 rfl h (fun h => ?_) (fun h => ?_)
    · exact h_sub [0, 1] rfl (tB_X8_cut_37 f hq h)
    · refine g_aload_n f 0 dX8_cut_24 rfl rfl ?_
      refine g_aload_n f 1 dX8_cut_25 rfl rfl ?_
      refine g_iload_n f 2 dX8_cut_26 rfl rfl ?_
      obtain ⟨v9, h⟩ := h
      refine g_callV f mk_X8_30 v9 (c_X8_cutOne h) dX8_cut_27 rfl rfl (Nat.le_of_ble_eq_true rfl) (rm_ok (by decide) (by decide)) ⟨Nat.le_of_ble_eq_true rfl, Nat.le_of_ble_eq_true rfl⟩ (kI fun r12 μ10 x11 h => ?_)
      refine h_istore_n f dX8_cut_30 rfl (by decide) ?_
      refine h_iinc f 3 1 dX8_cut_31 rfl kc_1 (by decide) ?_
      refine g_goto f 9 dX8_cut_34 rfl ?_
      exact h_sub [2, 3, 1, 0] rfl (hK9 _ _ _ h)
def L_X8_cut_9 (o0 : Nat) (o1 : Nat) (i2 : Int32) (i3 : Int32) (μ : Me) (Q : Me → Prop) : Prop := ∃ I : Int32 → Int32 → Me → Nat → Prop, (∃ n, I i2 i3 μ n) ∧ ∀ (i2 : Int32) (i3 : Int32) (μ : Me) (n : Nat), I i2 i3 μ n → B_X8_cut_9 o0 o1 i2 i3 μ (fun a2 a3 ν => ∃ n', n' < n ∧ I a2 a3 ν n') Q
set_option maxHeartbeats 4000000 in
set_option maxRecDepth 100000 in
theorem tL_X8_cut_9 {x : GX} (f : Fx x cX8_cut RX8 4 (rmc 9 0 0)) {o0 : Nat} {o1 : Nat} {i2 : Int32} {i3 : Int32} {μ : Me} {Q : Me → Prop} (hq : Rt x none (qV Q)) (h : L_X8_cut_9 o0 o1 i2 i3 μ Q) : G x 4 9 [(0, .ref (gB x + o0)), (1, .ref (gB x + o1)), (2, .int i2), (3, .int i3)] [] μ 0 0 := by
  obtain ⟨I, ⟨n, hI⟩, hs⟩ := h
  induction n using Nat.strongRecOn generalizing i2 i3 μ with
  | ind n ih => exact tB_X8_cut_9 f hq (fun a2 a3 ν hk => by obtain ⟨n2, hn, hI2⟩ := hk; exact ih n2 hn hI2) (hs _ _ _ _ hI)
def S_X8_cut (o0 : Nat) (o1 : Nat) (μ : Me) (Q : Me → Prop) : Prop := mok μ o0 8 ∧ ∀ μ2, μ2 = msi μ o0 3 0 → L_X8_cut_9 o0 o1 0 0 μ2 Q
set_option maxHeartbeats 4000000 in
set_option maxRecDepth 100000 in
theorem t_X8_cut {x : GX} (f : Fx x cX8_cut RX8 4 (rmc 9 0 0)) {o0 : Nat} {o1 : Nat} {μ : Me} {Q : Me → Prop} (hq : Rt x none (qV Q)) (h : S_X8_cut o0 o1 μ Q) : G x 4 0 [(0, .ref (gB x + o0)), (1, .ref (gB x + o1))] [] μ 0 0 := by
  unfold S_X8_cut at h
  refine g_aload_n f 0 dX8_cut_0 rfl rfl ?_
  refine g_iconst f 0 dX8_cut_1 kc_0 ?_
  obtain ⟨v1, h⟩ := h
  refine g_putI f fk_X8_21 v1 dX8_cut_2 rfl h (fun h => ?_)
  refine g_iconst f 0 dX8_cut_5 kc_0 ?_
  refine h_istore_n f dX8_cut_6 rfl (by decide) ?_
  refine g_iconst f 0 dX8_cut_7 kc_0 ?_
  refine h_istore_n f dX8_cut_8 rfl (by decide) ?_
  exact h_sub [2, 3, 1, 0] rfl (tL_X8_cut_9 f hq h)
theorem c_X8_cut {Ω : OM} {o0 : Nat} {o1 : Nat} {μ : Me} {Q : Me → Prop} (h : S_X8_cut o0 o1 μ Q) : CT Ω yX8_cut cX8_cut 4 none (rmc 9 0 0) [.ref (oB Ω + o0), .ref (oB Ω + o1)] μ (qV Q) := CT_of (by decide) rfl (by simp [lg_sl, Value.category]) (fun x hΩ f hq hi => by subst hΩ; exact t_X8_cut f hq h)
theorem dX5_next_0 : decode cX5_next 0 = .ok (.aload_n 0, 1) := by decide +kernel
theorem dX5_next_1 : decode cX5_next 1 = .ok (.aload_n 0, 1) := by decide +kernel
theorem dX5_next_2 : decode cX5_next 2 = .ok (.getfield 39, 3) := by decide +kernel
theorem dX5_next_5 : decode cX5_next 5 = .ok (.iconst 1, 1) := by decide +kernel
theorem dX5_next_6 : decode cX5_next 6 = .ok (.iadd, 1) := by decide +kernel
theorem dX5_next_7 : decode cX5_next 7 = .ok (.sipush 300, 3) := by decide +kernel
theorem dX5_next_10 : decode cX5_next 10 = .ok (.invokestatic 52, 3) := by decide +kernel
theorem dX5_next_13 : decode cX5_next 13 = .ok (.putfield 39, 3) := by decide +kernel
theorem dX5_next_16 : decode cX5_next 16 = .ok (.aload_n 0, 1) := by decide +kernel
theorem dX5_next_17 : decode cX5_next 17 = .ok (.aload_n 0, 1) := by decide +kernel
theorem dX5_next_18 : decode cX5_next 18 = .ok (.getfield 12, 3) := by decide +kernel
theorem dX5_next_21 : decode cX5_next 21 = .ok (.getfield 58, 3) := by decide +kernel
theorem dX5_next_24 : decode cX5_next 24 = .ok (.aload_n 0, 1) := by decide +kernel
theorem dX5_next_25 : decode cX5_next 25 = .ok (.getfield 39, 3) := by decide +kernel
theorem dX5_next_28 : decode cX5_next 28 = .ok (.iaload, 1) := by decide +kernel
theorem dX5_next_29 : decode cX5_next 29 = .ok (.putfield 45, 3) := by decide +kernel
theorem dX5_next_32 : decode cX5_next 32 = .ok (.aload_n 0, 1) := by decide +kernel
theorem dX5_next_33 : decode cX5_next 33 = .ok (.aload_n 0, 1) := by decide +kernel
theorem dX5_next_34 : decode cX5_next 34 = .ok (.getfield 12, 3) := by decide +kernel
theorem dX5_next_37 : decode cX5_next 37 = .ok (.getfield 62, 3) := by decide +kernel
theorem dX5_next_40 : decode cX5_next 40 = .ok (.aload_n 0, 1) := by decide +kernel
theorem dX5_next_41 : decode cX5_next 41 = .ok (.getfield 39, 3) := by decide +kernel
theorem dX5_next_44 : decode cX5_next 44 = .ok (.iaload, 1) := by decide +kernel
theorem dX5_next_45 : decode cX5_next 45 = .ok (.putfield 65, 3) := by decide +kernel
theorem dX5_next_48 : decode cX5_next 48 = .ok (.return_, 1) := by decide +kernel
def S_X5_next (o0 : Nat) (μ : Me) (Q : Me → Prop) : Prop := mok μ o0 5 ∧ ∀ μ2, μ2 = msi μ o0 2 (if 300 < ((mgi μ o0 2) + 1) then 300 else ((mgi μ o0 2) + 1)) → ∃ t3, mgr μ2 o0 0 = some t3 ∧ mok μ2 t3 8 ∧ ∃ t5, mgr μ2 t3 0 = some t5 ∧ mok μ2 t5 12 ∧ vp_in (mgi μ2 o0 2) (mln μ2 t5) ∧ ∀ μ7, μ7 = msi μ2 o0 3 (mgi μ2 t5 (mgi μ2 o0 2).toNatClampNeg) → ∃ t8, mgr μ7 o0 0 = some t8 ∧ mok μ7 t8 8 ∧ ∃ t10, mgr μ7 t8 2 = some t10 ∧ mok μ7 t10 12 ∧ vp_in (mgi μ7 o0 2) (mln μ7 t10) ∧ ∀ μ12, μ12 = msi μ7 o0 4 (mgi μ7 t10 (mgi μ7 o0 2).toNatClampNeg) → Q μ12
set_option maxHeartbeats 4000000 in
set_option maxRecDepth 100000 in
theorem t_X5_next {x : GX} (f : Fx x cX5_next RX5 1 (rmc 0 0 0)) {o0 : Nat} {μ : Me} {Q : Me → Prop} (hq : Rt x none (qV Q)) (h : S_X5_next o0 μ Q) : G x 1 0 [(0, .ref (gB x + o0))] [] μ 0 0 := by
  unfold S_X5_next at h
  refine g_aload_n f 0 dX5_next_0 rfl rfl ?_
  refine g_aload_n f 0 dX5_next_1 rfl rfl ?_
  obtain ⟨v1, h⟩ := h
  refine g_getI f fk_X5_39 v1 dX5_next_2 rfl ?_
  refine g_iconst f 1 dX5_next_5 kc_1 ?_
  refine g_iadd f dX5_next_6 ?_
  refine g_sipush f 300 dX5_next_7 ks_300 ?_
  refine g_min f mink_X5_52 dX5_next_10 rm_fr (rm_mx (Nat.le_of_ble_eq_true rfl)) (Nat.zero_le _) (Nat.zero_le _) ?_
  refine g_putI f fk_X5_39 v1 dX5_next_13 rfl h (fun h => ?_)
  refine g_aload_n f 0 dX5_next_16 rfl rfl ?_
  refine g_aload_n f 0 dX5_next_17 rfl rfl ?_
  refine g_getR f fk_X5_12 v1 dX5_next_18 rfl h (fun t3 h => ?_)
  obtain ⟨v4, h⟩ := h
  refine g_getR f fk_X5_58 v4 dX5_next_21 rfl h (fun t5 h => ?_)
  refine g_aload_n f 0 dX5_next_24 rfl rfl ?_
  refine g_getI f fk_X5_39 v1 dX5_next_25 rfl ?_
  obtain ⟨v6, h⟩ := h
  refine g_iald f v6 dX5_next_28 h (fun h => ?_)
  refine g_putI f fk_X5_45 v1 dX5_next_29 rfl h (fun h => ?_)
  refine g_aload_n f 0 dX5_next_32 rfl rfl ?_
  refine g_aload_n f 0 dX5_next_33 rfl rfl ?_
  refine g_getR f fk_X5_12 v1 dX5_next_34 rfl h (fun t8 h => ?_)
  obtain ⟨v9, h⟩ := h
  refine g_getR f fk_X5_62 v9 dX5_next_37 rfl h (fun t10 h => ?_)
  refine g_aload_n f 0 dX5_next_40 rfl rfl ?_
  refine g_getI f fk_X5_39 v1 dX5_next_41 rfl ?_
  obtain ⟨v11, h⟩ := h
  refine g_iald f v11 dX5_next_44 h (fun h => ?_)
  refine g_putI f fk_X5_65 v1 dX5_next_45 rfl h (fun h => ?_)
  exact g_vret f hq (Nat.le_of_ble_eq_true rfl) (Nat.le_of_ble_eq_true rfl) dX5_next_48 h
theorem c_X5_next {Ω : OM} {o0 : Nat} {μ : Me} {Q : Me → Prop} (h : S_X5_next o0 μ Q) : CT Ω yX5_next cX5_next 1 none (rmc 0 0 0) [.ref (oB Ω + o0)] μ (qV Q) := CT_of (by decide) rfl (by simp [lg_sl, Value.category]) (fun x hΩ f hq hi => by subst hΩ; exact t_X5_next f hq h)
theorem dX5_refuse_0 : decode cX5_refuse 0 = .ok (.aload_n 0, 1) := by decide +kernel
theorem dX5_refuse_1 : decode cX5_refuse 1 = .ok (.iload_n 1, 1) := by decide +kernel
theorem dX5_refuse_2 : decode cX5_refuse 2 = .ok (.putfield 28, 3) := by decide +kernel
theorem dX5_refuse_5 : decode cX5_refuse 5 = .ok (.aload_n 0, 1) := by decide +kernel
theorem dX5_refuse_6 : decode cX5_refuse 6 = .ok (.aload_n 0, 1) := by decide +kernel
theorem dX5_refuse_7 : decode cX5_refuse 7 = .ok (.getfield 12, 3) := by decide +kernel
theorem dX5_refuse_10 : decode cX5_refuse 10 = .ok (.getfield 68, 3) := by decide +kernel
theorem dX5_refuse_13 : decode cX5_refuse 13 = .ok (.aload_n 0, 1) := by decide +kernel
theorem dX5_refuse_14 : decode cX5_refuse 14 = .ok (.getfield 39, 3) := by decide +kernel
theorem dX5_refuse_17 : decode cX5_refuse 17 = .ok (.iaload, 1) := by decide +kernel
theorem dX5_refuse_18 : decode cX5_refuse 18 = .ok (.putfield 32, 3) := by decide +kernel
theorem dX5_refuse_21 : decode cX5_refuse 21 = .ok (.iconst 0, 1) := by decide +kernel
theorem dX5_refuse_22 : decode cX5_refuse 22 = .ok (.ireturn, 1) := by decide +kernel
def S_X5_refuse (o0 : Nat) (i1 : Int32) (μ : Me) (Q : Int32 → Me → Prop) : Prop := mok μ o0 5 ∧ ∀ μ2, μ2 = msi μ o0 6 i1 → ∃ t3, mgr μ2 o0 0 = some t3 ∧ mok μ2 t3 8 ∧ ∃ t5, mgr μ2 t3 1 = some t5 ∧ mok μ2 t5 12 ∧ vp_in (mgi μ2 o0 2) (mln μ2 t5) ∧ ∀ μ7, μ7 = msi μ2 o0 7 (mgi μ2 t5 (mgi μ2 o0 2).toNatClampNeg) → Q 0 μ7
set_option maxHeartbeats 4000000 in
set_option maxRecDepth 100000 in
theorem t_X5_refuse {x : GX} (f : Fx x cX5_refuse RX5 2 (rmc 0 0 0)) {o0 : Nat} {i1 : Int32} {μ : Me} {Q : Int32 → Me → Prop} (hq : Rt x (some .boolean) (qI Q)) (h : S_X5_refuse o0 i1 μ Q) : G x 2 0 [(0, .ref (gB x + o0)), (1, .int i1)] [] μ 0 0 := by
  unfold S_X5_refuse at h
  refine g_aload_n f 0 dX5_refuse_0 rfl rfl ?_
  refine g_iload_n f 1 dX5_refuse_1 rfl rfl ?_
  obtain ⟨v1, h⟩ := h
  refine g_putI f fk_X5_28 v1 dX5_refuse_2 rfl h (fun h => ?_)
  refine g_aload_n f 0 dX5_refuse_5 rfl rfl ?_
  refine g_aload_n f 0 dX5_refuse_6 rfl rfl ?_
  refine g_getR f fk_X5_12 v1 dX5_refuse_7 rfl h (fun t3 h => ?_)
  obtain ⟨v4, h⟩ := h
  refine g_getR f fk_X5_68 v4 dX5_refuse_10 rfl h (fun t5 h => ?_)
  refine g_aload_n f 0 dX5_refuse_13 rfl rfl ?_
  refine g_getI f fk_X5_39 v1 dX5_refuse_14 rfl ?_
  obtain ⟨v6, h⟩ := h
  refine g_iald f v6 dX5_refuse_17 h (fun h => ?_)
  refine g_putI f fk_X5_32 v1 dX5_refuse_18 rfl h (fun h => ?_)
  refine g_iconst f 0 dX5_refuse_21 kc_0 ?_
  exact g_zret f hq (Nat.le_of_ble_eq_true rfl) (Nat.le_of_ble_eq_true rfl) dX5_refuse_22 zb_0.1 h
theorem c_X5_refuse {Ω : OM} {o0 : Nat} {i1 : Int32} {μ : Me} {Q : Int32 → Me → Prop} (h : S_X5_refuse o0 i1 μ Q) : CT Ω yX5_refuse cX5_refuse 2 (some .boolean) (rmc 0 0 0) [.ref (oB Ω + o0), .int i1] μ (qI Q) := CT_of (by decide) rfl (by simp [lg_sl, Value.category]) (fun x hΩ f hq hi => by subst hΩ; exact t_X5_refuse f hq h)
theorem dX7_has_0 : decode cX7_has 0 = .ok (.iload_n 1, 1) := by decide +kernel
theorem dX7_has_1 : decode cX7_has 1 = .ok (.ifCond .ne 11, 3) := by decide +kernel
theorem dX7_has_4 : decode cX7_has 4 = .ok (.aload_n 0, 1) := by decide +kernel
theorem dX7_has_5 : decode cX7_has 5 = .ok (.getfield 28, 3) := by decide +kernel
theorem dX7_has_8 : decode cX7_has 8 = .ok (.iconst (-1), 1) := by decide +kernel
theorem dX7_has_9 : decode cX7_has 9 = .ok (.if_icmp .ne 16, 3) := by decide +kernel
theorem dX7_has_12 : decode cX7_has 12 = .ok (.iload_n 1, 1) := by decide +kernel
theorem dX7_has_13 : decode cX7_has 13 = .ok (.iconst 1, 1) := by decide +kernel
theorem dX7_has_14 : decode cX7_has 14 = .ok (.if_icmp .ne 15, 3) := by decide +kernel
theorem dX7_has_17 : decode cX7_has 17 = .ok (.aload_n 0, 1) := by decide +kernel
theorem dX7_has_18 : decode cX7_has 18 = .ok (.getfield 31, 3) := by decide +kernel
theorem dX7_has_21 : decode cX7_has 21 = .ok (.iconst (-1), 1) := by decide +kernel
theorem dX7_has_22 : decode cX7_has 22 = .ok (.if_icmp .eq 7, 3) := by decide +kernel
theorem dX7_has_25 : decode cX7_has 25 = .ok (.iconst 1, 1) := by decide +kernel
theorem dX7_has_26 : decode cX7_has 26 = .ok (.goto 4, 3) := by decide +kernel
theorem dX7_has_29 : decode cX7_has 29 = .ok (.iconst 0, 1) := by decide +kernel
theorem dX7_has_30 : decode cX7_has 30 = .ok (.ireturn, 1) := by decide +kernel
def B_X7_has_12 (o0 : Nat) (i1 : Int32) (μ : Me) (Q : Int32 → Me → Prop) : Prop := ((¬ i1 = 1 → Q 0 μ) ∧ (i1 = 1 → mok μ o0 7 ∧ (((mgi μ o0 5) = (-1) → Q 0 μ) ∧ (¬ (mgi μ o0 5) = (-1) → Q 1 μ))))
set_option maxHeartbeats 4000000 in
set_option maxRecDepth 100000 in
theorem tB_X7_has_12 {x : GX} (f : Fx x cX7_has RX7 2 (rmc 0 0 0)) {o0 : Nat} {i1 : Int32} {μ : Me} {Q : Int32 → Me → Prop} (hq : Rt x (some .boolean) (qI Q)) (h : B_X7_has_12 o0 i1 μ Q) : G x 2 12 [(0, .ref (gB x + o0)), (1, .int i1)] [] μ 0 0 := by
  unfold B_X7_has_12 at h
  refine g_iload_n f 1 dX7_has_12 rfl rfl ?_
  refine g_iconst f 1 dX7_has_13 kc_1 ?_
  refine g_ic_ne f 29 dX7_has_14 rfl h (fun h => ?_) (fun h => ?_)
  · refine g_iconst f 0 dX7_has_29 kc_0 ?_
    exact g_zret f hq (Nat.le_of_ble_eq_true rfl) (Nat.le_of_ble_eq_true rfl) dX7_has_30 zb_0.1 h
  · refine g_aload_n f 0 dX7_has_17 rfl rfl ?_
    obtain ⟨v1, h⟩ := h
    refine g_getI f fk_X7_31 v1 dX7_has_18 rfl ?_
    refine g_iconst f (-1) dX7_has_21 kc_m1 ?_
    refine g_ic_eq f 29 dX7_has_22 rfl h (fun h => ?_) (fun h => ?_)
    · refine g_iconst f 0 dX7_has_29 kc_0 ?_
      exact g_zret f hq (Nat.le_of_ble_eq_true rfl) (Nat.le_of_ble_eq_true rfl) dX7_has_30 zb_0.1 h
    · refine g_iconst f 1 dX7_has_25 kc_1 ?_
      refine g_goto f 30 dX7_has_26 rfl ?_
      exact g_zret f hq (Nat.le_of_ble_eq_true rfl) (Nat.le_of_ble_eq_true rfl) dX7_has_30 zb_1.1 h
def S_X7_has (o0 : Nat) (i1 : Int32) (μ : Me) (Q : Int32 → Me → Prop) : Prop := ((¬ i1 = 0 → B_X7_has_12 o0 i1 μ Q) ∧ (i1 = 0 → mok μ o0 7 ∧ ((¬ (mgi μ o0 3) = (-1) → Q 1 μ) ∧ ((mgi μ o0 3) = (-1) → B_X7_has_12 o0 i1 μ Q))))
set_option maxHeartbeats 4000000 in
set_option maxRecDepth 100000 in
theorem t_X7_has {x : GX} (f : Fx x cX7_has RX7 2 (rmc 0 0 0)) {o0 : Nat} {i1 : Int32} {μ : Me} {Q : Int32 → Me → Prop} (hq : Rt x (some .boolean) (qI Q)) (h : S_X7_has o0 i1 μ Q) : G x 2 0 [(0, .ref (gB x + o0)), (1, .int i1)] [] μ 0 0 := by
  unfold S_X7_has at h
  refine g_iload_n f 1 dX7_has_0 rfl rfl ?_
  refine g_if_ne f 12 dX7_has_1 rfl h (fun h => ?_) (fun h => ?_)
  · exact h_sub [0, 1] rfl (tB_X7_has_12 f hq h)
  · refine g_aload_n f 0 dX7_has_4 rfl rfl ?_
    obtain ⟨v2, h⟩ := h
    refine g_getI f fk_X7_28 v2 dX7_has_5 rfl ?_
    refine g_iconst f (-1) dX7_has_8 kc_m1 ?_
    refine g_ic_ne f 25 dX7_has_9 rfl h (fun h => ?_) (fun h => ?_)
    · refine g_iconst f 1 dX7_has_25 kc_1 ?_
      refine g_goto f 30 dX7_has_26 rfl ?_
      exact g_zret f hq (Nat.le_of_ble_eq_true rfl) (Nat.le_of_ble_eq_true rfl) dX7_has_30 zb_1.1 h
    · exact h_sub [0, 1] rfl (tB_X7_has_12 f hq h)
theorem c_X7_has {Ω : OM} {o0 : Nat} {i1 : Int32} {μ : Me} {Q : Int32 → Me → Prop} (h : S_X7_has o0 i1 μ Q) : CT Ω yX7_has cX7_has 2 (some .boolean) (rmc 0 0 0) [.ref (oB Ω + o0), .int i1] μ (qI Q) := CT_of (by decide) rfl (by simp [lg_sl, Value.category]) (fun x hΩ f hq hi => by subst hΩ; exact t_X7_has f hq h)
theorem dX7_put_0 : decode cX7_put 0 = .ok (.aload_n 0, 1) := by decide +kernel
theorem dX7_put_1 : decode cX7_put 1 = .ok (.getfield 25, 3) := by decide +kernel
theorem dX7_put_4 : decode cX7_put 4 = .ok (.iconst 5, 1) := by decide +kernel
theorem dX7_put_5 : decode cX7_put 5 = .ok (.imul, 1) := by decide +kernel
theorem dX7_put_6 : decode cX7_put 6 = .ok (.iload_n 1, 1) := by decide +kernel
theorem dX7_put_7 : decode cX7_put 7 = .ok (.iadd, 1) := by decide +kernel
theorem dX7_put_8 : decode cX7_put 8 = .ok (.istore_n 3, 1) := by decide +kernel
theorem dX7_put_9 : decode cX7_put 9 = .ok (.iload_n 1, 1) := by decide +kernel
theorem dX7_put_10 : decode cX7_put 10 = .ok (.ifCond .lt 24, 3) := by decide +kernel
theorem dX7_put_13 : decode cX7_put 13 = .ok (.iload_n 1, 1) := by decide +kernel
theorem dX7_put_14 : decode cX7_put 14 = .ok (.iconst 5, 1) := by decide +kernel
theorem dX7_put_15 : decode cX7_put 15 = .ok (.if_icmp .ge 19, 3) := by decide +kernel
theorem dX7_put_18 : decode cX7_put 18 = .ok (.aload_n 0, 1) := by decide +kernel
theorem dX7_put_19 : decode cX7_put 19 = .ok (.getfield 25, 3) := by decide +kernel
theorem dX7_put_22 : decode cX7_put 22 = .ok (.bipush 24, 2) := by decide +kernel
theorem dX7_put_24 : decode cX7_put 24 = .ok (.if_icmp .ge 10, 3) := by decide +kernel
theorem dX7_put_27 : decode cX7_put 27 = .ok (.aload_n 0, 1) := by decide +kernel
theorem dX7_put_28 : decode cX7_put 28 = .ok (.getfield 18, 3) := by decide +kernel
theorem dX7_put_31 : decode cX7_put 31 = .ok (.iload_n 3, 1) := by decide +kernel
theorem dX7_put_32 : decode cX7_put 32 = .ok (.iload_n 2, 1) := by decide +kernel
theorem dX7_put_33 : decode cX7_put 33 = .ok (.iastore, 1) := by decide +kernel
theorem dX7_put_34 : decode cX7_put 34 = .ok (.return_, 1) := by decide +kernel
def S_X7_put (o0 : Nat) (i1 : Int32) (i2 : Int32) (μ : Me) (Q : Me → Prop) : Prop := mok μ o0 7 ∧ ((i1 < 0 → Q μ) ∧ (¬ i1 < 0 → ((5 ≤ i1 → Q μ) ∧ (¬ 5 ≤ i1 → ((24 ≤ (mgi μ o0 8) → Q μ) ∧ (¬ 24 ≤ (mgi μ o0 8) → ∃ t2, mgr μ o0 7 = some t2 ∧ mok μ t2 12 ∧ vp_in (((mgi μ o0 8) * 5) + i1) (mln μ t2) ∧ ∀ μ4, μ4 = msi μ t2 (((mgi μ o0 8) * 5) + i1).toNatClampNeg i2 → Q μ4))))))
set_option maxHeartbeats 4000000 in
set_option maxRecDepth 100000 in
theorem t_X7_put {x : GX} (f : Fx x cX7_put RX7 4 (rmc 0 0 0)) {o0 : Nat} {i1 : Int32} {i2 : Int32} {μ : Me} {Q : Me → Prop} (hq : Rt x none (qV Q)) (h : S_X7_put o0 i1 i2 μ Q) : G x 4 0 [(0, .ref (gB x + o0)), (1, .int i1), (2, .int i2)] [] μ 0 0 := by
  unfold S_X7_put at h
  refine g_aload_n f 0 dX7_put_0 rfl rfl ?_
  obtain ⟨v1, h⟩ := h
  refine g_getI f fk_X7_25 v1 dX7_put_1 rfl ?_
  refine g_iconst f 5 dX7_put_4 kc_5 ?_
  refine g_imul f dX7_put_5 ?_
  refine g_iload_n f 1 dX7_put_6 rfl rfl ?_
  refine g_iadd f dX7_put_7 ?_
  refine h_istore_n f dX7_put_8 rfl (by decide) ?_
  refine g_iload_n f 2 dX7_put_9 rfl rfl ?_
  refine g_if_lt f 34 dX7_put_10 rfl h (fun h => ?_) (fun h => ?_)
  · exact g_vret f hq (Nat.le_of_ble_eq_true rfl) (Nat.le_of_ble_eq_true rfl) dX7_put_34 h
  · refine g_iload_n f 2 dX7_put_13 rfl rfl ?_
    refine g_iconst f 5 dX7_put_14 kc_5 ?_
    refine g_ic_ge f 34 dX7_put_15 rfl h (fun h => ?_) (fun h => ?_)
    · exact g_vret f hq (Nat.le_of_ble_eq_true rfl) (Nat.le_of_ble_eq_true rfl) dX7_put_34 h
    · refine g_aload_n f 1 dX7_put_18 rfl rfl ?_
      refine g_getI f fk_X7_25 v1 dX7_put_19 rfl ?_
      refine g_bipush f 24 dX7_put_22 kb_24 ?_
      refine g_ic_ge f 34 dX7_put_24 rfl h (fun h => ?_) (fun h => ?_)
      · exact g_vret f hq (Nat.le_of_ble_eq_true rfl) (Nat.le_of_ble_eq_true rfl) dX7_put_34 h
      · refine g_aload_n f 1 dX7_put_27 rfl rfl ?_
        refine g_getR f fk_X7_18 v1 dX7_put_28 rfl h (fun t2 h => ?_)
        refine g_iload_n f 0 dX7_put_31 rfl rfl ?_
        refine g_iload_n f 3 dX7_put_32 rfl rfl ?_
        obtain ⟨v3, h⟩ := h
        refine g_iast f v3 dX7_put_33 h (fun h => ?_)
        exact g_vret f hq (Nat.le_of_ble_eq_true rfl) (Nat.le_of_ble_eq_true rfl) dX7_put_34 h
theorem c_X7_put {Ω : OM} {o0 : Nat} {i1 : Int32} {i2 : Int32} {μ : Me} {Q : Me → Prop} (h : S_X7_put o0 i1 i2 μ Q) : CT Ω yX7_put cX7_put 4 none (rmc 0 0 0) [.ref (oB Ω + o0), .int i1, .int i2] μ (qV Q) := CT_of (by decide) rfl (by simp [lg_sl, Value.category]) (fun x hΩ f hq hi => by subst hΩ; exact t_X7_put f hq h)
theorem dX7_startClause_0 : decode cX7_startClause 0 = .ok (.iload_n 1, 1) := by decide +kernel
theorem dX7_startClause_1 : decode cX7_startClause 1 = .ok (.ifCond .ne 11, 3) := by decide +kernel
theorem dX7_startClause_4 : decode cX7_startClause 4 = .ok (.aload_n 0, 1) := by decide +kernel
theorem dX7_startClause_5 : decode cX7_startClause 5 = .ok (.aload_n 0, 1) := by decide +kernel
theorem dX7_startClause_6 : decode cX7_startClause 6 = .ok (.getfield 21, 3) := by decide +kernel
theorem dX7_startClause_9 : decode cX7_startClause 9 = .ok (.putfield 28, 3) := by decide +kernel
theorem dX7_startClause_12 : decode cX7_startClause 12 = .ok (.iload_n 1, 1) := by decide +kernel
theorem dX7_startClause_13 : decode cX7_startClause 13 = .ok (.iconst 1, 1) := by decide +kernel
theorem dX7_startClause_14 : decode cX7_startClause 14 = .ok (.if_icmp .ne 11, 3) := by decide +kernel
theorem dX7_startClause_17 : decode cX7_startClause 17 = .ok (.aload_n 0, 1) := by decide +kernel
theorem dX7_startClause_18 : decode cX7_startClause 18 = .ok (.aload_n 0, 1) := by decide +kernel
theorem dX7_startClause_19 : decode cX7_startClause 19 = .ok (.getfield 21, 3) := by decide +kernel
theorem dX7_startClause_22 : decode cX7_startClause 22 = .ok (.putfield 31, 3) := by decide +kernel
theorem dX7_startClause_25 : decode cX7_startClause 25 = .ok (.aload_n 0, 1) := by decide +kernel
theorem dX7_startClause_26 : decode cX7_startClause 26 = .ok (.iconst 0, 1) := by decide +kernel
theorem dX7_startClause_27 : decode cX7_startClause 27 = .ok (.iload_n 1, 1) := by decide +kernel
theorem dX7_startClause_28 : decode cX7_startClause 28 = .ok (.invokevirtual 34, 3) := by decide +kernel
theorem dX7_startClause_31 : decode cX7_startClause 31 = .ok (.return_, 1) := by decide +kernel
def B_X7_startClause_25 (o0 : Nat) (i1 : Int32) (μ : Me) (Q : Me → Prop) : Prop := mok μ o0 7 ∧ S_X7_put o0 0 i1 μ (fun μ2 => Q μ2)
set_option maxHeartbeats 4000000 in
set_option maxRecDepth 100000 in
theorem tB_X7_startClause_25 {x : GX} (f : Fx x cX7_startClause RX7 2 (rmc 1 0 0)) {o0 : Nat} {i1 : Int32} {μ : Me} {Q : Me → Prop} (hq : Rt x none (qV Q)) (h : B_X7_startClause_25 o0 i1 μ Q) : G x 2 25 [(0, .ref (gB x + o0)), (1, .int i1)] [] μ 0 0 := by
  unfold B_X7_startClause_25 at h
  refine g_aload_n f 0 dX7_startClause_25 rfl rfl ?_
  refine g_iconst f 0 dX7_startClause_26 kc_0 ?_
  refine g_iload_n f 1 dX7_startClause_27 rfl rfl ?_
  obtain ⟨v1, h⟩ := h
  refine g_callV f mk_X7_34 v1 (c_X7_put h) dX7_startClause_28 rfl rfl (Nat.le_of_ble_eq_true rfl) (rm_ok (by decide) (by decide)) ⟨Nat.le_of_ble_eq_true rfl, Nat.le_of_ble_eq_true rfl⟩ (kV fun μ2 x3 h => ?_)
  exact g_vret f hq (Nat.le_of_ble_eq_true rfl) (Nat.le_of_ble_eq_true rfl) dX7_startClause_31 h
def B_X7_startClause_12 (o0 : Nat) (i1 : Int32) (μ : Me) (Q : Me → Prop) : Prop := ((¬ i1 = 1 → B_X7_startClause_25 o0 i1 μ Q) ∧ (i1 = 1 → mok μ o0 7 ∧ ∀ μ6, μ6 = msi μ o0 5 (mgi μ o0 2) → B_X7_startClause_25 o0 i1 μ6 Q))
set_option maxHeartbeats 4000000 in
set_option maxRecDepth 100000 in
theorem tB_X7_startClause_12 {x : GX} (f : Fx x cX7_startClause RX7 2 (rmc 1 0 0)) {o0 : Nat} {i1 : Int32} {μ : Me} {Q : Me → Prop} (hq : Rt x none (qV Q)) (h : B_X7_startClause_12 o0 i1 μ Q) : G x 2 12 [(0, .ref (gB x + o0)), (1, .int i1)] [] μ 0 0 := by
  unfold B_X7_startClause_12 at h
  refine g_iload_n f 1 dX7_startClause_12 rfl rfl ?_
  refine g_iconst f 1 dX7_startClause_13 kc_1 ?_
  refine g_ic_ne f 25 dX7_startClause_14 rfl h (fun h => ?_) (fun h => ?_)
  · exact h_sub [0, 1] rfl (tB_X7_startClause_25 f hq h)
  · refine g_aload_n f 0 dX7_startClause_17 rfl rfl ?_
    refine g_aload_n f 0 dX7_startClause_18 rfl rfl ?_
    obtain ⟨v5, h⟩ := h
    refine g_getI f fk_X7_21 v5 dX7_startClause_19 rfl ?_
    refine g_putI f fk_X7_31 v5 dX7_startClause_22 rfl h (fun h => ?_)
    exact h_sub [0, 1] rfl (tB_X7_startClause_25 f hq h)
def S_X7_startClause (o0 : Nat) (i1 : Int32) (μ : Me) (Q : Me → Prop) : Prop := ((¬ i1 = 0 → B_X7_startClause_12 o0 i1 μ Q) ∧ (i1 = 0 → mok μ o0 7 ∧ ∀ μ8, μ8 = msi μ o0 3 (mgi μ o0 2) → B_X7_startClause_12 o0 i1 μ8 Q))
set_option maxHeartbeats 4000000 in
set_option maxRecDepth 100000 in
theorem t_X7_startClause {x : GX} (f : Fx x cX7_startClause RX7 2 (rmc 1 0 0)) {o0 : Nat} {i1 : Int32} {μ : Me} {Q : Me → Prop} (hq : Rt x none (qV Q)) (h : S_X7_startClause o0 i1 μ Q) : G x 2 0 [(0, .ref (gB x + o0)), (1, .int i1)] [] μ 0 0 := by
  unfold S_X7_startClause at h
  refine g_iload_n f 1 dX7_startClause_0 rfl rfl ?_
  refine g_if_ne f 12 dX7_startClause_1 rfl h (fun h => ?_) (fun h => ?_)
  · exact h_sub [0, 1] rfl (tB_X7_startClause_12 f hq h)
  · refine g_aload_n f 0 dX7_startClause_4 rfl rfl ?_
    refine g_aload_n f 0 dX7_startClause_5 rfl rfl ?_
    obtain ⟨v7, h⟩ := h
    refine g_getI f fk_X7_21 v7 dX7_startClause_6 rfl ?_
    refine g_putI f fk_X7_28 v7 dX7_startClause_9 rfl h (fun h => ?_)
    exact h_sub [0, 1] rfl (tB_X7_startClause_12 f hq h)
theorem c_X7_startClause {Ω : OM} {o0 : Nat} {i1 : Int32} {μ : Me} {Q : Me → Prop} (h : S_X7_startClause o0 i1 μ Q) : CT Ω yX7_startClause cX7_startClause 2 none (rmc 1 0 0) [.ref (oB Ω + o0), .int i1] μ (qV Q) := CT_of (by decide) rfl (by simp [lg_sl, Value.category]) (fun x hΩ f hq hi => by subst hΩ; exact t_X7_startClause f hq h)
theorem dX7_add_0 : decode cX7_add 0 = .ok (.aload_n 0, 1) := by decide +kernel
theorem dX7_add_1 : decode cX7_add 1 = .ok (.getfield 21, 3) := by decide +kernel
theorem dX7_add_4 : decode cX7_add 4 = .ok (.sipush 300, 3) := by decide +kernel
theorem dX7_add_7 : decode cX7_add 7 = .ok (.if_icmp .lt 5, 3) := by decide +kernel
theorem dX7_add_10 : decode cX7_add 10 = .ok (.iconst (-1), 1) := by decide +kernel
theorem dX7_add_11 : decode cX7_add 11 = .ok (.ireturn, 1) := by decide +kernel
theorem dX7_add_12 : decode cX7_add 12 = .ok (.aload_n 0, 1) := by decide +kernel
theorem dX7_add_13 : decode cX7_add 13 = .ok (.getfield 9, 3) := by decide +kernel
theorem dX7_add_16 : decode cX7_add 16 = .ok (.aload_n 0, 1) := by decide +kernel
theorem dX7_add_17 : decode cX7_add 17 = .ok (.getfield 21, 3) := by decide +kernel
theorem dX7_add_20 : decode cX7_add 20 = .ok (.iload_n 1, 1) := by decide +kernel
theorem dX7_add_21 : decode cX7_add 21 = .ok (.iastore, 1) := by decide +kernel
theorem dX7_add_22 : decode cX7_add 22 = .ok (.aload_n 0, 1) := by decide +kernel
theorem dX7_add_23 : decode cX7_add 23 = .ok (.getfield 15, 3) := by decide +kernel
theorem dX7_add_26 : decode cX7_add 26 = .ok (.aload_n 0, 1) := by decide +kernel
theorem dX7_add_27 : decode cX7_add 27 = .ok (.getfield 21, 3) := by decide +kernel
theorem dX7_add_30 : decode cX7_add 30 = .ok (.iload_n 2, 1) := by decide +kernel
theorem dX7_add_31 : decode cX7_add 31 = .ok (.iastore, 1) := by decide +kernel
theorem dX7_add_32 : decode cX7_add 32 = .ok (.aload_n 0, 1) := by decide +kernel
theorem dX7_add_33 : decode cX7_add 33 = .ok (.dup, 1) := by decide +kernel
theorem dX7_add_34 : decode cX7_add 34 = .ok (.getfield 21, 3) := by decide +kernel
theorem dX7_add_37 : decode cX7_add 37 = .ok (.iconst 1, 1) := by decide +kernel
theorem dX7_add_38 : decode cX7_add 38 = .ok (.iadd, 1) := by decide +kernel
theorem dX7_add_39 : decode cX7_add 39 = .ok (.putfield 21, 3) := by decide +kernel
theorem dX7_add_42 : decode cX7_add 42 = .ok (.aload_n 0, 1) := by decide +kernel
theorem dX7_add_43 : decode cX7_add 43 = .ok (.getfield 21, 3) := by decide +kernel
theorem dX7_add_46 : decode cX7_add 46 = .ok (.iconst 1, 1) := by decide +kernel
theorem dX7_add_47 : decode cX7_add 47 = .ok (.isub, 1) := by decide +kernel
theorem dX7_add_48 : decode cX7_add 48 = .ok (.ireturn, 1) := by decide +kernel
def S_X7_add (o0 : Nat) (i1 : Int32) (i2 : Int32) (μ : Me) (Q : Int32 → Me → Prop) : Prop := mok μ o0 7 ∧ (((mgi μ o0 2) < 300 → ∃ t2, mgr μ o0 0 = some t2 ∧ mok μ t2 12 ∧ vp_in (mgi μ o0 2) (mln μ t2) ∧ ∀ μ4, μ4 = msi μ t2 (mgi μ o0 2).toNatClampNeg i1 → ∃ t5, mgr μ4 o0 1 = some t5 ∧ mok μ4 t5 12 ∧ vp_in (mgi μ4 o0 2) (mln μ4 t5) ∧ ∀ μ7, μ7 = msi μ4 t5 (mgi μ4 o0 2).toNatClampNeg i2 → ∀ μ8, μ8 = msi μ7 o0 2 ((mgi μ7 o0 2) + 1) → Q ((mgi μ8 o0 2) - 1) μ8) ∧ (¬ (mgi μ o0 2) < 300 → Q (-1) μ))
set_option maxHeartbeats 4000000 in
set_option maxRecDepth 100000 in
theorem t_X7_add {x : GX} (f : Fx x cX7_add RX7 3 (rmc 0 0 0)) {o0 : Nat} {i1 : Int32} {i2 : Int32} {μ : Me} {Q : Int32 → Me → Prop} (hq : Rt x (some .int) (qI Q)) (h : S_X7_add o0 i1 i2 μ Q) : G x 3 0 [(0, .ref (gB x + o0)), (1, .int i1), (2, .int i2)] [] μ 0 0 := by
  unfold S_X7_add at h
  refine g_aload_n f 0 dX7_add_0 rfl rfl ?_
  obtain ⟨v1, h⟩ := h
  refine g_getI f fk_X7_21 v1 dX7_add_1 rfl ?_
  refine g_sipush f 300 dX7_add_4 ks_300 ?_
  refine g_ic_lt f 12 dX7_add_7 rfl h (fun h => ?_) (fun h => ?_)
  · refine g_aload_n f 0 dX7_add_12 rfl rfl ?_
    refine g_getR f fk_X7_9 v1 dX7_add_13 rfl h (fun t2 h => ?_)
    refine g_aload_n f 0 dX7_add_16 rfl rfl ?_
    refine g_getI f fk_X7_21 v1 dX7_add_17 rfl ?_
    refine g_iload_n f 1 dX7_add_20 rfl rfl ?_
    obtain ⟨v3, h⟩ := h
    refine g_iast f v3 dX7_add_21 h (fun h => ?_)
    refine g_aload_n f 0 dX7_add_22 rfl rfl ?_
    refine g_getR f fk_X7_15 v1 dX7_add_23 rfl h (fun t5 h => ?_)
    refine g_aload_n f 0 dX7_add_26 rfl rfl ?_
    refine g_getI f fk_X7_21 v1 dX7_add_27 rfl ?_
    refine g_iload_n f 2 dX7_add_30 rfl rfl ?_
    obtain ⟨v6, h⟩ := h
    refine g_iast f v6 dX7_add_31 h (fun h => ?_)
    refine g_aload_n f 0 dX7_add_32 rfl rfl ?_
    refine g_dup f dX7_add_33 rfl ?_
    refine g_getI f fk_X7_21 v1 dX7_add_34 rfl ?_
    refine g_iconst f 1 dX7_add_37 kc_1 ?_
    refine g_iadd f dX7_add_38 ?_
    refine g_putI f fk_X7_21 v1 dX7_add_39 rfl h (fun h => ?_)
    refine g_aload_n f 0 dX7_add_42 rfl rfl ?_
    refine g_getI f fk_X7_21 v1 dX7_add_43 rfl ?_
    refine g_iconst f 1 dX7_add_46 kc_1 ?_
    refine g_isub f dX7_add_47 ?_
    exact g_iret f hq (Nat.le_of_ble_eq_true rfl) (Nat.le_of_ble_eq_true rfl) dX7_add_48 h
  · refine g_iconst f (-1) dX7_add_10 kc_m1 ?_
    exact g_iret f hq (Nat.le_of_ble_eq_true rfl) (Nat.le_of_ble_eq_true rfl) dX7_add_11 h
theorem c_X7_add {Ω : OM} {o0 : Nat} {i1 : Int32} {i2 : Int32} {μ : Me} {Q : Int32 → Me → Prop} (h : S_X7_add o0 i1 i2 μ Q) : CT Ω yX7_add cX7_add 3 (some .int) (rmc 0 0 0) [.ref (oB Ω + o0), .int i1, .int i2] μ (qI Q) := CT_of (by decide) rfl (by simp [lg_sl, Value.category]) (fun x hΩ f hq hi => by subst hΩ; exact t_X7_add f hq h)
theorem dX5_opens_0 : decode cX5_opens 0 = .ok (.iload_n 1, 1) := by decide +kernel
theorem dX5_opens_1 : decode cX5_opens 1 = .ok (.bipush 8, 2) := by decide +kernel
theorem dX5_opens_3 : decode cX5_opens 3 = .ok (.if_icmp .lt 9, 3) := by decide +kernel
theorem dX5_opens_6 : decode cX5_opens 6 = .ok (.aload_n 0, 1) := by decide +kernel
theorem dX5_opens_7 : decode cX5_opens 7 = .ok (.iconst 3, 1) := by decide +kernel
theorem dX5_opens_8 : decode cX5_opens 8 = .ok (.invokevirtual 71, 3) := by decide +kernel
theorem dX5_opens_11 : decode cX5_opens 11 = .ok (.ireturn, 1) := by decide +kernel
theorem dX5_opens_12 : decode cX5_opens 12 = .ok (.aload_n 0, 1) := by decide +kernel
theorem dX5_opens_13 : decode cX5_opens 13 = .ok (.invokevirtual 42, 3) := by decide +kernel
theorem dX5_opens_16 : decode cX5_opens 16 = .ok (.iconst 1, 1) := by decide +kernel
theorem dX5_opens_17 : decode cX5_opens 17 = .ok (.ireturn, 1) := by decide +kernel
def S_X5_opens (o0 : Nat) (i1 : Int32) (μ : Me) (Q : Int32 → Me → Prop) : Prop := ((i1 < 8 → mok μ o0 5 ∧ S_X5_next o0 μ (fun μ2 => Q 1 μ2)) ∧ (¬ i1 < 8 → mok μ o0 5 ∧ S_X5_refuse o0 3 μ (fun r8 μ6 => zb r8 ∧ Q r8 μ6)))
set_option maxHeartbeats 4000000 in
set_option maxRecDepth 100000 in
theorem t_X5_opens {x : GX} (f : Fx x cX5_opens RX5 2 (rmc 1 0 0)) {o0 : Nat} {i1 : Int32} {μ : Me} {Q : Int32 → Me → Prop} (hq : Rt x (some .boolean) (qI Q)) (h : S_X5_opens o0 i1 μ Q) : G x 2 0 [(0, .ref (gB x + o0)), (1, .int i1)] [] μ 0 0 := by
  unfold S_X5_opens at h
  refine g_iload_n f 1 dX5_opens_0 rfl rfl ?_
  refine g_bipush f 8 dX5_opens_1 kb_8 ?_
  refine g_ic_lt f 12 dX5_opens_3 rfl h (fun h => ?_) (fun h => ?_)
  · refine g_aload_n f 0 dX5_opens_12 rfl rfl ?_
    obtain ⟨v1, h⟩ := h
    refine g_callV f mk_X5_42 v1 (c_X5_next h) dX5_opens_13 rfl rfl (Nat.le_of_ble_eq_true rfl) (rm_ok (by decide) (by decide)) ⟨Nat.le_of_ble_eq_true rfl, Nat.le_of_ble_eq_true rfl⟩ (kV fun μ2 x3 h => ?_)
    refine g_iconst f 1 dX5_opens_16 kc_1 ?_
    exact g_zret f hq (Nat.le_of_ble_eq_true rfl) (Nat.le_of_ble_eq_true rfl) dX5_opens_17 zb_1.1 h
  · refine g_aload_n f 0 dX5_opens_6 rfl rfl ?_
    refine g_iconst f 3 dX5_opens_7 kc_3 ?_
    obtain ⟨v5, h⟩ := h
    refine g_callV f mk_X5_71 v5 (c_X5_refuse h) dX5_opens_8 rfl rfl (Nat.le_of_ble_eq_true rfl) (rm_ok (by decide) (by decide)) ⟨Nat.le_of_ble_eq_true rfl, Nat.le_of_ble_eq_true rfl⟩ (kI fun r8 μ6 x7 h => ?_)
    exact g_zret f hq (Nat.le_of_ble_eq_true rfl) (Nat.le_of_ble_eq_true rfl) dX5_opens_11 h.1.1 h.2
theorem c_X5_opens {Ω : OM} {o0 : Nat} {i1 : Int32} {μ : Me} {Q : Int32 → Me → Prop} (h : S_X5_opens o0 i1 μ Q) : CT Ω yX5_opens cX5_opens 2 (some .boolean) (rmc 1 0 0) [.ref (oB Ω + o0), .int i1] μ (qI Q) := CT_of (by decide) rfl (by simp [lg_sl, Value.category]) (fun x hΩ f hq hi => by subst hΩ; exact t_X5_opens f hq h)
theorem dX5_accept_0 : decode cX5_accept 0 = .ok (.aload_n 0, 1) := by decide +kernel
theorem dX5_accept_1 : decode cX5_accept 1 = .ok (.getfield 45, 3) := by decide +kernel
theorem dX5_accept_4 : decode cX5_accept 4 = .ok (.iload_n 1, 1) := by decide +kernel
theorem dX5_accept_5 : decode cX5_accept 5 = .ok (.if_icmp .eq 9, 3) := by decide +kernel
theorem dX5_accept_8 : decode cX5_accept 8 = .ok (.aload_n 0, 1) := by decide +kernel
theorem dX5_accept_9 : decode cX5_accept 9 = .ok (.iconst 1, 1) := by decide +kernel
theorem dX5_accept_10 : decode cX5_accept 10 = .ok (.invokevirtual 71, 3) := by decide +kernel
theorem dX5_accept_13 : decode cX5_accept 13 = .ok (.ireturn, 1) := by decide +kernel
theorem dX5_accept_14 : decode cX5_accept 14 = .ok (.aload_n 0, 1) := by decide +kernel
theorem dX5_accept_15 : decode cX5_accept 15 = .ok (.invokevirtual 42, 3) := by decide +kernel
theorem dX5_accept_18 : decode cX5_accept 18 = .ok (.iconst 1, 1) := by decide +kernel
theorem dX5_accept_19 : decode cX5_accept 19 = .ok (.ireturn, 1) := by decide +kernel
def S_X5_accept (o0 : Nat) (i1 : Int32) (μ : Me) (Q : Int32 → Me → Prop) : Prop := mok μ o0 5 ∧ (((mgi μ o0 3) = i1 → S_X5_next o0 μ (fun μ2 => Q 1 μ2)) ∧ (¬ (mgi μ o0 3) = i1 → S_X5_refuse o0 1 μ (fun r7 μ5 => zb r7 ∧ Q r7 μ5)))
set_option maxHeartbeats 4000000 in
set_option maxRecDepth 100000 in
theorem t_X5_accept {x : GX} (f : Fx x cX5_accept RX5 2 (rmc 1 0 0)) {o0 : Nat} {i1 : Int32} {μ : Me} {Q : Int32 → Me → Prop} (hq : Rt x (some .boolean) (qI Q)) (h : S_X5_accept o0 i1 μ Q) : G x 2 0 [(0, .ref (gB x + o0)), (1, .int i1)] [] μ 0 0 := by
  unfold S_X5_accept at h
  refine g_aload_n f 0 dX5_accept_0 rfl rfl ?_
  obtain ⟨v1, h⟩ := h
  refine g_getI f fk_X5_45 v1 dX5_accept_1 rfl ?_
  refine g_iload_n f 1 dX5_accept_4 rfl rfl ?_
  refine g_ic_eq f 14 dX5_accept_5 rfl h (fun h => ?_) (fun h => ?_)
  · refine g_aload_n f 0 dX5_accept_14 rfl rfl ?_
    refine g_callV f mk_X5_42 v1 (c_X5_next h) dX5_accept_15 rfl rfl (Nat.le_of_ble_eq_true rfl) (rm_ok (by decide) (by decide)) ⟨Nat.le_of_ble_eq_true rfl, Nat.le_of_ble_eq_true rfl⟩ (kV fun μ2 x3 h => ?_)
    refine g_iconst f 1 dX5_accept_18 kc_1 ?_
    exact g_zret f hq (Nat.le_of_ble_eq_true rfl) (Nat.le_of_ble_eq_true rfl) dX5_accept_19 zb_1.1 h
  · refine g_aload_n f 0 dX5_accept_8 rfl rfl ?_
    refine g_iconst f 1 dX5_accept_9 kc_1 ?_
    refine g_callV f mk_X5_71 v1 (c_X5_refuse h) dX5_accept_10 rfl rfl (Nat.le_of_ble_eq_true rfl) (rm_ok (by decide) (by decide)) ⟨Nat.le_of_ble_eq_true rfl, Nat.le_of_ble_eq_true rfl⟩ (kI fun r7 μ5 x6 h => ?_)
    exact g_zret f hq (Nat.le_of_ble_eq_true rfl) (Nat.le_of_ble_eq_true rfl) dX5_accept_13 h.1.1 h.2
theorem c_X5_accept {Ω : OM} {o0 : Nat} {i1 : Int32} {μ : Me} {Q : Int32 → Me → Prop} (h : S_X5_accept o0 i1 μ Q) : CT Ω yX5_accept cX5_accept 2 (some .boolean) (rmc 1 0 0) [.ref (oB Ω + o0), .int i1] μ (qI Q) := CT_of (by decide) rfl (by simp [lg_sl, Value.category]) (fun x hΩ f hq hi => by subst hΩ; exact t_X5_accept f hq h)
theorem dX5_put_0 : decode cX5_put 0 = .ok (.aload_n 0, 1) := by decide +kernel
theorem dX5_put_1 : decode cX5_put 1 = .ok (.getfield 21, 3) := by decide +kernel
theorem dX5_put_4 : decode cX5_put 4 = .ok (.iload_n 1, 1) := by decide +kernel
theorem dX5_put_5 : decode cX5_put 5 = .ok (.iconst 0, 1) := by decide +kernel
theorem dX5_put_6 : decode cX5_put 6 = .ok (.invokevirtual 111, 3) := by decide +kernel
theorem dX5_put_9 : decode cX5_put 9 = .ok (.pop, 1) := by decide +kernel
theorem dX5_put_10 : decode cX5_put 10 = .ok (.iconst 1, 1) := by decide +kernel
theorem dX5_put_11 : decode cX5_put 11 = .ok (.ireturn, 1) := by decide +kernel
def S_X5_put (o0 : Nat) (i1 : Int32) (μ : Me) (Q : Int32 → Me → Prop) : Prop := mok μ o0 5 ∧ ∃ t2, mgr μ o0 1 = some t2 ∧ mok μ t2 7 ∧ S_X7_add t2 i1 0 μ (fun r6 μ4 => Q 1 μ4)
set_option maxHeartbeats 4000000 in
set_option maxRecDepth 100000 in
theorem t_X5_put {x : GX} (f : Fx x cX5_put RX5 2 (rmc 1 0 0)) {o0 : Nat} {i1 : Int32} {μ : Me} {Q : Int32 → Me → Prop} (hq : Rt x (some .boolean) (qI Q)) (h : S_X5_put o0 i1 μ Q) : G x 2 0 [(0, .ref (gB x + o0)), (1, .int i1)] [] μ 0 0 := by
  unfold S_X5_put at h
  refine g_aload_n f 0 dX5_put_0 rfl rfl ?_
  obtain ⟨v1, h⟩ := h
  refine g_getR f fk_X5_21 v1 dX5_put_1 rfl h (fun t2 h => ?_)
  refine g_iload_n f 1 dX5_put_4 rfl rfl ?_
  refine g_iconst f 0 dX5_put_5 kc_0 ?_
  obtain ⟨v3, h⟩ := h
  refine g_callV f mk_X5_111 v3 (c_X7_add h) dX5_put_6 rfl rfl (Nat.le_of_ble_eq_true rfl) (rm_ok (by decide) (by decide)) ⟨Nat.le_of_ble_eq_true rfl, Nat.le_of_ble_eq_true rfl⟩ (kI fun r6 μ4 x5 h => ?_)
  refine g_pop f dX5_put_9 rfl ?_
  refine g_iconst f 1 dX5_put_10 kc_1 ?_
  exact g_zret f hq (Nat.le_of_ble_eq_true rfl) (Nat.le_of_ble_eq_true rfl) dX5_put_11 zb_1.1 h
theorem c_X5_put {Ω : OM} {o0 : Nat} {i1 : Int32} {μ : Me} {Q : Int32 → Me → Prop} (h : S_X5_put o0 i1 μ Q) : CT Ω yX5_put cX5_put 2 (some .boolean) (rmc 1 0 0) [.ref (oB Ω + o0), .int i1] μ (qI Q) := CT_of (by decide) rfl (by simp [lg_sl, Value.category]) (fun x hΩ f hq hi => by subst hΩ; exact t_X5_put f hq h)
theorem dX5_name_0 : decode cX5_name 0 = .ok (.aload_n 0, 1) := by decide +kernel
theorem dX5_name_1 : decode cX5_name 1 = .ok (.getfield 45, 3) := by decide +kernel
theorem dX5_name_4 : decode cX5_name 4 = .ok (.invokestatic 129, 3) := by decide +kernel
theorem dX5_name_7 : decode cX5_name 7 = .ok (.ifCond .ne 9, 3) := by decide +kernel
theorem dX5_name_10 : decode cX5_name 10 = .ok (.aload_n 0, 1) := by decide +kernel
theorem dX5_name_11 : decode cX5_name 11 = .ok (.iconst 1, 1) := by decide +kernel
theorem dX5_name_12 : decode cX5_name 12 = .ok (.invokevirtual 71, 3) := by decide +kernel
theorem dX5_name_15 : decode cX5_name 15 = .ok (.ireturn, 1) := by decide +kernel
theorem dX5_name_16 : decode cX5_name 16 = .ok (.aload_n 0, 1) := by decide +kernel
theorem dX5_name_17 : decode cX5_name 17 = .ok (.getfield 45, 3) := by decide +kernel
theorem dX5_name_20 : decode cX5_name 20 = .ok (.bipush 13, 2) := by decide +kernel
theorem dX5_name_22 : decode cX5_name 22 = .ok (.if_icmp .ne 7, 3) := by decide +kernel
theorem dX5_name_25 : decode cX5_name 25 = .ok (.iconst 1, 1) := by decide +kernel
theorem dX5_name_26 : decode cX5_name 26 = .ok (.goto 4, 3) := by decide +kernel
theorem dX5_name_29 : decode cX5_name 29 = .ok (.iconst 0, 1) := by decide +kernel
theorem dX5_name_30 : decode cX5_name 30 = .ok (.istore_n 1, 1) := by decide +kernel
theorem dX5_name_31 : decode cX5_name 31 = .ok (.aload_n 0, 1) := by decide +kernel
theorem dX5_name_32 : decode cX5_name 32 = .ok (.getfield 45, 3) := by decide +kernel
theorem dX5_name_35 : decode cX5_name 35 = .ok (.bipush 14, 2) := by decide +kernel
theorem dX5_name_37 : decode cX5_name 37 = .ok (.if_icmp .eq 12, 3) := by decide +kernel
theorem dX5_name_40 : decode cX5_name 40 = .ok (.aload_n 0, 1) := by decide +kernel
theorem dX5_name_41 : decode cX5_name 41 = .ok (.getfield 45, 3) := by decide +kernel
theorem dX5_name_44 : decode cX5_name 44 = .ok (.bipush 15, 2) := by decide +kernel
theorem dX5_name_46 : decode cX5_name 46 = .ok (.if_icmp .ne 7, 3) := by decide +kernel
theorem dX5_name_49 : decode cX5_name 49 = .ok (.iconst 1, 1) := by decide +kernel
theorem dX5_name_50 : decode cX5_name 50 = .ok (.goto 4, 3) := by decide +kernel
theorem dX5_name_53 : decode cX5_name 53 = .ok (.iconst 0, 1) := by decide +kernel
theorem dX5_name_54 : decode cX5_name 54 = .ok (.istore_n 2, 1) := by decide +kernel
theorem dX5_name_55 : decode cX5_name 55 = .ok (.iload_n 1, 1) := by decide +kernel
theorem dX5_name_56 : decode cX5_name 56 = .ok (.ifCond .eq 10, 3) := by decide +kernel
theorem dX5_name_59 : decode cX5_name 59 = .ok (.aload_n 0, 1) := by decide +kernel
theorem dX5_name_60 : decode cX5_name 60 = .ok (.getfield 85, 3) := by decide +kernel
theorem dX5_name_63 : decode cX5_name 63 = .ok (.ifCond .ne 15, 3) := by decide +kernel
theorem dX5_name_66 : decode cX5_name 66 = .ok (.iload_n 2, 1) := by decide +kernel
theorem dX5_name_67 : decode cX5_name 67 = .ok (.ifCond .eq 17, 3) := by decide +kernel
theorem dX5_name_70 : decode cX5_name 70 = .ok (.aload_n 0, 1) := by decide +kernel
theorem dX5_name_71 : decode cX5_name 71 = .ok (.getfield 85, 3) := by decide +kernel
theorem dX5_name_74 : decode cX5_name 74 = .ok (.iconst 1, 1) := by decide +kernel
theorem dX5_name_75 : decode cX5_name 75 = .ok (.if_icmp .eq 9, 3) := by decide +kernel
theorem dX5_name_78 : decode cX5_name 78 = .ok (.aload_n 0, 1) := by decide +kernel
theorem dX5_name_79 : decode cX5_name 79 = .ok (.iconst 5, 1) := by decide +kernel
theorem dX5_name_80 : decode cX5_name 80 = .ok (.invokevirtual 71, 3) := by decide +kernel
theorem dX5_name_83 : decode cX5_name 83 = .ok (.ireturn, 1) := by decide +kernel
theorem dX5_name_84 : decode cX5_name 84 = .ok (.aload_n 0, 1) := by decide +kernel
theorem dX5_name_85 : decode cX5_name 85 = .ok (.getfield 21, 3) := by decide +kernel
theorem dX5_name_88 : decode cX5_name 88 = .ok (.aload_n 0, 1) := by decide +kernel
theorem dX5_name_89 : decode cX5_name 89 = .ok (.getfield 45, 3) := by decide +kernel
theorem dX5_name_92 : decode cX5_name 92 = .ok (.iconst 0, 1) := by decide +kernel
theorem dX5_name_93 : decode cX5_name 93 = .ok (.invokevirtual 111, 3) := by decide +kernel
theorem dX5_name_96 : decode cX5_name 96 = .ok (.pop, 1) := by decide +kernel
theorem dX5_name_97 : decode cX5_name 97 = .ok (.aload_n 0, 1) := by decide +kernel
theorem dX5_name_98 : decode cX5_name 98 = .ok (.invokevirtual 42, 3) := by decide +kernel
theorem dX5_name_101 : decode cX5_name 101 = .ok (.iconst 1, 1) := by decide +kernel
theorem dX5_name_102 : decode cX5_name 102 = .ok (.ireturn, 1) := by decide +kernel
def B_X5_name_84 (o0 : Nat) (μ : Me) (Q : Int32 → Me → Prop) : Prop := mok μ o0 5 ∧ ∃ t7, mgr μ o0 1 = some t7 ∧ mok μ t7 7 ∧ S_X7_add t7 (mgi μ o0 3) 0 μ (fun r11 μ9 => S_X5_next o0 μ9 (fun μ12 => Q 1 μ12))
set_option maxHeartbeats 4000000 in
set_option maxRecDepth 100000 in
theorem tB_X5_name_84 {x : GX} (f : Fx x cX5_name RX5 3 (rmc 1 0 0)) {o0 : Nat} {μ : Me} {Q : Int32 → Me → Prop} (hq : Rt x (some .boolean) (qI Q)) (h : B_X5_name_84 o0 μ Q) : G x 3 84 [(0, .ref (gB x + o0))] [] μ 0 0 := by
  unfold B_X5_name_84 at h
  refine g_aload_n f 0 dX5_name_84 rfl rfl ?_
  obtain ⟨v6, h⟩ := h
  refine g_getR f fk_X5_21 v6 dX5_name_85 rfl h (fun t7 h => ?_)
  refine g_aload_n f 0 dX5_name_88 rfl rfl ?_
  refine g_getI f fk_X5_45 v6 dX5_name_89 rfl ?_
  refine g_iconst f 0 dX5_name_92 kc_0 ?_
  obtain ⟨v8, h⟩ := h
  refine g_callV f mk_X5_111 v8 (c_X7_add h) dX5_name_93 rfl rfl (Nat.le_of_ble_eq_true rfl) (rm_ok (by decide) (by decide)) ⟨Nat.le_of_ble_eq_true rfl, Nat.le_of_ble_eq_true rfl⟩ (kI fun r11 μ9 x10 h => ?_)
  refine g_pop f dX5_name_96 rfl ?_
  refine g_aload_n f 0 dX5_name_97 rfl rfl ?_
  have v6 := mex_ok x10 v6
  refine g_callV f mk_X5_42 v6 (c_X5_next h) dX5_name_98 rfl rfl (Nat.le_of_ble_eq_true rfl) (rm_ok (by decide) (by decide)) ⟨Nat.le_of_ble_eq_true rfl, Nat.le_of_ble_eq_true rfl⟩ (kV fun μ12 x13 h => ?_)
  refine g_iconst f 1 dX5_name_101 kc_1 ?_
  exact g_zret f hq (Nat.le_of_ble_eq_true rfl) (Nat.le_of_ble_eq_true rfl) dX5_name_102 zb_1.1 h
def B_X5_name_78 (o0 : Nat) (μ : Me) (Q : Int32 → Me → Prop) : Prop := mok μ o0 5 ∧ S_X5_refuse o0 5 μ (fun r19 μ17 => zb r19 ∧ Q r19 μ17)
set_option maxHeartbeats 4000000 in
set_option maxRecDepth 100000 in
theorem tB_X5_name_78 {x : GX} (f : Fx x cX5_name RX5 3 (rmc 1 0 0)) {o0 : Nat} {μ : Me} {Q : Int32 → Me → Prop} (hq : Rt x (some .boolean) (qI Q)) (h : B_X5_name_78 o0 μ Q) : G x 3 78 [(0, .ref (gB x + o0))] [] μ 0 0 := by
  unfold B_X5_name_78 at h
  refine g_aload_n f 0 dX5_name_78 rfl rfl ?_
  refine g_iconst f 5 dX5_name_79 kc_5 ?_
  obtain ⟨v16, h⟩ := h
  refine g_callV f mk_X5_71 v16 (c_X5_refuse h) dX5_name_80 rfl rfl (Nat.le_of_ble_eq_true rfl) (rm_ok (by decide) (by decide)) ⟨Nat.le_of_ble_eq_true rfl, Nat.le_of_ble_eq_true rfl⟩ (kI fun r19 μ17 x18 h => ?_)
  exact g_zret f hq (Nat.le_of_ble_eq_true rfl) (Nat.le_of_ble_eq_true rfl) dX5_name_83 h.1.1 h.2
def B_X5_name_66 (o0 : Nat) (i2 : Int32) (μ : Me) (Q : Int32 → Me → Prop) : Prop := ((i2 = 0 → B_X5_name_84 o0 μ Q) ∧ (¬ i2 = 0 → mok μ o0 5 ∧ (((mgi μ o0 5) = 1 → B_X5_name_84 o0 μ Q) ∧ (¬ (mgi μ o0 5) = 1 → B_X5_name_78 o0 μ Q))))
set_option maxHeartbeats 4000000 in
set_option maxRecDepth 100000 in
theorem tB_X5_name_66 {x : GX} (f : Fx x cX5_name RX5 3 (rmc 1 0 0)) {o0 : Nat} {i2 : Int32} {μ : Me} {Q : Int32 → Me → Prop} (hq : Rt x (some .boolean) (qI Q)) (h : B_X5_name_66 o0 i2 μ Q) : G x 3 66 [(0, .ref (gB x + o0)), (2, .int i2)] [] μ 0 0 := by
  unfold B_X5_name_66 at h
  refine g_iload_n f 1 dX5_name_66 rfl rfl ?_
  refine g_if_eq f 84 dX5_name_67 rfl h (fun h => ?_) (fun h => ?_)
  · exact h_sub [0] rfl (tB_X5_name_84 f hq h)
  · refine g_aload_n f 0 dX5_name_70 rfl rfl ?_
    obtain ⟨v15, h⟩ := h
    refine g_getI f fk_X5_85 v15 dX5_name_71 rfl ?_
    refine g_iconst f 1 dX5_name_74 kc_1 ?_
    refine g_ic_eq f 84 dX5_name_75 rfl h (fun h => ?_) (fun h => ?_)
    · exact h_sub [0] rfl (tB_X5_name_84 f hq h)
    · exact h_sub [0] rfl (tB_X5_name_78 f hq h)
def B_X5_name_54 (o0 : Nat) (i1 : Int32) (s0 : Int32) (μ : Me) (Q : Int32 → Me → Prop) : Prop := ((i1 = 0 → B_X5_name_66 o0 s0 μ Q) ∧ (¬ i1 = 0 → mok μ o0 5 ∧ ((¬ (mgi μ o0 5) = 0 → B_X5_name_78 o0 μ Q) ∧ ((mgi μ o0 5) = 0 → B_X5_name_66 o0 s0 μ Q))))
set_option maxHeartbeats 4000000 in
set_option maxRecDepth 100000 in
theorem tB_X5_name_54 {x : GX} (f : Fx x cX5_name RX5 3 (rmc 1 0 0)) {o0 : Nat} {i1 : Int32} {s0 : Int32} {μ : Me} {Q : Int32 → Me → Prop} (hq : Rt x (some .boolean) (qI Q)) (h : B_X5_name_54 o0 i1 s0 μ Q) : G x 3 54 [(0, .ref (gB x + o0)), (1, .int i1)] [.int s0] μ 0 0 := by
  unfold B_X5_name_54 at h
  refine h_istore_n f dX5_name_54 rfl (by decide) ?_
  refine g_iload_n f 2 dX5_name_55 rfl rfl ?_
  refine g_if_eq f 66 dX5_name_56 rfl h (fun h => ?_) (fun h => ?_)
  · exact h_sub [1, 0] rfl (tB_X5_name_66 f hq h)
  · refine g_aload_n f 1 dX5_name_59 rfl rfl ?_
    obtain ⟨v20, h⟩ := h
    refine g_getI f fk_X5_85 v20 dX5_name_60 rfl ?_
    refine g_if_ne f 78 dX5_name_63 rfl h (fun h => ?_) (fun h => ?_)
    · exact h_sub [1] rfl (tB_X5_name_78 f hq h)
    · exact h_sub [1, 0] rfl (tB_X5_name_66 f hq h)
def B_X5_name_30 (o0 : Nat) (s0 : Int32) (μ : Me) (Q : Int32 → Me → Prop) : Prop := mok μ o0 5 ∧ (((mgi μ o0 3) = 14 → B_X5_name_54 o0 s0 1 μ Q) ∧ (¬ (mgi μ o0 3) = 14 → ((¬ (mgi μ o0 3) = 15 → B_X5_name_54 o0 s0 0 μ Q) ∧ ((mgi μ o0 3) = 15 → B_X5_name_54 o0 s0 1 μ Q))))
set_option maxHeartbeats 4000000 in
set_option maxRecDepth 100000 in
theorem tB_X5_name_30 {x : GX} (f : Fx x cX5_name RX5 3 (rmc 1 0 0)) {o0 : Nat} {s0 : Int32} {μ : Me} {Q : Int32 → Me → Prop} (hq : Rt x (some .boolean) (qI Q)) (h : B_X5_name_30 o0 s0 μ Q) : G x 3 30 [(0, .ref (gB x + o0))] [.int s0] μ 0 0 := by
  unfold B_X5_name_30 at h
  refine h_istore_n f dX5_name_30 rfl (by decide) ?_
  refine g_aload_n f 1 dX5_name_31 rfl rfl ?_
  obtain ⟨v5, h⟩ := h
  refine g_getI f fk_X5_45 v5 dX5_name_32 rfl ?_
  refine g_bipush f 14 dX5_name_35 kb_14 ?_
  refine g_ic_eq f 49 dX5_name_37 rfl h (fun h => ?_) (fun h => ?_)
  · refine g_iconst f 1 dX5_name_49 kc_1 ?_
    refine g_goto f 54 dX5_name_50 rfl ?_
    exact h_sub [1, 0] rfl (tB_X5_name_54 f hq h)
  · refine g_aload_n f 1 dX5_name_40 rfl rfl ?_
    refine g_getI f fk_X5_45 v5 dX5_name_41 rfl ?_
    refine g_bipush f 15 dX5_name_44 kb_15 ?_
    refine g_ic_ne f 53 dX5_name_46 rfl h (fun h => ?_) (fun h => ?_)
    · refine g_iconst f 0 dX5_name_53 kc_0 ?_
      exact h_sub [1, 0] rfl (tB_X5_name_54 f hq h)
    · refine g_iconst f 1 dX5_name_49 kc_1 ?_
      refine g_goto f 54 dX5_name_50 rfl ?_
      exact h_sub [1, 0] rfl (tB_X5_name_54 f hq h)
def S_X5_name (o0 : Nat) (μ : Me) (Q : Int32 → Me → Prop) : Prop := mok μ o0 5 ∧ S_X10_isName (mgi μ o0 3) μ (fun r4 μ2 => ((¬ r4 = 0 → ((¬ (mgi μ2 o0 3) = 13 → B_X5_name_30 o0 0 μ2 Q) ∧ ((mgi μ2 o0 3) = 13 → B_X5_name_30 o0 1 μ2 Q))) ∧ (r4 = 0 → S_X5_refuse o0 1 μ2 (fun r23 μ21 => zb r23 ∧ Q r23 μ21))))
set_option maxHeartbeats 4000000 in
set_option maxRecDepth 100000 in
theorem t_X5_name {x : GX} (f : Fx x cX5_name RX5 3 (rmc 1 0 0)) {o0 : Nat} {μ : Me} {Q : Int32 → Me → Prop} (hq : Rt x (some .boolean) (qI Q)) (h : S_X5_name o0 μ Q) : G x 3 0 [(0, .ref (gB x + o0))] [] μ 0 0 := by
  unfold S_X5_name at h
  refine g_aload_n f 0 dX5_name_0 rfl rfl ?_
  obtain ⟨v1, h⟩ := h
  refine g_getI f fk_X5_45 v1 dX5_name_1 rfl ?_
  refine g_callSn f mk_X5_129 (c_X10_isName h) dX5_name_4 rfl rfl (Nat.le_of_ble_eq_true rfl) (rm_ok (by decide) (by decide)) ⟨Nat.le_of_ble_eq_true rfl, Nat.le_of_ble_eq_true rfl⟩ (kI fun r4 μ2 x3 h => ?_)
  refine g_if_ne f 16 dX5_name_7 rfl h (fun h => ?_) (fun h => ?_)
  · refine g_aload_n f 0 dX5_name_16 rfl rfl ?_
    have v1 := mex_ok x3 v1
    refine g_getI f fk_X5_45 v1 dX5_name_17 rfl ?_
    refine g_bipush f 13 dX5_name_20 kb_13 ?_
    refine g_ic_ne f 29 dX5_name_22 rfl h (fun h => ?_) (fun h => ?_)
    · refine g_iconst f 0 dX5_name_29 kc_0 ?_
      exact h_sub [0] rfl (tB_X5_name_30 f hq h)
    · refine g_iconst f 1 dX5_name_25 kc_1 ?_
      refine g_goto f 30 dX5_name_26 rfl ?_
      exact h_sub [0] rfl (tB_X5_name_30 f hq h)
  · refine g_aload_n f 0 dX5_name_10 rfl rfl ?_
    refine g_iconst f 1 dX5_name_11 kc_1 ?_
    have v1 := mex_ok x3 v1
    refine g_callV f mk_X5_71 v1 (c_X5_refuse h) dX5_name_12 rfl rfl (Nat.le_of_ble_eq_true rfl) (rm_ok (by decide) (by decide)) ⟨Nat.le_of_ble_eq_true rfl, Nat.le_of_ble_eq_true rfl⟩ (kI fun r23 μ21 x22 h => ?_)
    exact g_zret f hq (Nat.le_of_ble_eq_true rfl) (Nat.le_of_ble_eq_true rfl) dX5_name_15 h.1.1 h.2
theorem c_X5_name {Ω : OM} {o0 : Nat} {μ : Me} {Q : Int32 → Me → Prop} (h : S_X5_name o0 μ Q) : CT Ω yX5_name cX5_name 3 (some .boolean) (rmc 1 0 0) [.ref (oB Ω + o0)] μ (qI Q) := CT_of (by decide) rfl (by simp [lg_sl, Value.category]) (fun x hΩ f hq hi => by subst hΩ; exact t_X5_name f hq h)
theorem dX7_skipToHere_0 : decode cX7_skipToHere 0 = .ok (.iload_n 1, 1) := by decide +kernel
theorem dX7_skipToHere_1 : decode cX7_skipToHere 1 = .ok (.ifCond .lt 20, 3) := by decide +kernel
theorem dX7_skipToHere_4 : decode cX7_skipToHere 4 = .ok (.iload_n 1, 1) := by decide +kernel
theorem dX7_skipToHere_5 : decode cX7_skipToHere 5 = .ok (.sipush 300, 3) := by decide +kernel
theorem dX7_skipToHere_8 : decode cX7_skipToHere 8 = .ok (.if_icmp .ge 13, 3) := by decide +kernel
theorem dX7_skipToHere_11 : decode cX7_skipToHere 11 = .ok (.aload_n 0, 1) := by decide +kernel
theorem dX7_skipToHere_12 : decode cX7_skipToHere 12 = .ok (.getfield 15, 3) := by decide +kernel
theorem dX7_skipToHere_15 : decode cX7_skipToHere 15 = .ok (.iload_n 1, 1) := by decide +kernel
theorem dX7_skipToHere_16 : decode cX7_skipToHere 16 = .ok (.aload_n 0, 1) := by decide +kernel
theorem dX7_skipToHere_17 : decode cX7_skipToHere 17 = .ok (.getfield 21, 3) := by decide +kernel
theorem dX7_skipToHere_20 : decode cX7_skipToHere 20 = .ok (.iastore, 1) := by decide +kernel
theorem dX7_skipToHere_21 : decode cX7_skipToHere 21 = .ok (.return_, 1) := by decide +kernel
def S_X7_skipToHere (o0 : Nat) (i1 : Int32) (μ : Me) (Q : Me → Prop) : Prop := ((i1 < 0 → Q μ) ∧ (¬ i1 < 0 → ((300 ≤ i1 → Q μ) ∧ (¬ 300 ≤ i1 → mok μ o0 7 ∧ ∃ t2, mgr μ o0 1 = some t2 ∧ mok μ t2 12 ∧ vp_in i1 (mln μ t2) ∧ ∀ μ4, μ4 = msi μ t2 i1.toNatClampNeg (mgi μ o0 2) → Q μ4))))
set_option maxHeartbeats 4000000 in
set_option maxRecDepth 100000 in
theorem t_X7_skipToHere {x : GX} (f : Fx x cX7_skipToHere RX7 2 (rmc 0 0 0)) {o0 : Nat} {i1 : Int32} {μ : Me} {Q : Me → Prop} (hq : Rt x none (qV Q)) (h : S_X7_skipToHere o0 i1 μ Q) : G x 2 0 [(0, .ref (gB x + o0)), (1, .int i1)] [] μ 0 0 := by
  unfold S_X7_skipToHere at h
  refine g_iload_n f 1 dX7_skipToHere_0 rfl rfl ?_
  refine g_if_lt f 21 dX7_skipToHere_1 rfl h (fun h => ?_) (fun h => ?_)
  · exact g_vret f hq (Nat.le_of_ble_eq_true rfl) (Nat.le_of_ble_eq_true rfl) dX7_skipToHere_21 h
  · refine g_iload_n f 1 dX7_skipToHere_4 rfl rfl ?_
    refine g_sipush f 300 dX7_skipToHere_5 ks_300 ?_
    refine g_ic_ge f 21 dX7_skipToHere_8 rfl h (fun h => ?_) (fun h => ?_)
    · exact g_vret f hq (Nat.le_of_ble_eq_true rfl) (Nat.le_of_ble_eq_true rfl) dX7_skipToHere_21 h
    · refine g_aload_n f 0 dX7_skipToHere_11 rfl rfl ?_
      obtain ⟨v1, h⟩ := h
      refine g_getR f fk_X7_15 v1 dX7_skipToHere_12 rfl h (fun t2 h => ?_)
      refine g_iload_n f 1 dX7_skipToHere_15 rfl rfl ?_
      refine g_aload_n f 0 dX7_skipToHere_16 rfl rfl ?_
      refine g_getI f fk_X7_21 v1 dX7_skipToHere_17 rfl ?_
      obtain ⟨v3, h⟩ := h
      refine g_iast f v3 dX7_skipToHere_20 h (fun h => ?_)
      exact g_vret f hq (Nat.le_of_ble_eq_true rfl) (Nat.le_of_ble_eq_true rfl) dX7_skipToHere_21 h
theorem c_X7_skipToHere {Ω : OM} {o0 : Nat} {i1 : Int32} {μ : Me} {Q : Me → Prop} (h : S_X7_skipToHere o0 i1 μ Q) : CT Ω yX7_skipToHere cX7_skipToHere 2 none (rmc 0 0 0) [.ref (oB Ω + o0), .int i1] μ (qV Q) := CT_of (by decide) rfl (by simp [lg_sl, Value.category]) (fun x hΩ f hq hi => by subst hΩ; exact t_X7_skipToHere f hq h)
def RH (Ω : OM) (R : Nat → Nat → Int32 → Me → (Int32 → Me → Prop) → Prop) (d : Nat) : Prop := (∀ (o : Nat) (i : Int32) (μ : Me) (Q : Int32 → Me → Prop), R 0 o i μ Q → CT Ω yX5_sum cX5_sum 5 (some .boolean) (rmc (40 + d) 0 0) [.ref (oB Ω + o), .int i] μ (qI Q)) ∧ (∀ (o : Nat) (i : Int32) (μ : Me) (Q : Int32 → Me → Prop), R 1 o i μ Q → CT Ω yX5_product cX5_product 5 (some .boolean) (rmc (40 + d) 0 0) [.ref (oB Ω + o), .int i] μ (qI Q)) ∧ (∀ (o : Nat) (i : Int32) (μ : Me) (Q : Int32 → Me → Prop), R 2 o i μ Q → CT Ω yX5_one cX5_one 2 (some .boolean) (rmc (40 + d) 0 0) [.ref (oB Ω + o), .int i] μ (qI Q)) ∧ (∀ (o : Nat) (i : Int32) (μ : Me) (Q : Int32 → Me → Prop), R 3 o i μ Q → CT Ω yX5_choice cX5_choice 4 (some .boolean) (rmc (40 + d) 0 0) [.ref (oB Ω + o), .int i] μ (qI Q)) ∧ (∀ (o : Nat) (i : Int32) (μ : Me) (Q : Int32 → Me → Prop), R 4 o i μ Q → CT Ω yX5_either cX5_either 5 (some .boolean) (rmc (40 + d) 0 0) [.ref (oB Ω + o), .int i] μ (qI Q)) ∧ (∀ (o : Nat) (i : Int32) (μ : Me) (Q : Int32 → Me → Prop), R 5 o i μ Q → CT Ω yX5_both cX5_both 4 (some .boolean) (rmc (40 + d) 0 0) [.ref (oB Ω + o), .int i] μ (qI Q)) ∧ (∀ (o : Nat) (i : Int32) (μ : Me) (Q : Int32 → Me → Prop), R 6 o i μ Q → CT Ω yX5_ask cX5_ask 3 (some .boolean) (rmc (40 + d) 0 0) [.ref (oB Ω + o), .int i] μ (qI Q))
theorem dX5_sum_0 : decode cX5_sum 0 = .ok (.aload_n 0, 1) := by decide +kernel
theorem dX5_sum_1 : decode cX5_sum 1 = .ok (.iload_n 1, 1) := by decide +kernel
theorem dX5_sum_2 : decode cX5_sum 2 = .ok (.invokevirtual 108, 3) := by decide +kernel
theorem dX5_sum_5 : decode cX5_sum 5 = .ok (.istore_n 2, 1) := by decide +kernel
theorem dX5_sum_6 : decode cX5_sum 6 = .ok (.iconst 0, 1) := by decide +kernel
theorem dX5_sum_7 : decode cX5_sum 7 = .ok (.istore_n 3, 1) := by decide +kernel
theorem dX5_sum_8 : decode cX5_sum 8 = .ok (.iload_n 3, 1) := by decide +kernel
theorem dX5_sum_9 : decode cX5_sum 9 = .ok (.sipush 300, 3) := by decide +kernel
theorem dX5_sum_12 : decode cX5_sum 12 = .ok (.if_icmp .ge 58, 3) := by decide +kernel
theorem dX5_sum_15 : decode cX5_sum 15 = .ok (.iload_n 2, 1) := by decide +kernel
theorem dX5_sum_16 : decode cX5_sum 16 = .ok (.ifCond .eq 54, 3) := by decide +kernel
theorem dX5_sum_19 : decode cX5_sum 19 = .ok (.aload_n 0, 1) := by decide +kernel
theorem dX5_sum_20 : decode cX5_sum 20 = .ok (.getfield 45, 3) := by decide +kernel
theorem dX5_sum_23 : decode cX5_sum 23 = .ok (.bipush 30, 2) := by decide +kernel
theorem dX5_sum_25 : decode cX5_sum 25 = .ok (.if_icmp .eq 12, 3) := by decide +kernel
theorem dX5_sum_28 : decode cX5_sum 28 = .ok (.aload_n 0, 1) := by decide +kernel
theorem dX5_sum_29 : decode cX5_sum 29 = .ok (.getfield 45, 3) := by decide +kernel
theorem dX5_sum_32 : decode cX5_sum 32 = .ok (.bipush 31, 2) := by decide +kernel
theorem dX5_sum_34 : decode cX5_sum 34 = .ok (.if_icmp .ne 36, 3) := by decide +kernel
theorem dX5_sum_37 : decode cX5_sum 37 = .ok (.aload_n 0, 1) := by decide +kernel
theorem dX5_sum_38 : decode cX5_sum 38 = .ok (.getfield 45, 3) := by decide +kernel
theorem dX5_sum_41 : decode cX5_sum 41 = .ok (.istore 4, 2) := by decide +kernel
theorem dX5_sum_43 : decode cX5_sum 43 = .ok (.aload_n 0, 1) := by decide +kernel
theorem dX5_sum_44 : decode cX5_sum 44 = .ok (.invokevirtual 42, 3) := by decide +kernel
theorem dX5_sum_47 : decode cX5_sum 47 = .ok (.aload_n 0, 1) := by decide +kernel
theorem dX5_sum_48 : decode cX5_sum 48 = .ok (.iload_n 1, 1) := by decide +kernel
theorem dX5_sum_49 : decode cX5_sum 49 = .ok (.invokevirtual 108, 3) := by decide +kernel
theorem dX5_sum_52 : decode cX5_sum 52 = .ok (.istore_n 2, 1) := by decide +kernel
theorem dX5_sum_53 : decode cX5_sum 53 = .ok (.aload_n 0, 1) := by decide +kernel
theorem dX5_sum_54 : decode cX5_sum 54 = .ok (.getfield 21, 3) := by decide +kernel
theorem dX5_sum_57 : decode cX5_sum 57 = .ok (.iload 4, 2) := by decide +kernel
theorem dX5_sum_59 : decode cX5_sum 59 = .ok (.iconst 0, 1) := by decide +kernel
theorem dX5_sum_60 : decode cX5_sum 60 = .ok (.invokevirtual 111, 3) := by decide +kernel
theorem dX5_sum_63 : decode cX5_sum 63 = .ok (.pop, 1) := by decide +kernel
theorem dX5_sum_64 : decode cX5_sum 64 = .ok (.iinc 3 1, 3) := by decide +kernel
theorem dX5_sum_67 : decode cX5_sum 67 = .ok (.goto (-59), 3) := by decide +kernel
theorem dX5_sum_70 : decode cX5_sum 70 = .ok (.iload_n 2, 1) := by decide +kernel
theorem dX5_sum_71 : decode cX5_sum 71 = .ok (.ireturn, 1) := by decide +kernel
def B_X5_sum_37 (R : Nat → Nat → Int32 → Me → (Int32 → Me → Prop) → Prop) (o0 : Nat) (i1 : Int32) (i3 : Int32) (μ : Me) (K8 : Int32 → Int32 → Me → Prop) (Q : Int32 → Me → Prop) : Prop := mok μ o0 5 ∧ S_X5_next o0 μ (fun μ7 => R 1 o0 i1 μ7 (fun r12 μ10 => ∃ t13, mgr μ10 o0 1 = some t13 ∧ mok μ10 t13 7 ∧ S_X7_add t13 (mgi μ o0 3) 0 μ10 (fun r17 μ15 => K8 r12 (i3 + 1) μ15)))
set_option maxHeartbeats 4000000 in
set_option maxRecDepth 100000 in
theorem tB_X5_sum_37 {x : GX} {d : Nat} {R : Nat → Nat → Int32 → Me → (Int32 → Me → Prop) → Prop} (f : Fx x cX5_sum RX5 5 (rmc (40 + (d + 1)) 0 0)) {o0 : Nat} {i1 : Int32} {i3 : Int32} {μ : Me} {Q : Int32 → Me → Prop} (hq : Rt x (some .boolean) (qI Q)) (hR : RH (gO x) R d) {K8 : Int32 → Int32 → Me → Prop} (hK8 : ∀ (a2 : Int32) (a3 : Int32) (ν : Me), K8 a2 a3 ν → G x 5 8 [(0, .ref (gB x + o0)), (1, .int i1), (2, .int a2), (3, .int a3)] [] ν 0 0) (h : B_X5_sum_37 R o0 i1 i3 μ K8 Q) : G x 5 37 [(0, .ref (gB x + o0)), (1, .int i1), (3, .int i3)] [] μ 0 0 := by
  unfold B_X5_sum_37 at h
  refine g_aload_n f 0 dX5_sum_37 rfl rfl ?_
  obtain ⟨v6, h⟩ := h
  refine g_getI f fk_X5_45 v6 dX5_sum_38 rfl ?_
  refine h_istore f dX5_sum_41 (by decide) ?_
  refine g_aload_n f 1 dX5_sum_43 rfl rfl ?_
  refine g_callV f mk_X5_42 v6 (c_X5_next h) dX5_sum_44 rfl rfl (Nat.le_of_ble_eq_true rfl) (rm_ok (by omega) (by decide)) ⟨Nat.le_of_ble_eq_true rfl, Nat.le_of_ble_eq_true rfl⟩ (kV fun μ7 x8 h => ?_)
  refine g_aload_n f 1 dX5_sum_47 rfl rfl ?_
  refine g_iload_n f 2 dX5_sum_48 rfl rfl ?_
  have v6 := mex_ok x8 v6
  refine g_callV f mk_X5_108 v6 (hR.2.1 _ _ _ _ h) dX5_sum_49 rfl rfl (Nat.le_of_ble_eq_true rfl) (rm_ok (Nat.le_refl _) (by decide)) ⟨Nat.le_of_ble_eq_true rfl, Nat.le_of_ble_eq_true rfl⟩ (kI fun r12 μ10 x11 h => ?_)
  refine h_istore_n f dX5_sum_52 rfl (by decide) ?_
  refine g_aload_n f 2 dX5_sum_53 rfl rfl ?_
  have v6 := mex_ok x11 v6
  refine g_getR f fk_X5_21 v6 dX5_sum_54 rfl h (fun t13 h => ?_)
  refine g_iload f 1 dX5_sum_57 rfl ?_
  refine g_iconst f 0 dX5_sum_59 kc_0 ?_
  obtain ⟨v14, h⟩ := h
  refine g_callV f mk_X5_111 v14 (c_X7_add h) dX5_sum_60 rfl rfl (Nat.le_of_ble_eq_true rfl) (rm_ok (by omega) (by decide)) ⟨Nat.le_of_ble_eq_true rfl, Nat.le_of_ble_eq_true rfl⟩ (kI fun r17 μ15 x16 h => ?_)
  refine g_pop f dX5_sum_63 rfl ?_
  refine h_iinc f 4 1 dX5_sum_64 rfl kc_1 (by decide) ?_
  refine g_goto f 8 dX5_sum_67 rfl ?_
  exact h_sub [3, 4, 1, 0] rfl (hK8 _ _ _ h)
def B_X5_sum_8 (R : Nat → Nat → Int32 → Me → (Int32 → Me → Prop) → Prop) (o0 : Nat) (i1 : Int32) (i2 : Int32) (i3 : Int32) (μ : Me) (K8 : Int32 → Int32 → Me → Prop) (Q : Int32 → Me → Prop) : Prop := ((300 ≤ i3 → zb i2 ∧ Q i2 μ) ∧ (¬ 300 ≤ i3 → ((i2 = 0 → zb i2 ∧ Q i2 μ) ∧ (¬ i2 = 0 → mok μ o0 5 ∧ (((mgi μ o0 3) = 30 → B_X5_sum_37 R o0 i1 i3 μ K8 Q) ∧ (¬ (mgi μ o0 3) = 30 → ((¬ (mgi μ o0 3) = 31 → zb i2 ∧ Q i2 μ) ∧ ((mgi μ o0 3) = 31 → B_X5_sum_37 R o0 i1 i3 μ K8 Q))))))))
set_option maxHeartbeats 4000000 in
set_option maxRecDepth 100000 in
theorem tB_X5_sum_8 {x : GX} {d : Nat} {R : Nat → Nat → Int32 → Me → (Int32 → Me → Prop) → Prop} (f : Fx x cX5_sum RX5 5 (rmc (40 + (d + 1)) 0 0)) {o0 : Nat} {i1 : Int32} {i2 : Int32} {i3 : Int32} {μ : Me} {Q : Int32 → Me → Prop} (hq : Rt x (some .boolean) (qI Q)) (hR : RH (gO x) R d) {K8 : Int32 → Int32 → Me → Prop} (hK8 : ∀ (a2 : Int32) (a3 : Int32) (ν : Me), K8 a2 a3 ν → G x 5 8 [(0, .ref (gB x + o0)), (1, .int i1), (2, .int a2), (3, .int a3)] [] ν 0 0) (h : B_X5_sum_8 R o0 i1 i2 i3 μ K8 Q) : G x 5 8 [(0, .ref (gB x + o0)), (1, .int i1), (2, .int i2), (3, .int i3)] [] μ 0 0 := by
  unfold B_X5_sum_8 at h
  refine g_iload_n f 3 dX5_sum_8 rfl rfl ?_
  refine g_sipush f 300 dX5_sum_9 ks_300 ?_
  refine g_ic_ge f 70 dX5_sum_12 rfl h (fun h => ?_) (fun h => ?_)
  · refine g_iload_n f 2 dX5_sum_70 rfl rfl ?_
    exact g_zret f hq (Nat.le_of_ble_eq_true rfl) (Nat.le_of_ble_eq_true rfl) dX5_sum_71 h.1.1 h.2
  · refine g_iload_n f 2 dX5_sum_15 rfl rfl ?_
    refine g_if_eq f 70 dX5_sum_16 rfl h (fun h => ?_) (fun h => ?_)
    · refine g_iload_n f 2 dX5_sum_70 rfl rfl ?_
      exact g_zret f hq (Nat.le_of_ble_eq_true rfl) (Nat.le_of_ble_eq_true rfl) dX5_sum_71 h.1.1 h.2
    · refine g_aload_n f 0 dX5_sum_19 rfl rfl ?_
      obtain ⟨v5, h⟩ := h
      refine g_getI f fk_X5_45 v5 dX5_sum_20 rfl ?_
      refine g_bipush f 30 dX5_sum_23 kb_30 ?_
      refine g_ic_eq f 37 dX5_sum_25 rfl h (fun h => ?_) (fun h => ?_)
      · exact h_sub [0, 1, 3] rfl (tB_X5_sum_37 f hq hR hK8 h)
      · refine g_aload_n f 0 dX5_sum_28 rfl rfl ?_
        refine g_getI f fk_X5_45 v5 dX5_sum_29 rfl ?_
        refine g_bipush f 31 dX5_sum_32 kb_31 ?_
        refine g_ic_ne f 70 dX5_sum_34 rfl h (fun h => ?_) (fun h => ?_)
        · refine g_iload_n f 2 dX5_sum_70 rfl rfl ?_
          exact g_zret f hq (Nat.le_of_ble_eq_true rfl) (Nat.le_of_ble_eq_true rfl) dX5_sum_71 h.1.1 h.2
        · exact h_sub [0, 1, 3] rfl (tB_X5_sum_37 f hq hR hK8 h)
def L_X5_sum_8 (R : Nat → Nat → Int32 → Me → (Int32 → Me → Prop) → Prop) (o0 : Nat) (i1 : Int32) (i2 : Int32) (i3 : Int32) (μ : Me) (Q : Int32 → Me → Prop) : Prop := ∃ I : Int32 → Int32 → Me → Nat → Prop, (∃ n, I i2 i3 μ n) ∧ ∀ (i2 : Int32) (i3 : Int32) (μ : Me) (n : Nat), I i2 i3 μ n → B_X5_sum_8 R o0 i1 i2 i3 μ (fun a2 a3 ν => ∃ n', n' < n ∧ I a2 a3 ν n') Q
set_option maxHeartbeats 4000000 in
set_option maxRecDepth 100000 in
theorem tL_X5_sum_8 {x : GX} {d : Nat} {R : Nat → Nat → Int32 → Me → (Int32 → Me → Prop) → Prop} (f : Fx x cX5_sum RX5 5 (rmc (40 + (d + 1)) 0 0)) {o0 : Nat} {i1 : Int32} {i2 : Int32} {i3 : Int32} {μ : Me} {Q : Int32 → Me → Prop} (hq : Rt x (some .boolean) (qI Q)) (hR : RH (gO x) R d) (h : L_X5_sum_8 R o0 i1 i2 i3 μ Q) : G x 5 8 [(0, .ref (gB x + o0)), (1, .int i1), (2, .int i2), (3, .int i3)] [] μ 0 0 := by
  obtain ⟨I, ⟨n, hI⟩, hs⟩ := h
  induction n using Nat.strongRecOn generalizing i2 i3 μ with
  | ind n ih => exact tB_X5_sum_8 f hq hR (fun a2 a3 ν hk => by obtain ⟨n2, hn, hI2⟩ := hk; exact ih n2 hn hI2) (hs _ _ _ _ hI)
def S_X5_sum (R : Nat → Nat → Int32 → Me → (Int32 → Me → Prop) → Prop) (o0 : Nat) (i1 : Int32) (μ : Me) (Q : Int32 → Me → Prop) : Prop := mok μ o0 5 ∧ R 1 o0 i1 μ (fun r4 μ2 => L_X5_sum_8 R o0 i1 r4 0 μ2 Q)
set_option maxHeartbeats 4000000 in
set_option maxRecDepth 100000 in
theorem t_X5_sum {x : GX} {d : Nat} {R : Nat → Nat → Int32 → Me → (Int32 → Me → Prop) → Prop} (f : Fx x cX5_sum RX5 5 (rmc (40 + (d + 1)) 0 0)) {o0 : Nat} {i1 : Int32} {μ : Me} {Q : Int32 → Me → Prop} (hq : Rt x (some .boolean) (qI Q)) (hR : RH (gO x) R d) (h : S_X5_sum R o0 i1 μ Q) : G x 5 0 [(0, .ref (gB x + o0)), (1, .int i1)] [] μ 0 0 := by
  unfold S_X5_sum at h
  refine g_aload_n f 0 dX5_sum_0 rfl rfl ?_
  refine g_iload_n f 1 dX5_sum_1 rfl rfl ?_
  obtain ⟨v1, h⟩ := h
  refine g_callV f mk_X5_108 v1 (hR.2.1 _ _ _ _ h) dX5_sum_2 rfl rfl (Nat.le_of_ble_eq_true rfl) (rm_ok (Nat.le_refl _) (by decide)) ⟨Nat.le_of_ble_eq_true rfl, Nat.le_of_ble_eq_true rfl⟩ (kI fun r4 μ2 x3 h => ?_)
  refine h_istore_n f dX5_sum_5 rfl (by decide) ?_
  refine g_iconst f 0 dX5_sum_6 kc_0 ?_
  refine h_istore_n f dX5_sum_7 rfl (by decide) ?_
  exact h_sub [2, 3, 1, 0] rfl (tL_X5_sum_8 f hq hR h)
theorem dX5_product_0 : decode cX5_product 0 = .ok (.aload_n 0, 1) := by decide +kernel
theorem dX5_product_1 : decode cX5_product 1 = .ok (.iload_n 1, 1) := by decide +kernel
theorem dX5_product_2 : decode cX5_product 2 = .ok (.invokevirtual 114, 3) := by decide +kernel
theorem dX5_product_5 : decode cX5_product 5 = .ok (.istore_n 2, 1) := by decide +kernel
theorem dX5_product_6 : decode cX5_product 6 = .ok (.iconst 0, 1) := by decide +kernel
theorem dX5_product_7 : decode cX5_product 7 = .ok (.istore_n 3, 1) := by decide +kernel
theorem dX5_product_8 : decode cX5_product 8 = .ok (.iload_n 3, 1) := by decide +kernel
theorem dX5_product_9 : decode cX5_product 9 = .ok (.sipush 300, 3) := by decide +kernel
theorem dX5_product_12 : decode cX5_product 12 = .ok (.if_icmp .ge 58, 3) := by decide +kernel
theorem dX5_product_15 : decode cX5_product 15 = .ok (.iload_n 2, 1) := by decide +kernel
theorem dX5_product_16 : decode cX5_product 16 = .ok (.ifCond .eq 54, 3) := by decide +kernel
theorem dX5_product_19 : decode cX5_product 19 = .ok (.aload_n 0, 1) := by decide +kernel
theorem dX5_product_20 : decode cX5_product 20 = .ok (.getfield 45, 3) := by decide +kernel
theorem dX5_product_23 : decode cX5_product 23 = .ok (.bipush 32, 2) := by decide +kernel
theorem dX5_product_25 : decode cX5_product 25 = .ok (.if_icmp .eq 12, 3) := by decide +kernel
theorem dX5_product_28 : decode cX5_product 28 = .ok (.aload_n 0, 1) := by decide +kernel
theorem dX5_product_29 : decode cX5_product 29 = .ok (.getfield 45, 3) := by decide +kernel
theorem dX5_product_32 : decode cX5_product 32 = .ok (.bipush 33, 2) := by decide +kernel
theorem dX5_product_34 : decode cX5_product 34 = .ok (.if_icmp .ne 36, 3) := by decide +kernel
theorem dX5_product_37 : decode cX5_product 37 = .ok (.aload_n 0, 1) := by decide +kernel
theorem dX5_product_38 : decode cX5_product 38 = .ok (.getfield 45, 3) := by decide +kernel
theorem dX5_product_41 : decode cX5_product 41 = .ok (.istore 4, 2) := by decide +kernel
theorem dX5_product_43 : decode cX5_product 43 = .ok (.aload_n 0, 1) := by decide +kernel
theorem dX5_product_44 : decode cX5_product 44 = .ok (.invokevirtual 42, 3) := by decide +kernel
theorem dX5_product_47 : decode cX5_product 47 = .ok (.aload_n 0, 1) := by decide +kernel
theorem dX5_product_48 : decode cX5_product 48 = .ok (.iload_n 1, 1) := by decide +kernel
theorem dX5_product_49 : decode cX5_product 49 = .ok (.invokevirtual 114, 3) := by decide +kernel
theorem dX5_product_52 : decode cX5_product 52 = .ok (.istore_n 2, 1) := by decide +kernel
theorem dX5_product_53 : decode cX5_product 53 = .ok (.aload_n 0, 1) := by decide +kernel
theorem dX5_product_54 : decode cX5_product 54 = .ok (.getfield 21, 3) := by decide +kernel
theorem dX5_product_57 : decode cX5_product 57 = .ok (.iload 4, 2) := by decide +kernel
theorem dX5_product_59 : decode cX5_product 59 = .ok (.iconst 0, 1) := by decide +kernel
theorem dX5_product_60 : decode cX5_product 60 = .ok (.invokevirtual 111, 3) := by decide +kernel
theorem dX5_product_63 : decode cX5_product 63 = .ok (.pop, 1) := by decide +kernel
theorem dX5_product_64 : decode cX5_product 64 = .ok (.iinc 3 1, 3) := by decide +kernel
theorem dX5_product_67 : decode cX5_product 67 = .ok (.goto (-59), 3) := by decide +kernel
theorem dX5_product_70 : decode cX5_product 70 = .ok (.iload_n 2, 1) := by decide +kernel
theorem dX5_product_71 : decode cX5_product 71 = .ok (.ireturn, 1) := by decide +kernel
def B_X5_product_37 (R : Nat → Nat → Int32 → Me → (Int32 → Me → Prop) → Prop) (o0 : Nat) (i1 : Int32) (i3 : Int32) (μ : Me) (K8 : Int32 → Int32 → Me → Prop) (Q : Int32 → Me → Prop) : Prop := mok μ o0 5 ∧ S_X5_next o0 μ (fun μ7 => R 2 o0 i1 μ7 (fun r12 μ10 => ∃ t13, mgr μ10 o0 1 = some t13 ∧ mok μ10 t13 7 ∧ S_X7_add t13 (mgi μ o0 3) 0 μ10 (fun r17 μ15 => K8 r12 (i3 + 1) μ15)))
set_option maxHeartbeats 4000000 in
set_option maxRecDepth 100000 in
theorem tB_X5_product_37 {x : GX} {d : Nat} {R : Nat → Nat → Int32 → Me → (Int32 → Me → Prop) → Prop} (f : Fx x cX5_product RX5 5 (rmc (40 + (d + 1)) 0 0)) {o0 : Nat} {i1 : Int32} {i3 : Int32} {μ : Me} {Q : Int32 → Me → Prop} (hq : Rt x (some .boolean) (qI Q)) (hR : RH (gO x) R d) {K8 : Int32 → Int32 → Me → Prop} (hK8 : ∀ (a2 : Int32) (a3 : Int32) (ν : Me), K8 a2 a3 ν → G x 5 8 [(0, .ref (gB x + o0)), (1, .int i1), (2, .int a2), (3, .int a3)] [] ν 0 0) (h : B_X5_product_37 R o0 i1 i3 μ K8 Q) : G x 5 37 [(0, .ref (gB x + o0)), (1, .int i1), (3, .int i3)] [] μ 0 0 := by
  unfold B_X5_product_37 at h
  refine g_aload_n f 0 dX5_product_37 rfl rfl ?_
  obtain ⟨v6, h⟩ := h
  refine g_getI f fk_X5_45 v6 dX5_product_38 rfl ?_
  refine h_istore f dX5_product_41 (by decide) ?_
  refine g_aload_n f 1 dX5_product_43 rfl rfl ?_
  refine g_callV f mk_X5_42 v6 (c_X5_next h) dX5_product_44 rfl rfl (Nat.le_of_ble_eq_true rfl) (rm_ok (by omega) (by decide)) ⟨Nat.le_of_ble_eq_true rfl, Nat.le_of_ble_eq_true rfl⟩ (kV fun μ7 x8 h => ?_)
  refine g_aload_n f 1 dX5_product_47 rfl rfl ?_
  refine g_iload_n f 2 dX5_product_48 rfl rfl ?_
  have v6 := mex_ok x8 v6
  refine g_callV f mk_X5_114 v6 (hR.2.2.1 _ _ _ _ h) dX5_product_49 rfl rfl (Nat.le_of_ble_eq_true rfl) (rm_ok (Nat.le_refl _) (by decide)) ⟨Nat.le_of_ble_eq_true rfl, Nat.le_of_ble_eq_true rfl⟩ (kI fun r12 μ10 x11 h => ?_)
  refine h_istore_n f dX5_product_52 rfl (by decide) ?_
  refine g_aload_n f 2 dX5_product_53 rfl rfl ?_
  have v6 := mex_ok x11 v6
  refine g_getR f fk_X5_21 v6 dX5_product_54 rfl h (fun t13 h => ?_)
  refine g_iload f 1 dX5_product_57 rfl ?_
  refine g_iconst f 0 dX5_product_59 kc_0 ?_
  obtain ⟨v14, h⟩ := h
  refine g_callV f mk_X5_111 v14 (c_X7_add h) dX5_product_60 rfl rfl (Nat.le_of_ble_eq_true rfl) (rm_ok (by omega) (by decide)) ⟨Nat.le_of_ble_eq_true rfl, Nat.le_of_ble_eq_true rfl⟩ (kI fun r17 μ15 x16 h => ?_)
  refine g_pop f dX5_product_63 rfl ?_
  refine h_iinc f 4 1 dX5_product_64 rfl kc_1 (by decide) ?_
  refine g_goto f 8 dX5_product_67 rfl ?_
  exact h_sub [3, 4, 1, 0] rfl (hK8 _ _ _ h)
def B_X5_product_8 (R : Nat → Nat → Int32 → Me → (Int32 → Me → Prop) → Prop) (o0 : Nat) (i1 : Int32) (i2 : Int32) (i3 : Int32) (μ : Me) (K8 : Int32 → Int32 → Me → Prop) (Q : Int32 → Me → Prop) : Prop := ((300 ≤ i3 → zb i2 ∧ Q i2 μ) ∧ (¬ 300 ≤ i3 → ((i2 = 0 → zb i2 ∧ Q i2 μ) ∧ (¬ i2 = 0 → mok μ o0 5 ∧ (((mgi μ o0 3) = 32 → B_X5_product_37 R o0 i1 i3 μ K8 Q) ∧ (¬ (mgi μ o0 3) = 32 → ((¬ (mgi μ o0 3) = 33 → zb i2 ∧ Q i2 μ) ∧ ((mgi μ o0 3) = 33 → B_X5_product_37 R o0 i1 i3 μ K8 Q))))))))
set_option maxHeartbeats 4000000 in
set_option maxRecDepth 100000 in
theorem tB_X5_product_8 {x : GX} {d : Nat} {R : Nat → Nat → Int32 → Me → (Int32 → Me → Prop) → Prop} (f : Fx x cX5_product RX5 5 (rmc (40 + (d + 1)) 0 0)) {o0 : Nat} {i1 : Int32} {i2 : Int32} {i3 : Int32} {μ : Me} {Q : Int32 → Me → Prop} (hq : Rt x (some .boolean) (qI Q)) (hR : RH (gO x) R d) {K8 : Int32 → Int32 → Me → Prop} (hK8 : ∀ (a2 : Int32) (a3 : Int32) (ν : Me), K8 a2 a3 ν → G x 5 8 [(0, .ref (gB x + o0)), (1, .int i1), (2, .int a2), (3, .int a3)] [] ν 0 0) (h : B_X5_product_8 R o0 i1 i2 i3 μ K8 Q) : G x 5 8 [(0, .ref (gB x + o0)), (1, .int i1), (2, .int i2), (3, .int i3)] [] μ 0 0 := by
  unfold B_X5_product_8 at h
  refine g_iload_n f 3 dX5_product_8 rfl rfl ?_
  refine g_sipush f 300 dX5_product_9 ks_300 ?_
  refine g_ic_ge f 70 dX5_product_12 rfl h (fun h => ?_) (fun h => ?_)
  · refine g_iload_n f 2 dX5_product_70 rfl rfl ?_
    exact g_zret f hq (Nat.le_of_ble_eq_true rfl) (Nat.le_of_ble_eq_true rfl) dX5_product_71 h.1.1 h.2
  · refine g_iload_n f 2 dX5_product_15 rfl rfl ?_
    refine g_if_eq f 70 dX5_product_16 rfl h (fun h => ?_) (fun h => ?_)
    · refine g_iload_n f 2 dX5_product_70 rfl rfl ?_
      exact g_zret f hq (Nat.le_of_ble_eq_true rfl) (Nat.le_of_ble_eq_true rfl) dX5_product_71 h.1.1 h.2
    · refine g_aload_n f 0 dX5_product_19 rfl rfl ?_
      obtain ⟨v5, h⟩ := h
      refine g_getI f fk_X5_45 v5 dX5_product_20 rfl ?_
      refine g_bipush f 32 dX5_product_23 kb_32 ?_
      refine g_ic_eq f 37 dX5_product_25 rfl h (fun h => ?_) (fun h => ?_)
      · exact h_sub [0, 1, 3] rfl (tB_X5_product_37 f hq hR hK8 h)
      · refine g_aload_n f 0 dX5_product_28 rfl rfl ?_
        refine g_getI f fk_X5_45 v5 dX5_product_29 rfl ?_
        refine g_bipush f 33 dX5_product_32 kb_33 ?_
        refine g_ic_ne f 70 dX5_product_34 rfl h (fun h => ?_) (fun h => ?_)
        · refine g_iload_n f 2 dX5_product_70 rfl rfl ?_
          exact g_zret f hq (Nat.le_of_ble_eq_true rfl) (Nat.le_of_ble_eq_true rfl) dX5_product_71 h.1.1 h.2
        · exact h_sub [0, 1, 3] rfl (tB_X5_product_37 f hq hR hK8 h)
def L_X5_product_8 (R : Nat → Nat → Int32 → Me → (Int32 → Me → Prop) → Prop) (o0 : Nat) (i1 : Int32) (i2 : Int32) (i3 : Int32) (μ : Me) (Q : Int32 → Me → Prop) : Prop := ∃ I : Int32 → Int32 → Me → Nat → Prop, (∃ n, I i2 i3 μ n) ∧ ∀ (i2 : Int32) (i3 : Int32) (μ : Me) (n : Nat), I i2 i3 μ n → B_X5_product_8 R o0 i1 i2 i3 μ (fun a2 a3 ν => ∃ n', n' < n ∧ I a2 a3 ν n') Q
set_option maxHeartbeats 4000000 in
set_option maxRecDepth 100000 in
theorem tL_X5_product_8 {x : GX} {d : Nat} {R : Nat → Nat → Int32 → Me → (Int32 → Me → Prop) → Prop} (f : Fx x cX5_product RX5 5 (rmc (40 + (d + 1)) 0 0)) {o0 : Nat} {i1 : Int32} {i2 : Int32} {i3 : Int32} {μ : Me} {Q : Int32 → Me → Prop} (hq : Rt x (some .boolean) (qI Q)) (hR : RH (gO x) R d) (h : L_X5_product_8 R o0 i1 i2 i3 μ Q) : G x 5 8 [(0, .ref (gB x + o0)), (1, .int i1), (2, .int i2), (3, .int i3)] [] μ 0 0 := by
  obtain ⟨I, ⟨n, hI⟩, hs⟩ := h
  induction n using Nat.strongRecOn generalizing i2 i3 μ with
  | ind n ih => exact tB_X5_product_8 f hq hR (fun a2 a3 ν hk => by obtain ⟨n2, hn, hI2⟩ := hk; exact ih n2 hn hI2) (hs _ _ _ _ hI)
def S_X5_product (R : Nat → Nat → Int32 → Me → (Int32 → Me → Prop) → Prop) (o0 : Nat) (i1 : Int32) (μ : Me) (Q : Int32 → Me → Prop) : Prop := mok μ o0 5 ∧ R 2 o0 i1 μ (fun r4 μ2 => L_X5_product_8 R o0 i1 r4 0 μ2 Q)
set_option maxHeartbeats 4000000 in
set_option maxRecDepth 100000 in
theorem t_X5_product {x : GX} {d : Nat} {R : Nat → Nat → Int32 → Me → (Int32 → Me → Prop) → Prop} (f : Fx x cX5_product RX5 5 (rmc (40 + (d + 1)) 0 0)) {o0 : Nat} {i1 : Int32} {μ : Me} {Q : Int32 → Me → Prop} (hq : Rt x (some .boolean) (qI Q)) (hR : RH (gO x) R d) (h : S_X5_product R o0 i1 μ Q) : G x 5 0 [(0, .ref (gB x + o0)), (1, .int i1)] [] μ 0 0 := by
  unfold S_X5_product at h
  refine g_aload_n f 0 dX5_product_0 rfl rfl ?_
  refine g_iload_n f 1 dX5_product_1 rfl rfl ?_
  obtain ⟨v1, h⟩ := h
  refine g_callV f mk_X5_114 v1 (hR.2.2.1 _ _ _ _ h) dX5_product_2 rfl rfl (Nat.le_of_ble_eq_true rfl) (rm_ok (Nat.le_refl _) (by decide)) ⟨Nat.le_of_ble_eq_true rfl, Nat.le_of_ble_eq_true rfl⟩ (kI fun r4 μ2 x3 h => ?_)
  refine h_istore_n f dX5_product_5 rfl (by decide) ?_
  refine g_iconst f 0 dX5_product_6 kc_0 ?_
  refine h_istore_n f dX5_product_7 rfl (by decide) ?_
  exact h_sub [2, 3, 1, 0] rfl (tL_X5_product_8 f hq hR h)
theorem dX5_one_0 : decode cX5_one 0 = .ok (.aload_n 0, 1) := by decide +kernel
theorem dX5_one_1 : decode cX5_one 1 = .ok (.getfield 45, 3) := by decide +kernel
theorem dX5_one_4 : decode cX5_one 4 = .ok (.lookupswitch 211 #[(17, 154), (18, 187), (31, 121), (34, 88), (50, 52)], 52) := by decide +kernel
theorem dX5_one_56 : decode cX5_one 56 = .ok (.aload_n 0, 1) := by decide +kernel
theorem dX5_one_57 : decode cX5_one 57 = .ok (.getfield 65, 3) := by decide +kernel
theorem dX5_one_60 : decode cX5_one 60 = .ok (.sipush 9999, 3) := by decide +kernel
theorem dX5_one_63 : decode cX5_one 63 = .ok (.if_icmp .le 9, 3) := by decide +kernel
theorem dX5_one_66 : decode cX5_one 66 = .ok (.aload_n 0, 1) := by decide +kernel
theorem dX5_one_67 : decode cX5_one 67 = .ok (.iconst 2, 1) := by decide +kernel
theorem dX5_one_68 : decode cX5_one 68 = .ok (.invokevirtual 71, 3) := by decide +kernel
theorem dX5_one_71 : decode cX5_one 71 = .ok (.ireturn, 1) := by decide +kernel
theorem dX5_one_72 : decode cX5_one 72 = .ok (.aload_n 0, 1) := by decide +kernel
theorem dX5_one_73 : decode cX5_one 73 = .ok (.getfield 21, 3) := by decide +kernel
theorem dX5_one_76 : decode cX5_one 76 = .ok (.bipush 50, 2) := by decide +kernel
theorem dX5_one_78 : decode cX5_one 78 = .ok (.aload_n 0, 1) := by decide +kernel
theorem dX5_one_79 : decode cX5_one 79 = .ok (.getfield 65, 3) := by decide +kernel
theorem dX5_one_82 : decode cX5_one 82 = .ok (.invokevirtual 111, 3) := by decide +kernel
theorem dX5_one_85 : decode cX5_one 85 = .ok (.pop, 1) := by decide +kernel
theorem dX5_one_86 : decode cX5_one 86 = .ok (.aload_n 0, 1) := by decide +kernel
theorem dX5_one_87 : decode cX5_one 87 = .ok (.invokevirtual 42, 3) := by decide +kernel
theorem dX5_one_90 : decode cX5_one 90 = .ok (.iconst 1, 1) := by decide +kernel
theorem dX5_one_91 : decode cX5_one 91 = .ok (.ireturn, 1) := by decide +kernel
theorem dX5_one_92 : decode cX5_one 92 = .ok (.aload_n 0, 1) := by decide +kernel
theorem dX5_one_93 : decode cX5_one 93 = .ok (.iload_n 1, 1) := by decide +kernel
theorem dX5_one_94 : decode cX5_one 94 = .ok (.invokevirtual 117, 3) := by decide +kernel
theorem dX5_one_97 : decode cX5_one 97 = .ok (.ifCond .eq 26, 3) := by decide +kernel
theorem dX5_one_100 : decode cX5_one 100 = .ok (.aload_n 0, 1) := by decide +kernel
theorem dX5_one_101 : decode cX5_one 101 = .ok (.iload_n 1, 1) := by decide +kernel
theorem dX5_one_102 : decode cX5_one 102 = .ok (.iconst 1, 1) := by decide +kernel
theorem dX5_one_103 : decode cX5_one 103 = .ok (.iadd, 1) := by decide +kernel
theorem dX5_one_104 : decode cX5_one 104 = .ok (.invokevirtual 88, 3) := by decide +kernel
theorem dX5_one_107 : decode cX5_one 107 = .ok (.ifCond .eq 16, 3) := by decide +kernel
theorem dX5_one_110 : decode cX5_one 110 = .ok (.aload_n 0, 1) := by decide +kernel
theorem dX5_one_111 : decode cX5_one 111 = .ok (.bipush 35, 2) := by decide +kernel
theorem dX5_one_113 : decode cX5_one 113 = .ok (.invokevirtual 94, 3) := by decide +kernel
theorem dX5_one_116 : decode cX5_one 116 = .ok (.ifCond .eq 7, 3) := by decide +kernel
theorem dX5_one_119 : decode cX5_one 119 = .ok (.iconst 1, 1) := by decide +kernel
theorem dX5_one_120 : decode cX5_one 120 = .ok (.goto 4, 3) := by decide +kernel
theorem dX5_one_123 : decode cX5_one 123 = .ok (.iconst 0, 1) := by decide +kernel
theorem dX5_one_124 : decode cX5_one 124 = .ok (.ireturn, 1) := by decide +kernel
theorem dX5_one_125 : decode cX5_one 125 = .ok (.aload_n 0, 1) := by decide +kernel
theorem dX5_one_126 : decode cX5_one 126 = .ok (.iload_n 1, 1) := by decide +kernel
theorem dX5_one_127 : decode cX5_one 127 = .ok (.invokevirtual 117, 3) := by decide +kernel
theorem dX5_one_130 : decode cX5_one 130 = .ok (.ifCond .eq 26, 3) := by decide +kernel
theorem dX5_one_133 : decode cX5_one 133 = .ok (.aload_n 0, 1) := by decide +kernel
theorem dX5_one_134 : decode cX5_one 134 = .ok (.iload_n 1, 1) := by decide +kernel
theorem dX5_one_135 : decode cX5_one 135 = .ok (.iconst 1, 1) := by decide +kernel
theorem dX5_one_136 : decode cX5_one 136 = .ok (.iadd, 1) := by decide +kernel
theorem dX5_one_137 : decode cX5_one 137 = .ok (.invokevirtual 114, 3) := by decide +kernel
theorem dX5_one_140 : decode cX5_one 140 = .ok (.ifCond .eq 16, 3) := by decide +kernel
theorem dX5_one_143 : decode cX5_one 143 = .ok (.aload_n 0, 1) := by decide +kernel
theorem dX5_one_144 : decode cX5_one 144 = .ok (.bipush 60, 2) := by decide +kernel
theorem dX5_one_146 : decode cX5_one 146 = .ok (.invokevirtual 120, 3) := by decide +kernel
theorem dX5_one_149 : decode cX5_one 149 = .ok (.ifCond .eq 7, 3) := by decide +kernel
theorem dX5_one_152 : decode cX5_one 152 = .ok (.iconst 1, 1) := by decide +kernel
theorem dX5_one_153 : decode cX5_one 153 = .ok (.goto 4, 3) := by decide +kernel
theorem dX5_one_156 : decode cX5_one 156 = .ok (.iconst 0, 1) := by decide +kernel
theorem dX5_one_157 : decode cX5_one 157 = .ok (.ireturn, 1) := by decide +kernel
theorem dX5_one_158 : decode cX5_one 158 = .ok (.aload_n 0, 1) := by decide +kernel
theorem dX5_one_159 : decode cX5_one 159 = .ok (.iload_n 1, 1) := by decide +kernel
theorem dX5_one_160 : decode cX5_one 160 = .ok (.invokevirtual 117, 3) := by decide +kernel
theorem dX5_one_163 : decode cX5_one 163 = .ok (.ifCond .eq 26, 3) := by decide +kernel
theorem dX5_one_166 : decode cX5_one 166 = .ok (.aload_n 0, 1) := by decide +kernel
theorem dX5_one_167 : decode cX5_one 167 = .ok (.iload_n 1, 1) := by decide +kernel
theorem dX5_one_168 : decode cX5_one 168 = .ok (.iconst 1, 1) := by decide +kernel
theorem dX5_one_169 : decode cX5_one 169 = .ok (.iadd, 1) := by decide +kernel
theorem dX5_one_170 : decode cX5_one 170 = .ok (.invokevirtual 114, 3) := by decide +kernel
theorem dX5_one_173 : decode cX5_one 173 = .ok (.ifCond .eq 16, 3) := by decide +kernel
theorem dX5_one_176 : decode cX5_one 176 = .ok (.aload_n 0, 1) := by decide +kernel
theorem dX5_one_177 : decode cX5_one 177 = .ok (.bipush 17, 2) := by decide +kernel
theorem dX5_one_179 : decode cX5_one 179 = .ok (.invokevirtual 120, 3) := by decide +kernel
theorem dX5_one_182 : decode cX5_one 182 = .ok (.ifCond .eq 7, 3) := by decide +kernel
theorem dX5_one_185 : decode cX5_one 185 = .ok (.iconst 1, 1) := by decide +kernel
theorem dX5_one_186 : decode cX5_one 186 = .ok (.goto 4, 3) := by decide +kernel
theorem dX5_one_189 : decode cX5_one 189 = .ok (.iconst 0, 1) := by decide +kernel
theorem dX5_one_190 : decode cX5_one 190 = .ok (.ireturn, 1) := by decide +kernel
theorem dX5_one_191 : decode cX5_one 191 = .ok (.aload_n 0, 1) := by decide +kernel
theorem dX5_one_192 : decode cX5_one 192 = .ok (.iload_n 1, 1) := by decide +kernel
theorem dX5_one_193 : decode cX5_one 193 = .ok (.invokevirtual 117, 3) := by decide +kernel
theorem dX5_one_196 : decode cX5_one 196 = .ok (.ifCond .eq 17, 3) := by decide +kernel
theorem dX5_one_199 : decode cX5_one 199 = .ok (.aload_n 0, 1) := by decide +kernel
theorem dX5_one_200 : decode cX5_one 200 = .ok (.iload_n 1, 1) := by decide +kernel
theorem dX5_one_201 : decode cX5_one 201 = .ok (.iconst 1, 1) := by decide +kernel
theorem dX5_one_202 : decode cX5_one 202 = .ok (.iadd, 1) := by decide +kernel
theorem dX5_one_203 : decode cX5_one 203 = .ok (.invokevirtual 122, 3) := by decide +kernel
theorem dX5_one_206 : decode cX5_one 206 = .ok (.ifCond .eq 7, 3) := by decide +kernel
theorem dX5_one_209 : decode cX5_one 209 = .ok (.iconst 1, 1) := by decide +kernel
theorem dX5_one_210 : decode cX5_one 210 = .ok (.goto 4, 3) := by decide +kernel
theorem dX5_one_213 : decode cX5_one 213 = .ok (.iconst 0, 1) := by decide +kernel
theorem dX5_one_214 : decode cX5_one 214 = .ok (.ireturn, 1) := by decide +kernel
theorem dX5_one_215 : decode cX5_one 215 = .ok (.aload_n 0, 1) := by decide +kernel
theorem dX5_one_216 : decode cX5_one 216 = .ok (.invokevirtual 125, 3) := by decide +kernel
theorem dX5_one_219 : decode cX5_one 219 = .ok (.ireturn, 1) := by decide +kernel
def S_X5_one (R : Nat → Nat → Int32 → Me → (Int32 → Me → Prop) → Prop) (o0 : Nat) (i1 : Int32) (μ : Me) (Q : Int32 → Me → Prop) : Prop := mok μ o0 5 ∧ (((mgi μ o0 3) = 17 → S_X5_opens o0 i1 μ (fun r5 μ3 => ((r5 = 0 → Q 0 μ3) ∧ (¬ r5 = 0 → R 2 o0 (i1 + 1) μ3 (fun r8 μ6 => ((r8 = 0 → Q 0 μ6) ∧ (¬ r8 = 0 → S_X5_put o0 17 μ6 (fun r11 μ9 => ((r11 = 0 → Q 0 μ9) ∧ (¬ r11 = 0 → Q 1 μ9)))))))))) ∧ (¬ (mgi μ o0 3) = 17 → ((mgi μ o0 3) = 18 → S_X5_opens o0 i1 μ (fun r15 μ13 => ((r15 = 0 → Q 0 μ13) ∧ (¬ r15 = 0 → R 3 o0 (i1 + 1) μ13 (fun r18 μ16 => ((r18 = 0 → Q 0 μ16) ∧ (¬ r18 = 0 → Q 1 μ16))))))) ∧ (¬ (mgi μ o0 3) = 18 → ((mgi μ o0 3) = 31 → S_X5_opens o0 i1 μ (fun r22 μ20 => ((r22 = 0 → Q 0 μ20) ∧ (¬ r22 = 0 → R 2 o0 (i1 + 1) μ20 (fun r25 μ23 => ((r25 = 0 → Q 0 μ23) ∧ (¬ r25 = 0 → S_X5_put o0 60 μ23 (fun r28 μ26 => ((r28 = 0 → Q 0 μ26) ∧ (¬ r28 = 0 → Q 1 μ26)))))))))) ∧ (¬ (mgi μ o0 3) = 31 → ((mgi μ o0 3) = 34 → S_X5_opens o0 i1 μ (fun r32 μ30 => ((r32 = 0 → Q 0 μ30) ∧ (¬ r32 = 0 → R 0 o0 (i1 + 1) μ30 (fun r35 μ33 => ((r35 = 0 → Q 0 μ33) ∧ (¬ r35 = 0 → S_X5_accept o0 35 μ33 (fun r38 μ36 => ((r38 = 0 → Q 0 μ36) ∧ (¬ r38 = 0 → Q 1 μ36)))))))))) ∧ (¬ (mgi μ o0 3) = 34 → ((mgi μ o0 3) = 50 → (((mgi μ o0 4) ≤ 9999 → ∃ t40, mgr μ o0 1 = some t40 ∧ mok μ t40 7 ∧ S_X7_add t40 50 (mgi μ o0 4) μ (fun r44 μ42 => S_X5_next o0 μ42 (fun μ45 => Q 1 μ45))) ∧ (¬ (mgi μ o0 4) ≤ 9999 → S_X5_refuse o0 2 μ (fun r50 μ48 => zb r50 ∧ Q r50 μ48)))) ∧ (¬ (mgi μ o0 3) = 50 → S_X5_name o0 μ (fun r53 μ51 => zb r53 ∧ Q r53 μ51)))))))
set_option maxHeartbeats 4000000 in
set_option maxRecDepth 100000 in
theorem t_X5_one {x : GX} {d : Nat} {R : Nat → Nat → Int32 → Me → (Int32 → Me → Prop) → Prop} (f : Fx x cX5_one RX5 2 (rmc (40 + (d + 1)) 0 0)) {o0 : Nat} {i1 : Int32} {μ : Me} {Q : Int32 → Me → Prop} (hq : Rt x (some .boolean) (qI Q)) (hR : RH (gO x) R d) (h : S_X5_one R o0 i1 μ Q) : G x 2 0 [(0, .ref (gB x + o0)), (1, .int i1)] [] μ 0 0 := by
  unfold S_X5_one at h
  refine g_aload_n f 0 dX5_one_0 rfl rfl ?_
  obtain ⟨v1, h⟩ := h
  refine g_getI f fk_X5_45 v1 dX5_one_1 rfl ?_
  rcases dec_or h with ⟨e2, h⟩ | ⟨e2, h⟩
  · refine g_lookup f 158 dX5_one_4 (by decide) (by rw [e2] <;> rfl) rfl ?_
    refine g_aload_n f 0 dX5_one_158 rfl rfl ?_
    refine g_iload_n f 1 dX5_one_159 rfl rfl ?_
    refine g_callV f mk_X5_117 v1 (c_X5_opens h) dX5_one_160 rfl rfl (Nat.le_of_ble_eq_true rfl) (rm_ok (by omega) (by decide)) ⟨Nat.le_of_ble_eq_true rfl, Nat.le_of_ble_eq_true rfl⟩ (kI fun r5 μ3 x4 h => ?_)
    refine g_if_eq f 189 dX5_one_163 rfl h (fun h => ?_) (fun h => ?_)
    · refine g_iconst f 0 dX5_one_189 kc_0 ?_
      exact g_zret f hq (Nat.le_of_ble_eq_true rfl) (Nat.le_of_ble_eq_true rfl) dX5_one_190 zb_0.1 h
    · refine g_aload_n f 0 dX5_one_166 rfl rfl ?_
      refine g_iload_n f 1 dX5_one_167 rfl rfl ?_
      refine g_iconst f 1 dX5_one_168 kc_1 ?_
      refine g_iadd f dX5_one_169 ?_
      have v1 := mex_ok x4 v1
      refine g_callV f mk_X5_114 v1 (hR.2.2.1 _ _ _ _ h) dX5_one_170 rfl rfl (Nat.le_of_ble_eq_true rfl) (rm_ok (Nat.le_refl _) (by decide)) ⟨Nat.le_of_ble_eq_true rfl, Nat.le_of_ble_eq_true rfl⟩ (kI fun r8 μ6 x7 h => ?_)
      refine g_if_eq f 189 dX5_one_173 rfl h (fun h => ?_) (fun h => ?_)
      · refine g_iconst f 0 dX5_one_189 kc_0 ?_
        exact g_zret f hq (Nat.le_of_ble_eq_true rfl) (Nat.le_of_ble_eq_true rfl) dX5_one_190 zb_0.1 h
      · refine g_aload_n f 0 dX5_one_176 rfl rfl ?_
        refine g_bipush f 17 dX5_one_177 kb_17 ?_
        have v1 := mex_ok x7 v1
        refine g_callV f mk_X5_120 v1 (c_X5_put h) dX5_one_179 rfl rfl (Nat.le_of_ble_eq_true rfl) (rm_ok (by omega) (by decide)) ⟨Nat.le_of_ble_eq_true rfl, Nat.le_of_ble_eq_true rfl⟩ (kI fun r11 μ9 x10 h => ?_)
        refine g_if_eq f 189 dX5_one_182 rfl h (fun h => ?_) (fun h => ?_)
        · refine g_iconst f 0 dX5_one_189 kc_0 ?_
          exact g_zret f hq (Nat.le_of_ble_eq_true rfl) (Nat.le_of_ble_eq_true rfl) dX5_one_190 zb_0.1 h
        · refine g_iconst f 1 dX5_one_185 kc_1 ?_
          refine g_goto f 190 dX5_one_186 rfl ?_
          exact g_zret f hq (Nat.le_of_ble_eq_true rfl) (Nat.le_of_ble_eq_true rfl) dX5_one_190 zb_1.1 h
  · skip
    rcases dec_or h with ⟨e12, h⟩ | ⟨e12, h⟩
    · refine g_lookup f 191 dX5_one_4 (by decide) (by rw [e12] <;> rfl) rfl ?_
      refine g_aload_n f 0 dX5_one_191 rfl rfl ?_
      refine g_iload_n f 1 dX5_one_192 rfl rfl ?_
      refine g_callV f mk_X5_117 v1 (c_X5_opens h) dX5_one_193 rfl rfl (Nat.le_of_ble_eq_true rfl) (rm_ok (by omega) (by decide)) ⟨Nat.le_of_ble_eq_true rfl, Nat.le_of_ble_eq_true rfl⟩ (kI fun r15 μ13 x14 h => ?_)
      refine g_if_eq f 213 dX5_one_196 rfl h (fun h => ?_) (fun h => ?_)
      · refine g_iconst f 0 dX5_one_213 kc_0 ?_
        exact g_zret f hq (Nat.le_of_ble_eq_true rfl) (Nat.le_of_ble_eq_true rfl) dX5_one_214 zb_0.1 h
      · refine g_aload_n f 0 dX5_one_199 rfl rfl ?_
        refine g_iload_n f 1 dX5_one_200 rfl rfl ?_
        refine g_iconst f 1 dX5_one_201 kc_1 ?_
        refine g_iadd f dX5_one_202 ?_
        have v1 := mex_ok x14 v1
        refine g_callV f mk_X5_122 v1 (hR.2.2.2.1 _ _ _ _ h) dX5_one_203 rfl rfl (Nat.le_of_ble_eq_true rfl) (rm_ok (Nat.le_refl _) (by decide)) ⟨Nat.le_of_ble_eq_true rfl, Nat.le_of_ble_eq_true rfl⟩ (kI fun r18 μ16 x17 h => ?_)
        refine g_if_eq f 213 dX5_one_206 rfl h (fun h => ?_) (fun h => ?_)
        · refine g_iconst f 0 dX5_one_213 kc_0 ?_
          exact g_zret f hq (Nat.le_of_ble_eq_true rfl) (Nat.le_of_ble_eq_true rfl) dX5_one_214 zb_0.1 h
        · refine g_iconst f 1 dX5_one_209 kc_1 ?_
          refine g_goto f 214 dX5_one_210 rfl ?_
          exact g_zret f hq (Nat.le_of_ble_eq_true rfl) (Nat.le_of_ble_eq_true rfl) dX5_one_214 zb_1.1 h
    · skip
      rcases dec_or h with ⟨e19, h⟩ | ⟨e19, h⟩
      · refine g_lookup f 125 dX5_one_4 (by decide) (by rw [e19] <;> rfl) rfl ?_
        refine g_aload_n f 0 dX5_one_125 rfl rfl ?_
        refine g_iload_n f 1 dX5_one_126 rfl rfl ?_
        refine g_callV f mk_X5_117 v1 (c_X5_opens h) dX5_one_127 rfl rfl (Nat.le_of_ble_eq_true rfl) (rm_ok (by omega) (by decide)) ⟨Nat.le_of_ble_eq_true rfl, Nat.le_of_ble_eq_true rfl⟩ (kI fun r22 μ20 x21 h => ?_)
        refine g_if_eq f 156 dX5_one_130 rfl h (fun h => ?_) (fun h => ?_)
        · refine g_iconst f 0 dX5_one_156 kc_0 ?_
          exact g_zret f hq (Nat.le_of_ble_eq_true rfl) (Nat.le_of_ble_eq_true rfl) dX5_one_157 zb_0.1 h
        · refine g_aload_n f 0 dX5_one_133 rfl rfl ?_
          refine g_iload_n f 1 dX5_one_134 rfl rfl ?_
          refine g_iconst f 1 dX5_one_135 kc_1 ?_
          refine g_iadd f dX5_one_136 ?_
          have v1 := mex_ok x21 v1
          refine g_callV f mk_X5_114 v1 (hR.2.2.1 _ _ _ _ h) dX5_one_137 rfl rfl (Nat.le_of_ble_eq_true rfl) (rm_ok (Nat.le_refl _) (by decide)) ⟨Nat.le_of_ble_eq_true rfl, Nat.le_of_ble_eq_true rfl⟩ (kI fun r25 μ23 x24 h => ?_)
          refine g_if_eq f 156 dX5_one_140 rfl h (fun h => ?_) (fun h => ?_)
          · refine g_iconst f 0 dX5_one_156 kc_0 ?_
            exact g_zret f hq (Nat.le_of_ble_eq_true rfl) (Nat.le_of_ble_eq_true rfl) dX5_one_157 zb_0.1 h
          · refine g_aload_n f 0 dX5_one_143 rfl rfl ?_
            refine g_bipush f 60 dX5_one_144 kb_60 ?_
            have v1 := mex_ok x24 v1
            refine g_callV f mk_X5_120 v1 (c_X5_put h) dX5_one_146 rfl rfl (Nat.le_of_ble_eq_true rfl) (rm_ok (by omega) (by decide)) ⟨Nat.le_of_ble_eq_true rfl, Nat.le_of_ble_eq_true rfl⟩ (kI fun r28 μ26 x27 h => ?_)
            refine g_if_eq f 156 dX5_one_149 rfl h (fun h => ?_) (fun h => ?_)
            · refine g_iconst f 0 dX5_one_156 kc_0 ?_
              exact g_zret f hq (Nat.le_of_ble_eq_true rfl) (Nat.le_of_ble_eq_true rfl) dX5_one_157 zb_0.1 h
            · refine g_iconst f 1 dX5_one_152 kc_1 ?_
              refine g_goto f 157 dX5_one_153 rfl ?_
              exact g_zret f hq (Nat.le_of_ble_eq_true rfl) (Nat.le_of_ble_eq_true rfl) dX5_one_157 zb_1.1 h
      · skip
        rcases dec_or h with ⟨e29, h⟩ | ⟨e29, h⟩
        · refine g_lookup f 92 dX5_one_4 (by decide) (by rw [e29] <;> rfl) rfl ?_
          refine g_aload_n f 0 dX5_one_92 rfl rfl ?_
          refine g_iload_n f 1 dX5_one_93 rfl rfl ?_
          refine g_callV f mk_X5_117 v1 (c_X5_opens h) dX5_one_94 rfl rfl (Nat.le_of_ble_eq_true rfl) (rm_ok (by omega) (by decide)) ⟨Nat.le_of_ble_eq_true rfl, Nat.le_of_ble_eq_true rfl⟩ (kI fun r32 μ30 x31 h => ?_)
          refine g_if_eq f 123 dX5_one_97 rfl h (fun h => ?_) (fun h => ?_)
          · refine g_iconst f 0 dX5_one_123 kc_0 ?_
            exact g_zret f hq (Nat.le_of_ble_eq_true rfl) (Nat.le_of_ble_eq_true rfl) dX5_one_124 zb_0.1 h
          · refine g_aload_n f 0 dX5_one_100 rfl rfl ?_
            refine g_iload_n f 1 dX5_one_101 rfl rfl ?_
            refine g_iconst f 1 dX5_one_102 kc_1 ?_
            refine g_iadd f dX5_one_103 ?_
            have v1 := mex_ok x31 v1
            refine g_callV f mk_X5_88 v1 (hR.1 _ _ _ _ h) dX5_one_104 rfl rfl (Nat.le_of_ble_eq_true rfl) (rm_ok (Nat.le_refl _) (by decide)) ⟨Nat.le_of_ble_eq_true rfl, Nat.le_of_ble_eq_true rfl⟩ (kI fun r35 μ33 x34 h => ?_)
            refine g_if_eq f 123 dX5_one_107 rfl h (fun h => ?_) (fun h => ?_)
            · refine g_iconst f 0 dX5_one_123 kc_0 ?_
              exact g_zret f hq (Nat.le_of_ble_eq_true rfl) (Nat.le_of_ble_eq_true rfl) dX5_one_124 zb_0.1 h
            · refine g_aload_n f 0 dX5_one_110 rfl rfl ?_
              refine g_bipush f 35 dX5_one_111 kb_35 ?_
              have v1 := mex_ok x34 v1
              refine g_callV f mk_X5_94 v1 (c_X5_accept h) dX5_one_113 rfl rfl (Nat.le_of_ble_eq_true rfl) (rm_ok (by omega) (by decide)) ⟨Nat.le_of_ble_eq_true rfl, Nat.le_of_ble_eq_true rfl⟩ (kI fun r38 μ36 x37 h => ?_)
              refine g_if_eq f 123 dX5_one_116 rfl h (fun h => ?_) (fun h => ?_)
              · refine g_iconst f 0 dX5_one_123 kc_0 ?_
                exact g_zret f hq (Nat.le_of_ble_eq_true rfl) (Nat.le_of_ble_eq_true rfl) dX5_one_124 zb_0.1 h
              · refine g_iconst f 1 dX5_one_119 kc_1 ?_
                refine g_goto f 124 dX5_one_120 rfl ?_
                exact g_zret f hq (Nat.le_of_ble_eq_true rfl) (Nat.le_of_ble_eq_true rfl) dX5_one_124 zb_1.1 h
        · skip
          rcases dec_or h with ⟨e39, h⟩ | ⟨e39, h⟩
          · refine g_lookup f 56 dX5_one_4 (by decide) (by rw [e39] <;> rfl) rfl ?_
            refine g_aload_n f 0 dX5_one_56 rfl rfl ?_
            refine g_getI f fk_X5_65 v1 dX5_one_57 rfl ?_
            refine g_sipush f 9999 dX5_one_60 ks_9999 ?_
            refine g_ic_le f 72 dX5_one_63 rfl h (fun h => ?_) (fun h => ?_)
            · refine g_aload_n f 0 dX5_one_72 rfl rfl ?_
              refine g_getR f fk_X5_21 v1 dX5_one_73 rfl h (fun t40 h => ?_)
              refine g_bipush f 50 dX5_one_76 kb_50 ?_
              refine g_aload_n f 0 dX5_one_78 rfl rfl ?_
              refine g_getI f fk_X5_65 v1 dX5_one_79 rfl ?_
              obtain ⟨v41, h⟩ := h
              refine g_callV f mk_X5_111 v41 (c_X7_add h) dX5_one_82 rfl rfl (Nat.le_of_ble_eq_true rfl) (rm_ok (by omega) (by decide)) ⟨Nat.le_of_ble_eq_true rfl, Nat.le_of_ble_eq_true rfl⟩ (kI fun r44 μ42 x43 h => ?_)
              refine g_pop f dX5_one_85 rfl ?_
              refine g_aload_n f 0 dX5_one_86 rfl rfl ?_
              have v1 := mex_ok x43 v1
              refine g_callV f mk_X5_42 v1 (c_X5_next h) dX5_one_87 rfl rfl (Nat.le_of_ble_eq_true rfl) (rm_ok (by omega) (by decide)) ⟨Nat.le_of_ble_eq_true rfl, Nat.le_of_ble_eq_true rfl⟩ (kV fun μ45 x46 h => ?_)
              refine g_iconst f 1 dX5_one_90 kc_1 ?_
              exact g_zret f hq (Nat.le_of_ble_eq_true rfl) (Nat.le_of_ble_eq_true rfl) dX5_one_91 zb_1.1 h
            · refine g_aload_n f 0 dX5_one_66 rfl rfl ?_
              refine g_iconst f 2 dX5_one_67 kc_2 ?_
              refine g_callV f mk_X5_71 v1 (c_X5_refuse h) dX5_one_68 rfl rfl (Nat.le_of_ble_eq_true rfl) (rm_ok (by omega) (by decide)) ⟨Nat.le_of_ble_eq_true rfl, Nat.le_of_ble_eq_true rfl⟩ (kI fun r50 μ48 x49 h => ?_)
              exact g_zret f hq (Nat.le_of_ble_eq_true rfl) (Nat.le_of_ble_eq_true rfl) dX5_one_71 h.1.1 h.2
          · skip
            refine g_lookup f 215 dX5_one_4 (by decide) ((lv_osw (a := 17) e2 (by decide)).trans ((lv_osw (a := 18) e12 (by decide)).trans ((lv_osw (a := 31) e19 (by decide)).trans ((lv_osw (a := 34) e29 (by decide)).trans ((lv_osw (a := 50) e39 (by decide)).trans rfl))))) rfl ?_
            refine g_aload_n f 0 dX5_one_215 rfl rfl ?_
            refine g_callV f mk_X5_125 v1 (c_X5_name h) dX5_one_216 rfl rfl (Nat.le_of_ble_eq_true rfl) (rm_ok (by omega) (by decide)) ⟨Nat.le_of_ble_eq_true rfl, Nat.le_of_ble_eq_true rfl⟩ (kI fun r53 μ51 x52 h => ?_)
            exact g_zret f hq (Nat.le_of_ble_eq_true rfl) (Nat.le_of_ble_eq_true rfl) dX5_one_219 h.1.1 h.2
theorem dX5_choice_0 : decode cX5_choice 0 = .ok (.aload_n 0, 1) := by decide +kernel
theorem dX5_choice_1 : decode cX5_choice 1 = .ok (.iload_n 1, 1) := by decide +kernel
theorem dX5_choice_2 : decode cX5_choice 2 = .ok (.invokevirtual 132, 3) := by decide +kernel
theorem dX5_choice_5 : decode cX5_choice 5 = .ok (.ifCond .eq 12, 3) := by decide +kernel
theorem dX5_choice_8 : decode cX5_choice 8 = .ok (.aload_n 0, 1) := by decide +kernel
theorem dX5_choice_9 : decode cX5_choice 9 = .ok (.bipush 19, 2) := by decide +kernel
theorem dX5_choice_11 : decode cX5_choice 11 = .ok (.invokevirtual 94, 3) := by decide +kernel
theorem dX5_choice_14 : decode cX5_choice 14 = .ok (.ifCond .ne 5, 3) := by decide +kernel
theorem dX5_choice_17 : decode cX5_choice 17 = .ok (.iconst 0, 1) := by decide +kernel
theorem dX5_choice_18 : decode cX5_choice 18 = .ok (.ireturn, 1) := by decide +kernel
theorem dX5_choice_19 : decode cX5_choice 19 = .ok (.aload_n 0, 1) := by decide +kernel
theorem dX5_choice_20 : decode cX5_choice 20 = .ok (.getfield 21, 3) := by decide +kernel
theorem dX5_choice_23 : decode cX5_choice 23 = .ok (.bipush 19, 2) := by decide +kernel
theorem dX5_choice_25 : decode cX5_choice 25 = .ok (.iconst 0, 1) := by decide +kernel
theorem dX5_choice_26 : decode cX5_choice 26 = .ok (.invokevirtual 111, 3) := by decide +kernel
theorem dX5_choice_29 : decode cX5_choice 29 = .ok (.istore_n 2, 1) := by decide +kernel
theorem dX5_choice_30 : decode cX5_choice 30 = .ok (.aload_n 0, 1) := by decide +kernel
theorem dX5_choice_31 : decode cX5_choice 31 = .ok (.iload_n 1, 1) := by decide +kernel
theorem dX5_choice_32 : decode cX5_choice 32 = .ok (.invokevirtual 88, 3) := by decide +kernel
theorem dX5_choice_35 : decode cX5_choice 35 = .ok (.ifCond .eq 12, 3) := by decide +kernel
theorem dX5_choice_38 : decode cX5_choice 38 = .ok (.aload_n 0, 1) := by decide +kernel
theorem dX5_choice_39 : decode cX5_choice 39 = .ok (.bipush 20, 2) := by decide +kernel
theorem dX5_choice_41 : decode cX5_choice 41 = .ok (.invokevirtual 94, 3) := by decide +kernel
theorem dX5_choice_44 : decode cX5_choice 44 = .ok (.ifCond .ne 5, 3) := by decide +kernel
theorem dX5_choice_47 : decode cX5_choice 47 = .ok (.iconst 0, 1) := by decide +kernel
theorem dX5_choice_48 : decode cX5_choice 48 = .ok (.ireturn, 1) := by decide +kernel
theorem dX5_choice_49 : decode cX5_choice 49 = .ok (.aload_n 0, 1) := by decide +kernel
theorem dX5_choice_50 : decode cX5_choice 50 = .ok (.getfield 21, 3) := by decide +kernel
theorem dX5_choice_53 : decode cX5_choice 53 = .ok (.bipush 20, 2) := by decide +kernel
theorem dX5_choice_55 : decode cX5_choice 55 = .ok (.iconst 0, 1) := by decide +kernel
theorem dX5_choice_56 : decode cX5_choice 56 = .ok (.invokevirtual 111, 3) := by decide +kernel
theorem dX5_choice_59 : decode cX5_choice 59 = .ok (.istore_n 3, 1) := by decide +kernel
theorem dX5_choice_60 : decode cX5_choice 60 = .ok (.aload_n 0, 1) := by decide +kernel
theorem dX5_choice_61 : decode cX5_choice 61 = .ok (.getfield 21, 3) := by decide +kernel
theorem dX5_choice_64 : decode cX5_choice 64 = .ok (.iload_n 2, 1) := by decide +kernel
theorem dX5_choice_65 : decode cX5_choice 65 = .ok (.invokevirtual 135, 3) := by decide +kernel
theorem dX5_choice_68 : decode cX5_choice 68 = .ok (.aload_n 0, 1) := by decide +kernel
theorem dX5_choice_69 : decode cX5_choice 69 = .ok (.iload_n 1, 1) := by decide +kernel
theorem dX5_choice_70 : decode cX5_choice 70 = .ok (.invokevirtual 88, 3) := by decide +kernel
theorem dX5_choice_73 : decode cX5_choice 73 = .ok (.ifCond .eq 12, 3) := by decide +kernel
theorem dX5_choice_76 : decode cX5_choice 76 = .ok (.aload_n 0, 1) := by decide +kernel
theorem dX5_choice_77 : decode cX5_choice 77 = .ok (.bipush 21, 2) := by decide +kernel
theorem dX5_choice_79 : decode cX5_choice 79 = .ok (.invokevirtual 94, 3) := by decide +kernel
theorem dX5_choice_82 : decode cX5_choice 82 = .ok (.ifCond .ne 5, 3) := by decide +kernel
theorem dX5_choice_85 : decode cX5_choice 85 = .ok (.iconst 0, 1) := by decide +kernel
theorem dX5_choice_86 : decode cX5_choice 86 = .ok (.ireturn, 1) := by decide +kernel
theorem dX5_choice_87 : decode cX5_choice 87 = .ok (.aload_n 0, 1) := by decide +kernel
theorem dX5_choice_88 : decode cX5_choice 88 = .ok (.getfield 21, 3) := by decide +kernel
theorem dX5_choice_91 : decode cX5_choice 91 = .ok (.iload_n 3, 1) := by decide +kernel
theorem dX5_choice_92 : decode cX5_choice 92 = .ok (.invokevirtual 135, 3) := by decide +kernel
theorem dX5_choice_95 : decode cX5_choice 95 = .ok (.iconst 1, 1) := by decide +kernel
theorem dX5_choice_96 : decode cX5_choice 96 = .ok (.ireturn, 1) := by decide +kernel
def S_X5_choice (R : Nat → Nat → Int32 → Me → (Int32 → Me → Prop) → Prop) (o0 : Nat) (i1 : Int32) (μ : Me) (Q : Int32 → Me → Prop) : Prop := mok μ o0 5 ∧ R 4 o0 i1 μ (fun r4 μ2 => ((r4 = 0 → Q 0 μ2) ∧ (¬ r4 = 0 → S_X5_accept o0 19 μ2 (fun r7 μ5 => ((¬ r7 = 0 → ∃ t8, mgr μ5 o0 1 = some t8 ∧ mok μ5 t8 7 ∧ S_X7_add t8 19 0 μ5 (fun r12 μ10 => R 0 o0 i1 μ10 (fun r15 μ13 => ((r15 = 0 → Q 0 μ13) ∧ (¬ r15 = 0 → S_X5_accept o0 20 μ13 (fun r18 μ16 => ((¬ r18 = 0 → ∃ t19, mgr μ16 o0 1 = some t19 ∧ mok μ16 t19 7 ∧ S_X7_add t19 20 0 μ16 (fun r23 μ21 => ∃ t24, mgr μ21 o0 1 = some t24 ∧ mok μ21 t24 7 ∧ S_X7_skipToHere t24 r12 μ21 (fun μ26 => R 0 o0 i1 μ26 (fun r31 μ29 => ((r31 = 0 → Q 0 μ29) ∧ (¬ r31 = 0 → S_X5_accept o0 21 μ29 (fun r34 μ32 => ((¬ r34 = 0 → ∃ t35, mgr μ32 o0 1 = some t35 ∧ mok μ32 t35 7 ∧ S_X7_skipToHere t35 r23 μ32 (fun μ37 => Q 1 μ37)) ∧ (r34 = 0 → Q 0 μ32))))))))) ∧ (r18 = 0 → Q 0 μ16)))))))) ∧ (r7 = 0 → Q 0 μ5))))))
set_option maxHeartbeats 4000000 in
set_option maxRecDepth 100000 in
theorem t_X5_choice {x : GX} {d : Nat} {R : Nat → Nat → Int32 → Me → (Int32 → Me → Prop) → Prop} (f : Fx x cX5_choice RX5 4 (rmc (40 + (d + 1)) 0 0)) {o0 : Nat} {i1 : Int32} {μ : Me} {Q : Int32 → Me → Prop} (hq : Rt x (some .boolean) (qI Q)) (hR : RH (gO x) R d) (h : S_X5_choice R o0 i1 μ Q) : G x 4 0 [(0, .ref (gB x + o0)), (1, .int i1)] [] μ 0 0 := by
  unfold S_X5_choice at h
  refine g_aload_n f 0 dX5_choice_0 rfl rfl ?_
  refine g_iload_n f 1 dX5_choice_1 rfl rfl ?_
  obtain ⟨v1, h⟩ := h
  refine g_callV f mk_X5_132 v1 (hR.2.2.2.2.1 _ _ _ _ h) dX5_choice_2 rfl rfl (Nat.le_of_ble_eq_true rfl) (rm_ok (Nat.le_refl _) (by decide)) ⟨Nat.le_of_ble_eq_true rfl, Nat.le_of_ble_eq_true rfl⟩ (kI fun r4 μ2 x3 h => ?_)
  refine g_if_eq f 17 dX5_choice_5 rfl h (fun h => ?_) (fun h => ?_)
  · refine g_iconst f 0 dX5_choice_17 kc_0 ?_
    exact g_zret f hq (Nat.le_of_ble_eq_true rfl) (Nat.le_of_ble_eq_true rfl) dX5_choice_18 zb_0.1 h
  · refine g_aload_n f 0 dX5_choice_8 rfl rfl ?_
    refine g_bipush f 19 dX5_choice_9 kb_19 ?_
    have v1 := mex_ok x3 v1
    refine g_callV f mk_X5_94 v1 (c_X5_accept h) dX5_choice_11 rfl rfl (Nat.le_of_ble_eq_true rfl) (rm_ok (by omega) (by decide)) ⟨Nat.le_of_ble_eq_true rfl, Nat.le_of_ble_eq_true rfl⟩ (kI fun r7 μ5 x6 h => ?_)
    refine g_if_ne f 19 dX5_choice_14 rfl h (fun h => ?_) (fun h => ?_)
    · refine g_aload_n f 0 dX5_choice_19 rfl rfl ?_
      have v1 := mex_ok x6 v1
      refine g_getR f fk_X5_21 v1 dX5_choice_20 rfl h (fun t8 h => ?_)
      refine g_bipush f 19 dX5_choice_23 kb_19 ?_
      refine g_iconst f 0 dX5_choice_25 kc_0 ?_
      obtain ⟨v9, h⟩ := h
      refine g_callV f mk_X5_111 v9 (c_X7_add h) dX5_choice_26 rfl rfl (Nat.le_of_ble_eq_true rfl) (rm_ok (by omega) (by decide)) ⟨Nat.le_of_ble_eq_true rfl, Nat.le_of_ble_eq_true rfl⟩ (kI fun r12 μ10 x11 h => ?_)
      refine h_istore_n f dX5_choice_29 rfl (by decide) ?_
      refine g_aload_n f 1 dX5_choice_30 rfl rfl ?_
      refine g_iload_n f 2 dX5_choice_31 rfl rfl ?_
      have v1 := mex_ok x11 v1
      refine g_callV f mk_X5_88 v1 (hR.1 _ _ _ _ h) dX5_choice_32 rfl rfl (Nat.le_of_ble_eq_true rfl) (rm_ok (Nat.le_refl _) (by decide)) ⟨Nat.le_of_ble_eq_true rfl, Nat.le_of_ble_eq_true rfl⟩ (kI fun r15 μ13 x14 h => ?_)
      refine g_if_eq f 47 dX5_choice_35 rfl h (fun h => ?_) (fun h => ?_)
      · refine g_iconst f 0 dX5_choice_47 kc_0 ?_
        exact g_zret f hq (Nat.le_of_ble_eq_true rfl) (Nat.le_of_ble_eq_true rfl) dX5_choice_48 zb_0.1 h
      · refine g_aload_n f 1 dX5_choice_38 rfl rfl ?_
        refine g_bipush f 20 dX5_choice_39 kb_20 ?_
        have v1 := mex_ok x14 v1
        refine g_callV f mk_X5_94 v1 (c_X5_accept h) dX5_choice_41 rfl rfl (Nat.le_of_ble_eq_true rfl) (rm_ok (by omega) (by decide)) ⟨Nat.le_of_ble_eq_true rfl, Nat.le_of_ble_eq_true rfl⟩ (kI fun r18 μ16 x17 h => ?_)
        refine g_if_ne f 49 dX5_choice_44 rfl h (fun h => ?_) (fun h => ?_)
        · refine g_aload_n f 1 dX5_choice_49 rfl rfl ?_
          have v1 := mex_ok x17 v1
          refine g_getR f fk_X5_21 v1 dX5_choice_50 rfl h (fun t19 h => ?_)
          refine g_bipush f 20 dX5_choice_53 kb_20 ?_
          refine g_iconst f 0 dX5_choice_55 kc_0 ?_
          obtain ⟨v20, h⟩ := h
          refine g_callV f mk_X5_111 v20 (c_X7_add h) dX5_choice_56 rfl rfl (Nat.le_of_ble_eq_true rfl) (rm_ok (by omega) (by decide)) ⟨Nat.le_of_ble_eq_true rfl, Nat.le_of_ble_eq_true rfl⟩ (kI fun r23 μ21 x22 h => ?_)
          refine h_istore_n f dX5_choice_59 rfl (by decide) ?_
          refine g_aload_n f 2 dX5_choice_60 rfl rfl ?_
          have v1 := mex_ok x22 v1
          refine g_getR f fk_X5_21 v1 dX5_choice_61 rfl h (fun t24 h => ?_)
          refine g_iload_n f 1 dX5_choice_64 rfl rfl ?_
          obtain ⟨v25, h⟩ := h
          refine g_callV f mk_X5_135 v25 (c_X7_skipToHere h) dX5_choice_65 rfl rfl (Nat.le_of_ble_eq_true rfl) (rm_ok (by omega) (by decide)) ⟨Nat.le_of_ble_eq_true rfl, Nat.le_of_ble_eq_true rfl⟩ (kV fun μ26 x27 h => ?_)
          refine g_aload_n f 2 dX5_choice_68 rfl rfl ?_
          refine g_iload_n f 3 dX5_choice_69 rfl rfl ?_
          have v1 := mex_ok x27 v1
          refine g_callV f mk_X5_88 v1 (hR.1 _ _ _ _ h) dX5_choice_70 rfl rfl (Nat.le_of_ble_eq_true rfl) (rm_ok (Nat.le_refl _) (by decide)) ⟨Nat.le_of_ble_eq_true rfl, Nat.le_of_ble_eq_true rfl⟩ (kI fun r31 μ29 x30 h => ?_)
          refine g_if_eq f 85 dX5_choice_73 rfl h (fun h => ?_) (fun h => ?_)
          · refine g_iconst f 0 dX5_choice_85 kc_0 ?_
            exact g_zret f hq (Nat.le_of_ble_eq_true rfl) (Nat.le_of_ble_eq_true rfl) dX5_choice_86 zb_0.1 h
          · refine g_aload_n f 2 dX5_choice_76 rfl rfl ?_
            refine g_bipush f 21 dX5_choice_77 kb_21 ?_
            have v1 := mex_ok x30 v1
            refine g_callV f mk_X5_94 v1 (c_X5_accept h) dX5_choice_79 rfl rfl (Nat.le_of_ble_eq_true rfl) (rm_ok (by omega) (by decide)) ⟨Nat.le_of_ble_eq_true rfl, Nat.le_of_ble_eq_true rfl⟩ (kI fun r34 μ32 x33 h => ?_)
            refine g_if_ne f 87 dX5_choice_82 rfl h (fun h => ?_) (fun h => ?_)
            · refine g_aload_n f 2 dX5_choice_87 rfl rfl ?_
              have v1 := mex_ok x33 v1
              refine g_getR f fk_X5_21 v1 dX5_choice_88 rfl h (fun t35 h => ?_)
              refine g_iload_n f 0 dX5_choice_91 rfl rfl ?_
              obtain ⟨v36, h⟩ := h
              refine g_callV f mk_X5_135 v36 (c_X7_skipToHere h) dX5_choice_92 rfl rfl (Nat.le_of_ble_eq_true rfl) (rm_ok (by omega) (by decide)) ⟨Nat.le_of_ble_eq_true rfl, Nat.le_of_ble_eq_true rfl⟩ (kV fun μ37 x38 h => ?_)
              refine g_iconst f 1 dX5_choice_95 kc_1 ?_
              exact g_zret f hq (Nat.le_of_ble_eq_true rfl) (Nat.le_of_ble_eq_true rfl) dX5_choice_96 zb_1.1 h
            · refine g_iconst f 0 dX5_choice_85 kc_0 ?_
              exact g_zret f hq (Nat.le_of_ble_eq_true rfl) (Nat.le_of_ble_eq_true rfl) dX5_choice_86 zb_0.1 h
        · refine g_iconst f 0 dX5_choice_47 kc_0 ?_
          exact g_zret f hq (Nat.le_of_ble_eq_true rfl) (Nat.le_of_ble_eq_true rfl) dX5_choice_48 zb_0.1 h
    · refine g_iconst f 0 dX5_choice_17 kc_0 ?_
      exact g_zret f hq (Nat.le_of_ble_eq_true rfl) (Nat.le_of_ble_eq_true rfl) dX5_choice_18 zb_0.1 h
theorem dX5_either_0 : decode cX5_either 0 = .ok (.aload_n 0, 1) := by decide +kernel
theorem dX5_either_1 : decode cX5_either 1 = .ok (.iload_n 1, 1) := by decide +kernel
theorem dX5_either_2 : decode cX5_either 2 = .ok (.invokevirtual 138, 3) := by decide +kernel
theorem dX5_either_5 : decode cX5_either 5 = .ok (.istore_n 2, 1) := by decide +kernel
theorem dX5_either_6 : decode cX5_either 6 = .ok (.iconst 0, 1) := by decide +kernel
theorem dX5_either_7 : decode cX5_either 7 = .ok (.istore_n 3, 1) := by decide +kernel
theorem dX5_either_8 : decode cX5_either 8 = .ok (.iload_n 3, 1) := by decide +kernel
theorem dX5_either_9 : decode cX5_either 9 = .ok (.sipush 300, 3) := by decide +kernel
theorem dX5_either_12 : decode cX5_either 12 = .ok (.if_icmp .ge 58, 3) := by decide +kernel
theorem dX5_either_15 : decode cX5_either 15 = .ok (.iload_n 2, 1) := by decide +kernel
theorem dX5_either_16 : decode cX5_either 16 = .ok (.ifCond .eq 54, 3) := by decide +kernel
theorem dX5_either_19 : decode cX5_either 19 = .ok (.aload_n 0, 1) := by decide +kernel
theorem dX5_either_20 : decode cX5_either 20 = .ok (.getfield 45, 3) := by decide +kernel
theorem dX5_either_23 : decode cX5_either 23 = .ok (.bipush 22, 2) := by decide +kernel
theorem dX5_either_25 : decode cX5_either 25 = .ok (.if_icmp .eq 12, 3) := by decide +kernel
theorem dX5_either_28 : decode cX5_either 28 = .ok (.aload_n 0, 1) := by decide +kernel
theorem dX5_either_29 : decode cX5_either 29 = .ok (.getfield 45, 3) := by decide +kernel
theorem dX5_either_32 : decode cX5_either 32 = .ok (.bipush 23, 2) := by decide +kernel
theorem dX5_either_34 : decode cX5_either 34 = .ok (.if_icmp .ne 36, 3) := by decide +kernel
theorem dX5_either_37 : decode cX5_either 37 = .ok (.aload_n 0, 1) := by decide +kernel
theorem dX5_either_38 : decode cX5_either 38 = .ok (.getfield 45, 3) := by decide +kernel
theorem dX5_either_41 : decode cX5_either 41 = .ok (.istore 4, 2) := by decide +kernel
theorem dX5_either_43 : decode cX5_either 43 = .ok (.aload_n 0, 1) := by decide +kernel
theorem dX5_either_44 : decode cX5_either 44 = .ok (.invokevirtual 42, 3) := by decide +kernel
theorem dX5_either_47 : decode cX5_either 47 = .ok (.aload_n 0, 1) := by decide +kernel
theorem dX5_either_48 : decode cX5_either 48 = .ok (.iload_n 1, 1) := by decide +kernel
theorem dX5_either_49 : decode cX5_either 49 = .ok (.invokevirtual 138, 3) := by decide +kernel
theorem dX5_either_52 : decode cX5_either 52 = .ok (.istore_n 2, 1) := by decide +kernel
theorem dX5_either_53 : decode cX5_either 53 = .ok (.aload_n 0, 1) := by decide +kernel
theorem dX5_either_54 : decode cX5_either 54 = .ok (.getfield 21, 3) := by decide +kernel
theorem dX5_either_57 : decode cX5_either 57 = .ok (.iload 4, 2) := by decide +kernel
theorem dX5_either_59 : decode cX5_either 59 = .ok (.iconst 0, 1) := by decide +kernel
theorem dX5_either_60 : decode cX5_either 60 = .ok (.invokevirtual 111, 3) := by decide +kernel
theorem dX5_either_63 : decode cX5_either 63 = .ok (.pop, 1) := by decide +kernel
theorem dX5_either_64 : decode cX5_either 64 = .ok (.iinc 3 1, 3) := by decide +kernel
theorem dX5_either_67 : decode cX5_either 67 = .ok (.goto (-59), 3) := by decide +kernel
theorem dX5_either_70 : decode cX5_either 70 = .ok (.iload_n 2, 1) := by decide +kernel
theorem dX5_either_71 : decode cX5_either 71 = .ok (.ireturn, 1) := by decide +kernel
def B_X5_either_37 (R : Nat → Nat → Int32 → Me → (Int32 → Me → Prop) → Prop) (o0 : Nat) (i1 : Int32) (i3 : Int32) (μ : Me) (K8 : Int32 → Int32 → Me → Prop) (Q : Int32 → Me → Prop) : Prop := mok μ o0 5 ∧ S_X5_next o0 μ (fun μ7 => R 5 o0 i1 μ7 (fun r12 μ10 => ∃ t13, mgr μ10 o0 1 = some t13 ∧ mok μ10 t13 7 ∧ S_X7_add t13 (mgi μ o0 3) 0 μ10 (fun r17 μ15 => K8 r12 (i3 + 1) μ15)))
set_option maxHeartbeats 4000000 in
set_option maxRecDepth 100000 in
theorem tB_X5_either_37 {x : GX} {d : Nat} {R : Nat → Nat → Int32 → Me → (Int32 → Me → Prop) → Prop} (f : Fx x cX5_either RX5 5 (rmc (40 + (d + 1)) 0 0)) {o0 : Nat} {i1 : Int32} {i3 : Int32} {μ : Me} {Q : Int32 → Me → Prop} (hq : Rt x (some .boolean) (qI Q)) (hR : RH (gO x) R d) {K8 : Int32 → Int32 → Me → Prop} (hK8 : ∀ (a2 : Int32) (a3 : Int32) (ν : Me), K8 a2 a3 ν → G x 5 8 [(0, .ref (gB x + o0)), (1, .int i1), (2, .int a2), (3, .int a3)] [] ν 0 0) (h : B_X5_either_37 R o0 i1 i3 μ K8 Q) : G x 5 37 [(0, .ref (gB x + o0)), (1, .int i1), (3, .int i3)] [] μ 0 0 := by
  unfold B_X5_either_37 at h
  refine g_aload_n f 0 dX5_either_37 rfl rfl ?_
  obtain ⟨v6, h⟩ := h
  refine g_getI f fk_X5_45 v6 dX5_either_38 rfl ?_
  refine h_istore f dX5_either_41 (by decide) ?_
  refine g_aload_n f 1 dX5_either_43 rfl rfl ?_
  refine g_callV f mk_X5_42 v6 (c_X5_next h) dX5_either_44 rfl rfl (Nat.le_of_ble_eq_true rfl) (rm_ok (by omega) (by decide)) ⟨Nat.le_of_ble_eq_true rfl, Nat.le_of_ble_eq_true rfl⟩ (kV fun μ7 x8 h => ?_)
  refine g_aload_n f 1 dX5_either_47 rfl rfl ?_
  refine g_iload_n f 2 dX5_either_48 rfl rfl ?_
  have v6 := mex_ok x8 v6
  refine g_callV f mk_X5_138 v6 (hR.2.2.2.2.2.1 _ _ _ _ h) dX5_either_49 rfl rfl (Nat.le_of_ble_eq_true rfl) (rm_ok (Nat.le_refl _) (by decide)) ⟨Nat.le_of_ble_eq_true rfl, Nat.le_of_ble_eq_true rfl⟩ (kI fun r12 μ10 x11 h => ?_)
  refine h_istore_n f dX5_either_52 rfl (by decide) ?_
  refine g_aload_n f 2 dX5_either_53 rfl rfl ?_
  have v6 := mex_ok x11 v6
  refine g_getR f fk_X5_21 v6 dX5_either_54 rfl h (fun t13 h => ?_)
  refine g_iload f 1 dX5_either_57 rfl ?_
  refine g_iconst f 0 dX5_either_59 kc_0 ?_
  obtain ⟨v14, h⟩ := h
  refine g_callV f mk_X5_111 v14 (c_X7_add h) dX5_either_60 rfl rfl (Nat.le_of_ble_eq_true rfl) (rm_ok (by omega) (by decide)) ⟨Nat.le_of_ble_eq_true rfl, Nat.le_of_ble_eq_true rfl⟩ (kI fun r17 μ15 x16 h => ?_)
  refine g_pop f dX5_either_63 rfl ?_
  refine h_iinc f 4 1 dX5_either_64 rfl kc_1 (by decide) ?_
  refine g_goto f 8 dX5_either_67 rfl ?_
  exact h_sub [3, 4, 1, 0] rfl (hK8 _ _ _ h)
def B_X5_either_8 (R : Nat → Nat → Int32 → Me → (Int32 → Me → Prop) → Prop) (o0 : Nat) (i1 : Int32) (i2 : Int32) (i3 : Int32) (μ : Me) (K8 : Int32 → Int32 → Me → Prop) (Q : Int32 → Me → Prop) : Prop := ((300 ≤ i3 → zb i2 ∧ Q i2 μ) ∧ (¬ 300 ≤ i3 → ((i2 = 0 → zb i2 ∧ Q i2 μ) ∧ (¬ i2 = 0 → mok μ o0 5 ∧ (((mgi μ o0 3) = 22 → B_X5_either_37 R o0 i1 i3 μ K8 Q) ∧ (¬ (mgi μ o0 3) = 22 → ((¬ (mgi μ o0 3) = 23 → zb i2 ∧ Q i2 μ) ∧ ((mgi μ o0 3) = 23 → B_X5_either_37 R o0 i1 i3 μ K8 Q))))))))
set_option maxHeartbeats 4000000 in
set_option maxRecDepth 100000 in
theorem tB_X5_either_8 {x : GX} {d : Nat} {R : Nat → Nat → Int32 → Me → (Int32 → Me → Prop) → Prop} (f : Fx x cX5_either RX5 5 (rmc (40 + (d + 1)) 0 0)) {o0 : Nat} {i1 : Int32} {i2 : Int32} {i3 : Int32} {μ : Me} {Q : Int32 → Me → Prop} (hq : Rt x (some .boolean) (qI Q)) (hR : RH (gO x) R d) {K8 : Int32 → Int32 → Me → Prop} (hK8 : ∀ (a2 : Int32) (a3 : Int32) (ν : Me), K8 a2 a3 ν → G x 5 8 [(0, .ref (gB x + o0)), (1, .int i1), (2, .int a2), (3, .int a3)] [] ν 0 0) (h : B_X5_either_8 R o0 i1 i2 i3 μ K8 Q) : G x 5 8 [(0, .ref (gB x + o0)), (1, .int i1), (2, .int i2), (3, .int i3)] [] μ 0 0 := by
  unfold B_X5_either_8 at h
  refine g_iload_n f 3 dX5_either_8 rfl rfl ?_
  refine g_sipush f 300 dX5_either_9 ks_300 ?_
  refine g_ic_ge f 70 dX5_either_12 rfl h (fun h => ?_) (fun h => ?_)
  · refine g_iload_n f 2 dX5_either_70 rfl rfl ?_
    exact g_zret f hq (Nat.le_of_ble_eq_true rfl) (Nat.le_of_ble_eq_true rfl) dX5_either_71 h.1.1 h.2
  · refine g_iload_n f 2 dX5_either_15 rfl rfl ?_
    refine g_if_eq f 70 dX5_either_16 rfl h (fun h => ?_) (fun h => ?_)
    · refine g_iload_n f 2 dX5_either_70 rfl rfl ?_
      exact g_zret f hq (Nat.le_of_ble_eq_true rfl) (Nat.le_of_ble_eq_true rfl) dX5_either_71 h.1.1 h.2
    · refine g_aload_n f 0 dX5_either_19 rfl rfl ?_
      obtain ⟨v5, h⟩ := h
      refine g_getI f fk_X5_45 v5 dX5_either_20 rfl ?_
      refine g_bipush f 22 dX5_either_23 kb_22 ?_
      refine g_ic_eq f 37 dX5_either_25 rfl h (fun h => ?_) (fun h => ?_)
      · exact h_sub [0, 1, 3] rfl (tB_X5_either_37 f hq hR hK8 h)
      · refine g_aload_n f 0 dX5_either_28 rfl rfl ?_
        refine g_getI f fk_X5_45 v5 dX5_either_29 rfl ?_
        refine g_bipush f 23 dX5_either_32 kb_23 ?_
        refine g_ic_ne f 70 dX5_either_34 rfl h (fun h => ?_) (fun h => ?_)
        · refine g_iload_n f 2 dX5_either_70 rfl rfl ?_
          exact g_zret f hq (Nat.le_of_ble_eq_true rfl) (Nat.le_of_ble_eq_true rfl) dX5_either_71 h.1.1 h.2
        · exact h_sub [0, 1, 3] rfl (tB_X5_either_37 f hq hR hK8 h)
def L_X5_either_8 (R : Nat → Nat → Int32 → Me → (Int32 → Me → Prop) → Prop) (o0 : Nat) (i1 : Int32) (i2 : Int32) (i3 : Int32) (μ : Me) (Q : Int32 → Me → Prop) : Prop := ∃ I : Int32 → Int32 → Me → Nat → Prop, (∃ n, I i2 i3 μ n) ∧ ∀ (i2 : Int32) (i3 : Int32) (μ : Me) (n : Nat), I i2 i3 μ n → B_X5_either_8 R o0 i1 i2 i3 μ (fun a2 a3 ν => ∃ n', n' < n ∧ I a2 a3 ν n') Q
set_option maxHeartbeats 4000000 in
set_option maxRecDepth 100000 in
theorem tL_X5_either_8 {x : GX} {d : Nat} {R : Nat → Nat → Int32 → Me → (Int32 → Me → Prop) → Prop} (f : Fx x cX5_either RX5 5 (rmc (40 + (d + 1)) 0 0)) {o0 : Nat} {i1 : Int32} {i2 : Int32} {i3 : Int32} {μ : Me} {Q : Int32 → Me → Prop} (hq : Rt x (some .boolean) (qI Q)) (hR : RH (gO x) R d) (h : L_X5_either_8 R o0 i1 i2 i3 μ Q) : G x 5 8 [(0, .ref (gB x + o0)), (1, .int i1), (2, .int i2), (3, .int i3)] [] μ 0 0 := by
  obtain ⟨I, ⟨n, hI⟩, hs⟩ := h
  induction n using Nat.strongRecOn generalizing i2 i3 μ with
  | ind n ih => exact tB_X5_either_8 f hq hR (fun a2 a3 ν hk => by obtain ⟨n2, hn, hI2⟩ := hk; exact ih n2 hn hI2) (hs _ _ _ _ hI)
def S_X5_either (R : Nat → Nat → Int32 → Me → (Int32 → Me → Prop) → Prop) (o0 : Nat) (i1 : Int32) (μ : Me) (Q : Int32 → Me → Prop) : Prop := mok μ o0 5 ∧ R 5 o0 i1 μ (fun r4 μ2 => L_X5_either_8 R o0 i1 r4 0 μ2 Q)
set_option maxHeartbeats 4000000 in
set_option maxRecDepth 100000 in
theorem t_X5_either {x : GX} {d : Nat} {R : Nat → Nat → Int32 → Me → (Int32 → Me → Prop) → Prop} (f : Fx x cX5_either RX5 5 (rmc (40 + (d + 1)) 0 0)) {o0 : Nat} {i1 : Int32} {μ : Me} {Q : Int32 → Me → Prop} (hq : Rt x (some .boolean) (qI Q)) (hR : RH (gO x) R d) (h : S_X5_either R o0 i1 μ Q) : G x 5 0 [(0, .ref (gB x + o0)), (1, .int i1)] [] μ 0 0 := by
  unfold S_X5_either at h
  refine g_aload_n f 0 dX5_either_0 rfl rfl ?_
  refine g_iload_n f 1 dX5_either_1 rfl rfl ?_
  obtain ⟨v1, h⟩ := h
  refine g_callV f mk_X5_138 v1 (hR.2.2.2.2.2.1 _ _ _ _ h) dX5_either_2 rfl rfl (Nat.le_of_ble_eq_true rfl) (rm_ok (Nat.le_refl _) (by decide)) ⟨Nat.le_of_ble_eq_true rfl, Nat.le_of_ble_eq_true rfl⟩ (kI fun r4 μ2 x3 h => ?_)
  refine h_istore_n f dX5_either_5 rfl (by decide) ?_
  refine g_iconst f 0 dX5_either_6 kc_0 ?_
  refine h_istore_n f dX5_either_7 rfl (by decide) ?_
  exact h_sub [2, 3, 1, 0] rfl (tL_X5_either_8 f hq hR h)
theorem dX5_both_0 : decode cX5_both 0 = .ok (.aload_n 0, 1) := by decide +kernel
theorem dX5_both_1 : decode cX5_both 1 = .ok (.iload_n 1, 1) := by decide +kernel
theorem dX5_both_2 : decode cX5_both 2 = .ok (.invokevirtual 141, 3) := by decide +kernel
theorem dX5_both_5 : decode cX5_both 5 = .ok (.istore_n 2, 1) := by decide +kernel
theorem dX5_both_6 : decode cX5_both 6 = .ok (.iconst 0, 1) := by decide +kernel
theorem dX5_both_7 : decode cX5_both 7 = .ok (.istore_n 3, 1) := by decide +kernel
theorem dX5_both_8 : decode cX5_both 8 = .ok (.iload_n 3, 1) := by decide +kernel
theorem dX5_both_9 : decode cX5_both 9 = .ok (.sipush 300, 3) := by decide +kernel
theorem dX5_both_12 : decode cX5_both 12 = .ok (.if_icmp .ge 43, 3) := by decide +kernel
theorem dX5_both_15 : decode cX5_both 15 = .ok (.iload_n 2, 1) := by decide +kernel
theorem dX5_both_16 : decode cX5_both 16 = .ok (.ifCond .eq 39, 3) := by decide +kernel
theorem dX5_both_19 : decode cX5_both 19 = .ok (.aload_n 0, 1) := by decide +kernel
theorem dX5_both_20 : decode cX5_both 20 = .ok (.getfield 45, 3) := by decide +kernel
theorem dX5_both_23 : decode cX5_both 23 = .ok (.bipush 24, 2) := by decide +kernel
theorem dX5_both_25 : decode cX5_both 25 = .ok (.if_icmp .ne 30, 3) := by decide +kernel
theorem dX5_both_28 : decode cX5_both 28 = .ok (.aload_n 0, 1) := by decide +kernel
theorem dX5_both_29 : decode cX5_both 29 = .ok (.invokevirtual 42, 3) := by decide +kernel
theorem dX5_both_32 : decode cX5_both 32 = .ok (.aload_n 0, 1) := by decide +kernel
theorem dX5_both_33 : decode cX5_both 33 = .ok (.iload_n 1, 1) := by decide +kernel
theorem dX5_both_34 : decode cX5_both 34 = .ok (.invokevirtual 141, 3) := by decide +kernel
theorem dX5_both_37 : decode cX5_both 37 = .ok (.istore_n 2, 1) := by decide +kernel
theorem dX5_both_38 : decode cX5_both 38 = .ok (.aload_n 0, 1) := by decide +kernel
theorem dX5_both_39 : decode cX5_both 39 = .ok (.getfield 21, 3) := by decide +kernel
theorem dX5_both_42 : decode cX5_both 42 = .ok (.bipush 24, 2) := by decide +kernel
theorem dX5_both_44 : decode cX5_both 44 = .ok (.iconst 0, 1) := by decide +kernel
theorem dX5_both_45 : decode cX5_both 45 = .ok (.invokevirtual 111, 3) := by decide +kernel
theorem dX5_both_48 : decode cX5_both 48 = .ok (.pop, 1) := by decide +kernel
theorem dX5_both_49 : decode cX5_both 49 = .ok (.iinc 3 1, 3) := by decide +kernel
theorem dX5_both_52 : decode cX5_both 52 = .ok (.goto (-44), 3) := by decide +kernel
theorem dX5_both_55 : decode cX5_both 55 = .ok (.iload_n 2, 1) := by decide +kernel
theorem dX5_both_56 : decode cX5_both 56 = .ok (.ireturn, 1) := by decide +kernel
def B_X5_both_8 (R : Nat → Nat → Int32 → Me → (Int32 → Me → Prop) → Prop) (o0 : Nat) (i1 : Int32) (i2 : Int32) (i3 : Int32) (μ : Me) (K8 : Int32 → Int32 → Me → Prop) (Q : Int32 → Me → Prop) : Prop := ((300 ≤ i3 → zb i2 ∧ Q i2 μ) ∧ (¬ 300 ≤ i3 → ((i2 = 0 → zb i2 ∧ Q i2 μ) ∧ (¬ i2 = 0 → mok μ o0 5 ∧ ((¬ (mgi μ o0 3) = 24 → zb i2 ∧ Q i2 μ) ∧ ((mgi μ o0 3) = 24 → S_X5_next o0 μ (fun μ6 => R 6 o0 i1 μ6 (fun r11 μ9 => ∃ t12, mgr μ9 o0 1 = some t12 ∧ mok μ9 t12 7 ∧ S_X7_add t12 24 0 μ9 (fun r16 μ14 => K8 r11 (i3 + 1) μ14)))))))))
set_option maxHeartbeats 4000000 in
set_option maxRecDepth 100000 in
theorem tB_X5_both_8 {x : GX} {d : Nat} {R : Nat → Nat → Int32 → Me → (Int32 → Me → Prop) → Prop} (f : Fx x cX5_both RX5 4 (rmc (40 + (d + 1)) 0 0)) {o0 : Nat} {i1 : Int32} {i2 : Int32} {i3 : Int32} {μ : Me} {Q : Int32 → Me → Prop} (hq : Rt x (some .boolean) (qI Q)) (hR : RH (gO x) R d) {K8 : Int32 → Int32 → Me → Prop} (hK8 : ∀ (a2 : Int32) (a3 : Int32) (ν : Me), K8 a2 a3 ν → G x 4 8 [(0, .ref (gB x + o0)), (1, .int i1), (2, .int a2), (3, .int a3)] [] ν 0 0) (h : B_X5_both_8 R o0 i1 i2 i3 μ K8 Q) : G x 4 8 [(0, .ref (gB x + o0)), (1, .int i1), (2, .int i2), (3, .int i3)] [] μ 0 0 := by
  unfold B_X5_both_8 at h
  refine g_iload_n f 3 dX5_both_8 rfl rfl ?_
  refine g_sipush f 300 dX5_both_9 ks_300 ?_
  refine g_ic_ge f 55 dX5_both_12 rfl h (fun h => ?_) (fun h => ?_)
  · refine g_iload_n f 2 dX5_both_55 rfl rfl ?_
    exact g_zret f hq (Nat.le_of_ble_eq_true rfl) (Nat.le_of_ble_eq_true rfl) dX5_both_56 h.1.1 h.2
  · refine g_iload_n f 2 dX5_both_15 rfl rfl ?_
    refine g_if_eq f 55 dX5_both_16 rfl h (fun h => ?_) (fun h => ?_)
    · refine g_iload_n f 2 dX5_both_55 rfl rfl ?_
      exact g_zret f hq (Nat.le_of_ble_eq_true rfl) (Nat.le_of_ble_eq_true rfl) dX5_both_56 h.1.1 h.2
    · refine g_aload_n f 0 dX5_both_19 rfl rfl ?_
      obtain ⟨v5, h⟩ := h
      refine g_getI f fk_X5_45 v5 dX5_both_20 rfl ?_
      refine g_bipush f 24 dX5_both_23 kb_24 ?_
      refine g_ic_ne f 55 dX5_both_25 rfl h (fun h => ?_) (fun h => ?_)
      · refine g_iload_n f 2 dX5_both_55 rfl rfl ?_
        exact g_zret f hq (Nat.le_of_ble_eq_true rfl) (Nat.le_of_ble_eq_true rfl) dX5_both_56 h.1.1 h.2
      · refine g_aload_n f 0 dX5_both_28 rfl rfl ?_
        refine g_callV f mk_X5_42 v5 (c_X5_next h) dX5_both_29 rfl rfl (Nat.le_of_ble_eq_true rfl) (rm_ok (by omega) (by decide)) ⟨Nat.le_of_ble_eq_true rfl, Nat.le_of_ble_eq_true rfl⟩ (kV fun μ6 x7 h => ?_)
        refine g_aload_n f 0 dX5_both_32 rfl rfl ?_
        refine g_iload_n f 1 dX5_both_33 rfl rfl ?_
        have v5 := mex_ok x7 v5
        refine g_callV f mk_X5_141 v5 (hR.2.2.2.2.2.2 _ _ _ _ h) dX5_both_34 rfl rfl (Nat.le_of_ble_eq_true rfl) (rm_ok (Nat.le_refl _) (by decide)) ⟨Nat.le_of_ble_eq_true rfl, Nat.le_of_ble_eq_true rfl⟩ (kI fun r11 μ9 x10 h => ?_)
        refine h_istore_n f dX5_both_37 rfl (by decide) ?_
        refine g_aload_n f 1 dX5_both_38 rfl rfl ?_
        have v5 := mex_ok x10 v5
        refine g_getR f fk_X5_21 v5 dX5_both_39 rfl h (fun t12 h => ?_)
        refine g_bipush f 24 dX5_both_42 kb_24 ?_
        refine g_iconst f 0 dX5_both_44 kc_0 ?_
        obtain ⟨v13, h⟩ := h
        refine g_callV f mk_X5_111 v13 (c_X7_add h) dX5_both_45 rfl rfl (Nat.le_of_ble_eq_true rfl) (rm_ok (by omega) (by decide)) ⟨Nat.le_of_ble_eq_true rfl, Nat.le_of_ble_eq_true rfl⟩ (kI fun r16 μ14 x15 h => ?_)
        refine g_pop f dX5_both_48 rfl ?_
        refine h_iinc f 3 1 dX5_both_49 rfl kc_1 (by decide) ?_
        refine g_goto f 8 dX5_both_52 rfl ?_
        exact h_sub [2, 3, 1, 0] rfl (hK8 _ _ _ h)
def L_X5_both_8 (R : Nat → Nat → Int32 → Me → (Int32 → Me → Prop) → Prop) (o0 : Nat) (i1 : Int32) (i2 : Int32) (i3 : Int32) (μ : Me) (Q : Int32 → Me → Prop) : Prop := ∃ I : Int32 → Int32 → Me → Nat → Prop, (∃ n, I i2 i3 μ n) ∧ ∀ (i2 : Int32) (i3 : Int32) (μ : Me) (n : Nat), I i2 i3 μ n → B_X5_both_8 R o0 i1 i2 i3 μ (fun a2 a3 ν => ∃ n', n' < n ∧ I a2 a3 ν n') Q
set_option maxHeartbeats 4000000 in
set_option maxRecDepth 100000 in
theorem tL_X5_both_8 {x : GX} {d : Nat} {R : Nat → Nat → Int32 → Me → (Int32 → Me → Prop) → Prop} (f : Fx x cX5_both RX5 4 (rmc (40 + (d + 1)) 0 0)) {o0 : Nat} {i1 : Int32} {i2 : Int32} {i3 : Int32} {μ : Me} {Q : Int32 → Me → Prop} (hq : Rt x (some .boolean) (qI Q)) (hR : RH (gO x) R d) (h : L_X5_both_8 R o0 i1 i2 i3 μ Q) : G x 4 8 [(0, .ref (gB x + o0)), (1, .int i1), (2, .int i2), (3, .int i3)] [] μ 0 0 := by
  obtain ⟨I, ⟨n, hI⟩, hs⟩ := h
  induction n using Nat.strongRecOn generalizing i2 i3 μ with
  | ind n ih => exact tB_X5_both_8 f hq hR (fun a2 a3 ν hk => by obtain ⟨n2, hn, hI2⟩ := hk; exact ih n2 hn hI2) (hs _ _ _ _ hI)
def S_X5_both (R : Nat → Nat → Int32 → Me → (Int32 → Me → Prop) → Prop) (o0 : Nat) (i1 : Int32) (μ : Me) (Q : Int32 → Me → Prop) : Prop := mok μ o0 5 ∧ R 6 o0 i1 μ (fun r4 μ2 => L_X5_both_8 R o0 i1 r4 0 μ2 Q)
set_option maxHeartbeats 4000000 in
set_option maxRecDepth 100000 in
theorem t_X5_both {x : GX} {d : Nat} {R : Nat → Nat → Int32 → Me → (Int32 → Me → Prop) → Prop} (f : Fx x cX5_both RX5 4 (rmc (40 + (d + 1)) 0 0)) {o0 : Nat} {i1 : Int32} {μ : Me} {Q : Int32 → Me → Prop} (hq : Rt x (some .boolean) (qI Q)) (hR : RH (gO x) R d) (h : S_X5_both R o0 i1 μ Q) : G x 4 0 [(0, .ref (gB x + o0)), (1, .int i1)] [] μ 0 0 := by
  unfold S_X5_both at h
  refine g_aload_n f 0 dX5_both_0 rfl rfl ?_
  refine g_iload_n f 1 dX5_both_1 rfl rfl ?_
  obtain ⟨v1, h⟩ := h
  refine g_callV f mk_X5_141 v1 (hR.2.2.2.2.2.2 _ _ _ _ h) dX5_both_2 rfl rfl (Nat.le_of_ble_eq_true rfl) (rm_ok (Nat.le_refl _) (by decide)) ⟨Nat.le_of_ble_eq_true rfl, Nat.le_of_ble_eq_true rfl⟩ (kI fun r4 μ2 x3 h => ?_)
  refine h_istore_n f dX5_both_5 rfl (by decide) ?_
  refine g_iconst f 0 dX5_both_6 kc_0 ?_
  refine h_istore_n f dX5_both_7 rfl (by decide) ?_
  exact h_sub [2, 3, 1, 0] rfl (tL_X5_both_8 f hq hR h)
theorem dX5_ask_0 : decode cX5_ask 0 = .ok (.aload_n 0, 1) := by decide +kernel
theorem dX5_ask_1 : decode cX5_ask 1 = .ok (.getfield 45, 3) := by decide +kernel
theorem dX5_ask_4 : decode cX5_ask 4 = .ok (.bipush 25, 2) := by decide +kernel
theorem dX5_ask_6 : decode cX5_ask 6 = .ok (.if_icmp .ne 36, 3) := by decide +kernel
theorem dX5_ask_9 : decode cX5_ask 9 = .ok (.aload_n 0, 1) := by decide +kernel
theorem dX5_ask_10 : decode cX5_ask 10 = .ok (.iload_n 1, 1) := by decide +kernel
theorem dX5_ask_11 : decode cX5_ask 11 = .ok (.invokevirtual 117, 3) := by decide +kernel
theorem dX5_ask_14 : decode cX5_ask 14 = .ok (.ifCond .eq 26, 3) := by decide +kernel
theorem dX5_ask_17 : decode cX5_ask 17 = .ok (.aload_n 0, 1) := by decide +kernel
theorem dX5_ask_18 : decode cX5_ask 18 = .ok (.iload_n 1, 1) := by decide +kernel
theorem dX5_ask_19 : decode cX5_ask 19 = .ok (.iconst 1, 1) := by decide +kernel
theorem dX5_ask_20 : decode cX5_ask 20 = .ok (.iadd, 1) := by decide +kernel
theorem dX5_ask_21 : decode cX5_ask 21 = .ok (.invokevirtual 141, 3) := by decide +kernel
theorem dX5_ask_24 : decode cX5_ask 24 = .ok (.ifCond .eq 16, 3) := by decide +kernel
theorem dX5_ask_27 : decode cX5_ask 27 = .ok (.aload_n 0, 1) := by decide +kernel
theorem dX5_ask_28 : decode cX5_ask 28 = .ok (.bipush 25, 2) := by decide +kernel
theorem dX5_ask_30 : decode cX5_ask 30 = .ok (.invokevirtual 120, 3) := by decide +kernel
theorem dX5_ask_33 : decode cX5_ask 33 = .ok (.ifCond .eq 7, 3) := by decide +kernel
theorem dX5_ask_36 : decode cX5_ask 36 = .ok (.iconst 1, 1) := by decide +kernel
theorem dX5_ask_37 : decode cX5_ask 37 = .ok (.goto 4, 3) := by decide +kernel
theorem dX5_ask_40 : decode cX5_ask 40 = .ok (.iconst 0, 1) := by decide +kernel
theorem dX5_ask_41 : decode cX5_ask 41 = .ok (.ireturn, 1) := by decide +kernel
theorem dX5_ask_42 : decode cX5_ask 42 = .ok (.aload_n 0, 1) := by decide +kernel
theorem dX5_ask_43 : decode cX5_ask 43 = .ok (.iload_n 1, 1) := by decide +kernel
theorem dX5_ask_44 : decode cX5_ask 44 = .ok (.invokevirtual 88, 3) := by decide +kernel
theorem dX5_ask_47 : decode cX5_ask 47 = .ok (.ifCond .ne 5, 3) := by decide +kernel
theorem dX5_ask_50 : decode cX5_ask 50 = .ok (.iconst 0, 1) := by decide +kernel
theorem dX5_ask_51 : decode cX5_ask 51 = .ok (.ireturn, 1) := by decide +kernel
theorem dX5_ask_52 : decode cX5_ask 52 = .ok (.aload_n 0, 1) := by decide +kernel
theorem dX5_ask_53 : decode cX5_ask 53 = .ok (.getfield 45, 3) := by decide +kernel
theorem dX5_ask_56 : decode cX5_ask 56 = .ok (.istore_n 2, 1) := by decide +kernel
theorem dX5_ask_57 : decode cX5_ask 57 = .ok (.iload_n 2, 1) := by decide +kernel
theorem dX5_ask_58 : decode cX5_ask 58 = .ok (.bipush 37, 2) := by decide +kernel
theorem dX5_ask_60 : decode cX5_ask 60 = .ok (.if_icmp .lt 9, 3) := by decide +kernel
theorem dX5_ask_63 : decode cX5_ask 63 = .ok (.iload_n 2, 1) := by decide +kernel
theorem dX5_ask_64 : decode cX5_ask 64 = .ok (.bipush 42, 2) := by decide +kernel
theorem dX5_ask_66 : decode cX5_ask 66 = .ok (.if_icmp .le 9, 3) := by decide +kernel
theorem dX5_ask_69 : decode cX5_ask 69 = .ok (.aload_n 0, 1) := by decide +kernel
theorem dX5_ask_70 : decode cX5_ask 70 = .ok (.iconst 1, 1) := by decide +kernel
theorem dX5_ask_71 : decode cX5_ask 71 = .ok (.invokevirtual 71, 3) := by decide +kernel
theorem dX5_ask_74 : decode cX5_ask 74 = .ok (.ireturn, 1) := by decide +kernel
theorem dX5_ask_75 : decode cX5_ask 75 = .ok (.aload_n 0, 1) := by decide +kernel
theorem dX5_ask_76 : decode cX5_ask 76 = .ok (.invokevirtual 42, 3) := by decide +kernel
theorem dX5_ask_79 : decode cX5_ask 79 = .ok (.aload_n 0, 1) := by decide +kernel
theorem dX5_ask_80 : decode cX5_ask 80 = .ok (.iload_n 1, 1) := by decide +kernel
theorem dX5_ask_81 : decode cX5_ask 81 = .ok (.invokevirtual 88, 3) := by decide +kernel
theorem dX5_ask_84 : decode cX5_ask 84 = .ok (.ifCond .eq 15, 3) := by decide +kernel
theorem dX5_ask_87 : decode cX5_ask 87 = .ok (.aload_n 0, 1) := by decide +kernel
theorem dX5_ask_88 : decode cX5_ask 88 = .ok (.iload_n 2, 1) := by decide +kernel
theorem dX5_ask_89 : decode cX5_ask 89 = .ok (.invokevirtual 120, 3) := by decide +kernel
theorem dX5_ask_92 : decode cX5_ask 92 = .ok (.ifCond .eq 7, 3) := by decide +kernel
theorem dX5_ask_95 : decode cX5_ask 95 = .ok (.iconst 1, 1) := by decide +kernel
theorem dX5_ask_96 : decode cX5_ask 96 = .ok (.goto 4, 3) := by decide +kernel
theorem dX5_ask_99 : decode cX5_ask 99 = .ok (.iconst 0, 1) := by decide +kernel
theorem dX5_ask_100 : decode cX5_ask 100 = .ok (.ireturn, 1) := by decide +kernel
def B_X5_ask_69 (R : Nat → Nat → Int32 → Me → (Int32 → Me → Prop) → Prop) (o0 : Nat) (μ : Me) (Q : Int32 → Me → Prop) : Prop := mok μ o0 5 ∧ S_X5_refuse o0 1 μ (fun r8 μ6 => zb r8 ∧ Q r8 μ6)
set_option maxHeartbeats 4000000 in
set_option maxRecDepth 100000 in
theorem tB_X5_ask_69 {x : GX} {d : Nat} {R : Nat → Nat → Int32 → Me → (Int32 → Me → Prop) → Prop} (f : Fx x cX5_ask RX5 3 (rmc (40 + (d + 1)) 0 0)) {o0 : Nat} {μ : Me} {Q : Int32 → Me → Prop} (hq : Rt x (some .boolean) (qI Q)) (hR : RH (gO x) R d) (h : B_X5_ask_69 R o0 μ Q) : G x 3 69 [(0, .ref (gB x + o0))] [] μ 0 0 := by
  unfold B_X5_ask_69 at h
  refine g_aload_n f 0 dX5_ask_69 rfl rfl ?_
  refine g_iconst f 1 dX5_ask_70 kc_1 ?_
  obtain ⟨v5, h⟩ := h
  refine g_callV f mk_X5_71 v5 (c_X5_refuse h) dX5_ask_71 rfl rfl (Nat.le_of_ble_eq_true rfl) (rm_ok (by omega) (by decide)) ⟨Nat.le_of_ble_eq_true rfl, Nat.le_of_ble_eq_true rfl⟩ (kI fun r8 μ6 x7 h => ?_)
  exact g_zret f hq (Nat.le_of_ble_eq_true rfl) (Nat.le_of_ble_eq_true rfl) dX5_ask_74 h.1.1 h.2
def S_X5_ask (R : Nat → Nat → Int32 → Me → (Int32 → Me → Prop) → Prop) (o0 : Nat) (i1 : Int32) (μ : Me) (Q : Int32 → Me → Prop) : Prop := mok μ o0 5 ∧ ((¬ (mgi μ o0 3) = 25 → R 0 o0 i1 μ (fun r4 μ2 => ((¬ r4 = 0 → (((mgi μ2 o0 3) < 37 → B_X5_ask_69 R o0 μ2 Q) ∧ (¬ (mgi μ2 o0 3) < 37 → (((mgi μ2 o0 3) ≤ 42 → S_X5_next o0 μ2 (fun μ9 => R 0 o0 i1 μ9 (fun r14 μ12 => ((r14 = 0 → Q 0 μ12) ∧ (¬ r14 = 0 → S_X5_put o0 (mgi μ2 o0 3) μ12 (fun r17 μ15 => ((r17 = 0 → Q 0 μ15) ∧ (¬ r17 = 0 → Q 1 μ15)))))))) ∧ (¬ (mgi μ2 o0 3) ≤ 42 → B_X5_ask_69 R o0 μ2 Q))))) ∧ (r4 = 0 → Q 0 μ2)))) ∧ ((mgi μ o0 3) = 25 → S_X5_opens o0 i1 μ (fun r20 μ18 => ((r20 = 0 → Q 0 μ18) ∧ (¬ r20 = 0 → R 6 o0 (i1 + 1) μ18 (fun r23 μ21 => ((r23 = 0 → Q 0 μ21) ∧ (¬ r23 = 0 → S_X5_put o0 25 μ21 (fun r26 μ24 => ((r26 = 0 → Q 0 μ24) ∧ (¬ r26 = 0 → Q 1 μ24)))))))))))
set_option maxHeartbeats 4000000 in
set_option maxRecDepth 100000 in
theorem t_X5_ask {x : GX} {d : Nat} {R : Nat → Nat → Int32 → Me → (Int32 → Me → Prop) → Prop} (f : Fx x cX5_ask RX5 3 (rmc (40 + (d + 1)) 0 0)) {o0 : Nat} {i1 : Int32} {μ : Me} {Q : Int32 → Me → Prop} (hq : Rt x (some .boolean) (qI Q)) (hR : RH (gO x) R d) (h : S_X5_ask R o0 i1 μ Q) : G x 3 0 [(0, .ref (gB x + o0)), (1, .int i1)] [] μ 0 0 := by
  unfold S_X5_ask at h
  refine g_aload_n f 0 dX5_ask_0 rfl rfl ?_
  obtain ⟨v1, h⟩ := h
  refine g_getI f fk_X5_45 v1 dX5_ask_1 rfl ?_
  refine g_bipush f 25 dX5_ask_4 kb_25 ?_
  refine g_ic_ne f 42 dX5_ask_6 rfl h (fun h => ?_) (fun h => ?_)
  · refine g_aload_n f 0 dX5_ask_42 rfl rfl ?_
    refine g_iload_n f 1 dX5_ask_43 rfl rfl ?_
    refine g_callV f mk_X5_88 v1 (hR.1 _ _ _ _ h) dX5_ask_44 rfl rfl (Nat.le_of_ble_eq_true rfl) (rm_ok (Nat.le_refl _) (by decide)) ⟨Nat.le_of_ble_eq_true rfl, Nat.le_of_ble_eq_true rfl⟩ (kI fun r4 μ2 x3 h => ?_)
    refine g_if_ne f 52 dX5_ask_47 rfl h (fun h => ?_) (fun h => ?_)
    · refine g_aload_n f 0 dX5_ask_52 rfl rfl ?_
      have v1 := mex_ok x3 v1
      refine g_getI f fk_X5_45 v1 dX5_ask_53 rfl ?_
      refine h_istore_n f dX5_ask_56 rfl (by decide) ?_
      refine g_iload_n f 0 dX5_ask_57 rfl rfl ?_
      refine g_bipush f 37 dX5_ask_58 kb_37 ?_
      refine g_ic_lt f 69 dX5_ask_60 rfl h (fun h => ?_) (fun h => ?_)
      · exact h_sub [1] rfl (tB_X5_ask_69 f hq hR h)
      · refine g_iload_n f 0 dX5_ask_63 rfl rfl ?_
        refine g_bipush f 42 dX5_ask_64 kb_42 ?_
        refine g_ic_le f 75 dX5_ask_66 rfl h (fun h => ?_) (fun h => ?_)
        · refine g_aload_n f 1 dX5_ask_75 rfl rfl ?_
          refine g_callV f mk_X5_42 v1 (c_X5_next h) dX5_ask_76 rfl rfl (Nat.le_of_ble_eq_true rfl) (rm_ok (by omega) (by decide)) ⟨Nat.le_of_ble_eq_true rfl, Nat.le_of_ble_eq_true rfl⟩ (kV fun μ9 x10 h => ?_)
          refine g_aload_n f 1 dX5_ask_79 rfl rfl ?_
          refine g_iload_n f 2 dX5_ask_80 rfl rfl ?_
          have v1 := mex_ok x10 v1
          refine g_callV f mk_X5_88 v1 (hR.1 _ _ _ _ h) dX5_ask_81 rfl rfl (Nat.le_of_ble_eq_true rfl) (rm_ok (Nat.le_refl _) (by decide)) ⟨Nat.le_of_ble_eq_true rfl, Nat.le_of_ble_eq_true rfl⟩ (kI fun r14 μ12 x13 h => ?_)
          refine g_if_eq f 99 dX5_ask_84 rfl h (fun h => ?_) (fun h => ?_)
          · refine g_iconst f 0 dX5_ask_99 kc_0 ?_
            exact g_zret f hq (Nat.le_of_ble_eq_true rfl) (Nat.le_of_ble_eq_true rfl) dX5_ask_100 zb_0.1 h
          · refine g_aload_n f 1 dX5_ask_87 rfl rfl ?_
            refine g_iload_n f 0 dX5_ask_88 rfl rfl ?_
            have v1 := mex_ok x13 v1
            refine g_callV f mk_X5_120 v1 (c_X5_put h) dX5_ask_89 rfl rfl (Nat.le_of_ble_eq_true rfl) (rm_ok (by omega) (by decide)) ⟨Nat.le_of_ble_eq_true rfl, Nat.le_of_ble_eq_true rfl⟩ (kI fun r17 μ15 x16 h => ?_)
            refine g_if_eq f 99 dX5_ask_92 rfl h (fun h => ?_) (fun h => ?_)
            · refine g_iconst f 0 dX5_ask_99 kc_0 ?_
              exact g_zret f hq (Nat.le_of_ble_eq_true rfl) (Nat.le_of_ble_eq_true rfl) dX5_ask_100 zb_0.1 h
            · refine g_iconst f 1 dX5_ask_95 kc_1 ?_
              refine g_goto f 100 dX5_ask_96 rfl ?_
              exact g_zret f hq (Nat.le_of_ble_eq_true rfl) (Nat.le_of_ble_eq_true rfl) dX5_ask_100 zb_1.1 h
        · exact h_sub [1] rfl (tB_X5_ask_69 f hq hR h)
    · refine g_iconst f 0 dX5_ask_50 kc_0 ?_
      exact g_zret f hq (Nat.le_of_ble_eq_true rfl) (Nat.le_of_ble_eq_true rfl) dX5_ask_51 zb_0.1 h
  · refine g_aload_n f 0 dX5_ask_9 rfl rfl ?_
    refine g_iload_n f 1 dX5_ask_10 rfl rfl ?_
    refine g_callV f mk_X5_117 v1 (c_X5_opens h) dX5_ask_11 rfl rfl (Nat.le_of_ble_eq_true rfl) (rm_ok (by omega) (by decide)) ⟨Nat.le_of_ble_eq_true rfl, Nat.le_of_ble_eq_true rfl⟩ (kI fun r20 μ18 x19 h => ?_)
    refine g_if_eq f 40 dX5_ask_14 rfl h (fun h => ?_) (fun h => ?_)
    · refine g_iconst f 0 dX5_ask_40 kc_0 ?_
      exact g_zret f hq (Nat.le_of_ble_eq_true rfl) (Nat.le_of_ble_eq_true rfl) dX5_ask_41 zb_0.1 h
    · refine g_aload_n f 0 dX5_ask_17 rfl rfl ?_
      refine g_iload_n f 1 dX5_ask_18 rfl rfl ?_
      refine g_iconst f 1 dX5_ask_19 kc_1 ?_
      refine g_iadd f dX5_ask_20 ?_
      have v1 := mex_ok x19 v1
      refine g_callV f mk_X5_141 v1 (hR.2.2.2.2.2.2 _ _ _ _ h) dX5_ask_21 rfl rfl (Nat.le_of_ble_eq_true rfl) (rm_ok (Nat.le_refl _) (by decide)) ⟨Nat.le_of_ble_eq_true rfl, Nat.le_of_ble_eq_true rfl⟩ (kI fun r23 μ21 x22 h => ?_)
      refine g_if_eq f 40 dX5_ask_24 rfl h (fun h => ?_) (fun h => ?_)
      · refine g_iconst f 0 dX5_ask_40 kc_0 ?_
        exact g_zret f hq (Nat.le_of_ble_eq_true rfl) (Nat.le_of_ble_eq_true rfl) dX5_ask_41 zb_0.1 h
      · refine g_aload_n f 0 dX5_ask_27 rfl rfl ?_
        refine g_bipush f 25 dX5_ask_28 kb_25 ?_
        have v1 := mex_ok x22 v1
        refine g_callV f mk_X5_120 v1 (c_X5_put h) dX5_ask_30 rfl rfl (Nat.le_of_ble_eq_true rfl) (rm_ok (by omega) (by decide)) ⟨Nat.le_of_ble_eq_true rfl, Nat.le_of_ble_eq_true rfl⟩ (kI fun r26 μ24 x25 h => ?_)
        refine g_if_eq f 40 dX5_ask_33 rfl h (fun h => ?_) (fun h => ?_)
        · refine g_iconst f 0 dX5_ask_40 kc_0 ?_
          exact g_zret f hq (Nat.le_of_ble_eq_true rfl) (Nat.le_of_ble_eq_true rfl) dX5_ask_41 zb_0.1 h
        · refine g_iconst f 1 dX5_ask_36 kc_1 ?_
          refine g_goto f 41 dX5_ask_37 rfl ?_
          exact g_zret f hq (Nat.le_of_ble_eq_true rfl) (Nat.le_of_ble_eq_true rfl) dX5_ask_41 zb_1.1 h
def RC : Nat → Nat → Nat → Int32 → Me → (Int32 → Me → Prop) → Prop
  | 0 => fun _ _ _ _ _ => False
  | d + 1 => fun mode => match mode with
    | 0 => S_X5_sum (RC d)
    | 1 => S_X5_product (RC d)
    | 2 => S_X5_one (RC d)
    | 3 => S_X5_choice (RC d)
    | 4 => S_X5_either (RC d)
    | 5 => S_X5_both (RC d)
    | _ => S_X5_ask (RC d)
theorem rh_all (Ω : OM) : ∀ d, RH Ω (RC d) d := by
  intro d
  induction d with
  | zero => exact ⟨fun _ _ _ _ h => h.elim, fun _ _ _ _ h => h.elim, fun _ _ _ _ h => h.elim, fun _ _ _ _ h => h.elim, fun _ _ _ _ h => h.elim, fun _ _ _ _ h => h.elim, fun _ _ _ _ h => h.elim⟩
  | succ d ih => exact ⟨fun o i μ Q h => CT_of (by decide) rfl (by simp [lg_sl, Value.category]) (fun x hΩ f hq hi => by subst hΩ; exact t_X5_sum f hq ih h), fun o i μ Q h => CT_of (by decide) rfl (by simp [lg_sl, Value.category]) (fun x hΩ f hq hi => by subst hΩ; exact t_X5_product f hq ih h), fun o i μ Q h => CT_of (by decide) rfl (by simp [lg_sl, Value.category]) (fun x hΩ f hq hi => by subst hΩ; exact t_X5_one f hq ih h), fun o i μ Q h => CT_of (by decide) rfl (by simp [lg_sl, Value.category]) (fun x hΩ f hq hi => by subst hΩ; exact t_X5_choice f hq ih h), fun o i μ Q h => CT_of (by decide) rfl (by simp [lg_sl, Value.category]) (fun x hΩ f hq hi => by subst hΩ; exact t_X5_either f hq ih h), fun o i μ Q h => CT_of (by decide) rfl (by simp [lg_sl, Value.category]) (fun x hΩ f hq hi => by subst hΩ; exact t_X5_both f hq ih h), fun o i μ Q h => CT_of (by decide) rfl (by simp [lg_sl, Value.category]) (fun x hΩ f hq hi => by subst hΩ; exact t_X5_ask f hq ih h)⟩
theorem dX5_told_0 : decode cX5_told 0 = .ok (.aload_n 0, 1) := by decide +kernel
theorem dX5_told_1 : decode cX5_told 1 = .ok (.getfield 45, 3) := by decide +kernel
theorem dX5_told_4 : decode cX5_told 4 = .ok (.bipush 50, 2) := by decide +kernel
theorem dX5_told_6 : decode cX5_told 6 = .ok (.if_icmp .eq 9, 3) := by decide +kernel
theorem dX5_told_9 : decode cX5_told 9 = .ok (.aload_n 0, 1) := by decide +kernel
theorem dX5_told_10 : decode cX5_told 10 = .ok (.iconst 1, 1) := by decide +kernel
theorem dX5_told_11 : decode cX5_told 11 = .ok (.invokevirtual 71, 3) := by decide +kernel
theorem dX5_told_14 : decode cX5_told 14 = .ok (.ireturn, 1) := by decide +kernel
theorem dX5_told_15 : decode cX5_told 15 = .ok (.aload_n 0, 1) := by decide +kernel
theorem dX5_told_16 : decode cX5_told 16 = .ok (.getfield 65, 3) := by decide +kernel
theorem dX5_told_19 : decode cX5_told 19 = .ok (.iload_n 2, 1) := by decide +kernel
theorem dX5_told_20 : decode cX5_told 20 = .ok (.if_icmp .lt 11, 3) := by decide +kernel
theorem dX5_told_23 : decode cX5_told 23 = .ok (.aload_n 0, 1) := by decide +kernel
theorem dX5_told_24 : decode cX5_told 24 = .ok (.getfield 65, 3) := by decide +kernel
theorem dX5_told_27 : decode cX5_told 27 = .ok (.iload_n 3, 1) := by decide +kernel
theorem dX5_told_28 : decode cX5_told 28 = .ok (.if_icmp .le 9, 3) := by decide +kernel
theorem dX5_told_31 : decode cX5_told 31 = .ok (.aload_n 0, 1) := by decide +kernel
theorem dX5_told_32 : decode cX5_told 32 = .ok (.iconst 2, 1) := by decide +kernel
theorem dX5_told_33 : decode cX5_told 33 = .ok (.invokevirtual 71, 3) := by decide +kernel
theorem dX5_told_36 : decode cX5_told 36 = .ok (.ireturn, 1) := by decide +kernel
theorem dX5_told_37 : decode cX5_told 37 = .ok (.aload_n 0, 1) := by decide +kernel
theorem dX5_told_38 : decode cX5_told 38 = .ok (.getfield 21, 3) := by decide +kernel
theorem dX5_told_41 : decode cX5_told 41 = .ok (.iload_n 1, 1) := by decide +kernel
theorem dX5_told_42 : decode cX5_told 42 = .ok (.aload_n 0, 1) := by decide +kernel
theorem dX5_told_43 : decode cX5_told 43 = .ok (.getfield 65, 3) := by decide +kernel
theorem dX5_told_46 : decode cX5_told 46 = .ok (.invokevirtual 104, 3) := by decide +kernel
theorem dX5_told_49 : decode cX5_told 49 = .ok (.aload_n 0, 1) := by decide +kernel
theorem dX5_told_50 : decode cX5_told 50 = .ok (.invokevirtual 42, 3) := by decide +kernel
theorem dX5_told_53 : decode cX5_told 53 = .ok (.iconst 1, 1) := by decide +kernel
theorem dX5_told_54 : decode cX5_told 54 = .ok (.ireturn, 1) := by decide +kernel
def B_X5_told_31 (o0 : Nat) (μ : Me) (Q : Int32 → Me → Prop) : Prop := mok μ o0 5 ∧ S_X5_refuse o0 2 μ (fun r5 μ3 => zb r5 ∧ Q r5 μ3)
set_option maxHeartbeats 4000000 in
set_option maxRecDepth 100000 in
theorem tB_X5_told_31 {x : GX} (f : Fx x cX5_told RX5 4 (rmc 1 0 0)) {o0 : Nat} {μ : Me} {Q : Int32 → Me → Prop} (hq : Rt x (some .boolean) (qI Q)) (h : B_X5_told_31 o0 μ Q) : G x 4 31 [(0, .ref (gB x + o0))] [] μ 0 0 := by
  unfold B_X5_told_31 at h
  refine g_aload_n f 0 dX5_told_31 rfl rfl ?_
  refine g_iconst f 2 dX5_told_32 kc_2 ?_
  obtain ⟨v2, h⟩ := h
  refine g_callV f mk_X5_71 v2 (c_X5_refuse h) dX5_told_33 rfl rfl (Nat.le_of_ble_eq_true rfl) (rm_ok (by decide) (by decide)) ⟨Nat.le_of_ble_eq_true rfl, Nat.le_of_ble_eq_true rfl⟩ (kI fun r5 μ3 x4 h => ?_)
  exact g_zret f hq (Nat.le_of_ble_eq_true rfl) (Nat.le_of_ble_eq_true rfl) dX5_told_36 h.1.1 h.2
def S_X5_told (o0 : Nat) (i1 : Int32) (i2 : Int32) (i3 : Int32) (μ : Me) (Q : Int32 → Me → Prop) : Prop := mok μ o0 5 ∧ (((mgi μ o0 3) = 50 → (((mgi μ o0 4) < i2 → B_X5_told_31 o0 μ Q) ∧ (¬ (mgi μ o0 4) < i2 → (((mgi μ o0 4) ≤ i3 → ∃ t6, mgr μ o0 1 = some t6 ∧ mok μ t6 7 ∧ S_X7_put t6 i1 (mgi μ o0 4) μ (fun μ8 => S_X5_next o0 μ8 (fun μ11 => Q 1 μ11))) ∧ (¬ (mgi μ o0 4) ≤ i3 → B_X5_told_31 o0 μ Q))))) ∧ (¬ (mgi μ o0 3) = 50 → S_X5_refuse o0 1 μ (fun r16 μ14 => zb r16 ∧ Q r16 μ14)))
set_option maxHeartbeats 4000000 in
set_option maxRecDepth 100000 in
theorem t_X5_told {x : GX} (f : Fx x cX5_told RX5 4 (rmc 1 0 0)) {o0 : Nat} {i1 : Int32} {i2 : Int32} {i3 : Int32} {μ : Me} {Q : Int32 → Me → Prop} (hq : Rt x (some .boolean) (qI Q)) (h : S_X5_told o0 i1 i2 i3 μ Q) : G x 4 0 [(0, .ref (gB x + o0)), (1, .int i1), (2, .int i2), (3, .int i3)] [] μ 0 0 := by
  unfold S_X5_told at h
  refine g_aload_n f 0 dX5_told_0 rfl rfl ?_
  obtain ⟨v1, h⟩ := h
  refine g_getI f fk_X5_45 v1 dX5_told_1 rfl ?_
  refine g_bipush f 50 dX5_told_4 kb_50 ?_
  refine g_ic_eq f 15 dX5_told_6 rfl h (fun h => ?_) (fun h => ?_)
  · refine g_aload_n f 0 dX5_told_15 rfl rfl ?_
    refine g_getI f fk_X5_65 v1 dX5_told_16 rfl ?_
    refine g_iload_n f 2 dX5_told_19 rfl rfl ?_
    refine g_ic_lt f 31 dX5_told_20 rfl h (fun h => ?_) (fun h => ?_)
    · exact h_sub [0] rfl (tB_X5_told_31 f hq h)
    · refine g_aload_n f 0 dX5_told_23 rfl rfl ?_
      refine g_getI f fk_X5_65 v1 dX5_told_24 rfl ?_
      refine g_iload_n f 3 dX5_told_27 rfl rfl ?_
      refine g_ic_le f 37 dX5_told_28 rfl h (fun h => ?_) (fun h => ?_)
      · refine g_aload_n f 0 dX5_told_37 rfl rfl ?_
        refine g_getR f fk_X5_21 v1 dX5_told_38 rfl h (fun t6 h => ?_)
        refine g_iload_n f 1 dX5_told_41 rfl rfl ?_
        refine g_aload_n f 0 dX5_told_42 rfl rfl ?_
        refine g_getI f fk_X5_65 v1 dX5_told_43 rfl ?_
        obtain ⟨v7, h⟩ := h
        refine g_callV f mk_X5_104 v7 (c_X7_put h) dX5_told_46 rfl rfl (Nat.le_of_ble_eq_true rfl) (rm_ok (by decide) (by decide)) ⟨Nat.le_of_ble_eq_true rfl, Nat.le_of_ble_eq_true rfl⟩ (kV fun μ8 x9 h => ?_)
        refine g_aload_n f 0 dX5_told_49 rfl rfl ?_
        have v1 := mex_ok x9 v1
        refine g_callV f mk_X5_42 v1 (c_X5_next h) dX5_told_50 rfl rfl (Nat.le_of_ble_eq_true rfl) (rm_ok (by decide) (by decide)) ⟨Nat.le_of_ble_eq_true rfl, Nat.le_of_ble_eq_true rfl⟩ (kV fun μ11 x12 h => ?_)
        refine g_iconst f 1 dX5_told_53 kc_1 ?_
        exact g_zret f hq (Nat.le_of_ble_eq_true rfl) (Nat.le_of_ble_eq_true rfl) dX5_told_54 zb_1.1 h
      · exact h_sub [0] rfl (tB_X5_told_31 f hq h)
  · refine g_aload_n f 0 dX5_told_9 rfl rfl ?_
    refine g_iconst f 1 dX5_told_10 kc_1 ?_
    refine g_callV f mk_X5_71 v1 (c_X5_refuse h) dX5_told_11 rfl rfl (Nat.le_of_ble_eq_true rfl) (rm_ok (by decide) (by decide)) ⟨Nat.le_of_ble_eq_true rfl, Nat.le_of_ble_eq_true rfl⟩ (kI fun r16 μ14 x15 h => ?_)
    exact g_zret f hq (Nat.le_of_ble_eq_true rfl) (Nat.le_of_ble_eq_true rfl) dX5_told_14 h.1.1 h.2
theorem c_X5_told {Ω : OM} {o0 : Nat} {i1 : Int32} {i2 : Int32} {i3 : Int32} {μ : Me} {Q : Int32 → Me → Prop} (h : S_X5_told o0 i1 i2 i3 μ Q) : CT Ω yX5_told cX5_told 4 (some .boolean) (rmc 1 0 0) [.ref (oB Ω + o0), .int i1, .int i2, .int i3] μ (qI Q) := CT_of (by decide) rfl (by simp [lg_sl, Value.category]) (fun x hΩ f hq hi => by subst hΩ; exact t_X5_told f hq h)
theorem dX5_plain_0 : decode cX5_plain 0 = .ok (.iload_n 1, 1) := by decide +kernel
theorem dX5_plain_1 : decode cX5_plain 1 = .ok (.tableswitch 171 2 7 #[39, 115, 171, 171, 125, 162], 39) := by decide +kernel
theorem dX5_plain_40 : decode cX5_plain 40 = .ok (.aload_n 0, 1) := by decide +kernel
theorem dX5_plain_41 : decode cX5_plain 41 = .ok (.iconst 1, 1) := by decide +kernel
theorem dX5_plain_42 : decode cX5_plain 42 = .ok (.iconst 0, 1) := by decide +kernel
theorem dX5_plain_43 : decode cX5_plain 43 = .ok (.iconst 3, 1) := by decide +kernel
theorem dX5_plain_44 : decode cX5_plain 44 = .ok (.invokevirtual 100, 3) := by decide +kernel
theorem dX5_plain_47 : decode cX5_plain 47 = .ok (.ifCond .eq 67, 3) := by decide +kernel
theorem dX5_plain_50 : decode cX5_plain 50 = .ok (.aload_n 0, 1) := by decide +kernel
theorem dX5_plain_51 : decode cX5_plain 51 = .ok (.bipush 8, 2) := by decide +kernel
theorem dX5_plain_53 : decode cX5_plain 53 = .ok (.invokevirtual 94, 3) := by decide +kernel
theorem dX5_plain_56 : decode cX5_plain 56 = .ok (.ifCond .eq 58, 3) := by decide +kernel
theorem dX5_plain_59 : decode cX5_plain 59 = .ok (.aload_n 0, 1) := by decide +kernel
theorem dX5_plain_60 : decode cX5_plain 60 = .ok (.iconst 2, 1) := by decide +kernel
theorem dX5_plain_61 : decode cX5_plain 61 = .ok (.iconst 1, 1) := by decide +kernel
theorem dX5_plain_62 : decode cX5_plain 62 = .ok (.bipush 99, 2) := by decide +kernel
theorem dX5_plain_64 : decode cX5_plain 64 = .ok (.invokevirtual 100, 3) := by decide +kernel
theorem dX5_plain_67 : decode cX5_plain 67 = .ok (.ifCond .eq 47, 3) := by decide +kernel
theorem dX5_plain_70 : decode cX5_plain 70 = .ok (.aload_n 0, 1) := by decide +kernel
theorem dX5_plain_71 : decode cX5_plain 71 = .ok (.bipush 9, 2) := by decide +kernel
theorem dX5_plain_73 : decode cX5_plain 73 = .ok (.invokevirtual 94, 3) := by decide +kernel
theorem dX5_plain_76 : decode cX5_plain 76 = .ok (.ifCond .eq 38, 3) := by decide +kernel
theorem dX5_plain_79 : decode cX5_plain 79 = .ok (.aload_n 0, 1) := by decide +kernel
theorem dX5_plain_80 : decode cX5_plain 80 = .ok (.iconst 3, 1) := by decide +kernel
theorem dX5_plain_81 : decode cX5_plain 81 = .ok (.iconst 1, 1) := by decide +kernel
theorem dX5_plain_82 : decode cX5_plain 82 = .ok (.bipush 99, 2) := by decide +kernel
theorem dX5_plain_84 : decode cX5_plain 84 = .ok (.invokevirtual 100, 3) := by decide +kernel
theorem dX5_plain_87 : decode cX5_plain 87 = .ok (.ifCond .eq 27, 3) := by decide +kernel
theorem dX5_plain_90 : decode cX5_plain 90 = .ok (.aload_n 0, 1) := by decide +kernel
theorem dX5_plain_91 : decode cX5_plain 91 = .ok (.bipush 6, 2) := by decide +kernel
theorem dX5_plain_93 : decode cX5_plain 93 = .ok (.invokevirtual 94, 3) := by decide +kernel
theorem dX5_plain_96 : decode cX5_plain 96 = .ok (.ifCond .eq 18, 3) := by decide +kernel
theorem dX5_plain_99 : decode cX5_plain 99 = .ok (.aload_n 0, 1) := by decide +kernel
theorem dX5_plain_100 : decode cX5_plain 100 = .ok (.iconst 4, 1) := by decide +kernel
theorem dX5_plain_101 : decode cX5_plain 101 = .ok (.iconst 0, 1) := by decide +kernel
theorem dX5_plain_102 : decode cX5_plain 102 = .ok (.bipush 99, 2) := by decide +kernel
theorem dX5_plain_104 : decode cX5_plain 104 = .ok (.invokevirtual 100, 3) := by decide +kernel
theorem dX5_plain_107 : decode cX5_plain 107 = .ok (.ifCond .eq 7, 3) := by decide +kernel
theorem dX5_plain_110 : decode cX5_plain 110 = .ok (.iconst 1, 1) := by decide +kernel
theorem dX5_plain_111 : decode cX5_plain 111 = .ok (.goto 4, 3) := by decide +kernel
theorem dX5_plain_114 : decode cX5_plain 114 = .ok (.iconst 0, 1) := by decide +kernel
theorem dX5_plain_115 : decode cX5_plain 115 = .ok (.ireturn, 1) := by decide +kernel
theorem dX5_plain_116 : decode cX5_plain 116 = .ok (.aload_n 0, 1) := by decide +kernel
theorem dX5_plain_117 : decode cX5_plain 117 = .ok (.iconst 1, 1) := by decide +kernel
theorem dX5_plain_118 : decode cX5_plain 118 = .ok (.iconst 0, 1) := by decide +kernel
theorem dX5_plain_119 : decode cX5_plain 119 = .ok (.sipush 255, 3) := by decide +kernel
theorem dX5_plain_122 : decode cX5_plain 122 = .ok (.invokevirtual 100, 3) := by decide +kernel
theorem dX5_plain_125 : decode cX5_plain 125 = .ok (.ireturn, 1) := by decide +kernel
theorem dX5_plain_126 : decode cX5_plain 126 = .ok (.aload_n 0, 1) := by decide +kernel
theorem dX5_plain_127 : decode cX5_plain 127 = .ok (.iconst 1, 1) := by decide +kernel
theorem dX5_plain_128 : decode cX5_plain 128 = .ok (.iconst 0, 1) := by decide +kernel
theorem dX5_plain_129 : decode cX5_plain 129 = .ok (.bipush 99, 2) := by decide +kernel
theorem dX5_plain_131 : decode cX5_plain 131 = .ok (.invokevirtual 100, 3) := by decide +kernel
theorem dX5_plain_134 : decode cX5_plain 134 = .ok (.ifCond .eq 27, 3) := by decide +kernel
theorem dX5_plain_137 : decode cX5_plain 137 = .ok (.aload_n 0, 1) := by decide +kernel
theorem dX5_plain_138 : decode cX5_plain 138 = .ok (.bipush 16, 2) := by decide +kernel
theorem dX5_plain_140 : decode cX5_plain 140 = .ok (.invokevirtual 94, 3) := by decide +kernel
theorem dX5_plain_143 : decode cX5_plain 143 = .ok (.ifCond .eq 18, 3) := by decide +kernel
theorem dX5_plain_146 : decode cX5_plain 146 = .ok (.aload_n 0, 1) := by decide +kernel
theorem dX5_plain_147 : decode cX5_plain 147 = .ok (.iconst 2, 1) := by decide +kernel
theorem dX5_plain_148 : decode cX5_plain 148 = .ok (.iconst 0, 1) := by decide +kernel
theorem dX5_plain_149 : decode cX5_plain 149 = .ok (.bipush 7, 2) := by decide +kernel
theorem dX5_plain_151 : decode cX5_plain 151 = .ok (.invokevirtual 100, 3) := by decide +kernel
theorem dX5_plain_154 : decode cX5_plain 154 = .ok (.ifCond .eq 7, 3) := by decide +kernel
theorem dX5_plain_157 : decode cX5_plain 157 = .ok (.iconst 1, 1) := by decide +kernel
theorem dX5_plain_158 : decode cX5_plain 158 = .ok (.goto 4, 3) := by decide +kernel
theorem dX5_plain_161 : decode cX5_plain 161 = .ok (.iconst 0, 1) := by decide +kernel
theorem dX5_plain_162 : decode cX5_plain 162 = .ok (.ireturn, 1) := by decide +kernel
theorem dX5_plain_163 : decode cX5_plain 163 = .ok (.aload_n 0, 1) := by decide +kernel
theorem dX5_plain_164 : decode cX5_plain 164 = .ok (.iconst 1, 1) := by decide +kernel
theorem dX5_plain_165 : decode cX5_plain 165 = .ok (.iconst 1, 1) := by decide +kernel
theorem dX5_plain_166 : decode cX5_plain 166 = .ok (.bipush 60, 2) := by decide +kernel
theorem dX5_plain_168 : decode cX5_plain 168 = .ok (.invokevirtual 100, 3) := by decide +kernel
theorem dX5_plain_171 : decode cX5_plain 171 = .ok (.ireturn, 1) := by decide +kernel
theorem dX5_plain_172 : decode cX5_plain 172 = .ok (.aload_n 0, 1) := by decide +kernel
theorem dX5_plain_173 : decode cX5_plain 173 = .ok (.iconst 1, 1) := by decide +kernel
theorem dX5_plain_174 : decode cX5_plain 174 = .ok (.iconst 0, 1) := by decide +kernel
theorem dX5_plain_175 : decode cX5_plain 175 = .ok (.bipush 7, 2) := by decide +kernel
theorem dX5_plain_177 : decode cX5_plain 177 = .ok (.invokevirtual 100, 3) := by decide +kernel
theorem dX5_plain_180 : decode cX5_plain 180 = .ok (.ireturn, 1) := by decide +kernel
def B_X5_plain_172 (o0 : Nat) (μ : Me) (Q : Int32 → Me → Prop) : Prop := mok μ o0 5 ∧ S_X5_told o0 1 0 7 μ (fun r33 μ31 => zb r33 ∧ Q r33 μ31)
set_option maxHeartbeats 4000000 in
set_option maxRecDepth 100000 in
theorem tB_X5_plain_172 {x : GX} (f : Fx x cX5_plain RX5 2 (rmc 2 0 0)) {o0 : Nat} {μ : Me} {Q : Int32 → Me → Prop} (hq : Rt x (some .boolean) (qI Q)) (h : B_X5_plain_172 o0 μ Q) : G x 2 172 [(0, .ref (gB x + o0))] [] μ 0 0 := by
  unfold B_X5_plain_172 at h
  refine g_aload_n f 0 dX5_plain_172 rfl rfl ?_
  refine g_iconst f 1 dX5_plain_173 kc_1 ?_
  refine g_iconst f 0 dX5_plain_174 kc_0 ?_
  refine g_bipush f 7 dX5_plain_175 kb_7 ?_
  obtain ⟨v30, h⟩ := h
  refine g_callV f mk_X5_100 v30 (c_X5_told h) dX5_plain_177 rfl rfl (Nat.le_of_ble_eq_true rfl) (rm_ok (by decide) (by decide)) ⟨Nat.le_of_ble_eq_true rfl, Nat.le_of_ble_eq_true rfl⟩ (kI fun r33 μ31 x32 h => ?_)
  exact g_zret f hq (Nat.le_of_ble_eq_true rfl) (Nat.le_of_ble_eq_true rfl) dX5_plain_180 h.1.1 h.2
def S_X5_plain (o0 : Nat) (i1 : Int32) (μ : Me) (Q : Int32 → Me → Prop) : Prop := ((i1 = 2 → mok μ o0 5 ∧ S_X5_told o0 1 0 3 μ (fun r5 μ3 => ((r5 = 0 → Q 0 μ3) ∧ (¬ r5 = 0 → S_X5_accept o0 8 μ3 (fun r8 μ6 => ((r8 = 0 → Q 0 μ6) ∧ (¬ r8 = 0 → S_X5_told o0 2 1 99 μ6 (fun r11 μ9 => ((r11 = 0 → Q 0 μ9) ∧ (¬ r11 = 0 → S_X5_accept o0 9 μ9 (fun r14 μ12 => ((r14 = 0 → Q 0 μ12) ∧ (¬ r14 = 0 → S_X5_told o0 3 1 99 μ12 (fun r17 μ15 => ((r17 = 0 → Q 0 μ15) ∧ (¬ r17 = 0 → S_X5_accept o0 6 μ15 (fun r20 μ18 => ((r20 = 0 → Q 0 μ18) ∧ (¬ r20 = 0 → S_X5_told o0 4 0 99 μ18 (fun r23 μ21 => ((r23 = 0 → Q 0 μ21) ∧ (¬ r23 = 0 → Q 1 μ21)))))))))))))))))))))) ∧ (¬ i1 = 2 → (i1 = 3 → mok μ o0 5 ∧ S_X5_told o0 1 0 255 μ (fun r28 μ26 => zb r28 ∧ Q r28 μ26)) ∧ (¬ i1 = 3 → (i1 = 4 → B_X5_plain_172 o0 μ Q) ∧ (¬ i1 = 4 → (i1 = 5 → B_X5_plain_172 o0 μ Q) ∧ (¬ i1 = 5 → (i1 = 6 → mok μ o0 5 ∧ S_X5_told o0 1 0 99 μ (fun r39 μ37 => ((r39 = 0 → Q 0 μ37) ∧ (¬ r39 = 0 → S_X5_accept o0 16 μ37 (fun r42 μ40 => ((r42 = 0 → Q 0 μ40) ∧ (¬ r42 = 0 → S_X5_told o0 2 0 7 μ40 (fun r45 μ43 => ((r45 = 0 → Q 0 μ43) ∧ (¬ r45 = 0 → Q 1 μ43)))))))))) ∧ (¬ i1 = 6 → (i1 = 7 → mok μ o0 5 ∧ S_X5_told o0 1 1 60 μ (fun r50 μ48 => zb r50 ∧ Q r50 μ48)) ∧ (¬ i1 = 7 → B_X5_plain_172 o0 μ Q)))))))
set_option maxHeartbeats 4000000 in
set_option maxRecDepth 100000 in
theorem t_X5_plain {x : GX} (f : Fx x cX5_plain RX5 2 (rmc 2 0 0)) {o0 : Nat} {i1 : Int32} {μ : Me} {Q : Int32 → Me → Prop} (hq : Rt x (some .boolean) (qI Q)) (h : S_X5_plain o0 i1 μ Q) : G x 2 0 [(0, .ref (gB x + o0)), (1, .int i1)] [] μ 0 0 := by
  unfold S_X5_plain at h
  refine g_iload_n f 1 dX5_plain_0 rfl rfl ?_
  rcases dec_or h with ⟨e1, h⟩ | ⟨e1, h⟩
  · refine g_tableIn f 40 dX5_plain_1 (by rw [e1] <;> decide) (by rw [e1] <;> decide) (by rw [e1] <;> rfl) rfl ?_
    refine g_aload_n f 0 dX5_plain_40 rfl rfl ?_
    refine g_iconst f 1 dX5_plain_41 kc_1 ?_
    refine g_iconst f 0 dX5_plain_42 kc_0 ?_
    refine g_iconst f 3 dX5_plain_43 kc_3 ?_
    obtain ⟨v2, h⟩ := h
    refine g_callV f mk_X5_100 v2 (c_X5_told h) dX5_plain_44 rfl rfl (Nat.le_of_ble_eq_true rfl) (rm_ok (by decide) (by decide)) ⟨Nat.le_of_ble_eq_true rfl, Nat.le_of_ble_eq_true rfl⟩ (kI fun r5 μ3 x4 h => ?_)
    refine g_if_eq f 114 dX5_plain_47 rfl h (fun h => ?_) (fun h => ?_)
    · refine g_iconst f 0 dX5_plain_114 kc_0 ?_
      exact g_zret f hq (Nat.le_of_ble_eq_true rfl) (Nat.le_of_ble_eq_true rfl) dX5_plain_115 zb_0.1 h
    · refine g_aload_n f 0 dX5_plain_50 rfl rfl ?_
      refine g_bipush f 8 dX5_plain_51 kb_8 ?_
      have v2 := mex_ok x4 v2
      refine g_callV f mk_X5_94 v2 (c_X5_accept h) dX5_plain_53 rfl rfl (Nat.le_of_ble_eq_true rfl) (rm_ok (by decide) (by decide)) ⟨Nat.le_of_ble_eq_true rfl, Nat.le_of_ble_eq_true rfl⟩ (kI fun r8 μ6 x7 h => ?_)
      refine g_if_eq f 114 dX5_plain_56 rfl h (fun h => ?_) (fun h => ?_)
      · refine g_iconst f 0 dX5_plain_114 kc_0 ?_
        exact g_zret f hq (Nat.le_of_ble_eq_true rfl) (Nat.le_of_ble_eq_true rfl) dX5_plain_115 zb_0.1 h
      · refine g_aload_n f 0 dX5_plain_59 rfl rfl ?_
        refine g_iconst f 2 dX5_plain_60 kc_2 ?_
        refine g_iconst f 1 dX5_plain_61 kc_1 ?_
        refine g_bipush f 99 dX5_plain_62 kb_99 ?_
        have v2 := mex_ok x7 v2
        refine g_callV f mk_X5_100 v2 (c_X5_told h) dX5_plain_64 rfl rfl (Nat.le_of_ble_eq_true rfl) (rm_ok (by decide) (by decide)) ⟨Nat.le_of_ble_eq_true rfl, Nat.le_of_ble_eq_true rfl⟩ (kI fun r11 μ9 x10 h => ?_)
        refine g_if_eq f 114 dX5_plain_67 rfl h (fun h => ?_) (fun h => ?_)
        · refine g_iconst f 0 dX5_plain_114 kc_0 ?_
          exact g_zret f hq (Nat.le_of_ble_eq_true rfl) (Nat.le_of_ble_eq_true rfl) dX5_plain_115 zb_0.1 h
        · refine g_aload_n f 0 dX5_plain_70 rfl rfl ?_
          refine g_bipush f 9 dX5_plain_71 kb_9 ?_
          have v2 := mex_ok x10 v2
          refine g_callV f mk_X5_94 v2 (c_X5_accept h) dX5_plain_73 rfl rfl (Nat.le_of_ble_eq_true rfl) (rm_ok (by decide) (by decide)) ⟨Nat.le_of_ble_eq_true rfl, Nat.le_of_ble_eq_true rfl⟩ (kI fun r14 μ12 x13 h => ?_)
          refine g_if_eq f 114 dX5_plain_76 rfl h (fun h => ?_) (fun h => ?_)
          · refine g_iconst f 0 dX5_plain_114 kc_0 ?_
            exact g_zret f hq (Nat.le_of_ble_eq_true rfl) (Nat.le_of_ble_eq_true rfl) dX5_plain_115 zb_0.1 h
          · refine g_aload_n f 0 dX5_plain_79 rfl rfl ?_
            refine g_iconst f 3 dX5_plain_80 kc_3 ?_
            refine g_iconst f 1 dX5_plain_81 kc_1 ?_
            refine g_bipush f 99 dX5_plain_82 kb_99 ?_
            have v2 := mex_ok x13 v2
            refine g_callV f mk_X5_100 v2 (c_X5_told h) dX5_plain_84 rfl rfl (Nat.le_of_ble_eq_true rfl) (rm_ok (by decide) (by decide)) ⟨Nat.le_of_ble_eq_true rfl, Nat.le_of_ble_eq_true rfl⟩ (kI fun r17 μ15 x16 h => ?_)
            refine g_if_eq f 114 dX5_plain_87 rfl h (fun h => ?_) (fun h => ?_)
            · refine g_iconst f 0 dX5_plain_114 kc_0 ?_
              exact g_zret f hq (Nat.le_of_ble_eq_true rfl) (Nat.le_of_ble_eq_true rfl) dX5_plain_115 zb_0.1 h
            · refine g_aload_n f 0 dX5_plain_90 rfl rfl ?_
              refine g_bipush f 6 dX5_plain_91 kb_6 ?_
              have v2 := mex_ok x16 v2
              refine g_callV f mk_X5_94 v2 (c_X5_accept h) dX5_plain_93 rfl rfl (Nat.le_of_ble_eq_true rfl) (rm_ok (by decide) (by decide)) ⟨Nat.le_of_ble_eq_true rfl, Nat.le_of_ble_eq_true rfl⟩ (kI fun r20 μ18 x19 h => ?_)
              refine g_if_eq f 114 dX5_plain_96 rfl h (fun h => ?_) (fun h => ?_)
              · refine g_iconst f 0 dX5_plain_114 kc_0 ?_
                exact g_zret f hq (Nat.le_of_ble_eq_true rfl) (Nat.le_of_ble_eq_true rfl) dX5_plain_115 zb_0.1 h
              · refine g_aload_n f 0 dX5_plain_99 rfl rfl ?_
                refine g_iconst f 4 dX5_plain_100 kc_4 ?_
                refine g_iconst f 0 dX5_plain_101 kc_0 ?_
                refine g_bipush f 99 dX5_plain_102 kb_99 ?_
                have v2 := mex_ok x19 v2
                refine g_callV f mk_X5_100 v2 (c_X5_told h) dX5_plain_104 rfl rfl (Nat.le_of_ble_eq_true rfl) (rm_ok (by decide) (by decide)) ⟨Nat.le_of_ble_eq_true rfl, Nat.le_of_ble_eq_true rfl⟩ (kI fun r23 μ21 x22 h => ?_)
                refine g_if_eq f 114 dX5_plain_107 rfl h (fun h => ?_) (fun h => ?_)
                · refine g_iconst f 0 dX5_plain_114 kc_0 ?_
                  exact g_zret f hq (Nat.le_of_ble_eq_true rfl) (Nat.le_of_ble_eq_true rfl) dX5_plain_115 zb_0.1 h
                · refine g_iconst f 1 dX5_plain_110 kc_1 ?_
                  refine g_goto f 115 dX5_plain_111 rfl ?_
                  exact g_zret f hq (Nat.le_of_ble_eq_true rfl) (Nat.le_of_ble_eq_true rfl) dX5_plain_115 zb_1.1 h
  · skip
    rcases dec_or h with ⟨e24, h⟩ | ⟨e24, h⟩
    · refine g_tableIn f 116 dX5_plain_1 (by rw [e24] <;> decide) (by rw [e24] <;> decide) (by rw [e24] <;> rfl) rfl ?_
      refine g_aload_n f 0 dX5_plain_116 rfl rfl ?_
      refine g_iconst f 1 dX5_plain_117 kc_1 ?_
      refine g_iconst f 0 dX5_plain_118 kc_0 ?_
      refine g_sipush f 255 dX5_plain_119 ks_255 ?_
      obtain ⟨v25, h⟩ := h
      refine g_callV f mk_X5_100 v25 (c_X5_told h) dX5_plain_122 rfl rfl (Nat.le_of_ble_eq_true rfl) (rm_ok (by decide) (by decide)) ⟨Nat.le_of_ble_eq_true rfl, Nat.le_of_ble_eq_true rfl⟩ (kI fun r28 μ26 x27 h => ?_)
      exact g_zret f hq (Nat.le_of_ble_eq_true rfl) (Nat.le_of_ble_eq_true rfl) dX5_plain_125 h.1.1 h.2
    · skip
      rcases dec_or h with ⟨e29, h⟩ | ⟨e29, h⟩
      · refine g_tableIn f 172 dX5_plain_1 (by rw [e29] <;> decide) (by rw [e29] <;> decide) (by rw [e29] <;> rfl) rfl ?_
        exact h_sub [0] rfl (tB_X5_plain_172 f hq h)
      · skip
        rcases dec_or h with ⟨e34, h⟩ | ⟨e34, h⟩
        · refine g_tableIn f 172 dX5_plain_1 (by rw [e34] <;> decide) (by rw [e34] <;> decide) (by rw [e34] <;> rfl) rfl ?_
          exact h_sub [0] rfl (tB_X5_plain_172 f hq h)
        · skip
          rcases dec_or h with ⟨e35, h⟩ | ⟨e35, h⟩
          · refine g_tableIn f 126 dX5_plain_1 (by rw [e35] <;> decide) (by rw [e35] <;> decide) (by rw [e35] <;> rfl) rfl ?_
            refine g_aload_n f 0 dX5_plain_126 rfl rfl ?_
            refine g_iconst f 1 dX5_plain_127 kc_1 ?_
            refine g_iconst f 0 dX5_plain_128 kc_0 ?_
            refine g_bipush f 99 dX5_plain_129 kb_99 ?_
            obtain ⟨v36, h⟩ := h
            refine g_callV f mk_X5_100 v36 (c_X5_told h) dX5_plain_131 rfl rfl (Nat.le_of_ble_eq_true rfl) (rm_ok (by decide) (by decide)) ⟨Nat.le_of_ble_eq_true rfl, Nat.le_of_ble_eq_true rfl⟩ (kI fun r39 μ37 x38 h => ?_)
            refine g_if_eq f 161 dX5_plain_134 rfl h (fun h => ?_) (fun h => ?_)
            · refine g_iconst f 0 dX5_plain_161 kc_0 ?_
              exact g_zret f hq (Nat.le_of_ble_eq_true rfl) (Nat.le_of_ble_eq_true rfl) dX5_plain_162 zb_0.1 h
            · refine g_aload_n f 0 dX5_plain_137 rfl rfl ?_
              refine g_bipush f 16 dX5_plain_138 kb_16 ?_
              have v36 := mex_ok x38 v36
              refine g_callV f mk_X5_94 v36 (c_X5_accept h) dX5_plain_140 rfl rfl (Nat.le_of_ble_eq_true rfl) (rm_ok (by decide) (by decide)) ⟨Nat.le_of_ble_eq_true rfl, Nat.le_of_ble_eq_true rfl⟩ (kI fun r42 μ40 x41 h => ?_)
              refine g_if_eq f 161 dX5_plain_143 rfl h (fun h => ?_) (fun h => ?_)
              · refine g_iconst f 0 dX5_plain_161 kc_0 ?_
                exact g_zret f hq (Nat.le_of_ble_eq_true rfl) (Nat.le_of_ble_eq_true rfl) dX5_plain_162 zb_0.1 h
              · refine g_aload_n f 0 dX5_plain_146 rfl rfl ?_
                refine g_iconst f 2 dX5_plain_147 kc_2 ?_
                refine g_iconst f 0 dX5_plain_148 kc_0 ?_
                refine g_bipush f 7 dX5_plain_149 kb_7 ?_
                have v36 := mex_ok x41 v36
                refine g_callV f mk_X5_100 v36 (c_X5_told h) dX5_plain_151 rfl rfl (Nat.le_of_ble_eq_true rfl) (rm_ok (by decide) (by decide)) ⟨Nat.le_of_ble_eq_true rfl, Nat.le_of_ble_eq_true rfl⟩ (kI fun r45 μ43 x44 h => ?_)
                refine g_if_eq f 161 dX5_plain_154 rfl h (fun h => ?_) (fun h => ?_)
                · refine g_iconst f 0 dX5_plain_161 kc_0 ?_
                  exact g_zret f hq (Nat.le_of_ble_eq_true rfl) (Nat.le_of_ble_eq_true rfl) dX5_plain_162 zb_0.1 h
                · refine g_iconst f 1 dX5_plain_157 kc_1 ?_
                  refine g_goto f 162 dX5_plain_158 rfl ?_
                  exact g_zret f hq (Nat.le_of_ble_eq_true rfl) (Nat.le_of_ble_eq_true rfl) dX5_plain_162 zb_1.1 h
          · skip
            rcases dec_or h with ⟨e46, h⟩ | ⟨e46, h⟩
            · refine g_tableIn f 163 dX5_plain_1 (by rw [e46] <;> decide) (by rw [e46] <;> decide) (by rw [e46] <;> rfl) rfl ?_
              refine g_aload_n f 0 dX5_plain_163 rfl rfl ?_
              refine g_iconst f 1 dX5_plain_164 kc_1 ?_
              refine g_iconst f 1 dX5_plain_165 kc_1 ?_
              refine g_bipush f 60 dX5_plain_166 kb_60 ?_
              obtain ⟨v47, h⟩ := h
              refine g_callV f mk_X5_100 v47 (c_X5_told h) dX5_plain_168 rfl rfl (Nat.le_of_ble_eq_true rfl) (rm_ok (by decide) (by decide)) ⟨Nat.le_of_ble_eq_true rfl, Nat.le_of_ble_eq_true rfl⟩ (kI fun r50 μ48 x49 h => ?_)
              exact g_zret f hq (Nat.le_of_ble_eq_true rfl) (Nat.le_of_ble_eq_true rfl) dX5_plain_171 h.1.1 h.2
            · skip
              have e1 := lv_neT (a := 2) e1 (by decide)
              have e24 := lv_neT (a := 3) e24 (by decide)
              have e29 := lv_neT (a := 4) e29 (by decide)
              have e34 := lv_neT (a := 5) e34 (by decide)
              have e35 := lv_neT (a := 6) e35 (by decide)
              have e46 := lv_neT (a := 7) e46 (by decide)
              refine g_tableOut f 172 dX5_plain_1 (by omega) rfl ?_
              exact h_sub [0] rfl (tB_X5_plain_172 f hq h)
theorem c_X5_plain {Ω : OM} {o0 : Nat} {i1 : Int32} {μ : Me} {Q : Int32 → Me → Prop} (h : S_X5_plain o0 i1 μ Q) : CT Ω yX5_plain cX5_plain 2 (some .boolean) (rmc 2 0 0) [.ref (oB Ω + o0), .int i1] μ (qI Q) := CT_of (by decide) rfl (by simp [lg_sl, Value.category]) (fun x hΩ f hq hi => by subst hΩ; exact t_X5_plain f hq h)
theorem dX7_endClause_0 : decode cX7_endClause 0 = .ok (.iload_n 1, 1) := by decide +kernel
theorem dX7_endClause_1 : decode cX7_endClause 1 = .ok (.ifCond .ne 11, 3) := by decide +kernel
theorem dX7_endClause_4 : decode cX7_endClause 4 = .ok (.aload_n 0, 1) := by decide +kernel
theorem dX7_endClause_5 : decode cX7_endClause 5 = .ok (.aload_n 0, 1) := by decide +kernel
theorem dX7_endClause_6 : decode cX7_endClause 6 = .ok (.getfield 21, 3) := by decide +kernel
theorem dX7_endClause_9 : decode cX7_endClause 9 = .ok (.putfield 38, 3) := by decide +kernel
theorem dX7_endClause_12 : decode cX7_endClause 12 = .ok (.iload_n 1, 1) := by decide +kernel
theorem dX7_endClause_13 : decode cX7_endClause 13 = .ok (.iconst 1, 1) := by decide +kernel
theorem dX7_endClause_14 : decode cX7_endClause 14 = .ok (.if_icmp .ne 11, 3) := by decide +kernel
theorem dX7_endClause_17 : decode cX7_endClause 17 = .ok (.aload_n 0, 1) := by decide +kernel
theorem dX7_endClause_18 : decode cX7_endClause 18 = .ok (.aload_n 0, 1) := by decide +kernel
theorem dX7_endClause_19 : decode cX7_endClause 19 = .ok (.getfield 21, 3) := by decide +kernel
theorem dX7_endClause_22 : decode cX7_endClause 22 = .ok (.putfield 41, 3) := by decide +kernel
theorem dX7_endClause_25 : decode cX7_endClause 25 = .ok (.aload_n 0, 1) := by decide +kernel
theorem dX7_endClause_26 : decode cX7_endClause 26 = .ok (.dup, 1) := by decide +kernel
theorem dX7_endClause_27 : decode cX7_endClause 27 = .ok (.getfield 25, 3) := by decide +kernel
theorem dX7_endClause_30 : decode cX7_endClause 30 = .ok (.iconst 1, 1) := by decide +kernel
theorem dX7_endClause_31 : decode cX7_endClause 31 = .ok (.iadd, 1) := by decide +kernel
theorem dX7_endClause_32 : decode cX7_endClause 32 = .ok (.putfield 25, 3) := by decide +kernel
theorem dX7_endClause_35 : decode cX7_endClause 35 = .ok (.return_, 1) := by decide +kernel
def B_X7_endClause_25 (o0 : Nat) (μ : Me) (Q : Me → Prop) : Prop := mok μ o0 7 ∧ ∀ μ2, μ2 = msi μ o0 8 ((mgi μ o0 8) + 1) → Q μ2
set_option maxHeartbeats 4000000 in
set_option maxRecDepth 100000 in
theorem tB_X7_endClause_25 {x : GX} (f : Fx x cX7_endClause RX7 2 (rmc 0 0 0)) {o0 : Nat} {μ : Me} {Q : Me → Prop} (hq : Rt x none (qV Q)) (h : B_X7_endClause_25 o0 μ Q) : G x 2 25 [(0, .ref (gB x + o0))] [] μ 0 0 := by
  unfold B_X7_endClause_25 at h
  refine g_aload_n f 0 dX7_endClause_25 rfl rfl ?_
  refine g_dup f dX7_endClause_26 rfl ?_
  obtain ⟨v1, h⟩ := h
  refine g_getI f fk_X7_25 v1 dX7_endClause_27 rfl ?_
  refine g_iconst f 1 dX7_endClause_30 kc_1 ?_
  refine g_iadd f dX7_endClause_31 ?_
  refine g_putI f fk_X7_25 v1 dX7_endClause_32 rfl h (fun h => ?_)
  exact g_vret f hq (Nat.le_of_ble_eq_true rfl) (Nat.le_of_ble_eq_true rfl) dX7_endClause_35 h
def B_X7_endClause_12 (o0 : Nat) (i1 : Int32) (μ : Me) (Q : Me → Prop) : Prop := ((¬ i1 = 1 → B_X7_endClause_25 o0 μ Q) ∧ (i1 = 1 → mok μ o0 7 ∧ ∀ μ4, μ4 = msi μ o0 6 (mgi μ o0 2) → B_X7_endClause_25 o0 μ4 Q))
set_option maxHeartbeats 4000000 in
set_option maxRecDepth 100000 in
theorem tB_X7_endClause_12 {x : GX} (f : Fx x cX7_endClause RX7 2 (rmc 0 0 0)) {o0 : Nat} {i1 : Int32} {μ : Me} {Q : Me → Prop} (hq : Rt x none (qV Q)) (h : B_X7_endClause_12 o0 i1 μ Q) : G x 2 12 [(0, .ref (gB x + o0)), (1, .int i1)] [] μ 0 0 := by
  unfold B_X7_endClause_12 at h
  refine g_iload_n f 1 dX7_endClause_12 rfl rfl ?_
  refine g_iconst f 1 dX7_endClause_13 kc_1 ?_
  refine g_ic_ne f 25 dX7_endClause_14 rfl h (fun h => ?_) (fun h => ?_)
  · exact h_sub [0] rfl (tB_X7_endClause_25 f hq h)
  · refine g_aload_n f 0 dX7_endClause_17 rfl rfl ?_
    refine g_aload_n f 0 dX7_endClause_18 rfl rfl ?_
    obtain ⟨v3, h⟩ := h
    refine g_getI f fk_X7_21 v3 dX7_endClause_19 rfl ?_
    refine g_putI f fk_X7_41 v3 dX7_endClause_22 rfl h (fun h => ?_)
    exact h_sub [0] rfl (tB_X7_endClause_25 f hq h)
def S_X7_endClause (o0 : Nat) (i1 : Int32) (μ : Me) (Q : Me → Prop) : Prop := ((¬ i1 = 0 → B_X7_endClause_12 o0 i1 μ Q) ∧ (i1 = 0 → mok μ o0 7 ∧ ∀ μ6, μ6 = msi μ o0 4 (mgi μ o0 2) → B_X7_endClause_12 o0 i1 μ6 Q))
set_option maxHeartbeats 4000000 in
set_option maxRecDepth 100000 in
theorem t_X7_endClause {x : GX} (f : Fx x cX7_endClause RX7 2 (rmc 0 0 0)) {o0 : Nat} {i1 : Int32} {μ : Me} {Q : Me → Prop} (hq : Rt x none (qV Q)) (h : S_X7_endClause o0 i1 μ Q) : G x 2 0 [(0, .ref (gB x + o0)), (1, .int i1)] [] μ 0 0 := by
  unfold S_X7_endClause at h
  refine g_iload_n f 1 dX7_endClause_0 rfl rfl ?_
  refine g_if_ne f 12 dX7_endClause_1 rfl h (fun h => ?_) (fun h => ?_)
  · exact h_sub [0, 1] rfl (tB_X7_endClause_12 f hq h)
  · refine g_aload_n f 0 dX7_endClause_4 rfl rfl ?_
    refine g_aload_n f 0 dX7_endClause_5 rfl rfl ?_
    obtain ⟨v5, h⟩ := h
    refine g_getI f fk_X7_21 v5 dX7_endClause_6 rfl ?_
    refine g_putI f fk_X7_38 v5 dX7_endClause_9 rfl h (fun h => ?_)
    exact h_sub [0, 1] rfl (tB_X7_endClause_12 f hq h)
theorem c_X7_endClause {Ω : OM} {o0 : Nat} {i1 : Int32} {μ : Me} {Q : Me → Prop} (h : S_X7_endClause o0 i1 μ Q) : CT Ω yX7_endClause cX7_endClause 2 none (rmc 0 0 0) [.ref (oB Ω + o0), .int i1] μ (qV Q) := CT_of (by decide) rfl (by simp [lg_sl, Value.category]) (fun x hΩ f hq hi => by subst hΩ; exact t_X7_endClause f hq h)
theorem dX5_clause_0 : decode cX5_clause 0 = .ok (.aload_n 0, 1) := by decide +kernel
theorem dX5_clause_1 : decode cX5_clause 1 = .ok (.getfield 45, 3) := by decide +kernel
theorem dX5_clause_4 : decode cX5_clause 4 = .ok (.istore_n 2, 1) := by decide +kernel
theorem dX5_clause_5 : decode cX5_clause 5 = .ok (.iload_n 2, 1) := by decide +kernel
theorem dX5_clause_6 : decode cX5_clause 6 = .ok (.ifCond .lt 9, 3) := by decide +kernel
theorem dX5_clause_9 : decode cX5_clause 9 = .ok (.iload_n 2, 1) := by decide +kernel
theorem dX5_clause_10 : decode cX5_clause 10 = .ok (.bipush 7, 2) := by decide +kernel
theorem dX5_clause_12 : decode cX5_clause 12 = .ok (.if_icmp .le 9, 3) := by decide +kernel
theorem dX5_clause_15 : decode cX5_clause 15 = .ok (.aload_n 0, 1) := by decide +kernel
theorem dX5_clause_16 : decode cX5_clause 16 = .ok (.iconst 1, 1) := by decide +kernel
theorem dX5_clause_17 : decode cX5_clause 17 = .ok (.invokevirtual 71, 3) := by decide +kernel
theorem dX5_clause_20 : decode cX5_clause 20 = .ok (.ireturn, 1) := by decide +kernel
theorem dX5_clause_21 : decode cX5_clause 21 = .ok (.aload_n 1, 1) := by decide +kernel
theorem dX5_clause_22 : decode cX5_clause 22 = .ok (.iload_n 2, 1) := by decide +kernel
theorem dX5_clause_23 : decode cX5_clause 23 = .ok (.invokevirtual 75, 3) := by decide +kernel
theorem dX5_clause_26 : decode cX5_clause 26 = .ok (.ifCond .eq 9, 3) := by decide +kernel
theorem dX5_clause_29 : decode cX5_clause 29 = .ok (.aload_n 0, 1) := by decide +kernel
theorem dX5_clause_30 : decode cX5_clause 30 = .ok (.iconst 4, 1) := by decide +kernel
theorem dX5_clause_31 : decode cX5_clause 31 = .ok (.invokevirtual 71, 3) := by decide +kernel
theorem dX5_clause_34 : decode cX5_clause 34 = .ok (.ireturn, 1) := by decide +kernel
theorem dX5_clause_35 : decode cX5_clause 35 = .ok (.aload_n 1, 1) := by decide +kernel
theorem dX5_clause_36 : decode cX5_clause 36 = .ok (.getfield 78, 3) := by decide +kernel
theorem dX5_clause_39 : decode cX5_clause 39 = .ok (.bipush 24, 2) := by decide +kernel
theorem dX5_clause_41 : decode cX5_clause 41 = .ok (.if_icmp .lt 10, 3) := by decide +kernel
theorem dX5_clause_44 : decode cX5_clause 44 = .ok (.aload_n 0, 1) := by decide +kernel
theorem dX5_clause_45 : decode cX5_clause 45 = .ok (.bipush 6, 2) := by decide +kernel
theorem dX5_clause_47 : decode cX5_clause 47 = .ok (.invokevirtual 71, 3) := by decide +kernel
theorem dX5_clause_50 : decode cX5_clause 50 = .ok (.ireturn, 1) := by decide +kernel
theorem dX5_clause_51 : decode cX5_clause 51 = .ok (.aload_n 1, 1) := by decide +kernel
theorem dX5_clause_52 : decode cX5_clause 52 = .ok (.iload_n 2, 1) := by decide +kernel
theorem dX5_clause_53 : decode cX5_clause 53 = .ok (.invokevirtual 81, 3) := by decide +kernel
theorem dX5_clause_56 : decode cX5_clause 56 = .ok (.aload_n 0, 1) := by decide +kernel
theorem dX5_clause_57 : decode cX5_clause 57 = .ok (.invokevirtual 42, 3) := by decide +kernel
theorem dX5_clause_60 : decode cX5_clause 60 = .ok (.aload_n 0, 1) := by decide +kernel
theorem dX5_clause_61 : decode cX5_clause 61 = .ok (.iload_n 2, 1) := by decide +kernel
theorem dX5_clause_62 : decode cX5_clause 62 = .ok (.putfield 85, 3) := by decide +kernel
theorem dX5_clause_65 : decode cX5_clause 65 = .ok (.iload_n 2, 1) := by decide +kernel
theorem dX5_clause_66 : decode cX5_clause 66 = .ok (.ifCond .eq 8, 3) := by decide +kernel
theorem dX5_clause_69 : decode cX5_clause 69 = .ok (.iload_n 2, 1) := by decide +kernel
theorem dX5_clause_70 : decode cX5_clause 70 = .ok (.iconst 1, 1) := by decide +kernel
theorem dX5_clause_71 : decode cX5_clause 71 = .ok (.if_icmp .ne 11, 3) := by decide +kernel
theorem dX5_clause_74 : decode cX5_clause 74 = .ok (.aload_n 0, 1) := by decide +kernel
theorem dX5_clause_75 : decode cX5_clause 75 = .ok (.iconst 0, 1) := by decide +kernel
theorem dX5_clause_76 : decode cX5_clause 76 = .ok (.invokevirtual 88, 3) := by decide +kernel
theorem dX5_clause_79 : decode cX5_clause 79 = .ok (.goto 8, 3) := by decide +kernel
theorem dX5_clause_82 : decode cX5_clause 82 = .ok (.aload_n 0, 1) := by decide +kernel
theorem dX5_clause_83 : decode cX5_clause 83 = .ok (.iload_n 2, 1) := by decide +kernel
theorem dX5_clause_84 : decode cX5_clause 84 = .ok (.invokevirtual 91, 3) := by decide +kernel
theorem dX5_clause_87 : decode cX5_clause 87 = .ok (.istore_n 3, 1) := by decide +kernel
theorem dX5_clause_88 : decode cX5_clause 88 = .ok (.iload_n 3, 1) := by decide +kernel
theorem dX5_clause_89 : decode cX5_clause 89 = .ok (.ifCond .eq 12, 3) := by decide +kernel
theorem dX5_clause_92 : decode cX5_clause 92 = .ok (.aload_n 0, 1) := by decide +kernel
theorem dX5_clause_93 : decode cX5_clause 93 = .ok (.bipush 36, 2) := by decide +kernel
theorem dX5_clause_95 : decode cX5_clause 95 = .ok (.invokevirtual 94, 3) := by decide +kernel
theorem dX5_clause_98 : decode cX5_clause 98 = .ok (.ifCond .ne 5, 3) := by decide +kernel
theorem dX5_clause_101 : decode cX5_clause 101 = .ok (.iconst 0, 1) := by decide +kernel
theorem dX5_clause_102 : decode cX5_clause 102 = .ok (.ireturn, 1) := by decide +kernel
theorem dX5_clause_103 : decode cX5_clause 103 = .ok (.aload_n 1, 1) := by decide +kernel
theorem dX5_clause_104 : decode cX5_clause 104 = .ok (.iload_n 2, 1) := by decide +kernel
theorem dX5_clause_105 : decode cX5_clause 105 = .ok (.invokevirtual 97, 3) := by decide +kernel
theorem dX5_clause_108 : decode cX5_clause 108 = .ok (.iconst 1, 1) := by decide +kernel
theorem dX5_clause_109 : decode cX5_clause 109 = .ok (.ireturn, 1) := by decide +kernel
def B_X5_clause_15 (o0 : Nat) (μ : Me) (Q : Int32 → Me → Prop) : Prop := mok μ o0 5 ∧ S_X5_refuse o0 1 μ (fun r5 μ3 => zb r5 ∧ Q r5 μ3)
set_option maxHeartbeats 4000000 in
set_option maxRecDepth 100000 in
theorem tB_X5_clause_15 {x : GX} (f : Fx x cX5_clause RX5 4 (rmc 141 0 0)) {o0 : Nat} {μ : Me} {Q : Int32 → Me → Prop} (hq : Rt x (some .boolean) (qI Q)) (h : B_X5_clause_15 o0 μ Q) : G x 4 15 [(0, .ref (gB x + o0))] [] μ 0 0 := by
  unfold B_X5_clause_15 at h
  refine g_aload_n f 0 dX5_clause_15 rfl rfl ?_
  refine g_iconst f 1 dX5_clause_16 kc_1 ?_
  obtain ⟨v2, h⟩ := h
  refine g_callV f mk_X5_71 v2 (c_X5_refuse h) dX5_clause_17 rfl rfl (Nat.le_of_ble_eq_true rfl) (rm_ok (by decide) (by decide)) ⟨Nat.le_of_ble_eq_true rfl, Nat.le_of_ble_eq_true rfl⟩ (kI fun r5 μ3 x4 h => ?_)
  exact g_zret f hq (Nat.le_of_ble_eq_true rfl) (Nat.le_of_ble_eq_true rfl) dX5_clause_20 h.1.1 h.2
def B_X5_clause_87 (o0 : Nat) (o1 : Nat) (i2 : Int32) (s0 : Int32) (μ : Me) (Q : Int32 → Me → Prop) : Prop := ((s0 = 0 → Q 0 μ) ∧ (¬ s0 = 0 → mok μ o0 5 ∧ S_X5_accept o0 36 μ (fun r24 μ22 => ((¬ r24 = 0 → mok μ22 o1 7 ∧ S_X7_endClause o1 i2 μ22 (fun μ26 => Q 1 μ26)) ∧ (r24 = 0 → Q 0 μ22)))))
set_option maxHeartbeats 4000000 in
set_option maxRecDepth 100000 in
theorem tB_X5_clause_87 {x : GX} (f : Fx x cX5_clause RX5 4 (rmc 141 0 0)) {o0 : Nat} {o1 : Nat} {i2 : Int32} {s0 : Int32} {μ : Me} {Q : Int32 → Me → Prop} (hq : Rt x (some .boolean) (qI Q)) (h : B_X5_clause_87 o0 o1 i2 s0 μ Q) : G x 4 87 [(0, .ref (gB x + o0)), (1, .ref (gB x + o1)), (2, .int i2)] [.int s0] μ 0 0 := by
  unfold B_X5_clause_87 at h
  refine h_istore_n f dX5_clause_87 rfl (by decide) ?_
  refine g_iload_n f 0 dX5_clause_88 rfl rfl ?_
  refine g_if_eq f 101 dX5_clause_89 rfl h (fun h => ?_) (fun h => ?_)
  · refine g_iconst f 0 dX5_clause_101 kc_0 ?_
    exact g_zret f hq (Nat.le_of_ble_eq_true rfl) (Nat.le_of_ble_eq_true rfl) dX5_clause_102 zb_0.1 h
  · refine g_aload_n f 1 dX5_clause_92 rfl rfl ?_
    refine g_bipush f 36 dX5_clause_93 kb_36 ?_
    obtain ⟨v21, h⟩ := h
    refine g_callV f mk_X5_94 v21 (c_X5_accept h) dX5_clause_95 rfl rfl (Nat.le_of_ble_eq_true rfl) (rm_ok (by decide) (by decide)) ⟨Nat.le_of_ble_eq_true rfl, Nat.le_of_ble_eq_true rfl⟩ (kI fun r24 μ22 x23 h => ?_)
    refine g_if_ne f 103 dX5_clause_98 rfl h (fun h => ?_) (fun h => ?_)
    · refine g_aload_n f 2 dX5_clause_103 rfl rfl ?_
      refine g_iload_n f 3 dX5_clause_104 rfl rfl ?_
      obtain ⟨v25, h⟩ := h
      refine g_callV f mk_X5_97 v25 (c_X7_endClause h) dX5_clause_105 rfl rfl (Nat.le_of_ble_eq_true rfl) (rm_ok (by decide) (by decide)) ⟨Nat.le_of_ble_eq_true rfl, Nat.le_of_ble_eq_true rfl⟩ (kV fun μ26 x27 h => ?_)
      refine g_iconst f 1 dX5_clause_108 kc_1 ?_
      exact g_zret f hq (Nat.le_of_ble_eq_true rfl) (Nat.le_of_ble_eq_true rfl) dX5_clause_109 zb_1.1 h
    · refine g_iconst f 0 dX5_clause_101 kc_0 ?_
      exact g_zret f hq (Nat.le_of_ble_eq_true rfl) (Nat.le_of_ble_eq_true rfl) dX5_clause_102 zb_0.1 h
def B_X5_clause_74 (o0 : Nat) (o1 : Nat) (i2 : Int32) (μ : Me) (Q : Int32 → Me → Prop) : Prop := mok μ o0 5 ∧ RC 100 0 o0 0 μ (fun r20 μ18 => B_X5_clause_87 o0 o1 i2 r20 μ18 Q)
set_option maxHeartbeats 4000000 in
set_option maxRecDepth 100000 in
theorem tB_X5_clause_74 {x : GX} (f : Fx x cX5_clause RX5 4 (rmc 141 0 0)) {o0 : Nat} {o1 : Nat} {i2 : Int32} {μ : Me} {Q : Int32 → Me → Prop} (hq : Rt x (some .boolean) (qI Q)) (h : B_X5_clause_74 o0 o1 i2 μ Q) : G x 4 74 [(0, .ref (gB x + o0)), (1, .ref (gB x + o1)), (2, .int i2)] [] μ 0 0 := by
  unfold B_X5_clause_74 at h
  refine g_aload_n f 0 dX5_clause_74 rfl rfl ?_
  refine g_iconst f 0 dX5_clause_75 kc_0 ?_
  obtain ⟨v17, h⟩ := h
  refine g_callV f mk_X5_88 v17 ((rh_all _ 100).1 _ _ _ _ h) dX5_clause_76 rfl rfl (Nat.le_of_ble_eq_true rfl) (rm_ok (by decide) (by decide)) ⟨Nat.le_of_ble_eq_true rfl, Nat.le_of_ble_eq_true rfl⟩ (kI fun r20 μ18 x19 h => ?_)
  refine g_goto f 87 dX5_clause_79 rfl ?_
  exact h_sub [0, 1, 2] rfl (tB_X5_clause_87 f hq h)
def S_X5_clause (o0 : Nat) (o1 : Nat) (μ : Me) (Q : Int32 → Me → Prop) : Prop := mok μ o0 5 ∧ (((mgi μ o0 3) < 0 → B_X5_clause_15 o0 μ Q) ∧ (¬ (mgi μ o0 3) < 0 → (((mgi μ o0 3) ≤ 7 → mok μ o1 7 ∧ S_X7_has o1 (mgi μ o0 3) μ (fun r9 μ7 => ((r9 = 0 → (((mgi μ7 o1 8) < 24 → S_X7_startClause o1 (mgi μ o0 3) μ7 (fun μ10 => S_X5_next o0 μ10 (fun μ13 => ∀ μ16, μ16 = msi μ13 o0 5 (mgi μ o0 3) → (((mgi μ o0 3) = 0 → B_X5_clause_74 o0 o1 (mgi μ o0 3) μ16 Q) ∧ (¬ (mgi μ o0 3) = 0 → ((¬ (mgi μ o0 3) = 1 → S_X5_plain o0 (mgi μ o0 3) μ16 (fun r31 μ29 => B_X5_clause_87 o0 o1 (mgi μ o0 3) r31 μ29 Q)) ∧ ((mgi μ o0 3) = 1 → B_X5_clause_74 o0 o1 (mgi μ o0 3) μ16 Q))))))) ∧ (¬ (mgi μ7 o1 8) < 24 → S_X5_refuse o0 6 μ7 (fun r34 μ32 => zb r34 ∧ Q r34 μ32)))) ∧ (¬ r9 = 0 → S_X5_refuse o0 4 μ7 (fun r37 μ35 => zb r37 ∧ Q r37 μ35))))) ∧ (¬ (mgi μ o0 3) ≤ 7 → B_X5_clause_15 o0 μ Q))))
set_option maxHeartbeats 4000000 in
set_option maxRecDepth 100000 in
theorem t_X5_clause {x : GX} (f : Fx x cX5_clause RX5 4 (rmc 141 0 0)) {o0 : Nat} {o1 : Nat} {μ : Me} {Q : Int32 → Me → Prop} (hq : Rt x (some .boolean) (qI Q)) (h : S_X5_clause o0 o1 μ Q) : G x 4 0 [(0, .ref (gB x + o0)), (1, .ref (gB x + o1))] [] μ 0 0 := by
  unfold S_X5_clause at h
  refine g_aload_n f 0 dX5_clause_0 rfl rfl ?_
  obtain ⟨v1, h⟩ := h
  refine g_getI f fk_X5_45 v1 dX5_clause_1 rfl ?_
  refine h_istore_n f dX5_clause_4 rfl (by decide) ?_
  refine g_iload_n f 0 dX5_clause_5 rfl rfl ?_
  refine g_if_lt f 15 dX5_clause_6 rfl h (fun h => ?_) (fun h => ?_)
  · exact h_sub [1] rfl (tB_X5_clause_15 f hq h)
  · refine g_iload_n f 0 dX5_clause_9 rfl rfl ?_
    refine g_bipush f 7 dX5_clause_10 kb_7 ?_
    refine g_ic_le f 21 dX5_clause_12 rfl h (fun h => ?_) (fun h => ?_)
    · refine g_aload_n f 2 dX5_clause_21 rfl rfl ?_
      refine g_iload_n f 0 dX5_clause_22 rfl rfl ?_
      obtain ⟨v6, h⟩ := h
      refine g_callV f mk_X5_75 v6 (c_X7_has h) dX5_clause_23 rfl rfl (Nat.le_of_ble_eq_true rfl) (rm_ok (by decide) (by decide)) ⟨Nat.le_of_ble_eq_true rfl, Nat.le_of_ble_eq_true rfl⟩ (kI fun r9 μ7 x8 h => ?_)
      refine g_if_eq f 35 dX5_clause_26 rfl h (fun h => ?_) (fun h => ?_)
      · refine g_aload_n f 2 dX5_clause_35 rfl rfl ?_
        have v6 := mex_ok x8 v6
        refine g_getI f fk_X5_78 v6 dX5_clause_36 rfl ?_
        refine g_bipush f 24 dX5_clause_39 kb_24 ?_
        refine g_ic_lt f 51 dX5_clause_41 rfl h (fun h => ?_) (fun h => ?_)
        · refine g_aload_n f 2 dX5_clause_51 rfl rfl ?_
          refine g_iload_n f 0 dX5_clause_52 rfl rfl ?_
          refine g_callV f mk_X5_81 v6 (c_X7_startClause h) dX5_clause_53 rfl rfl (Nat.le_of_ble_eq_true rfl) (rm_ok (by decide) (by decide)) ⟨Nat.le_of_ble_eq_true rfl, Nat.le_of_ble_eq_true rfl⟩ (kV fun μ10 x11 h => ?_)
          refine g_aload_n f 1 dX5_clause_56 rfl rfl ?_
          have v1 := mex_ok x8 v1
          have v1 := mex_ok x11 v1
          refine g_callV f mk_X5_42 v1 (c_X5_next h) dX5_clause_57 rfl rfl (Nat.le_of_ble_eq_true rfl) (rm_ok (by decide) (by decide)) ⟨Nat.le_of_ble_eq_true rfl, Nat.le_of_ble_eq_true rfl⟩ (kV fun μ13 x14 h => ?_)
          refine g_aload_n f 1 dX5_clause_60 rfl rfl ?_
          refine g_iload_n f 0 dX5_clause_61 rfl rfl ?_
          have v1 := mex_ok x14 v1
          refine g_putI f fk_X5_85 v1 dX5_clause_62 rfl h (fun h => ?_)
          refine g_iload_n f 0 dX5_clause_65 rfl rfl ?_
          refine g_if_eq f 74 dX5_clause_66 rfl h (fun h => ?_) (fun h => ?_)
          · exact h_sub [1, 2, 0] rfl (tB_X5_clause_74 f hq h)
          · refine g_iload_n f 0 dX5_clause_69 rfl rfl ?_
            refine g_iconst f 1 dX5_clause_70 kc_1 ?_
            refine g_ic_ne f 82 dX5_clause_71 rfl h (fun h => ?_) (fun h => ?_)
            · refine g_aload_n f 1 dX5_clause_82 rfl rfl ?_
              refine g_iload_n f 0 dX5_clause_83 rfl rfl ?_
              refine g_callV f mk_X5_91 v1 (c_X5_plain h) dX5_clause_84 rfl rfl (Nat.le_of_ble_eq_true rfl) (rm_ok (by decide) (by decide)) ⟨Nat.le_of_ble_eq_true rfl, Nat.le_of_ble_eq_true rfl⟩ (kI fun r31 μ29 x30 h => ?_)
              exact h_sub [1, 2, 0] rfl (tB_X5_clause_87 f hq h)
            · exact h_sub [1, 2, 0] rfl (tB_X5_clause_74 f hq h)
        · refine g_aload_n f 1 dX5_clause_44 rfl rfl ?_
          refine g_bipush f 6 dX5_clause_45 kb_6 ?_
          have v1 := mex_ok x8 v1
          refine g_callV f mk_X5_71 v1 (c_X5_refuse h) dX5_clause_47 rfl rfl (Nat.le_of_ble_eq_true rfl) (rm_ok (by decide) (by decide)) ⟨Nat.le_of_ble_eq_true rfl, Nat.le_of_ble_eq_true rfl⟩ (kI fun r34 μ32 x33 h => ?_)
          exact g_zret f hq (Nat.le_of_ble_eq_true rfl) (Nat.le_of_ble_eq_true rfl) dX5_clause_50 h.1.1 h.2
      · refine g_aload_n f 1 dX5_clause_29 rfl rfl ?_
        refine g_iconst f 4 dX5_clause_30 kc_4 ?_
        have v1 := mex_ok x8 v1
        refine g_callV f mk_X5_71 v1 (c_X5_refuse h) dX5_clause_31 rfl rfl (Nat.le_of_ble_eq_true rfl) (rm_ok (by decide) (by decide)) ⟨Nat.le_of_ble_eq_true rfl, Nat.le_of_ble_eq_true rfl⟩ (kI fun r37 μ35 x36 h => ?_)
        exact g_zret f hq (Nat.le_of_ble_eq_true rfl) (Nat.le_of_ble_eq_true rfl) dX5_clause_34 h.1.1 h.2
    · exact h_sub [1] rfl (tB_X5_clause_15 f hq h)
theorem c_X5_clause {Ω : OM} {o0 : Nat} {o1 : Nat} {μ : Me} {Q : Int32 → Me → Prop} (h : S_X5_clause o0 o1 μ Q) : CT Ω yX5_clause cX5_clause 4 (some .boolean) (rmc 141 0 0) [.ref (oB Ω + o0), .ref (oB Ω + o1)] μ (qI Q) := CT_of (by decide) rfl (by simp [lg_sl, Value.category]) (fun x hΩ f hq hi => by subst hΩ; exact t_X5_clause f hq h)
theorem dX5_readInto_0 : decode cX5_readInto 0 = .ok (.aload_n 0, 1) := by decide +kernel
theorem dX5_readInto_1 : decode cX5_readInto 1 = .ok (.aload_n 1, 1) := by decide +kernel
theorem dX5_readInto_2 : decode cX5_readInto 2 = .ok (.putfield 21, 3) := by decide +kernel
theorem dX5_readInto_5 : decode cX5_readInto 5 = .ok (.aload_n 1, 1) := by decide +kernel
theorem dX5_readInto_6 : decode cX5_readInto 6 = .ok (.invokevirtual 25, 3) := by decide +kernel
theorem dX5_readInto_9 : decode cX5_readInto 9 = .ok (.aload_n 0, 1) := by decide +kernel
theorem dX5_readInto_10 : decode cX5_readInto 10 = .ok (.iconst 0, 1) := by decide +kernel
theorem dX5_readInto_11 : decode cX5_readInto 11 = .ok (.putfield 28, 3) := by decide +kernel
theorem dX5_readInto_14 : decode cX5_readInto 14 = .ok (.aload_n 0, 1) := by decide +kernel
theorem dX5_readInto_15 : decode cX5_readInto 15 = .ok (.iconst (-1), 1) := by decide +kernel
theorem dX5_readInto_16 : decode cX5_readInto 16 = .ok (.putfield 32, 3) := by decide +kernel
theorem dX5_readInto_19 : decode cX5_readInto 19 = .ok (.aload_n 0, 1) := by decide +kernel
theorem dX5_readInto_20 : decode cX5_readInto 20 = .ok (.getfield 12, 3) := by decide +kernel
theorem dX5_readInto_23 : decode cX5_readInto 23 = .ok (.aload_n 2, 1) := by decide +kernel
theorem dX5_readInto_24 : decode cX5_readInto 24 = .ok (.invokevirtual 35, 3) := by decide +kernel
theorem dX5_readInto_27 : decode cX5_readInto 27 = .ok (.aload_n 0, 1) := by decide +kernel
theorem dX5_readInto_28 : decode cX5_readInto 28 = .ok (.iconst (-1), 1) := by decide +kernel
theorem dX5_readInto_29 : decode cX5_readInto 29 = .ok (.putfield 39, 3) := by decide +kernel
theorem dX5_readInto_32 : decode cX5_readInto 32 = .ok (.aload_n 0, 1) := by decide +kernel
theorem dX5_readInto_33 : decode cX5_readInto 33 = .ok (.invokevirtual 42, 3) := by decide +kernel
theorem dX5_readInto_36 : decode cX5_readInto 36 = .ok (.iconst 1, 1) := by decide +kernel
theorem dX5_readInto_37 : decode cX5_readInto 37 = .ok (.istore_n 3, 1) := by decide +kernel
theorem dX5_readInto_38 : decode cX5_readInto 38 = .ok (.iconst 0, 1) := by decide +kernel
theorem dX5_readInto_39 : decode cX5_readInto 39 = .ok (.istore 4, 2) := by decide +kernel
theorem dX5_readInto_41 : decode cX5_readInto 41 = .ok (.iload 4, 2) := by decide +kernel
theorem dX5_readInto_43 : decode cX5_readInto 43 = .ok (.bipush 24, 2) := by decide +kernel
theorem dX5_readInto_45 : decode cX5_readInto 45 = .ok (.if_icmp .gt 28, 3) := by decide +kernel
theorem dX5_readInto_48 : decode cX5_readInto 48 = .ok (.iload_n 3, 1) := by decide +kernel
theorem dX5_readInto_49 : decode cX5_readInto 49 = .ok (.ifCond .eq 24, 3) := by decide +kernel
theorem dX5_readInto_52 : decode cX5_readInto 52 = .ok (.aload_n 0, 1) := by decide +kernel
theorem dX5_readInto_53 : decode cX5_readInto 53 = .ok (.getfield 45, 3) := by decide +kernel
theorem dX5_readInto_56 : decode cX5_readInto 56 = .ok (.bipush 51, 2) := by decide +kernel
theorem dX5_readInto_58 : decode cX5_readInto 58 = .ok (.if_icmp .eq 15, 3) := by decide +kernel
theorem dX5_readInto_61 : decode cX5_readInto 61 = .ok (.aload_n 0, 1) := by decide +kernel
theorem dX5_readInto_62 : decode cX5_readInto 62 = .ok (.aload_n 1, 1) := by decide +kernel
theorem dX5_readInto_63 : decode cX5_readInto 63 = .ok (.invokevirtual 48, 3) := by decide +kernel
theorem dX5_readInto_66 : decode cX5_readInto 66 = .ok (.istore_n 3, 1) := by decide +kernel
theorem dX5_readInto_67 : decode cX5_readInto 67 = .ok (.iinc 4 1, 3) := by decide +kernel
theorem dX5_readInto_70 : decode cX5_readInto 70 = .ok (.goto (-29), 3) := by decide +kernel
theorem dX5_readInto_73 : decode cX5_readInto 73 = .ok (.return_, 1) := by decide +kernel
def B_X5_readInto_41 (o0 : Nat) (o1 : Nat) (i3 : Int32) (i4 : Int32) (μ : Me) (K41 : Int32 → Int32 → Me → Prop) (Q : Me → Prop) : Prop := ((24 < i4 → Q μ) ∧ (¬ 24 < i4 → ((i3 = 0 → Q μ) ∧ (¬ i3 = 0 → mok μ o0 5 ∧ (((mgi μ o0 3) = 51 → Q μ) ∧ (¬ (mgi μ o0 3) = 51 → S_X5_clause o0 o1 μ (fun r21 μ19 => K41 r21 (i4 + 1) μ19)))))))
set_option maxHeartbeats 4000000 in
set_option maxRecDepth 100000 in
theorem tB_X5_readInto_41 {x : GX} (f : Fx x cX5_readInto RX5 5 (rmc 142 0 0)) {o0 : Nat} {o1 : Nat} {i3 : Int32} {i4 : Int32} {μ : Me} {Q : Me → Prop} (hq : Rt x none (qV Q)) {K41 : Int32 → Int32 → Me → Prop} (hK41 : ∀ (a3 : Int32) (a4 : Int32) (ν : Me), K41 a3 a4 ν → G x 5 41 [(0, .ref (gB x + o0)), (1, .ref (gB x + o1)), (3, .int a3), (4, .int a4)] [] ν 0 0) (h : B_X5_readInto_41 o0 o1 i3 i4 μ K41 Q) : G x 5 41 [(0, .ref (gB x + o0)), (1, .ref (gB x + o1)), (3, .int i3), (4, .int i4)] [] μ 0 0 := by
  unfold B_X5_readInto_41 at h
  refine g_iload f 3 dX5_readInto_41 rfl ?_
  refine g_bipush f 24 dX5_readInto_43 kb_24 ?_
  refine g_ic_gt f 73 dX5_readInto_45 rfl h (fun h => ?_) (fun h => ?_)
  · exact g_vret f hq (Nat.le_of_ble_eq_true rfl) (Nat.le_of_ble_eq_true rfl) dX5_readInto_73 h
  · refine g_iload_n f 2 dX5_readInto_48 rfl rfl ?_
    refine g_if_eq f 73 dX5_readInto_49 rfl h (fun h => ?_) (fun h => ?_)
    · exact g_vret f hq (Nat.le_of_ble_eq_true rfl) (Nat.le_of_ble_eq_true rfl) dX5_readInto_73 h
    · refine g_aload_n f 0 dX5_readInto_52 rfl rfl ?_
      obtain ⟨v18, h⟩ := h
      refine g_getI f fk_X5_45 v18 dX5_readInto_53 rfl ?_
      refine g_bipush f 51 dX5_readInto_56 kb_51 ?_
      refine g_ic_eq f 73 dX5_readInto_58 rfl h (fun h => ?_) (fun h => ?_)
      · exact g_vret f hq (Nat.le_of_ble_eq_true rfl) (Nat.le_of_ble_eq_true rfl) dX5_readInto_73 h
      · refine g_aload_n f 0 dX5_readInto_61 rfl rfl ?_
        refine g_aload_n f 1 dX5_readInto_62 rfl rfl ?_
        refine g_callV f mk_X5_48 v18 (c_X5_clause h) dX5_readInto_63 rfl rfl (Nat.le_of_ble_eq_true rfl) (rm_ok (by decide) (by decide)) ⟨Nat.le_of_ble_eq_true rfl, Nat.le_of_ble_eq_true rfl⟩ (kI fun r21 μ19 x20 h => ?_)
        refine h_istore_n f dX5_readInto_66 rfl (by decide) ?_
        refine h_iinc f 3 1 dX5_readInto_67 rfl kc_1 (by decide) ?_
        refine g_goto f 41 dX5_readInto_70 rfl ?_
        exact h_sub [2, 3, 1, 0] rfl (hK41 _ _ _ h)
def L_X5_readInto_41 (o0 : Nat) (o1 : Nat) (i3 : Int32) (i4 : Int32) (μ : Me) (Q : Me → Prop) : Prop := ∃ I : Int32 → Int32 → Me → Nat → Prop, (∃ n, I i3 i4 μ n) ∧ ∀ (i3 : Int32) (i4 : Int32) (μ : Me) (n : Nat), I i3 i4 μ n → B_X5_readInto_41 o0 o1 i3 i4 μ (fun a3 a4 ν => ∃ n', n' < n ∧ I a3 a4 ν n') Q
set_option maxHeartbeats 4000000 in
set_option maxRecDepth 100000 in
theorem tL_X5_readInto_41 {x : GX} (f : Fx x cX5_readInto RX5 5 (rmc 142 0 0)) {o0 : Nat} {o1 : Nat} {i3 : Int32} {i4 : Int32} {μ : Me} {Q : Me → Prop} (hq : Rt x none (qV Q)) (h : L_X5_readInto_41 o0 o1 i3 i4 μ Q) : G x 5 41 [(0, .ref (gB x + o0)), (1, .ref (gB x + o1)), (3, .int i3), (4, .int i4)] [] μ 0 0 := by
  obtain ⟨I, ⟨n, hI⟩, hs⟩ := h
  induction n using Nat.strongRecOn generalizing i3 i4 μ with
  | ind n ih => exact tB_X5_readInto_41 f hq (fun a3 a4 ν hk => by obtain ⟨n2, hn, hI2⟩ := hk; exact ih n2 hn hI2) (hs _ _ _ _ hI)
def S_X5_readInto (o0 : Nat) (o1 : Nat) (o2 : Nat) (μ : Me) (Q : Me → Prop) : Prop := mok μ o0 5 ∧ ∀ μ2, μ2 = msr μ o0 1 (some o1) → mok μ2 o1 7 ∧ S_X7_clear o1 μ2 (fun μ4 => ∀ μ7, μ7 = msi μ4 o0 6 0 → ∀ μ8, μ8 = msi μ7 o0 7 (-1) → ∃ t9, mgr μ8 o0 0 = some t9 ∧ mok μ8 t9 8 ∧ S_X8_cut t9 o2 μ8 (fun μ11 => ∀ μ14, μ14 = msi μ11 o0 2 (-1) → S_X5_next o0 μ14 (fun μ15 => L_X5_readInto_41 o0 o1 1 0 μ15 Q)))
set_option maxHeartbeats 4000000 in
set_option maxRecDepth 100000 in
theorem t_X5_readInto {x : GX} (f : Fx x cX5_readInto RX5 5 (rmc 142 0 0)) {o0 : Nat} {o1 : Nat} {o2 : Nat} {μ : Me} {Q : Me → Prop} (hq : Rt x none (qV Q)) (h : S_X5_readInto o0 o1 o2 μ Q) : G x 5 0 [(0, .ref (gB x + o0)), (1, .ref (gB x + o1)), (2, .ref (gB x + o2))] [] μ 0 0 := by
  unfold S_X5_readInto at h
  refine g_aload_n f 0 dX5_readInto_0 rfl rfl ?_
  refine g_aload_n f 1 dX5_readInto_1 rfl rfl ?_
  obtain ⟨v1, h⟩ := h
  refine g_putQ (r := some _) f fk_X5_21 v1 dX5_readInto_2 rfl (Or.inl ⟨_, rfl⟩) h (fun h => ?_)
  refine g_aload_n f 1 dX5_readInto_5 rfl rfl ?_
  obtain ⟨v3, h⟩ := h
  refine g_callV f mk_X5_25 v3 (c_X7_clear h) dX5_readInto_6 rfl rfl (Nat.le_of_ble_eq_true rfl) (rm_ok (by decide) (by decide)) ⟨Nat.le_of_ble_eq_true rfl, Nat.le_of_ble_eq_true rfl⟩ (kV fun μ4 x5 h => ?_)
  refine g_aload_n f 0 dX5_readInto_9 rfl rfl ?_
  refine g_iconst f 0 dX5_readInto_10 kc_0 ?_
  have v1 := mex_ok x5 v1
  refine g_putI f fk_X5_28 v1 dX5_readInto_11 rfl h (fun h => ?_)
  refine g_aload_n f 0 dX5_readInto_14 rfl rfl ?_
  refine g_iconst f (-1) dX5_readInto_15 kc_m1 ?_
  refine g_putI f fk_X5_32 v1 dX5_readInto_16 rfl h (fun h => ?_)
  refine g_aload_n f 0 dX5_readInto_19 rfl rfl ?_
  refine g_getR f fk_X5_12 v1 dX5_readInto_20 rfl h (fun t9 h => ?_)
  refine g_aload_n f 2 dX5_readInto_23 rfl rfl ?_
  obtain ⟨v10, h⟩ := h
  refine g_callV f mk_X5_35 v10 (c_X8_cut h) dX5_readInto_24 rfl rfl (Nat.le_of_ble_eq_true rfl) (rm_ok (by decide) (by decide)) ⟨Nat.le_of_ble_eq_true rfl, Nat.le_of_ble_eq_true rfl⟩ (kV fun μ11 x12 h => ?_)
  refine g_aload_n f 0 dX5_readInto_27 rfl rfl ?_
  refine g_iconst f (-1) dX5_readInto_28 kc_m1 ?_
  have v1 := mex_ok x12 v1
  refine g_putI f fk_X5_39 v1 dX5_readInto_29 rfl h (fun h => ?_)
  refine g_aload_n f 0 dX5_readInto_32 rfl rfl ?_
  refine g_callV f mk_X5_42 v1 (c_X5_next h) dX5_readInto_33 rfl rfl (Nat.le_of_ble_eq_true rfl) (rm_ok (by decide) (by decide)) ⟨Nat.le_of_ble_eq_true rfl, Nat.le_of_ble_eq_true rfl⟩ (kV fun μ15 x16 h => ?_)
  refine g_iconst f 1 dX5_readInto_36 kc_1 ?_
  refine h_istore_n f dX5_readInto_37 rfl (by decide) ?_
  refine g_iconst f 0 dX5_readInto_38 kc_0 ?_
  refine h_istore f dX5_readInto_39 (by decide) ?_
  exact h_sub [2, 3, 1, 0] rfl (tL_X5_readInto_41 f hq h)
theorem c_X5_readInto {Ω : OM} {o0 : Nat} {o1 : Nat} {o2 : Nat} {μ : Me} {Q : Me → Prop} (h : S_X5_readInto o0 o1 o2 μ Q) : CT Ω yX5_readInto cX5_readInto 5 none (rmc 142 0 0) [.ref (oB Ω + o0), .ref (oB Ω + o1), .ref (oB Ω + o2)] μ (qV Q) := CT_of (by decide) rfl (by simp [lg_sl, Value.category]) (fun x hΩ f hq hi => by subst hΩ; exact t_X5_readInto f hq h)
theorem dX6_init_0 : decode cX6_init 0 = .ok (.aload_n 0, 1) := by decide +kernel
theorem dX6_init_1 : decode cX6_init 1 = .ok (.invokespecial 3, 3) := by decide +kernel
theorem dX6_init_4 : decode cX6_init 4 = .ok (.aload_n 0, 1) := by decide +kernel
theorem dX6_init_5 : decode cX6_init 5 = .ok (.sipush 300, 3) := by decide +kernel
theorem dX6_init_8 : decode cX6_init 8 = .ok (.newarray .int, 2) := by decide +kernel
theorem dX6_init_10 : decode cX6_init 10 = .ok (.putfield 9, 3) := by decide +kernel
theorem dX6_init_13 : decode cX6_init 13 = .ok (.return_, 1) := by decide +kernel
def S_X6_init (o0 : Nat) (μ : Me) (Q : Me → Prop) : Prop := ∀ μ1, μ1 = mnw μ 12 300 → mok μ1 o0 6 ∧ ∀ μ5, μ5 = msr μ1 o0 0 (some (mnn μ)) → Q μ5
set_option maxHeartbeats 4000000 in
set_option maxRecDepth 100000 in
theorem t_X6_init {x : GX} (f : Fx x cX6_init RX6 1 (rmc 0 1 300)) {o0 : Nat} {μ : Me} {Q : Me → Prop} (hq : Rt x none (qV Q)) (hi : x.1.2.2.2.2.2.2.2.1.name = "<init>") (h : S_X6_init o0 μ Q) : G x 1 0 [(0, .ref (gB x + o0))] [] μ 0 0 := by
  unfold S_X6_init at h
  refine g_aload_n f 0 dX6_init_0 rfl rfl ?_
  refine g_objInit f w_280 w_126 w_127 dX6_init_1 rm_fr (Nat.le_of_ble_eq_true rfl) ?_
  refine g_aload_n f 0 dX6_init_4 rfl rfl ?_
  refine g_sipush f 300 dX6_init_5 ks_300 ?_
  refine g_newa (c := 12) (N := 300) (cap := 300) f .int (Or.inl ⟨rfl, rfl⟩) dX6_init_8 w_187 (by decide) (by decide) (Nat.le_refl _) (Nat.le_of_ble_eq_true rfl) (Nat.le_of_ble_eq_true rfl) (Nat.le_of_ble_eq_true rfl) h (fun h v2 x3 => ?_)
  obtain ⟨v4, h⟩ := h
  refine g_putFQ (r := some _) f fk_X6_9 rfl hi v4 dX6_init_10 rfl (Or.inr ⟨_, rfl⟩) h (fun h => ?_)
  exact g_vret f hq (Nat.le_of_ble_eq_true rfl) (Nat.le_of_ble_eq_true rfl) dX6_init_13 h
theorem c_X6_init {Ω : OM} {o0 : Nat} {μ : Me} {Q : Me → Prop} (h : S_X6_init o0 μ Q) : CT Ω yX6_init cX6_init 1 none (rmc 0 1 300) [.ref (oB Ω + o0)] μ (qV Q) := CT_of (by decide) rfl (by simp [lg_sl, Value.category]) (fun x hΩ f hq hi => by subst hΩ; exact t_X6_init f hq (hi rfl) h)
theorem dX6_hasRoomForFive_0 : decode cX6_hasRoomForFive 0 = .ok (.aload_n 0, 1) := by decide +kernel
theorem dX6_hasRoomForFive_1 : decode cX6_hasRoomForFive 1 = .ok (.getfield 15, 3) := by decide +kernel
theorem dX6_hasRoomForFive_4 : decode cX6_hasRoomForFive 4 = .ok (.bipush 20, 2) := by decide +kernel
theorem dX6_hasRoomForFive_6 : decode cX6_hasRoomForFive 6 = .ok (.iadd, 1) := by decide +kernel
theorem dX6_hasRoomForFive_7 : decode cX6_hasRoomForFive 7 = .ok (.sipush 300, 3) := by decide +kernel
theorem dX6_hasRoomForFive_10 : decode cX6_hasRoomForFive 10 = .ok (.if_icmp .gt 7, 3) := by decide +kernel
theorem dX6_hasRoomForFive_13 : decode cX6_hasRoomForFive 13 = .ok (.iconst 1, 1) := by decide +kernel
theorem dX6_hasRoomForFive_14 : decode cX6_hasRoomForFive 14 = .ok (.goto 4, 3) := by decide +kernel
theorem dX6_hasRoomForFive_17 : decode cX6_hasRoomForFive 17 = .ok (.iconst 0, 1) := by decide +kernel
theorem dX6_hasRoomForFive_18 : decode cX6_hasRoomForFive 18 = .ok (.ireturn, 1) := by decide +kernel
def S_X6_hasRoomForFive (o0 : Nat) (μ : Me) (Q : Int32 → Me → Prop) : Prop := mok μ o0 6 ∧ ((300 < ((mgi μ o0 1) + 20) → Q 0 μ) ∧ (¬ 300 < ((mgi μ o0 1) + 20) → Q 1 μ))
set_option maxHeartbeats 4000000 in
set_option maxRecDepth 100000 in
theorem t_X6_hasRoomForFive {x : GX} (f : Fx x cX6_hasRoomForFive RX6 1 (rmc 0 0 0)) {o0 : Nat} {μ : Me} {Q : Int32 → Me → Prop} (hq : Rt x (some .boolean) (qI Q)) (h : S_X6_hasRoomForFive o0 μ Q) : G x 1 0 [(0, .ref (gB x + o0))] [] μ 0 0 := by
  unfold S_X6_hasRoomForFive at h
  refine g_aload_n f 0 dX6_hasRoomForFive_0 rfl rfl ?_
  obtain ⟨v1, h⟩ := h
  refine g_getI f fk_X6_15 v1 dX6_hasRoomForFive_1 rfl ?_
  refine g_bipush f 20 dX6_hasRoomForFive_4 kb_20 ?_
  refine g_iadd f dX6_hasRoomForFive_6 ?_
  refine g_sipush f 300 dX6_hasRoomForFive_7 ks_300 ?_
  refine g_ic_gt f 17 dX6_hasRoomForFive_10 rfl h (fun h => ?_) (fun h => ?_)
  · refine g_iconst f 0 dX6_hasRoomForFive_17 kc_0 ?_
    exact g_zret f hq (Nat.le_of_ble_eq_true rfl) (Nat.le_of_ble_eq_true rfl) dX6_hasRoomForFive_18 zb_0.1 h
  · refine g_iconst f 1 dX6_hasRoomForFive_13 kc_1 ?_
    refine g_goto f 18 dX6_hasRoomForFive_14 rfl ?_
    exact g_zret f hq (Nat.le_of_ble_eq_true rfl) (Nat.le_of_ble_eq_true rfl) dX6_hasRoomForFive_18 zb_1.1 h
theorem c_X6_hasRoomForFive {Ω : OM} {o0 : Nat} {μ : Me} {Q : Int32 → Me → Prop} (h : S_X6_hasRoomForFive o0 μ Q) : CT Ω yX6_hasRoomForFive cX6_hasRoomForFive 1 (some .boolean) (rmc 0 0 0) [.ref (oB Ω + o0)] μ (qI Q) := CT_of (by decide) rfl (by simp [lg_sl, Value.category]) (fun x hΩ f hq hi => by subst hΩ; exact t_X6_hasRoomForFive f hq h)
theorem dX6_append_0 : decode cX6_append 0 = .ok (.bipush 24, 2) := by decide +kernel
theorem dX6_append_2 : decode cX6_append 2 = .ok (.istore_n 2, 1) := by decide +kernel
theorem dX6_append_3 : decode cX6_append 3 = .ok (.iload_n 2, 1) := by decide +kernel
theorem dX6_append_4 : decode cX6_append 4 = .ok (.ifCond .lt 45, 3) := by decide +kernel
theorem dX6_append_7 : decode cX6_append 7 = .ok (.aload_n 0, 1) := by decide +kernel
theorem dX6_append_8 : decode cX6_append 8 = .ok (.getfield 15, 3) := by decide +kernel
theorem dX6_append_11 : decode cX6_append 11 = .ok (.sipush 300, 3) := by decide +kernel
theorem dX6_append_14 : decode cX6_append 14 = .ok (.if_icmp .ge 29, 3) := by decide +kernel
theorem dX6_append_17 : decode cX6_append 17 = .ok (.aload_n 0, 1) := by decide +kernel
theorem dX6_append_18 : decode cX6_append 18 = .ok (.getfield 9, 3) := by decide +kernel
theorem dX6_append_21 : decode cX6_append 21 = .ok (.aload_n 0, 1) := by decide +kernel
theorem dX6_append_22 : decode cX6_append 22 = .ok (.getfield 15, 3) := by decide +kernel
theorem dX6_append_25 : decode cX6_append 25 = .ok (.iload_n 1, 1) := by decide +kernel
theorem dX6_append_26 : decode cX6_append 26 = .ok (.iload_n 2, 1) := by decide +kernel
theorem dX6_append_27 : decode cX6_append 27 = .ok (.ishr, 1) := by decide +kernel
theorem dX6_append_28 : decode cX6_append 28 = .ok (.sipush 255, 3) := by decide +kernel
theorem dX6_append_31 : decode cX6_append 31 = .ok (.iand, 1) := by decide +kernel
theorem dX6_append_32 : decode cX6_append 32 = .ok (.iastore, 1) := by decide +kernel
theorem dX6_append_33 : decode cX6_append 33 = .ok (.aload_n 0, 1) := by decide +kernel
theorem dX6_append_34 : decode cX6_append 34 = .ok (.dup, 1) := by decide +kernel
theorem dX6_append_35 : decode cX6_append 35 = .ok (.getfield 15, 3) := by decide +kernel
theorem dX6_append_38 : decode cX6_append 38 = .ok (.iconst 1, 1) := by decide +kernel
theorem dX6_append_39 : decode cX6_append 39 = .ok (.iadd, 1) := by decide +kernel
theorem dX6_append_40 : decode cX6_append 40 = .ok (.putfield 15, 3) := by decide +kernel
theorem dX6_append_43 : decode cX6_append 43 = .ok (.iinc 2 (-8), 3) := by decide +kernel
theorem dX6_append_46 : decode cX6_append 46 = .ok (.goto (-43), 3) := by decide +kernel
theorem dX6_append_49 : decode cX6_append 49 = .ok (.return_, 1) := by decide +kernel
def B_X6_append_43 (o0 : Nat) (i1 : Int32) (i2 : Int32) (μ : Me) (K3 : Int32 → Me → Prop) (Q : Me → Prop) : Prop := K3 (i2 + (-8)) μ
set_option maxHeartbeats 4000000 in
set_option maxRecDepth 100000 in
theorem tB_X6_append_43 {x : GX} (f : Fx x cX6_append RX6 3 (rmc 0 0 0)) {o0 : Nat} {i1 : Int32} {i2 : Int32} {μ : Me} {Q : Me → Prop} (hq : Rt x none (qV Q)) {K3 : Int32 → Me → Prop} (hK3 : ∀ (a2 : Int32) (ν : Me), K3 a2 ν → G x 3 3 [(0, .ref (gB x + o0)), (1, .int i1), (2, .int a2)] [] ν 0 0) (h : B_X6_append_43 o0 i1 i2 μ K3 Q) : G x 3 43 [(0, .ref (gB x + o0)), (1, .int i1), (2, .int i2)] [] μ 0 0 := by
  unfold B_X6_append_43 at h
  refine h_iinc f 2 (-8) dX6_append_43 rfl kc_m8 (by decide) ?_
  refine g_goto f 3 dX6_append_46 rfl ?_
  exact h_sub [1, 2, 0] rfl (hK3 _ _ h)
def B_X6_append_3 (o0 : Nat) (i1 : Int32) (i2 : Int32) (μ : Me) (K3 : Int32 → Me → Prop) (Q : Me → Prop) : Prop := ((i2 < 0 → Q μ) ∧ (¬ i2 < 0 → mok μ o0 6 ∧ ((300 ≤ (mgi μ o0 1) → B_X6_append_43 o0 i1 i2 μ K3 Q) ∧ (¬ 300 ≤ (mgi μ o0 1) → ∃ t2, mgr μ o0 0 = some t2 ∧ mok μ t2 12 ∧ vp_in (mgi μ o0 1) (mln μ t2) ∧ ∀ μ4, μ4 = msi μ t2 (mgi μ o0 1).toNatClampNeg ((i1 >>> (i2 &&& 31)) &&& 255) → ∀ μ5, μ5 = msi μ4 o0 1 ((mgi μ4 o0 1) + 1) → B_X6_append_43 o0 i1 i2 μ5 K3 Q))))
set_option maxHeartbeats 4000000 in
set_option maxRecDepth 100000 in
theorem tB_X6_append_3 {x : GX} (f : Fx x cX6_append RX6 3 (rmc 0 0 0)) {o0 : Nat} {i1 : Int32} {i2 : Int32} {μ : Me} {Q : Me → Prop} (hq : Rt x none (qV Q)) {K3 : Int32 → Me → Prop} (hK3 : ∀ (a2 : Int32) (ν : Me), K3 a2 ν → G x 3 3 [(0, .ref (gB x + o0)), (1, .int i1), (2, .int a2)] [] ν 0 0) (h : B_X6_append_3 o0 i1 i2 μ K3 Q) : G x 3 3 [(0, .ref (gB x + o0)), (1, .int i1), (2, .int i2)] [] μ 0 0 := by
  unfold B_X6_append_3 at h
  refine g_iload_n f 2 dX6_append_3 rfl rfl ?_
  refine g_if_lt f 49 dX6_append_4 rfl h (fun h => ?_) (fun h => ?_)
  · exact g_vret f hq (Nat.le_of_ble_eq_true rfl) (Nat.le_of_ble_eq_true rfl) dX6_append_49 h
  · refine g_aload_n f 0 dX6_append_7 rfl rfl ?_
    obtain ⟨v1, h⟩ := h
    refine g_getI f fk_X6_15 v1 dX6_append_8 rfl ?_
    refine g_sipush f 300 dX6_append_11 ks_300 ?_
    refine g_ic_ge f 43 dX6_append_14 rfl h (fun h => ?_) (fun h => ?_)
    · exact h_sub [0, 1, 2] rfl (tB_X6_append_43 f hq hK3 h)
    · refine g_aload_n f 0 dX6_append_17 rfl rfl ?_
      refine g_getR f fk_X6_9 v1 dX6_append_18 rfl h (fun t2 h => ?_)
      refine g_aload_n f 0 dX6_append_21 rfl rfl ?_
      refine g_getI f fk_X6_15 v1 dX6_append_22 rfl ?_
      refine g_iload_n f 1 dX6_append_25 rfl rfl ?_
      refine g_iload_n f 2 dX6_append_26 rfl rfl ?_
      refine g_ishr f dX6_append_27 ?_
      refine g_sipush f 255 dX6_append_28 ks_255 ?_
      refine g_iand f dX6_append_31 ?_
      obtain ⟨v3, h⟩ := h
      refine g_iast f v3 dX6_append_32 h (fun h => ?_)
      refine g_aload_n f 0 dX6_append_33 rfl rfl ?_
      refine g_dup f dX6_append_34 rfl ?_
      refine g_getI f fk_X6_15 v1 dX6_append_35 rfl ?_
      refine g_iconst f 1 dX6_append_38 kc_1 ?_
      refine g_iadd f dX6_append_39 ?_
      refine g_putI f fk_X6_15 v1 dX6_append_40 rfl h (fun h => ?_)
      exact h_sub [0, 1, 2] rfl (tB_X6_append_43 f hq hK3 h)
def L_X6_append_3 (o0 : Nat) (i1 : Int32) (i2 : Int32) (μ : Me) (Q : Me → Prop) : Prop := ∃ I : Int32 → Me → Nat → Prop, (∃ n, I i2 μ n) ∧ ∀ (i2 : Int32) (μ : Me) (n : Nat), I i2 μ n → B_X6_append_3 o0 i1 i2 μ (fun a2 ν => ∃ n', n' < n ∧ I a2 ν n') Q
set_option maxHeartbeats 4000000 in
set_option maxRecDepth 100000 in
theorem tL_X6_append_3 {x : GX} (f : Fx x cX6_append RX6 3 (rmc 0 0 0)) {o0 : Nat} {i1 : Int32} {i2 : Int32} {μ : Me} {Q : Me → Prop} (hq : Rt x none (qV Q)) (h : L_X6_append_3 o0 i1 i2 μ Q) : G x 3 3 [(0, .ref (gB x + o0)), (1, .int i1), (2, .int i2)] [] μ 0 0 := by
  obtain ⟨I, ⟨n, hI⟩, hs⟩ := h
  induction n using Nat.strongRecOn generalizing i2 μ with
  | ind n ih => exact tB_X6_append_3 f hq (fun a2 ν hk => by obtain ⟨n2, hn, hI2⟩ := hk; exact ih n2 hn hI2) (hs _ _ _ hI)
def S_X6_append (o0 : Nat) (i1 : Int32) (μ : Me) (Q : Me → Prop) : Prop := L_X6_append_3 o0 i1 24 μ Q
set_option maxHeartbeats 4000000 in
set_option maxRecDepth 100000 in
theorem t_X6_append {x : GX} (f : Fx x cX6_append RX6 3 (rmc 0 0 0)) {o0 : Nat} {i1 : Int32} {μ : Me} {Q : Me → Prop} (hq : Rt x none (qV Q)) (h : S_X6_append o0 i1 μ Q) : G x 3 0 [(0, .ref (gB x + o0)), (1, .int i1)] [] μ 0 0 := by
  unfold S_X6_append at h
  refine g_bipush f 24 dX6_append_0 kb_24 ?_
  refine h_istore_n f dX6_append_2 rfl (by decide) ?_
  exact h_sub [1, 2, 0] rfl (tL_X6_append_3 f hq h)
theorem c_X6_append {Ω : OM} {o0 : Nat} {i1 : Int32} {μ : Me} {Q : Me → Prop} (h : S_X6_append o0 i1 μ Q) : CT Ω yX6_append cX6_append 3 none (rmc 0 0 0) [.ref (oB Ω + o0), .int i1] μ (qV Q) := CT_of (by decide) rfl (by simp [lg_sl, Value.category]) (fun x hΩ f hq hi => by subst hΩ; exact t_X6_append f hq h)
theorem dX9_init_0 : decode cX9_init 0 = .ok (.aload_n 0, 1) := by decide +kernel
theorem dX9_init_1 : decode cX9_init 1 = .ok (.invokespecial 3, 3) := by decide +kernel
theorem dX9_init_4 : decode cX9_init 4 = .ok (.aload_n 0, 1) := by decide +kernel
theorem dX9_init_5 : decode cX9_init 5 = .ok (.bipush 8, 2) := by decide +kernel
theorem dX9_init_7 : decode cX9_init 7 = .ok (.newarray .int, 2) := by decide +kernel
theorem dX9_init_9 : decode cX9_init 9 = .ok (.putfield 9, 3) := by decide +kernel
theorem dX9_init_12 : decode cX9_init 12 = .ok (.aload_n 0, 1) := by decide +kernel
theorem dX9_init_13 : decode cX9_init 13 = .ok (.iconst 4, 1) := by decide +kernel
theorem dX9_init_14 : decode cX9_init 14 = .ok (.newarray .int, 2) := by decide +kernel
theorem dX9_init_16 : decode cX9_init 16 = .ok (.putfield 15, 3) := by decide +kernel
theorem dX9_init_19 : decode cX9_init 19 = .ok (.aload_n 0, 1) := by decide +kernel
theorem dX9_init_20 : decode cX9_init 20 = .ok (.bipush 8, 2) := by decide +kernel
theorem dX9_init_22 : decode cX9_init 22 = .ok (.newarray .int, 2) := by decide +kernel
theorem dX9_init_24 : decode cX9_init 24 = .ok (.putfield 18, 3) := by decide +kernel
theorem dX9_init_27 : decode cX9_init 27 = .ok (.aload_n 0, 1) := by decide +kernel
theorem dX9_init_28 : decode cX9_init 28 = .ok (.bipush 8, 2) := by decide +kernel
theorem dX9_init_30 : decode cX9_init 30 = .ok (.newarray .int, 2) := by decide +kernel
theorem dX9_init_32 : decode cX9_init 32 = .ok (.putfield 21, 3) := by decide +kernel
theorem dX9_init_35 : decode cX9_init 35 = .ok (.aload_n 0, 1) := by decide +kernel
theorem dX9_init_36 : decode cX9_init 36 = .ok (.bipush 8, 2) := by decide +kernel
theorem dX9_init_38 : decode cX9_init 38 = .ok (.newarray .int, 2) := by decide +kernel
theorem dX9_init_40 : decode cX9_init 40 = .ok (.putfield 24, 3) := by decide +kernel
theorem dX9_init_43 : decode cX9_init 43 = .ok (.aload_n 0, 1) := by decide +kernel
theorem dX9_init_44 : decode cX9_init 44 = .ok (.iconst (-1), 1) := by decide +kernel
theorem dX9_init_45 : decode cX9_init 45 = .ok (.putfield 27, 3) := by decide +kernel
theorem dX9_init_48 : decode cX9_init 48 = .ok (.aload_n 0, 1) := by decide +kernel
theorem dX9_init_49 : decode cX9_init 49 = .ok (.bipush 8, 2) := by decide +kernel
theorem dX9_init_51 : decode cX9_init 51 = .ok (.newarray .int, 2) := by decide +kernel
theorem dX9_init_53 : decode cX9_init 53 = .ok (.putfield 31, 3) := by decide +kernel
theorem dX9_init_56 : decode cX9_init 56 = .ok (.aload_n 0, 1) := by decide +kernel
theorem dX9_init_57 : decode cX9_init 57 = .ok (.bipush 8, 2) := by decide +kernel
theorem dX9_init_59 : decode cX9_init 59 = .ok (.newarray .int, 2) := by decide +kernel
theorem dX9_init_61 : decode cX9_init 61 = .ok (.putfield 34, 3) := by decide +kernel
theorem dX9_init_64 : decode cX9_init 64 = .ok (.aload_n 0, 1) := by decide +kernel
theorem dX9_init_65 : decode cX9_init 65 = .ok (.bipush 8, 2) := by decide +kernel
theorem dX9_init_67 : decode cX9_init 67 = .ok (.newarray .int, 2) := by decide +kernel
theorem dX9_init_69 : decode cX9_init 69 = .ok (.putfield 37, 3) := by decide +kernel
theorem dX9_init_72 : decode cX9_init 72 = .ok (.aload_n 0, 1) := by decide +kernel
theorem dX9_init_73 : decode cX9_init 73 = .ok (.bipush 8, 2) := by decide +kernel
theorem dX9_init_75 : decode cX9_init 75 = .ok (.newarray .int, 2) := by decide +kernel
theorem dX9_init_77 : decode cX9_init 77 = .ok (.putfield 40, 3) := by decide +kernel
theorem dX9_init_80 : decode cX9_init 80 = .ok (.aload_n 0, 1) := by decide +kernel
theorem dX9_init_81 : decode cX9_init 81 = .ok (.new 43, 3) := by decide +kernel
theorem dX9_init_84 : decode cX9_init 84 = .ok (.dup, 1) := by decide +kernel
theorem dX9_init_85 : decode cX9_init 85 = .ok (.invokespecial 45, 3) := by decide +kernel
theorem dX9_init_88 : decode cX9_init 88 = .ok (.putfield 46, 3) := by decide +kernel
theorem dX9_init_91 : decode cX9_init 91 = .ok (.aload_n 0, 1) := by decide +kernel
theorem dX9_init_92 : decode cX9_init 92 = .ok (.bipush 30, 2) := by decide +kernel
theorem dX9_init_94 : decode cX9_init 94 = .ok (.anewarray 43, 3) := by decide +kernel
theorem dX9_init_97 : decode cX9_init 97 = .ok (.putfield 50, 3) := by decide +kernel
theorem dX9_init_100 : decode cX9_init 100 = .ok (.iconst 0, 1) := by decide +kernel
theorem dX9_init_101 : decode cX9_init 101 = .ok (.istore_n 1, 1) := by decide +kernel
theorem dX9_init_102 : decode cX9_init 102 = .ok (.iload_n 1, 1) := by decide +kernel
theorem dX9_init_103 : decode cX9_init 103 = .ok (.bipush 8, 2) := by decide +kernel
theorem dX9_init_105 : decode cX9_init 105 = .ok (.if_icmp .ge 18, 3) := by decide +kernel
theorem dX9_init_108 : decode cX9_init 108 = .ok (.aload_n 0, 1) := by decide +kernel
theorem dX9_init_109 : decode cX9_init 109 = .ok (.getfield 24, 3) := by decide +kernel
theorem dX9_init_112 : decode cX9_init 112 = .ok (.iload_n 1, 1) := by decide +kernel
theorem dX9_init_113 : decode cX9_init 113 = .ok (.sipush 255, 3) := by decide +kernel
theorem dX9_init_116 : decode cX9_init 116 = .ok (.iastore, 1) := by decide +kernel
theorem dX9_init_117 : decode cX9_init 117 = .ok (.iinc 1 1, 3) := by decide +kernel
theorem dX9_init_120 : decode cX9_init 120 = .ok (.goto (-18), 3) := by decide +kernel
theorem dX9_init_123 : decode cX9_init 123 = .ok (.iconst 0, 1) := by decide +kernel
theorem dX9_init_124 : decode cX9_init 124 = .ok (.istore_n 1, 1) := by decide +kernel
theorem dX9_init_125 : decode cX9_init 125 = .ok (.iload_n 1, 1) := by decide +kernel
theorem dX9_init_126 : decode cX9_init 126 = .ok (.bipush 30, 2) := by decide +kernel
theorem dX9_init_128 : decode cX9_init 128 = .ok (.if_icmp .ge 22, 3) := by decide +kernel
theorem dX9_init_131 : decode cX9_init 131 = .ok (.aload_n 0, 1) := by decide +kernel
theorem dX9_init_132 : decode cX9_init 132 = .ok (.getfield 50, 3) := by decide +kernel
theorem dX9_init_135 : decode cX9_init 135 = .ok (.iload_n 1, 1) := by decide +kernel
theorem dX9_init_136 : decode cX9_init 136 = .ok (.new 43, 3) := by decide +kernel
theorem dX9_init_139 : decode cX9_init 139 = .ok (.dup, 1) := by decide +kernel
theorem dX9_init_140 : decode cX9_init 140 = .ok (.invokespecial 45, 3) := by decide +kernel
theorem dX9_init_143 : decode cX9_init 143 = .ok (.aastore, 1) := by decide +kernel
theorem dX9_init_144 : decode cX9_init 144 = .ok (.iinc 1 1, 3) := by decide +kernel
theorem dX9_init_147 : decode cX9_init 147 = .ok (.goto (-22), 3) := by decide +kernel
theorem dX9_init_150 : decode cX9_init 150 = .ok (.return_, 1) := by decide +kernel
def B_X9_init_125 (o0 : Nat) (i1 : Int32) (k j : Nat) (μ : Me) (K125 : Int32 → Nat → Nat → Me → Prop) (Q : Me → Prop) : Prop := ((30 ≤ i1 → (k ≤ 134 ∧ j ≤ 1803) ∧ Q μ) ∧ (¬ 30 ≤ i1 → mok μ o0 9 ∧ ∃ t52, mgr μ o0 15 = some t52 ∧ (k + 1 ≤ 134 ∧ j + 9 ≤ 1803) ∧ ∀ μ54, μ54 = mnw μ 3 0 → ((k + 1) + 3 ≤ 134 ∧ (j + 9) + 46 ≤ 1803) ∧ S_X3_init (mnn μ) μ54 (fun μ57 => mok μ57 t52 15 ∧ vp_in i1 (mln μ57 t52) ∧ ∀ μ62, μ62 = msr μ57 t52 i1.toNatClampNeg (some (mnn μ)) → K125 (i1 + 1) ((k + 1) + 3) ((j + 9) + 46) μ62)))
set_option maxHeartbeats 4000000 in
set_option maxRecDepth 100000 in
theorem tB_X9_init_125 {x : GX} (f : Fx x cX9_init RX9 2 (rmc 1 134 1803)) {o0 : Nat} {i1 : Int32} {k j : Nat} {μ : Me} {Q : Me → Prop} (hq : Rt x none (qV Q)) (hi : x.1.2.2.2.2.2.2.2.1.name = "<init>") {K125 : Int32 → Nat → Nat → Me → Prop} (hK125 : ∀ (a1 : Int32) (k j : Nat) (ν : Me), K125 a1 k j ν → G x 2 125 [(0, .ref (gB x + o0)), (1, .int a1)] [] ν k j) (h : B_X9_init_125 o0 i1 k j μ K125 Q) : G x 2 125 [(0, .ref (gB x + o0)), (1, .int i1)] [] μ k j := by
  unfold B_X9_init_125 at h
  refine g_iload_n f 1 dX9_init_125 rfl rfl ?_
  refine g_bipush f 30 dX9_init_126 kb_30 ?_
  refine g_ic_ge f 150 dX9_init_128 rfl h (fun h => ?_) (fun h => ?_)
  · obtain ⟨⟨c50, c50b⟩, h⟩ := h
    exact g_vret f hq c50 c50b dX9_init_150 h
  · refine g_aload_n f 0 dX9_init_131 rfl rfl ?_
    obtain ⟨v51, h⟩ := h
    refine g_getR f fk_X9_50 v51 dX9_init_132 rfl h (fun t52 h => ?_)
    refine g_iload_n f 1 dX9_init_135 rfl rfl ?_
    obtain ⟨⟨c53, c53b⟩, h⟩ := h
    refine g_new f nk_X9_43 dX9_init_136 c53 c53b h (fun h v55 x56 => ?_)
    refine g_dup f dX9_init_139 rfl ?_
    obtain ⟨⟨c59, c59b⟩, h⟩ := h
    refine g_callIn f mk_X9_45 (c_X3_init h) dX9_init_140 rfl rfl (Nat.le_of_ble_eq_true rfl) (rm_ok (by decide) (by decide)) ⟨c59, c59b⟩ (kV fun μ57 x58 h => ?_)
    obtain ⟨v61, h⟩ := h
    have v55 := mex_ok x58 v55
    refine g_aast f v61 v55 (Or.inl ⟨rfl, rfl⟩) dX9_init_143 h (fun h => ?_)
    refine h_iinc f 1 1 dX9_init_144 rfl kc_1 (by decide) ?_
    refine g_goto f 125 dX9_init_147 rfl ?_
    exact h_sub [1, 0] rfl (hK125 _ _ _ _ h)
def L_X9_init_125 (o0 : Nat) (i1 : Int32) (k j : Nat) (μ : Me) (Q : Me → Prop) : Prop := ∃ I : Int32 → Nat → Nat → Me → Nat → Prop, (∃ n, I i1 k j μ n) ∧ ∀ (i1 : Int32) (k j : Nat) (μ : Me) (n : Nat), I i1 k j μ n → B_X9_init_125 o0 i1 k j μ (fun a1 k j ν => ∃ n', n' < n ∧ I a1 k j ν n') Q
set_option maxHeartbeats 4000000 in
set_option maxRecDepth 100000 in
theorem tL_X9_init_125 {x : GX} (f : Fx x cX9_init RX9 2 (rmc 1 134 1803)) {o0 : Nat} {i1 : Int32} {k j : Nat} {μ : Me} {Q : Me → Prop} (hq : Rt x none (qV Q)) (hi : x.1.2.2.2.2.2.2.2.1.name = "<init>") (h : L_X9_init_125 o0 i1 k j μ Q) : G x 2 125 [(0, .ref (gB x + o0)), (1, .int i1)] [] μ k j := by
  obtain ⟨I, ⟨n, hI⟩, hs⟩ := h
  induction n using Nat.strongRecOn generalizing i1 k j μ with
  | ind n ih => exact tB_X9_init_125 f hq hi (fun a1 k j ν hk => by obtain ⟨n2, hn, hI2⟩ := hk; exact ih n2 hn hI2) (hs _ _ _ _ _ hI)
def B_X9_init_102 (o0 : Nat) (i1 : Int32) (k j : Nat) (μ : Me) (K102 : Int32 → Nat → Nat → Me → Prop) (Q : Me → Prop) : Prop := ((8 ≤ i1 → L_X9_init_125 o0 0 k j μ Q) ∧ (¬ 8 ≤ i1 → mok μ o0 9 ∧ ∃ t64, mgr μ o0 5 = some t64 ∧ mok μ t64 12 ∧ vp_in i1 (mln μ t64) ∧ ∀ μ66, μ66 = msi μ t64 i1.toNatClampNeg 255 → K102 (i1 + 1) k j μ66))
set_option maxHeartbeats 4000000 in
set_option maxRecDepth 100000 in
theorem tB_X9_init_102 {x : GX} (f : Fx x cX9_init RX9 2 (rmc 1 134 1803)) {o0 : Nat} {i1 : Int32} {k j : Nat} {μ : Me} {Q : Me → Prop} (hq : Rt x none (qV Q)) (hi : x.1.2.2.2.2.2.2.2.1.name = "<init>") {K102 : Int32 → Nat → Nat → Me → Prop} (hK102 : ∀ (a1 : Int32) (k j : Nat) (ν : Me), K102 a1 k j ν → G x 2 102 [(0, .ref (gB x + o0)), (1, .int a1)] [] ν k j) (h : B_X9_init_102 o0 i1 k j μ K102 Q) : G x 2 102 [(0, .ref (gB x + o0)), (1, .int i1)] [] μ k j := by
  unfold B_X9_init_102 at h
  refine g_iload_n f 1 dX9_init_102 rfl rfl ?_
  refine g_bipush f 8 dX9_init_103 kb_8 ?_
  refine g_ic_ge f 123 dX9_init_105 rfl h (fun h => ?_) (fun h => ?_)
  · refine g_iconst f 0 dX9_init_123 kc_0 ?_
    refine h_istore_n f dX9_init_124 rfl (by decide) ?_
    exact h_sub [1, 0] rfl (tL_X9_init_125 f hq hi h)
  · refine g_aload_n f 0 dX9_init_108 rfl rfl ?_
    obtain ⟨v63, h⟩ := h
    refine g_getR f fk_X9_24 v63 dX9_init_109 rfl h (fun t64 h => ?_)
    refine g_iload_n f 1 dX9_init_112 rfl rfl ?_
    refine g_sipush f 255 dX9_init_113 ks_255 ?_
    obtain ⟨v65, h⟩ := h
    refine g_iast f v65 dX9_init_116 h (fun h => ?_)
    refine h_iinc f 1 1 dX9_init_117 rfl kc_1 (by decide) ?_
    refine g_goto f 102 dX9_init_120 rfl ?_
    exact h_sub [1, 0] rfl (hK102 _ _ _ _ h)
def L_X9_init_102 (o0 : Nat) (i1 : Int32) (k j : Nat) (μ : Me) (Q : Me → Prop) : Prop := ∃ I : Int32 → Nat → Nat → Me → Nat → Prop, (∃ n, I i1 k j μ n) ∧ ∀ (i1 : Int32) (k j : Nat) (μ : Me) (n : Nat), I i1 k j μ n → B_X9_init_102 o0 i1 k j μ (fun a1 k j ν => ∃ n', n' < n ∧ I a1 k j ν n') Q
set_option maxHeartbeats 4000000 in
set_option maxRecDepth 100000 in
theorem tL_X9_init_102 {x : GX} (f : Fx x cX9_init RX9 2 (rmc 1 134 1803)) {o0 : Nat} {i1 : Int32} {k j : Nat} {μ : Me} {Q : Me → Prop} (hq : Rt x none (qV Q)) (hi : x.1.2.2.2.2.2.2.2.1.name = "<init>") (h : L_X9_init_102 o0 i1 k j μ Q) : G x 2 102 [(0, .ref (gB x + o0)), (1, .int i1)] [] μ k j := by
  obtain ⟨I, ⟨n, hI⟩, hs⟩ := h
  induction n using Nat.strongRecOn generalizing i1 k j μ with
  | ind n ih => exact tB_X9_init_102 f hq hi (fun a1 k j ν hk => by obtain ⟨n2, hn, hI2⟩ := hk; exact ih n2 hn hI2) (hs _ _ _ _ _ hI)
def S_X9_init (o0 : Nat) (μ : Me) (Q : Me → Prop) : Prop := ∀ μ1, μ1 = mnw μ 12 8 → mok μ1 o0 9 ∧ ∀ μ5, μ5 = msr μ1 o0 1 (some (mnn μ)) → ∀ μ6, μ6 = mnw μ5 12 4 → ∀ μ9, μ9 = msr μ6 o0 2 (some (mnn μ5)) → ∀ μ10, μ10 = mnw μ9 12 8 → ∀ μ13, μ13 = msr μ10 o0 3 (some (mnn μ9)) → ∀ μ14, μ14 = mnw μ13 12 8 → ∀ μ17, μ17 = msr μ14 o0 4 (some (mnn μ13)) → ∀ μ18, μ18 = mnw μ17 12 8 → ∀ μ21, μ21 = msr μ18 o0 5 (some (mnn μ17)) → ∀ μ22, μ22 = msi μ21 o0 7 (-1) → ∀ μ23, μ23 = mnw μ22 12 8 → ∀ μ26, μ26 = msr μ23 o0 9 (some (mnn μ22)) → ∀ μ27, μ27 = mnw μ26 12 8 → ∀ μ30, μ30 = msr μ27 o0 10 (some (mnn μ26)) → ∀ μ31, μ31 = mnw μ30 12 8 → ∀ μ34, μ34 = msr μ31 o0 12 (some (mnn μ30)) → ∀ μ35, μ35 = mnw μ34 12 8 → ∀ μ38, μ38 = msr μ35 o0 13 (some (mnn μ34)) → ∀ μ39, μ39 = mnw μ38 3 0 → S_X3_init (mnn μ38) μ39 (fun μ42 => ∀ μ45, μ45 = msr μ42 o0 14 (some (mnn μ38)) → ∀ μ46, μ46 = mnw μ45 15 30 → ∀ μ49, μ49 = msr μ46 o0 15 (some (mnn μ45)) → L_X9_init_102 o0 0 14 153 μ49 Q)
set_option maxHeartbeats 4000000 in
set_option maxRecDepth 100000 in
theorem t_X9_init {x : GX} (f : Fx x cX9_init RX9 2 (rmc 1 134 1803)) {o0 : Nat} {μ : Me} {Q : Me → Prop} (hq : Rt x none (qV Q)) (hi : x.1.2.2.2.2.2.2.2.1.name = "<init>") (h : S_X9_init o0 μ Q) : G x 2 0 [(0, .ref (gB x + o0))] [] μ 0 0 := by
  unfold S_X9_init at h
  refine g_aload_n f 0 dX9_init_0 rfl rfl ?_
  refine g_objInit f w_133 w_126 w_127 dX9_init_1 rm_fr (Nat.le_of_ble_eq_true rfl) ?_
  refine g_aload_n f 0 dX9_init_4 rfl rfl ?_
  refine g_bipush f 8 dX9_init_5 kb_8 ?_
  refine g_newa (c := 12) (N := 8) (cap := 8) f .int (Or.inl ⟨rfl, rfl⟩) dX9_init_7 w_187 (by decide) (by decide) (Nat.le_refl _) (Nat.le_of_ble_eq_true rfl) (Nat.le_of_ble_eq_true rfl) (Nat.le_of_ble_eq_true rfl) h (fun h v2 x3 => ?_)
  obtain ⟨v4, h⟩ := h
  refine g_putFQ (r := some _) f fk_X9_9 rfl hi v4 dX9_init_9 rfl (Or.inr ⟨_, rfl⟩) h (fun h => ?_)
  refine g_aload_n f 0 dX9_init_12 rfl rfl ?_
  refine g_iconst f 4 dX9_init_13 kc_4 ?_
  refine g_newa (c := 12) (N := 4) (cap := 4) f .int (Or.inl ⟨rfl, rfl⟩) dX9_init_14 w_187 (by decide) (by decide) (Nat.le_refl _) (Nat.le_of_ble_eq_true rfl) (Nat.le_of_ble_eq_true rfl) (Nat.le_of_ble_eq_true rfl) h (fun h v7 x8 => ?_)
  have v4 := mex_ok x8 v4
  refine g_putFQ (r := some _) f fk_X9_15 rfl hi v4 dX9_init_16 rfl (Or.inr ⟨_, rfl⟩) h (fun h => ?_)
  refine g_aload_n f 0 dX9_init_19 rfl rfl ?_
  refine g_bipush f 8 dX9_init_20 kb_8 ?_
  refine g_newa (c := 12) (N := 8) (cap := 8) f .int (Or.inl ⟨rfl, rfl⟩) dX9_init_22 w_187 (by decide) (by decide) (Nat.le_refl _) (Nat.le_of_ble_eq_true rfl) (Nat.le_of_ble_eq_true rfl) (Nat.le_of_ble_eq_true rfl) h (fun h v11 x12 => ?_)
  have v4 := mex_ok x12 v4
  refine g_putFQ (r := some _) f fk_X9_18 rfl hi v4 dX9_init_24 rfl (Or.inr ⟨_, rfl⟩) h (fun h => ?_)
  refine g_aload_n f 0 dX9_init_27 rfl rfl ?_
  refine g_bipush f 8 dX9_init_28 kb_8 ?_
  refine g_newa (c := 12) (N := 8) (cap := 8) f .int (Or.inl ⟨rfl, rfl⟩) dX9_init_30 w_187 (by decide) (by decide) (Nat.le_refl _) (Nat.le_of_ble_eq_true rfl) (Nat.le_of_ble_eq_true rfl) (Nat.le_of_ble_eq_true rfl) h (fun h v15 x16 => ?_)
  have v4 := mex_ok x16 v4
  refine g_putFQ (r := some _) f fk_X9_21 rfl hi v4 dX9_init_32 rfl (Or.inr ⟨_, rfl⟩) h (fun h => ?_)
  refine g_aload_n f 0 dX9_init_35 rfl rfl ?_
  refine g_bipush f 8 dX9_init_36 kb_8 ?_
  refine g_newa (c := 12) (N := 8) (cap := 8) f .int (Or.inl ⟨rfl, rfl⟩) dX9_init_38 w_187 (by decide) (by decide) (Nat.le_refl _) (Nat.le_of_ble_eq_true rfl) (Nat.le_of_ble_eq_true rfl) (Nat.le_of_ble_eq_true rfl) h (fun h v19 x20 => ?_)
  have v4 := mex_ok x20 v4
  refine g_putFQ (r := some _) f fk_X9_24 rfl hi v4 dX9_init_40 rfl (Or.inr ⟨_, rfl⟩) h (fun h => ?_)
  refine g_aload_n f 0 dX9_init_43 rfl rfl ?_
  refine g_iconst f (-1) dX9_init_44 kc_m1 ?_
  refine g_putI f fk_X9_27 v4 dX9_init_45 rfl h (fun h => ?_)
  refine g_aload_n f 0 dX9_init_48 rfl rfl ?_
  refine g_bipush f 8 dX9_init_49 kb_8 ?_
  refine g_newa (c := 12) (N := 8) (cap := 8) f .int (Or.inl ⟨rfl, rfl⟩) dX9_init_51 w_187 (by decide) (by decide) (Nat.le_refl _) (Nat.le_of_ble_eq_true rfl) (Nat.le_of_ble_eq_true rfl) (Nat.le_of_ble_eq_true rfl) h (fun h v24 x25 => ?_)
  have v4 := mex_ok x25 v4
  refine g_putFQ (r := some _) f fk_X9_31 rfl hi v4 dX9_init_53 rfl (Or.inr ⟨_, rfl⟩) h (fun h => ?_)
  refine g_aload_n f 0 dX9_init_56 rfl rfl ?_
  refine g_bipush f 8 dX9_init_57 kb_8 ?_
  refine g_newa (c := 12) (N := 8) (cap := 8) f .int (Or.inl ⟨rfl, rfl⟩) dX9_init_59 w_187 (by decide) (by decide) (Nat.le_refl _) (Nat.le_of_ble_eq_true rfl) (Nat.le_of_ble_eq_true rfl) (Nat.le_of_ble_eq_true rfl) h (fun h v28 x29 => ?_)
  have v4 := mex_ok x29 v4
  refine g_putFQ (r := some _) f fk_X9_34 rfl hi v4 dX9_init_61 rfl (Or.inr ⟨_, rfl⟩) h (fun h => ?_)
  refine g_aload_n f 0 dX9_init_64 rfl rfl ?_
  refine g_bipush f 8 dX9_init_65 kb_8 ?_
  refine g_newa (c := 12) (N := 8) (cap := 8) f .int (Or.inl ⟨rfl, rfl⟩) dX9_init_67 w_187 (by decide) (by decide) (Nat.le_refl _) (Nat.le_of_ble_eq_true rfl) (Nat.le_of_ble_eq_true rfl) (Nat.le_of_ble_eq_true rfl) h (fun h v32 x33 => ?_)
  have v4 := mex_ok x33 v4
  refine g_putFQ (r := some _) f fk_X9_37 rfl hi v4 dX9_init_69 rfl (Or.inr ⟨_, rfl⟩) h (fun h => ?_)
  refine g_aload_n f 0 dX9_init_72 rfl rfl ?_
  refine g_bipush f 8 dX9_init_73 kb_8 ?_
  refine g_newa (c := 12) (N := 8) (cap := 8) f .int (Or.inl ⟨rfl, rfl⟩) dX9_init_75 w_187 (by decide) (by decide) (Nat.le_refl _) (Nat.le_of_ble_eq_true rfl) (Nat.le_of_ble_eq_true rfl) (Nat.le_of_ble_eq_true rfl) h (fun h v36 x37 => ?_)
  have v4 := mex_ok x37 v4
  refine g_putFQ (r := some _) f fk_X9_40 rfl hi v4 dX9_init_77 rfl (Or.inr ⟨_, rfl⟩) h (fun h => ?_)
  refine g_aload_n f 0 dX9_init_80 rfl rfl ?_
  refine g_new f nk_X9_43 dX9_init_81 (Nat.le_of_ble_eq_true rfl) (Nat.le_of_ble_eq_true rfl) h (fun h v40 x41 => ?_)
  refine g_dup f dX9_init_84 rfl ?_
  refine g_callIn f mk_X9_45 (c_X3_init h) dX9_init_85 rfl rfl (Nat.le_of_ble_eq_true rfl) (rm_ok (by decide) (by decide)) ⟨Nat.le_of_ble_eq_true rfl, Nat.le_of_ble_eq_true rfl⟩ (kV fun μ42 x43 h => ?_)
  have v4 := mex_ok x41 v4
  have v4 := mex_ok x43 v4
  refine g_putFQ (r := some _) f fk_X9_46 rfl hi v4 dX9_init_88 rfl (Or.inl ⟨_, rfl⟩) h (fun h => ?_)
  refine g_aload_n f 0 dX9_init_91 rfl rfl ?_
  refine g_bipush f 30 dX9_init_92 kb_30 ?_
  refine g_anew (c := 15) (N := 30) f (Or.inl ⟨rfl, rfl⟩) dX9_init_94 w_134 (by decide) (by decide) (Nat.le_of_ble_eq_true rfl) (Nat.le_of_ble_eq_true rfl) (Nat.le_of_ble_eq_true rfl) h (fun h v47 x48 => ?_)
  have v4 := mex_ok x48 v4
  refine g_putFQ (r := some _) f fk_X9_50 rfl hi v4 dX9_init_97 rfl (Or.inr ⟨_, rfl⟩) h (fun h => ?_)
  refine g_iconst f 0 dX9_init_100 kc_0 ?_
  refine h_istore_n f dX9_init_101 rfl (by decide) ?_
  exact h_sub [1, 0] rfl (tL_X9_init_102 f hq hi h)
theorem c_X9_init {Ω : OM} {o0 : Nat} {μ : Me} {Q : Me → Prop} (h : S_X9_init o0 μ Q) : CT Ω yX9_init cX9_init 2 none (rmc 1 134 1803) [.ref (oB Ω + o0)] μ (qV Q) := CT_of (by decide) rfl (by simp [lg_sl, Value.category]) (fun x hΩ f hq hi => by subst hΩ; exact t_X9_init f hq (hi rfl) h)
