/-! numbers as nI of naturals, for the walking simp (wip/whole/px.py) -/
theorem li_0 : (0 : Int32) = nI 0 := rfl
theorem li_1 : (1 : Int32) = nI 1 := rfl
theorem li_2 : (2 : Int32) = nI 2 := rfl
theorem li_3 : (3 : Int32) = nI 3 := rfl
theorem li_4 : (4 : Int32) = nI 4 := rfl
theorem li_5 : (5 : Int32) = nI 5 := rfl
theorem li_6 : (6 : Int32) = nI 6 := rfl
theorem li_7 : (7 : Int32) = nI 7 := rfl
theorem li_8 : (8 : Int32) = nI 8 := rfl
theorem li_9 : (9 : Int32) = nI 9 := rfl
theorem li_10 : (10 : Int32) = nI 10 := rfl
theorem li_11 : (11 : Int32) = nI 11 := rfl
theorem li_12 : (12 : Int32) = nI 12 := rfl
theorem li_13 : (13 : Int32) = nI 13 := rfl
theorem li_14 : (14 : Int32) = nI 14 := rfl
theorem li_15 : (15 : Int32) = nI 15 := rfl
theorem li_16 : (16 : Int32) = nI 16 := rfl
theorem li_17 : (17 : Int32) = nI 17 := rfl
theorem li_18 : (18 : Int32) = nI 18 := rfl
theorem li_19 : (19 : Int32) = nI 19 := rfl
theorem li_20 : (20 : Int32) = nI 20 := rfl
theorem li_21 : (21 : Int32) = nI 21 := rfl
theorem li_22 : (22 : Int32) = nI 22 := rfl
theorem li_23 : (23 : Int32) = nI 23 := rfl
theorem li_24 : (24 : Int32) = nI 24 := rfl
theorem li_25 : (25 : Int32) = nI 25 := rfl
theorem li_26 : (26 : Int32) = nI 26 := rfl
theorem li_27 : (27 : Int32) = nI 27 := rfl
theorem li_28 : (28 : Int32) = nI 28 := rfl
theorem li_29 : (29 : Int32) = nI 29 := rfl
theorem li_30 : (30 : Int32) = nI 30 := rfl
theorem li_32 : (32 : Int32) = nI 32 := rfl
theorem li_33 : (33 : Int32) = nI 33 := rfl
theorem li_34 : (34 : Int32) = nI 34 := rfl
theorem li_35 : (35 : Int32) = nI 35 := rfl
theorem li_36 : (36 : Int32) = nI 36 := rfl
theorem li_37 : (37 : Int32) = nI 37 := rfl
theorem li_38 : (38 : Int32) = nI 38 := rfl
theorem li_39 : (39 : Int32) = nI 39 := rfl
theorem li_40 : (40 : Int32) = nI 40 := rfl
theorem li_41 : (41 : Int32) = nI 41 := rfl
theorem li_42 : (42 : Int32) = nI 42 := rfl
theorem li_43 : (43 : Int32) = nI 43 := rfl
theorem li_44 : (44 : Int32) = nI 44 := rfl
theorem li_45 : (45 : Int32) = nI 45 := rfl
theorem li_46 : (46 : Int32) = nI 46 := rfl
theorem li_47 : (47 : Int32) = nI 47 := rfl
theorem li_48 : (48 : Int32) = nI 48 := rfl
theorem li_49 : (49 : Int32) = nI 49 := rfl
theorem li_50 : (50 : Int32) = nI 50 := rfl
theorem li_51 : (51 : Int32) = nI 51 := rfl
theorem li_52 : (52 : Int32) = nI 52 := rfl
theorem li_53 : (53 : Int32) = nI 53 := rfl
theorem li_54 : (54 : Int32) = nI 54 := rfl
theorem li_55 : (55 : Int32) = nI 55 := rfl
theorem li_56 : (56 : Int32) = nI 56 := rfl
theorem li_57 : (57 : Int32) = nI 57 := rfl
theorem li_58 : (58 : Int32) = nI 58 := rfl
theorem li_59 : (59 : Int32) = nI 59 := rfl
theorem li_60 : (60 : Int32) = nI 60 := rfl
theorem li_61 : (61 : Int32) = nI 61 := rfl
theorem li_62 : (62 : Int32) = nI 62 := rfl
theorem li_63 : (63 : Int32) = nI 63 := rfl
theorem li_64 : (64 : Int32) = nI 64 := rfl
theorem li_65 : (65 : Int32) = nI 65 := rfl
theorem li_66 : (66 : Int32) = nI 66 := rfl
theorem li_67 : (67 : Int32) = nI 67 := rfl
theorem li_68 : (68 : Int32) = nI 68 := rfl
theorem li_69 : (69 : Int32) = nI 69 := rfl
theorem li_70 : (70 : Int32) = nI 70 := rfl
theorem li_71 : (71 : Int32) = nI 71 := rfl
theorem li_72 : (72 : Int32) = nI 72 := rfl
theorem li_73 : (73 : Int32) = nI 73 := rfl
theorem li_74 : (74 : Int32) = nI 74 := rfl
theorem li_75 : (75 : Int32) = nI 75 := rfl
theorem li_76 : (76 : Int32) = nI 76 := rfl
theorem li_77 : (77 : Int32) = nI 77 := rfl
theorem li_78 : (78 : Int32) = nI 78 := rfl
theorem li_79 : (79 : Int32) = nI 79 := rfl
theorem li_80 : (80 : Int32) = nI 80 := rfl
theorem li_81 : (81 : Int32) = nI 81 := rfl
theorem li_82 : (82 : Int32) = nI 82 := rfl
theorem li_83 : (83 : Int32) = nI 83 := rfl
theorem li_84 : (84 : Int32) = nI 84 := rfl
theorem li_85 : (85 : Int32) = nI 85 := rfl
theorem li_86 : (86 : Int32) = nI 86 := rfl
theorem li_87 : (87 : Int32) = nI 87 := rfl
theorem li_88 : (88 : Int32) = nI 88 := rfl
theorem li_89 : (89 : Int32) = nI 89 := rfl
theorem li_90 : (90 : Int32) = nI 90 := rfl
theorem li_91 : (91 : Int32) = nI 91 := rfl
theorem li_92 : (92 : Int32) = nI 92 := rfl
theorem li_93 : (93 : Int32) = nI 93 := rfl
theorem li_94 : (94 : Int32) = nI 94 := rfl
theorem li_95 : (95 : Int32) = nI 95 := rfl
theorem li_96 : (96 : Int32) = nI 96 := rfl
theorem li_97 : (97 : Int32) = nI 97 := rfl
theorem li_98 : (98 : Int32) = nI 98 := rfl
theorem li_99 : (99 : Int32) = nI 99 := rfl
theorem li_100 : (100 : Int32) = nI 100 := rfl
theorem li_101 : (101 : Int32) = nI 101 := rfl
theorem li_102 : (102 : Int32) = nI 102 := rfl
theorem li_103 : (103 : Int32) = nI 103 := rfl
theorem li_104 : (104 : Int32) = nI 104 := rfl
theorem li_105 : (105 : Int32) = nI 105 := rfl
theorem li_106 : (106 : Int32) = nI 106 := rfl
theorem li_107 : (107 : Int32) = nI 107 := rfl
theorem li_108 : (108 : Int32) = nI 108 := rfl
theorem li_109 : (109 : Int32) = nI 109 := rfl
theorem li_110 : (110 : Int32) = nI 110 := rfl
theorem li_111 : (111 : Int32) = nI 111 := rfl
theorem li_112 : (112 : Int32) = nI 112 := rfl
theorem li_113 : (113 : Int32) = nI 113 := rfl
theorem li_114 : (114 : Int32) = nI 114 := rfl
theorem li_115 : (115 : Int32) = nI 115 := rfl
theorem li_116 : (116 : Int32) = nI 116 := rfl
theorem li_117 : (117 : Int32) = nI 117 := rfl
theorem li_118 : (118 : Int32) = nI 118 := rfl
theorem li_119 : (119 : Int32) = nI 119 := rfl
theorem li_120 : (120 : Int32) = nI 120 := rfl
theorem li_121 : (121 : Int32) = nI 121 := rfl
theorem li_122 : (122 : Int32) = nI 122 := rfl
theorem li_123 : (123 : Int32) = nI 123 := rfl
theorem li_124 : (124 : Int32) = nI 124 := rfl
theorem li_125 : (125 : Int32) = nI 125 := rfl
theorem li_126 : (126 : Int32) = nI 126 := rfl
theorem li_127 : (127 : Int32) = nI 127 := rfl
theorem li_128 : (128 : Int32) = nI 128 := rfl
theorem li_129 : (129 : Int32) = nI 129 := rfl
theorem li_130 : (130 : Int32) = nI 130 := rfl
theorem li_134 : (134 : Int32) = nI 134 := rfl
theorem li_160 : (160 : Int32) = nI 160 := rfl
theorem li_197 : (197 : Int32) = nI 197 := rfl
theorem li_229 : (229 : Int32) = nI 229 := rfl
theorem li_255 : (255 : Int32) = nI 255 := rfl
theorem li_256 : (256 : Int32) = nI 256 := rfl
theorem li_265 : (265 : Int32) = nI 265 := rfl
theorem li_300 : (300 : Int32) = nI 300 := rfl
theorem li_301 : (301 : Int32) = nI 301 := rfl
theorem li_330 : (330 : Int32) = nI 330 := rfl
theorem li_353 : (353 : Int32) = nI 353 := rfl
theorem li_463 : (463 : Int32) = nI 463 := rfl
theorem li_720 : (720 : Int32) = nI 720 := rfl
theorem li_729 : (729 : Int32) = nI 729 := rfl
theorem li_768 : (768 : Int32) = nI 768 := rfl
theorem li_999 : (999 : Int32) = nI 999 := rfl
theorem li_2610 : (2610 : Int32) = nI 2610 := rfl
theorem li_2807 : (2807 : Int32) = nI 2807 := rfl
theorem li_2867 : (2867 : Int32) = nI 2867 := rfl
theorem li_2916 : (2916 : Int32) = nI 2916 := rfl
theorem li_4096 : (4096 : Int32) = nI 4096 := rfl
theorem li_9999 : (9999 : Int32) = nI 9999 := rfl
theorem li_10000 : (10000 : Int32) = nI 10000 := rfl
theorem li_30643 : (30643 : Int32) = nI 30643 := rfl
theorem li_65535 : (65535 : Int32) = nI 65535 := rfl
theorem li_99999 : (99999 : Int32) = nI 99999 := rfl
theorem li_1000000 : (1000000 : Int32) = nI 1000000 := rfl
theorem q_cl {k : Nat} (h : k < 2147483648) : (nI k).toNatClampNeg = k := nI_clamp h
theorem q_in {k n : Nat} (hk : k < 2147483648) (hn : n < 2147483648) : vp_in (nI k) n = (k < n) := by
  apply propext
  constructor
  · intro h
    obtain ⟨j, hj, e⟩ := vp_in_of h hn
    have := (nI_eq hk (by omega)).1 e
    omega
  · intro h
    exact vp_in_nI h hn
theorem q_rem {a d : Nat} (ha : a < 2147483648) (h0 : 0 < d) (hd : d < 2147483648) : nI a - nI a / nI d * nI d = nI (a % d) := pk_rem ha h0 hd
theorem q_div {a d : Nat} (ha : a < 2147483648) (h0 : 0 < d) (hd : d < 2147483648) : nI a / nI d = nI (a / d) := pk_div ha h0 hd
theorem q_eq {a b : Nat} (ha : a < 2147483648) (hb : b < 2147483648) : (nI a = nI b) = (a = b) := propext (nI_eq ha hb)
theorem q_le {a b : Nat} (ha : a < 2147483648) (hb : b < 2147483648) : (nI a ≤ nI b) = (a ≤ b) := propext (nI_leI ha hb)
theorem q_lt {a b : Nat} (ha : a < 2147483648) (hb : b < 2147483648) : (nI a < nI b) = (a < b) := propext (nI_ltI ha hb)
theorem q_ti {k : Nat} (h : k < 2147483648) : (nI k).toInt = (k : Int) := nI_toInt h
theorem q_m1 {k : Nat} (h : k < 2147483648) : (nI k = -nI 1) = False := by
  apply propext
  constructor
  · intro e
    have := congrArg Int32.toInt e
    rw [nI_toInt h, show (-nI 1).toInt = -1 by decide] at this
    omega
  · exact False.elim
theorem q_1m {k : Nat} (h : k < 2147483648) : (-nI 1 = nI k) = False := by
  rw [show (-nI 1 = nI k) = (nI k = -nI 1) from propext ⟨Eq.symm, Eq.symm⟩, q_m1 h]
theorem q_neg {k : Nat} : (nI (k + 1) - nI 1) = nI k := nI_pred k
theorem sh1n {p : Nat} (hp : p < 31) : nI 1 <<< (nI p &&& 31) = nI (2 ^ p) := sh_1 hp
theorem bitn {n p : Nat} (hn : n < 2147483648) (hp : p < 32) : (nI n >>> (nI p &&& 31)) &&& nI 1 = nI (bitS n p) := by
  rw [show nI 1 = (1 : Int32) from rfl, bit_at hn hp, tb_nat]
  rfl
theorem q_mod2 (n : Nat) : nI n &&& nI 1 = nI (n % 2) := an_1 n
theorem q_neq0 {P : Prop} : (¬ ¬ P) = P := by
  by_cases h : P <;> simp [h]
theorem bitS_le (n p : Nat) : bitS n p ≤ 1 := by
  unfold bitS
  split <;> decide
theorem bitS_0 (n p : Nat) : (bitS n p = 0) = (n.testBit p = false) := by
  unfold bitS
  by_cases h : n.testBit p = true
  · simp [h]
  · simp [h]
theorem bitS_1 (n p : Nat) : (bitS n p = 1) = (n.testBit p = true) := by
  unfold bitS
  by_cases h : n.testBit p = true
  · simp [h]
  · simp [h]
/-- one number of the row put anew -/
def ups (s : Nat → Nat) (k v : Nat) : Nat → Nat := fun j => if j = k then v else s j
theorem ups_s (s : Nat → Nat) (k v : Nat) : ups s k v k = v := if_pos rfl
theorem ups_n {s : Nat → Nat} {k v j : Nat} (h : j ≠ k) : ups s k v j = s j := if_neg h
theorem bq_t {c A B : Prop} (h : c) : ((c → A) ∧ (¬ c → B)) = A := propext ⟨fun x => x.1 h, fun a => ⟨fun _ => a, fun n => absurd h n⟩⟩
theorem bq_f {c A B : Prop} (h : ¬ c) : ((c → A) ∧ (¬ c → B)) = B := propext ⟨fun x => x.2 h, fun b => ⟨fun n => absurd n h, fun _ => b⟩⟩
theorem bq_t2 {c A B : Prop} (h : ¬ c) : ((¬ c → A) ∧ (c → B)) = A := propext ⟨fun x => x.1 h, fun a => ⟨fun _ => a, fun n => absurd n h⟩⟩
theorem bq_f2 {c A B : Prop} (h : c) : ((¬ c → A) ∧ (c → B)) = B := propext ⟨fun x => x.2 h, fun b => ⟨fun n => absurd h n, fun _ => b⟩⟩
theorem zb_n0 : zb (nI 0) := by unfold zb; decide
theorem zb_n1 : zb (nI 1) := by unfold zb; decide
theorem zq_if {c : Prop} (d : Decidable c) : zb (@ite _ c d (nI 1) (nI 0)) = True := by
  apply propext
  refine ⟨fun _ => trivial, fun _ => ?_⟩
  split
  · exact zb_n1
  · exact zb_n0
theorem zq_0 : zb (nI 0) = True := eq_true zb_n0
theorem zq_1 : zb (nI 1) = True := eq_true zb_n1
theorem RowA_si {μ : Me} {o : Nat} {s : Nat → Nat} (h : RowA μ o s) {k v : Nat} (hk : k ≠ 2) : RowA (msi μ o k (nI v)) o (ups s k v) := by
  constructor
  · intro j hj h2
    rw [gi_si]
    unfold ups
    by_cases e : j = k
    · simp [e]
    · simp [e, h.1 j hj h2]
  · rw [gi_si, if_neg (by omega), h.2, ups_n (by omega)]
theorem RowA_s2 {μ : Me} {o : Nat} {s : Nat → Nat} (h : RowA μ o s) {v : Nat} : RowA (msi μ o 2 (nI v - 1)) o (ups s 2 v) := by
  constructor
  · intro j hj h2
    rw [gi_si, if_neg (by omega), h.1 j hj h2, ups_n h2]
  · rw [gi_si, if_pos ⟨rfl, rfl⟩, ups_s]
theorem RowA_x {μ ν : Me} {o : Nat} {s : Nat → Nat} (h : RowA μ o s) (e : ∀ k, mgi ν o k = mgi μ o k) : RowA ν o s := ⟨fun k hk h2 => (e k).trans (h.1 k hk h2), (e 2).trans h.2⟩
theorem RowA_s {μ : Me} {o : Nat} {s s' : Nat → Nat} (h : RowA μ o s) (e : ∀ k, k < 2867 → s k = s' k) : RowA μ o s' := ⟨fun k hk h2 => (h.1 k hk h2).trans (by rw [e k hk]), h.2.trans (by rw [e 2 (by decide)])⟩
theorem mof_rf (μ : Me) (o : Nat) : mof μ μ o := ⟨rfl, fun _ => rfl, fun _ => rfl, fun _ _ _ => ⟨rfl, rfl, rfl⟩⟩
theorem mof_tr {μ ν ρ : Me} {o : Nat} (h : mof μ ν o) (k : mof ν ρ o) : mof μ ρ o := ⟨k.1.trans h.1, fun a => (k.2.1 a).trans (h.2.1 a), fun a => (k.2.2.1 a).trans (h.2.2.1 a), fun a ha q => ⟨(k.2.2.2 a ha q).1.trans (h.2.2.2 a ha q).1, (k.2.2.2 a ha q).2.1.trans (h.2.2.2 a ha q).2.1, (k.2.2.2 a ha q).2.2.trans (h.2.2.2 a ha q).2.2⟩⟩
theorem mof_ts {μ ν : Me} {o : Nat} (h : mof μ ν o) (k : Nat) (v : Int32) : mof μ (msi ν o k v) o := mof_tr h (mof_si ν o k v)
/-- the shape stays where kinds, lengths and references do -/
theorem Gp_x {μ ν : Me} (h : Gp μ) (hn : mnn μ ≤ mnn ν) (hk : ∀ a, a < 328 → mkd ν a = mkd μ a ∧ mln ν a = mln μ a) (hr : ∀ a q, a < 328 → (kdF a ≠ 12 → kdF a ≠ 13 → kdF a ≠ 14 → (a = 290 → q ≠ 1) → (a = 299 → q ≠ 6) → (a = 310 → q ≠ 4) → mgr ν a q = mgr μ a q)) : Gp ν := by
  obtain ⟨h1, h2, h3, h4, h5, h6, h7⟩ := h
  refine ⟨Nat.le_trans h1 hn, fun o ho => ⟨(hk o ho).1.trans (h2 o ho).1, (hk o ho).2.trans (h2 o ho).2⟩, ?_, fun i hi => ?_, fun m hm hk3 => ?_, fun i hi => ?_, fun m hm hk7 => ?_⟩
  · rw [hr 0 0 (by decide) (by decide) (by decide) (by decide) (by decide) (by decide) (by decide), hr 0 1 (by decide) (by decide) (by decide) (by decide) (by decide) (by decide) (by decide), hr 0 2 (by decide) (by decide) (by decide) (by decide) (by decide) (by decide) (by decide), hr 0 3 (by decide) (by decide) (by decide) (by decide) (by decide) (by decide) (by decide), hr 0 4 (by decide) (by decide) (by decide) (by decide) (by decide) (by decide) (by decide), hr 0 5 (by decide) (by decide) (by decide) (by decide) (by decide) (by decide) (by decide), hr 0 6 (by decide) (by decide) (by decide) (by decide) (by decide) (by decide) (by decide), hr 0 7 (by decide) (by decide) (by decide) (by decide) (by decide) (by decide) (by decide), hr 0 8 (by decide) (by decide) (by decide) (by decide) (by decide) (by decide) (by decide), hr 1 1 (by decide) (by decide) (by decide) (by decide) (by decide) (by decide) (by decide), hr 1 2 (by decide) (by decide) (by decide) (by decide) (by decide) (by decide) (by decide), hr 1 3 (by decide) (by decide) (by decide) (by decide) (by decide) (by decide) (by decide), hr 1 4 (by decide) (by decide) (by decide) (by decide) (by decide) (by decide) (by decide), hr 1 5 (by decide) (by decide) (by decide) (by decide) (by decide) (by decide) (by decide), hr 1 9 (by decide) (by decide) (by decide) (by decide) (by decide) (by decide) (by decide), hr 1 10 (by decide) (by decide) (by decide) (by decide) (by decide) (by decide) (by decide), hr 1 12 (by decide) (by decide) (by decide) (by decide) (by decide) (by decide) (by decide), hr 1 13 (by decide) (by decide) (by decide) (by decide) (by decide) (by decide) (by decide), hr 1 14 (by decide) (by decide) (by decide) (by decide) (by decide) (by decide) (by decide), hr 1 15 (by decide) (by decide) (by decide) (by decide) (by decide) (by decide) (by decide), hr 136 1 (by decide) (by decide) (by decide) (by decide) (by decide) (by decide) (by decide), hr 136 2 (by decide) (by decide) (by decide) (by decide) (by decide) (by decide) (by decide), hr 136 3 (by decide) (by decide) (by decide) (by decide) (by decide) (by decide) (by decide), hr 136 4 (by decide) (by decide) (by decide) (by decide) (by decide) (by decide) (by decide), hr 136 5 (by decide) (by decide) (by decide) (by decide) (by decide) (by decide) (by decide), hr 136 9 (by decide) (by decide) (by decide) (by decide) (by decide) (by decide) (by decide), hr 136 10 (by decide) (by decide) (by decide) (by decide) (by decide) (by decide) (by decide), hr 136 12 (by decide) (by decide) (by decide) (by decide) (by decide) (by decide) (by decide), hr 136 13 (by decide) (by decide) (by decide) (by decide) (by decide) (by decide) (by decide), hr 136 14 (by decide) (by decide) (by decide) (by decide) (by decide) (by decide) (by decide), hr 136 15 (by decide) (by decide) (by decide) (by decide) (by decide) (by decide) (by decide), hr 271 0 (by decide) (by decide) (by decide) (by decide) (by decide) (by decide) (by decide), hr 290 0 (by decide) (by decide) (by decide) (by decide) (by decide) (by decide) (by decide), hr 291 0 (by decide) (by decide) (by decide) (by decide) (by decide) (by decide) (by decide), hr 291 1 (by decide) (by decide) (by decide) (by decide) (by decide) (by decide) (by decide), hr 291 2 (by decide) (by decide) (by decide) (by decide) (by decide) (by decide) (by decide), hr 299 0 (by decide) (by decide) (by decide) (by decide) (by decide) (by decide) (by decide), hr 299 1 (by decide) (by decide) (by decide) (by decide) (by decide) (by decide) (by decide), hr 299 2 (by decide) (by decide) (by decide) (by decide) (by decide) (by decide) (by decide), hr 301 0 (by decide) (by decide) (by decide) (by decide) (by decide) (by decide) (by decide), hr 301 1 (by decide) (by decide) (by decide) (by decide) (by decide) (by decide) (by decide), hr 301 2 (by decide) (by decide) (by decide) (by decide) (by decide) (by decide) (by decide), hr 306 0 (by decide) (by decide) (by decide) (by decide) (by decide) (by decide) (by decide), hr 306 1 (by decide) (by decide) (by decide) (by decide) (by decide) (by decide) (by decide), hr 306 2 (by decide) (by decide) (by decide) (by decide) (by decide) (by decide) (by decide), hr 306 3 (by decide) (by decide) (by decide) (by decide) (by decide) (by decide) (by decide), hr 306 4 (by decide) (by decide) (by decide) (by decide) (by decide) (by decide) (by decide), hr 310 0 (by decide) (by decide) (by decide) (by decide) (by decide) (by decide) (by decide), hr 310 1 (by decide) (by decide) (by decide) (by decide) (by decide) (by decide) (by decide), hr 310 2 (by decide) (by decide) (by decide) (by decide) (by decide) (by decide) (by decide), hr 310 3 (by decide) (by decide) (by decide) (by decide) (by decide) (by decide) (by decide), hr 314 0 (by decide) (by decide) (by decide) (by decide) (by decide) (by decide) (by decide), hr 314 1 (by decide) (by decide) (by decide) (by decide) (by decide) (by decide) (by decide), hr 314 2 (by decide) (by decide) (by decide) (by decide) (by decide) (by decide) (by decide), hr 314 3 (by decide) (by decide) (by decide) (by decide) (by decide) (by decide) (by decide), hr 314 15 (by decide) (by decide) (by decide) (by decide) (by decide) (by decide) (by decide), hr 314 20 (by decide) (by decide) (by decide) (by decide) (by decide) (by decide) (by decide), hr 314 22 (by decide) (by decide) (by decide) (by decide) (by decide) (by decide) (by decide), hr 314 23 (by decide) (by decide) (by decide) (by decide) (by decide) (by decide) (by decide), hr 314 26 (by decide) (by decide) (by decide) (by decide) (by decide) (by decide) (by decide), hr 314 27 (by decide) (by decide) (by decide) (by decide) (by decide) (by decide) (by decide), hr 314 28 (by decide) (by decide) (by decide) (by decide) (by decide) (by decide) (by decide), hr 314 29 (by decide) (by decide) (by decide) (by decide) (by decide) (by decide) (by decide), hr 314 30 (by decide) (by decide) (by decide) (by decide) (by decide) (by decide) (by decide)]
    exact h3
  · rw [hr 15 i (by decide) (by decide) (by decide) (by decide) (by omega) (by omega) (by omega), hr 150 i (by decide) (by decide) (by decide) (by decide) (by omega) (by omega) (by omega)]
    exact h4 i hi
  · rw [hr m 5 hm (by omega) (by omega) (by omega) (by omega) (by omega) (by omega), hr m 6 hm (by omega) (by omega) (by omega) (by omega) (by intro e; rw [e] at hk3; exact absurd hk3 (by decide)) (by omega), hr m 7 hm (by omega) (by omega) (by omega) (by omega) (by omega) (by omega)]
    exact h5 m hm hk3
  · rw [hr 273 i (by decide) (by decide) (by decide) (by decide) (by omega) (by omega) (by omega)]
    exact h6 i hi
  · rw [hr m 0 hm (by omega) (by omega) (by omega) (by omega) (by omega) (by omega), hr m 1 hm (by omega) (by omega) (by omega) (by intro e; rw [e] at hk7; exact absurd hk7 (by decide)) (by omega) (by omega), hr m 7 hm (by omega) (by omega) (by omega) (by omega) (by omega) (by omega)]
    exact h7 m hm hk7
theorem Gp_of {μ ν : Me} {o : Nat} (h : Gp μ) (hm : mof μ ν o) (ho : kdF o = 12 ∨ kdF o = 13 ∨ kdF o = 14) : Gp ν := Gp_x h (Nat.le_of_eq hm.1.symm) (fun a _ => ⟨hm.2.1 a, hm.2.2.1 a⟩) (fun a q _ h1 h2 h3 _ _ _ => (hm.2.2.2 a (by rintro rfl; omega) q).2.2)
theorem i01 {c : Prop} (d : Decidable c) : (@ite _ c d (nI 1) (nI 0) = nI 0) = ¬ c := by
  by_cases h : c
  · rw [if_pos h]
    exact propext ⟨fun e => absurd e (by decide), fun e => absurd h e⟩
  · rw [if_neg h]
    exact propext ⟨fun _ => h, fun _ => rfl⟩
theorem i10 {c : Prop} (d : Decidable c) : (@ite _ c d (nI 1) (nI 0) = nI 1) = c := by
  by_cases h : c
  · rw [if_pos h]
    exact propext ⟨fun _ => h, fun _ => rfl⟩
  · rw [if_neg h]
    exact propext ⟨fun e => absurd e (by decide), fun e => absurd e h⟩
theorem q_tt {a b : Nat} (h : a < b) : (a < b) = True := eq_true h
theorem q_ff {a b : Nat} (h : ¬ a < b) : (a < b) = False := eq_false h
theorem ite_x {α : Type} {c d : Prop} (i : Decidable c) (j : Decidable d) (h : c ↔ d) (a b : α) : @ite _ c i a b = @ite _ d j a b := by
  by_cases k : c
  · rw [if_pos k, if_pos (h.1 k)]
  · rw [if_neg k, if_neg (fun x => k (h.2 x))]
theorem ups_e {s : Nat → Nat} {k v j : Nat} (h : j = k) : ups s k v j = v := if_pos h
/-- a stretch of the row put anew -/
def fil (s : Nat → Nat) (lo n : Nat) (g : Nat → Nat) : Nat → Nat := fun j => if lo ≤ j ∧ j < lo + n then g (j - lo) else s j
theorem fil_i {s : Nat → Nat} {lo n : Nat} {g : Nat → Nat} {j : Nat} (h1 : lo ≤ j) (h2 : j < lo + n) : fil s lo n g j = g (j - lo) := if_pos ⟨h1, h2⟩
theorem fil_o {s : Nat → Nat} {lo n : Nat} {g : Nat → Nat} {j : Nat} (h : j < lo ∨ lo + n ≤ j) : fil s lo n g j = s j := if_neg (by omega)
theorem RowA_f0 {μ : Me} {o : Nat} {s : Nat → Nat} (h : RowA μ o s) (lo : Nat) (g : Nat → Nat) : RowA μ o (fil s lo 0 g) := RowA_s h (fun k _ => (fil_o (by omega)).symm)
theorem RowA_f {μ : Me} {o : Nat} {s : Nat → Nat} {lo n : Nat} {g : Nat → Nat} (h : RowA μ o (fil s lo n g)) (hl : 2 < lo) {k v : Nat} (hk : k = lo + n) (hv : v = g n) : RowA (msi μ o k (nI v)) o (fil s lo (n + 1) g) := by
  subst hk hv
  refine RowA_s (RowA_si h (by omega)) (fun j _ => ?_)
  by_cases e : j = lo + n
  · rw [ups_e e, fil_i (by omega) (by omega), show j - lo = n by omega]
  · rw [ups_n e]
    by_cases e2 : lo ≤ j ∧ j < lo + n
    · rw [fil_i e2.1 e2.2, fil_i e2.1 (by omega)]
    · rw [fil_o (by omega), fil_o (by omega)]
/-! loops that count up -/
theorem loop1 {μ : Me} {Bd : Int32 → Me → (Int32 → Me → Prop) → Prop} (P : Nat → Me → Prop) (N i0 : Nat) (h0 : i0 ≤ N) (hP : P i0 μ) (hb : ∀ k ν, k ≤ N → P k ν → ∀ K : Int32 → Me → Prop, (∀ ρ, k < N → P (k + 1) ρ → K (nI (k + 1)) ρ) → Bd (nI k) ν K) : ∃ I : Int32 → Me → Nat → Prop, (∃ n, I (nI i0) μ n) ∧ ∀ (i : Int32) (μ : Me) (n : Nat), I i μ n → Bd i μ (fun a ν => ∃ n', n' < n ∧ I a ν n') := by
  refine ⟨fun a ν n => ∃ k, a = nI k ∧ k ≤ N ∧ n = N - k ∧ P k ν, ⟨_, i0, rfl, h0, rfl, hP⟩, ?_⟩
  rintro _ ν _ ⟨k, rfl, hk, rfl, hQ⟩
  exact hb k ν hk hQ _ (fun ρ hl hR => ⟨N - (k + 1), by omega, k + 1, rfl, by omega, rfl, hR⟩)
theorem loopA {μ : Me} {Bd : Int32 → Int32 → Me → (Int32 → Int32 → Me → Prop) → Prop} (P : Nat → Int32 → Me → Prop) (N i0 : Nat) (h0 : i0 ≤ N) {a0 : Int32} (hP : P i0 a0 μ) (hb : ∀ k a ν, k ≤ N → P k a ν → ∀ K : Int32 → Int32 → Me → Prop, (∀ b ρ, k < N → P (k + 1) b ρ → K b (nI (k + 1)) ρ) → Bd a (nI k) ν K) : ∃ I : Int32 → Int32 → Me → Nat → Prop, (∃ n, I a0 (nI i0) μ n) ∧ ∀ (a i : Int32) (μ : Me) (n : Nat), I a i μ n → Bd a i μ (fun b j ν => ∃ n', n' < n ∧ I b j ν n') := by
  refine ⟨fun b a ν n => ∃ k, a = nI k ∧ k ≤ N ∧ n = N - k ∧ P k b ν, ⟨_, i0, rfl, h0, rfl, hP⟩, ?_⟩
  rintro b _ ν _ ⟨k, rfl, hk, rfl, hQ⟩
  exact hb k b ν hk hQ _ (fun c ρ hl hR => ⟨N - (k + 1), by omega, k + 1, rfl, by omega, rfl, hR⟩)
theorem loopB {μ : Me} {Bd : Int32 → Int32 → Me → (Int32 → Int32 → Me → Prop) → Prop} (P : Nat → Int32 → Me → Prop) (N i0 : Nat) (h0 : i0 ≤ N) {a0 : Int32} (hP : P i0 a0 μ) (hb : ∀ k a ν, k ≤ N → P k a ν → ∀ K : Int32 → Int32 → Me → Prop, (∀ b ρ, k < N → P (k + 1) b ρ → K (nI (k + 1)) b ρ) → Bd (nI k) a ν K) : ∃ I : Int32 → Int32 → Me → Nat → Prop, (∃ n, I (nI i0) a0 μ n) ∧ ∀ (i a : Int32) (μ : Me) (n : Nat), I i a μ n → Bd i a μ (fun j b ν => ∃ n', n' < n ∧ I j b ν n') := by
  refine ⟨fun a b ν n => ∃ k, a = nI k ∧ k ≤ N ∧ n = N - k ∧ P k b ν, ⟨_, i0, rfl, h0, rfl, hP⟩, ?_⟩
  rintro _ b ν _ ⟨k, rfl, hk, rfl, hQ⟩
  exact hb k b ν hk hQ _ (fun c ρ hl hR => ⟨N - (k + 1), by omega, k + 1, rfl, by omega, rfl, hR⟩)
