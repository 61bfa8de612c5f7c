/-! rows of arithmetic, stack, branches, returns: by wip/whole/mk04.py -/
section R2
variable {x : GX} {cc : ByteArray} {own : String} {nL : Nat} {rm : Room} {pc : Nat} {ls : List (Nat × Value)} {st : List Value} {μ : Me} {k j : Nat}
theorem g_iadd (f : Fx x cc own nL rm) {a b : Int32} (d : decode cc pc = .ok (.iadd, 1)) (h : G x nL (pc + 1) ls (.int (a + b) :: st) μ k j) : G x nL pc ls (.int b :: .int a :: st) μ k j := fun H locs la p q r e => lv_iadd f.1 f.2.1 d (h H locs la p q r e)
theorem g_isub (f : Fx x cc own nL rm) {a b : Int32} (d : decode cc pc = .ok (.isub, 1)) (h : G x nL (pc + 1) ls (.int (a - b) :: st) μ k j) : G x nL pc ls (.int b :: .int a :: st) μ k j := fun H locs la p q r e => lv_isub f.1 f.2.1 d (h H locs la p q r e)
theorem g_imul (f : Fx x cc own nL rm) {a b : Int32} (d : decode cc pc = .ok (.imul, 1)) (h : G x nL (pc + 1) ls (.int (a * b) :: st) μ k j) : G x nL pc ls (.int b :: .int a :: st) μ k j := fun H locs la p q r e => lv_imul f.1 f.2.1 d (h H locs la p q r e)
theorem g_iand (f : Fx x cc own nL rm) {a b : Int32} (d : decode cc pc = .ok (.iand, 1)) (h : G x nL (pc + 1) ls (.int (a &&& b) :: st) μ k j) : G x nL pc ls (.int b :: .int a :: st) μ k j := fun H locs la p q r e => lv_iand f.1 f.2.1 d (h H locs la p q r e)
theorem g_ior (f : Fx x cc own nL rm) {a b : Int32} (d : decode cc pc = .ok (.ior, 1)) (h : G x nL (pc + 1) ls (.int (a ||| b) :: st) μ k j) : G x nL pc ls (.int b :: .int a :: st) μ k j := fun H locs la p q r e => lv_ior f.1 f.2.1 d (h H locs la p q r e)
theorem g_ixor (f : Fx x cc own nL rm) {a b : Int32} (d : decode cc pc = .ok (.ixor, 1)) (h : G x nL (pc + 1) ls (.int (a ^^^ b) :: st) μ k j) : G x nL pc ls (.int b :: .int a :: st) μ k j := fun H locs la p q r e => lv_ixor f.1 f.2.1 d (h H locs la p q r e)
theorem g_ishl (f : Fx x cc own nL rm) {a b : Int32} (d : decode cc pc = .ok (.ishl, 1)) (h : G x nL (pc + 1) ls (.int (a <<< (b &&& 31)) :: st) μ k j) : G x nL pc ls (.int b :: .int a :: st) μ k j := fun H locs la p q r e => lv_ishl f.1 f.2.1 d (h H locs la p q r e)
theorem g_ishr (f : Fx x cc own nL rm) {a b : Int32} (d : decode cc pc = .ok (.ishr, 1)) (h : G x nL (pc + 1) ls (.int (a >>> (b &&& 31)) :: st) μ k j) : G x nL pc ls (.int b :: .int a :: st) μ k j := fun H locs la p q r e => lv_ishr f.1 f.2.1 d (h H locs la p q r e)
theorem g_ladd (f : Fx x cc own nL rm) {a b : Int64} (d : decode cc pc = .ok (.ladd, 1)) (h : G x nL (pc + 1) ls (.long (a + b) :: st) μ k j) : G x nL pc ls (.long b :: .long a :: st) μ k j := fun H locs la p q r e => lv_ladd f.1 f.2.1 d (h H locs la p q r e)
theorem g_lsub (f : Fx x cc own nL rm) {a b : Int64} (d : decode cc pc = .ok (.lsub, 1)) (h : G x nL (pc + 1) ls (.long (a - b) :: st) μ k j) : G x nL pc ls (.long b :: .long a :: st) μ k j := fun H locs la p q r e => lv_lsub f.1 f.2.1 d (h H locs la p q r e)
theorem g_lmul (f : Fx x cc own nL rm) {a b : Int64} (d : decode cc pc = .ok (.lmul, 1)) (h : G x nL (pc + 1) ls (.long (a * b) :: st) μ k j) : G x nL pc ls (.long b :: .long a :: st) μ k j := fun H locs la p q r e => lv_lmul f.1 f.2.1 d (h H locs la p q r e)
theorem g_land (f : Fx x cc own nL rm) {a b : Int64} (d : decode cc pc = .ok (.land, 1)) (h : G x nL (pc + 1) ls (.long (a &&& b) :: st) μ k j) : G x nL pc ls (.long b :: .long a :: st) μ k j := fun H locs la p q r e => lv_land f.1 f.2.1 d (h H locs la p q r e)
theorem g_lor (f : Fx x cc own nL rm) {a b : Int64} (d : decode cc pc = .ok (.lor, 1)) (h : G x nL (pc + 1) ls (.long (a ||| b) :: st) μ k j) : G x nL pc ls (.long b :: .long a :: st) μ k j := fun H locs la p q r e => lv_lor f.1 f.2.1 d (h H locs la p q r e)
theorem g_lxor (f : Fx x cc own nL rm) {a b : Int64} (d : decode cc pc = .ok (.lxor, 1)) (h : G x nL (pc + 1) ls (.long (a ^^^ b) :: st) μ k j) : G x nL pc ls (.long b :: .long a :: st) μ k j := fun H locs la p q r e => lv_lxor f.1 f.2.1 d (h H locs la p q r e)
theorem g_idiv (f : Fx x cc own nL rm) {a b : Int32} (d : decode cc pc = .ok (.idiv, 1)) (hne : ¬ b = 0) (h : G x nL (pc + 1) ls (.int (a / b) :: st) μ k j) : G x nL pc ls (.int b :: .int a :: st) μ k j := fun H locs la p q r e => lv_idiv f.1 f.2.1 d hne (h H locs la p q r e)
theorem g_ldiv (f : Fx x cc own nL rm) {a b : Int64} (d : decode cc pc = .ok (.ldiv, 1)) (hne : ¬ b = 0) (h : G x nL (pc + 1) ls (.long (a / b) :: st) μ k j) : G x nL pc ls (.long b :: .long a :: st) μ k j := fun H locs la p q r e => lv_ldiv f.1 f.2.1 d hne (h H locs la p q r e)
theorem g_irem (f : Fx x cc own nL rm) {a b : Int32} (d : decode cc pc = .ok (.irem, 1)) (hne : ¬ b = 0) (h : G x nL (pc + 1) ls (.int (a - a / b * b) :: st) μ k j) : G x nL pc ls (.int b :: .int a :: st) μ k j := fun H locs la p q r e => lv_irem f.1 f.2.1 d hne (h H locs la p q r e)
theorem g_lrem (f : Fx x cc own nL rm) {a b : Int64} (d : decode cc pc = .ok (.lrem, 1)) (hne : ¬ b = 0) (h : G x nL (pc + 1) ls (.long (a - a / b * b) :: st) μ k j) : G x nL pc ls (.long b :: .long a :: st) μ k j := fun H locs la p q r e => lv_lrem f.1 f.2.1 d hne (h H locs la p q r e)
theorem g_ineg (f : Fx x cc own nL rm) {a : Int32} (d : decode cc pc = .ok (.ineg, 1)) (h : G x nL (pc + 1) ls (.int (-a) :: st) μ k j) : G x nL pc ls (.int a :: st) μ k j := fun H locs la p q r e => lv_ineg f.1 f.2.1 d (h H locs la p q r e)
theorem g_lneg (f : Fx x cc own nL rm) {a : Int64} (d : decode cc pc = .ok (.lneg, 1)) (h : G x nL (pc + 1) ls (.long (-a) :: st) μ k j) : G x nL pc ls (.long a :: st) μ k j := fun H locs la p q r e => lv_lneg f.1 f.2.1 d (h H locs la p q r e)
theorem g_iushr (f : Fx x cc own nL rm) {a b : Int32} (d : decode cc pc = .ok (.iushr, 1)) (h : G x nL (pc + 1) ls (.int ((a.toUInt32 >>> (b.toUInt32 &&& Int32.toUInt32 31)).toInt32) :: st) μ k j) : G x nL pc ls (.int b :: .int a :: st) μ k j := fun H locs la p q r e => lv_iushr f.1 f.2.1 d rfl (h H locs la p q r e)
theorem g_lushr (f : Fx x cc own nL rm) {a : Int64} {b : Int32} (d : decode cc pc = .ok (.lushr, 1)) (h : G x nL (pc + 1) ls (.long ((a.toUInt64 >>> (b.toInt64.toUInt64 &&& Int64.toUInt64 63)).toInt64) :: st) μ k j) : G x nL pc ls (.int b :: .long a :: st) μ k j := fun H locs la p q r e => lv_lushr f.1 f.2.1 d rfl (h H locs la p q r e)
theorem g_lshl (f : Fx x cc own nL rm) {a : Int64} {b : Int32} (d : decode cc pc = .ok (.lshl, 1)) (h : G x nL (pc + 1) ls (.long (a <<< (b.toInt64 &&& 63)) :: st) μ k j) : G x nL pc ls (.int b :: .long a :: st) μ k j := fun H locs la p q r e => lv_lshl f.1 f.2.1 d rfl (h H locs la p q r e)
theorem g_lshr (f : Fx x cc own nL rm) {a : Int64} {b : Int32} (d : decode cc pc = .ok (.lshr, 1)) (h : G x nL (pc + 1) ls (.long (a >>> (b.toInt64 &&& 63)) :: st) μ k j) : G x nL pc ls (.int b :: .long a :: st) μ k j := fun H locs la p q r e => lv_lshr f.1 f.2.1 d rfl (h H locs la p q r e)
theorem g_i2l (f : Fx x cc own nL rm) {a : Int32} (d : decode cc pc = .ok (.i2l, 1)) (h : G x nL (pc + 1) ls (.long (a.toInt64) :: st) μ k j) : G x nL pc ls (.int a :: st) μ k j := fun H locs la p q r e => lv_i2l f.1 f.2.1 d rfl (h H locs la p q r e)
theorem g_l2i (f : Fx x cc own nL rm) {a : Int64} (d : decode cc pc = .ok (.l2i, 1)) (h : G x nL (pc + 1) ls (.int (a.toInt32) :: st) μ k j) : G x nL pc ls (.long a :: st) μ k j := fun H locs la p q r e => lv_l2i f.1 f.2.1 d rfl (h H locs la p q r e)
theorem g_i2c (f : Fx x cc own nL rm) {a : Int32} (d : decode cc pc = .ok (.i2c, 1)) (h : G x nL (pc + 1) ls (.int ((a.toUInt32 % 65536).toInt32) :: st) μ k j) : G x nL pc ls (.int a :: st) μ k j := fun H locs la p q r e => lv_i2c f.1 f.2.1 d rfl (h H locs la p q r e)
theorem g_i2b (f : Fx x cc own nL rm) {a : Int32} (d : decode cc pc = .ok (.i2b, 1)) (h : G x nL (pc + 1) ls (.int (a.toInt8.toInt32) :: st) μ k j) : G x nL pc ls (.int a :: st) μ k j := fun H locs la p q r e => lv_i2b f.1 f.2.1 d rfl (h H locs la p q r e)
theorem g_lcmp (f : Fx x cc own nL rm) {a b : Int64} (d : decode cc pc = .ok (.lcmp, 1)) (h : G x nL (pc + 1) ls (.int (lg_cmp a b) :: st) μ k j) : G x nL pc ls (.long b :: .long a :: st) μ k j := fun H locs la p q r e => W.lcmp f.1 f.2.1 d (h H locs la p q r e)
theorem g_dup (f : Fx x cc own nL rm) {va : Value} (d : decode cc pc = .ok (.dup, 1)) (hva : va.category = 1) (h : G x nL (pc + 1) ls (va :: va :: st) μ k j) : G x nL pc ls (va :: st) μ k j := fun H locs la p q r e => lv_dup f.1 f.2.1 d hva (h H locs la p q r e)
theorem g_pop (f : Fx x cc own nL rm) {va : Value} (d : decode cc pc = .ok (.pop, 1)) (hva : va.category = 1) (h : G x nL (pc + 1) ls (st) μ k j) : G x nL pc ls (va :: st) μ k j := fun H locs la p q r e => lv_pop f.1 f.2.1 d hva (h H locs la p q r e)
theorem g_dup_x1 (f : Fx x cc own nL rm) {va vb : Value} (d : decode cc pc = .ok (.dup_x1, 1)) (hva : va.category = 1) (hvb : vb.category = 1) (h : G x nL (pc + 1) ls (va :: vb :: va :: st) μ k j) : G x nL pc ls (va :: vb :: st) μ k j := fun H locs la p q r e => lv_dup_x1 f.1 f.2.1 d hva hvb (h H locs la p q r e)
theorem g_dup_x2 (f : Fx x cc own nL rm) {va vb vd : Value} (d : decode cc pc = .ok (.dup_x2, 1)) (hva : va.category = 1) (hvb : vb.category = 1) (hvd : vd.category = 1) (h : G x nL (pc + 1) ls (va :: vb :: vd :: va :: st) μ k j) : G x nL pc ls (va :: vb :: vd :: st) μ k j := fun H locs la p q r e => lv_dup_x2 f.1 f.2.1 d hva hvb hvd (h H locs la p q r e)
theorem g_dup2_11 (f : Fx x cc own nL rm) {va vb : Value} (d : decode cc pc = .ok (.dup2, 1)) (hva : va.category = 1) (hvb : vb.category = 1) (h : G x nL (pc + 1) ls (va :: vb :: va :: vb :: st) μ k j) : G x nL pc ls (va :: vb :: st) μ k j := fun H locs la p q r e => lv_dup2_11 f.1 f.2.1 d hva hvb (h H locs la p q r e)
theorem g_dup2_2 (f : Fx x cc own nL rm) {va : Value} (d : decode cc pc = .ok (.dup2, 1)) (hva : va.category = 2) (h : G x nL (pc + 1) ls (va :: va :: st) μ k j) : G x nL pc ls (va :: st) μ k j := fun H locs la p q r e => lv_dup2_2 f.1 f.2.1 d hva (h H locs la p q r e)
theorem g_ic_eq (f : Fx x cc own nL rm) {a b : Int32} {off : Int} {P P2 : Prop} (tgt : Nat) (d : decode cc pc = .ok (.if_icmp .eq off, 3)) (ht : (pc : Int) + off = (tgt : Int)) (h : (a = b → P) ∧ (¬ a = b → P2)) (kt : P → G x nL tgt ls st μ k j) (kf : P2 → G x nL (pc + 3) ls st μ k j) : G x nL pc ls (.int b :: .int a :: st) μ k j := fun H locs la p q r e => lv_icmp_eq f.1 f.2.1 d ht (fun c => kt (h.1 c) H locs la p q r e) (fun c => kf (h.2 c) H locs la p q r e)
theorem g_ic_ne (f : Fx x cc own nL rm) {a b : Int32} {off : Int} {P P2 : Prop} (tgt : Nat) (d : decode cc pc = .ok (.if_icmp .ne off, 3)) (ht : (pc : Int) + off = (tgt : Int)) (h : (¬ a = b → P) ∧ (a = b → P2)) (kt : P → G x nL tgt ls st μ k j) (kf : P2 → G x nL (pc + 3) ls st μ k j) : G x nL pc ls (.int b :: .int a :: st) μ k j := fun H locs la p q r e => lv_icmp_ne f.1 f.2.1 d ht (fun c => kt (h.1 c) H locs la p q r e) (fun c => kf (h.2 c) H locs la p q r e)
theorem g_ic_lt (f : Fx x cc own nL rm) {a b : Int32} {off : Int} {P P2 : Prop} (tgt : Nat) (d : decode cc pc = .ok (.if_icmp .lt off, 3)) (ht : (pc : Int) + off = (tgt : Int)) (h : (a < b → P) ∧ (¬ a < b → P2)) (kt : P → G x nL tgt ls st μ k j) (kf : P2 → G x nL (pc + 3) ls st μ k j) : G x nL pc ls (.int b :: .int a :: st) μ k j := fun H locs la p q r e => lv_icmp_lt f.1 f.2.1 d ht (fun c => kt (h.1 c) H locs la p q r e) (fun c => kf (h.2 c) H locs la p q r e)
theorem g_ic_ge (f : Fx x cc own nL rm) {a b : Int32} {off : Int} {P P2 : Prop} (tgt : Nat) (d : decode cc pc = .ok (.if_icmp .ge off, 3)) (ht : (pc : Int) + off = (tgt : Int)) (h : (b ≤ a → P) ∧ (¬ b ≤ a → P2)) (kt : P → G x nL tgt ls st μ k j) (kf : P2 → G x nL (pc + 3) ls st μ k j) : G x nL pc ls (.int b :: .int a :: st) μ k j := fun H locs la p q r e => lv_icmp_ge f.1 f.2.1 d ht (fun c => kt (h.1 c) H locs la p q r e) (fun c => kf (h.2 c) H locs la p q r e)
theorem g_ic_gt (f : Fx x cc own nL rm) {a b : Int32} {off : Int} {P P2 : Prop} (tgt : Nat) (d : decode cc pc = .ok (.if_icmp .gt off, 3)) (ht : (pc : Int) + off = (tgt : Int)) (h : (b < a → P) ∧ (¬ b < a → P2)) (kt : P → G x nL tgt ls st μ k j) (kf : P2 → G x nL (pc + 3) ls st μ k j) : G x nL pc ls (.int b :: .int a :: st) μ k j := fun H locs la p q r e => lv_icmp_gt f.1 f.2.1 d ht (fun c => kt (h.1 c) H locs la p q r e) (fun c => kf (h.2 c) H locs la p q r e)
theorem g_ic_le (f : Fx x cc own nL rm) {a b : Int32} {off : Int} {P P2 : Prop} (tgt : Nat) (d : decode cc pc = .ok (.if_icmp .le off, 3)) (ht : (pc : Int) + off = (tgt : Int)) (h : (a ≤ b → P) ∧ (¬ a ≤ b → P2)) (kt : P → G x nL tgt ls st μ k j) (kf : P2 → G x nL (pc + 3) ls st μ k j) : G x nL pc ls (.int b :: .int a :: st) μ k j := fun H locs la p q r e => lv_icmp_le f.1 f.2.1 d ht (fun c => kt (h.1 c) H locs la p q r e) (fun c => kf (h.2 c) H locs la p q r e)
theorem g_if_eq (f : Fx x cc own nL rm) {a : Int32} {off : Int} {P P2 : Prop} (tgt : Nat) (d : decode cc pc = .ok (.ifCond .eq off, 3)) (ht : (pc : Int) + off = (tgt : Int)) (h : (a = 0 → P) ∧ (¬ a = 0 → P2)) (kt : P → G x nL tgt ls st μ k j) (kf : P2 → G x nL (pc + 3) ls st μ k j) : G x nL pc ls (.int a :: st) μ k j := fun H locs la p q r e => lv_if_eq f.1 f.2.1 d ht (fun c => kt (h.1 c) H locs la p q r e) (fun c => kf (h.2 c) H locs la p q r e)
theorem g_if_ne (f : Fx x cc own nL rm) {a : Int32} {off : Int} {P P2 : Prop} (tgt : Nat) (d : decode cc pc = .ok (.ifCond .ne off, 3)) (ht : (pc : Int) + off = (tgt : Int)) (h : (¬ a = 0 → P) ∧ (a = 0 → P2)) (kt : P → G x nL tgt ls st μ k j) (kf : P2 → G x nL (pc + 3) ls st μ k j) : G x nL pc ls (.int a :: st) μ k j := fun H locs la p q r e => lv_if_ne f.1 f.2.1 d ht (fun c => kt (h.1 c) H locs la p q r e) (fun c => kf (h.2 c) H locs la p q r e)
theorem g_if_lt (f : Fx x cc own nL rm) {a : Int32} {off : Int} {P P2 : Prop} (tgt : Nat) (d : decode cc pc = .ok (.ifCond .lt off, 3)) (ht : (pc : Int) + off = (tgt : Int)) (h : (a < 0 → P) ∧ (¬ a < 0 → P2)) (kt : P → G x nL tgt ls st μ k j) (kf : P2 → G x nL (pc + 3) ls st μ k j) : G x nL pc ls (.int a :: st) μ k j := fun H locs la p q r e => lv_if_lt f.1 f.2.1 d ht (fun c => kt (h.1 c) H locs la p q r e) (fun c => kf (h.2 c) H locs la p q r e)
theorem g_if_ge (f : Fx x cc own nL rm) {a : Int32} {off : Int} {P P2 : Prop} (tgt : Nat) (d : decode cc pc = .ok (.ifCond .ge off, 3)) (ht : (pc : Int) + off = (tgt : Int)) (h : (0 ≤ a → P) ∧ (¬ 0 ≤ a → P2)) (kt : P → G x nL tgt ls st μ k j) (kf : P2 → G x nL (pc + 3) ls st μ k j) : G x nL pc ls (.int a :: st) μ k j := fun H locs la p q r e => lv_if_ge f.1 f.2.1 d ht (fun c => kt (h.1 c) H locs la p q r e) (fun c => kf (h.2 c) H locs la p q r e)
theorem g_if_gt (f : Fx x cc own nL rm) {a : Int32} {off : Int} {P P2 : Prop} (tgt : Nat) (d : decode cc pc = .ok (.ifCond .gt off, 3)) (ht : (pc : Int) + off = (tgt : Int)) (h : (0 < a → P) ∧ (¬ 0 < a → P2)) (kt : P → G x nL tgt ls st μ k j) (kf : P2 → G x nL (pc + 3) ls st μ k j) : G x nL pc ls (.int a :: st) μ k j := fun H locs la p q r e => lv_if_gt f.1 f.2.1 d ht (fun c => kt (h.1 c) H locs la p q r e) (fun c => kf (h.2 c) H locs la p q r e)
theorem g_if_le (f : Fx x cc own nL rm) {a : Int32} {off : Int} {P P2 : Prop} (tgt : Nat) (d : decode cc pc = .ok (.ifCond .le off, 3)) (ht : (pc : Int) + off = (tgt : Int)) (h : (a ≤ 0 → P) ∧ (¬ a ≤ 0 → P2)) (kt : P → G x nL tgt ls st μ k j) (kf : P2 → G x nL (pc + 3) ls st μ k j) : G x nL pc ls (.int a :: st) μ k j := fun H locs la p q r e => lv_if_le f.1 f.2.1 d ht (fun c => kt (h.1 c) H locs la p q r e) (fun c => kf (h.2 c) H locs la p q r e)
theorem g_goto (f : Fx x cc own nL rm) {off : Int} (tgt : Nat) (d : decode cc pc = .ok (.goto off, 3)) (ht : (pc : Int) + off = (tgt : Int)) (h : G x nL tgt ls st μ k j) : G x nL pc ls st μ k j := fun H locs la p q r e => lv_goto f.1 f.2.1 d ht (h H locs la p q r e)
theorem g_null (f : Fx x cc own nL rm) (d : decode cc pc = .ok (.aconst_null, 1)) (h : G x nL (pc + 1) ls (vr (gB x) none :: st) μ k j) : G x nL pc ls st μ k j := fun H locs la p q r e => lv_null f.1 f.2.1 d (h H locs la p q r e)
theorem g_ifnullN (f : Fx x cc own nL rm) {B : Nat} {off : Int} (tgt : Nat) (d : decode cc pc = .ok (.ifnull off, 3)) (ht : (pc : Int) + off = (tgt : Int)) (h : G x nL tgt ls st μ k j) : G x nL pc ls (vr B none :: st) μ k j := fun H locs la p q r e => lv_ifnullN f.1 f.2.1 d ht (h H locs la p q r e)
theorem g_ifnullS (f : Fx x cc own nL rm) {v : Nat} {off : Int} (d : decode cc pc = .ok (.ifnull off, 3)) (h : G x nL (pc + 3) ls st μ k j) : G x nL pc ls (.ref v :: st) μ k j := fun H locs la p q r e => lv_ifnull f.1 f.2.1 d (h H locs la p q r e)
theorem g_ifnonnullS (f : Fx x cc own nL rm) {v : Nat} {off : Int} (tgt : Nat) (d : decode cc pc = .ok (.ifnonnull off, 3)) (ht : (pc : Int) + off = (tgt : Int)) (h : G x nL tgt ls st μ k j) : G x nL pc ls (.ref v :: st) μ k j := fun H locs la p q r e => lv_ifnonnull f.1 f.2.1 d ht (h H locs la p q r e)
theorem g_ifnonnullN (f : Fx x cc own nL rm) {B : Nat} {off : Int} (d : decode cc pc = .ok (.ifnonnull off, 3)) (h : G x nL (pc + 3) ls st μ k j) : G x nL pc ls (vr B none :: st) μ k j := fun H locs la p q r e => lv_ifnonnullN f.1 f.2.1 d (h H locs la p q r e)
theorem g_lookup (f : Fx x cc own nL rm) {a : Int32} {dflt off : Int} {ps : Array (Int × Int)} {len : Nat} (tgt : Nat) (d : decode cc pc = .ok (.lookupswitch dflt ps, len)) (hp : (ps.toList.zip (ps.toList.drop 1)).all (fun (a, next) => a.1 < next.1) = true) (ho : Op.lookupswitch.offset ps.toList dflt a.toInt = off) (ht : (pc : Int) + off = (tgt : Int)) (h : G x nL tgt ls st μ k j) : G x nL pc ls (.int a :: st) μ k j := fun H locs la p q r e => lv_lookup f.1 f.2.1 d hp ho ht (h H locs la p q r e)
theorem g_tableOut (f : Fx x cc own nL rm) {a : Int32} {dflt lo hi : Int} {offs : Array Int} {len : Nat} (tgt : Nat) (d : decode cc pc = .ok (.tableswitch dflt lo hi offs, len)) (ho : a.toInt < lo ∨ hi < a.toInt) (ht : (pc : Int) + dflt = (tgt : Int)) (h : G x nL tgt ls st μ k j) : G x nL pc ls (.int a :: st) μ k j := fun H locs la p q r e => lv_tableOut f.1 f.2.1 d ho ht (h H locs la p q r e)
theorem g_tableIn (f : Fx x cc own nL rm) {a : Int32} {dflt lo hi off : Int} {offs : Array Int} {len : Nat} (tgt : Nat) (d : decode cc pc = .ok (.tableswitch dflt lo hi offs, len)) (h1 : ¬ a.toInt < lo) (h2 : ¬ hi < a.toInt) (ho : offs[(a.toInt - lo).toNat]? = some off) (ht : (pc : Int) + off = (tgt : Int)) (h : G x nL tgt ls st μ k j) : G x nL pc ls (.int a :: st) μ k j := fun H locs la p q r e => lv_tableIn f.1 f.2.1 d h1 h2 ho ht (h H locs la p q r e)
theorem g_iret (f : Fx x cc own nL rm) {Q : Int32 → Me → Prop} {a : Int32} (hr : Rt x (some .int) (qI Q)) (hk : k ≤ rm.cells) (hj : j ≤ rm.slots) (d : decode cc pc = .ok (.ireturn, 1)) (h : Q a μ) : G x nL pc ls [.int a] μ k j := by
  obtain ⟨⟨p, e, R, s, m, args, below, meth, c⟩, Ω, Qf, μ0⟩ := x
  obtain ⟨h1, h2, h3⟩ := hr
  intro H locs la a1 a2 a3 a4
  have hR : R = rm := f.2.2.2.2.2.2
  subst hR
  dsimp only at h1 h2 h3 a1 a2 a3 ⊢
  rw [h3]
  refine W.widen hk hj ?_
  exact W.iret f.1 f.2.1 h1 (fun t ht _ => ⟨_, μ, rfl, a2, ⟨a, rfl, h⟩, by rw [ht]; exact a1⟩) a3 d (hlocks := h2)
theorem g_zret (f : Fx x cc own nL rm) {Q : Int32 → Me → Prop} {a : Int32} (hr : Rt x (some .boolean) (qI Q)) (hk : k ≤ rm.cells) (hj : j ≤ rm.slots) (d : decode cc pc = .ok (.ireturn, 1)) (hn : narrow .boolean (.int a) = .int a) (h : Q a μ) : G x nL pc ls [.int a] μ k j := by
  obtain ⟨⟨p, e, R, s, m, args, below, meth, c⟩, Ω, Qf, μ0⟩ := x
  obtain ⟨h1, h2, h3⟩ := hr
  intro H locs la a1 a2 a3 a4
  have hR : R = rm := f.2.2.2.2.2.2
  subst hR
  dsimp only at h1 h2 h3 a1 a2 a3 ⊢
  rw [h3]
  refine W.widen hk hj ?_
  exact W.zret f.1 f.2.1 h1 hn (fun t ht _ => ⟨_, μ, rfl, a2, ⟨a, rfl, h⟩, by rw [ht]; exact a1⟩) a3 d (hlocks := h2)
theorem g_lret (f : Fx x cc own nL rm) {Q : Int64 → Me → Prop} {a : Int64} (hr : Rt x (some .long) (qL Q)) (hk : k ≤ rm.cells) (hj : j ≤ rm.slots) (d : decode cc pc = .ok (.lreturn, 1)) (h : Q a μ) : G x nL pc ls [.long a] μ k j := by
  obtain ⟨⟨p, e, R, s, m, args, below, meth, c⟩, Ω, Qf, μ0⟩ := x
  obtain ⟨h1, h2, h3⟩ := hr
  intro H locs la a1 a2 a3 a4
  have hR : R = rm := f.2.2.2.2.2.2
  subst hR
  dsimp only at h1 h2 h3 a1 a2 a3 ⊢
  rw [h3]
  refine W.widen hk hj ?_
  exact W.lret f.1 f.2.1 h1 (fun t ht _ => ⟨_, μ, rfl, a2, ⟨a, rfl, h⟩, by rw [ht]; exact a1⟩) a3 d (hlocks := h2)
theorem g_vret (f : Fx x cc own nL rm) {Q : Me → Prop} (hr : Rt x none (qV Q)) (hk : k ≤ rm.cells) (hj : j ≤ rm.slots) (d : decode cc pc = .ok (.return_, 1)) (h : Q μ) : G x nL pc ls [] μ k j := by
  obtain ⟨⟨p, e, R, s, m, args, below, meth, c⟩, Ω, Qf, μ0⟩ := x
  obtain ⟨h1, h2, h3⟩ := hr
  intro H locs la a1 a2 a3 a4
  have hR : R = rm := f.2.2.2.2.2.2
  subst hR
  dsimp only at h1 h2 h3 a1 a2 a3 ⊢
  rw [h3]
  refine W.widen hk hj ?_
  exact W.vret f.1 f.2.1 h1 (fun t ht _ => ⟨none, μ, rfl, a2, ⟨rfl, h⟩, by rw [ht]; exact a1⟩) a3 d (hlocks := h2)
theorem g_aret (f : Fx x cc own nL rm) {Q : Option Nat → Me → Prop} {r : Option Nat} {rt : FieldType} (hr : Rt x (some rt) (qR (gB x) Q)) (hrt : (∃ n, rt = .object n) ∨ ∃ t, rt = .array t) (hk : k ≤ rm.cells) (hj : j ≤ rm.slots) (d : decode cc pc = .ok (.areturn, 1)) (h : Q r μ) : G x nL pc ls [vr (gB x) r] μ k j := by
  obtain ⟨⟨p, e, R, s, m, args, below, meth, c⟩, Ω, Qf, μ0⟩ := x
  obtain ⟨h1, h2, h3⟩ := hr
  intro H locs la a1 a2 a3 a4
  have hR : R = rm := f.2.2.2.2.2.2
  subst hR
  dsimp only at h1 h2 h3 a1 a2 a3 ⊢
  rw [h3]
  refine W.widen hk hj ?_
  refine W.aret f.1 f.2.1 h1 hrt ?_ (fun t ht _ => ⟨_, μ, rfl, a2, ⟨r, rfl, h⟩, by rw [ht]; exact a1⟩) a3 d (hlocks := h2)
  cases r with
  | none => exact Or.inl rfl
  | some v => exact Or.inr ⟨_, rfl⟩
end R2
