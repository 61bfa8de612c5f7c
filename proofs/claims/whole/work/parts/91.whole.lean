/-! the start of the law, and the claim -/
theorem tl_1 {w : Cond} (h : w ∈ tables_1_1) : w ∈ lw_tbl := List.mem_append_right _ (List.mem_append_left _ h)
theorem tl_2 {w : Cond} (h : w ∈ tables_1_2) : w ∈ lw_tbl := List.mem_append_right _ (List.mem_append_right _ (List.mem_append_left _ h))
theorem tl_3 {w : Cond} (h : w ∈ tables_1_3) : w ∈ lw_tbl := List.mem_append_right _ (List.mem_append_right _ (List.mem_append_right _ (List.mem_append_left _ h)))
theorem tl_4 {w : Cond} (h : w ∈ tables_1_4) : w ∈ lw_tbl := List.mem_append_right _ (List.mem_append_right _ (List.mem_append_right _ (List.mem_append_right _ (List.mem_append_left _ h))))
theorem tl_5 {w : Cond} (h : w ∈ tables_1_5) : w ∈ lw_tbl := List.mem_append_right _ (List.mem_append_right _ (List.mem_append_right _ (List.mem_append_right _ (List.mem_append_right _ (List.mem_append_left _ h)))))
theorem tl_6 {w : Cond} (h : w ∈ tables_1_6) : w ∈ lw_tbl := List.mem_append_right _ (List.mem_append_right _ (List.mem_append_right _ (List.mem_append_right _ (List.mem_append_right _ (List.mem_append_right _ (List.mem_append_left _ h))))))
theorem tl_7 {w : Cond} (h : w ∈ tables_1_7) : w ∈ lw_tbl := List.mem_append_right _ (List.mem_append_right _ (List.mem_append_right _ (List.mem_append_right _ (List.mem_append_right _ (List.mem_append_right _ (List.mem_append_right _ (List.mem_append_left _ h)))))))
theorem tl_8 {w : Cond} (h : w ∈ tables_1_8) : w ∈ lw_tbl := List.mem_append_right _ (List.mem_append_right _ (List.mem_append_right _ (List.mem_append_right _ (List.mem_append_right _ (List.mem_append_right _ (List.mem_append_right _ (List.mem_append_right _ (h))))))))
theorem tb_l {w : Cond} (h : w ∈ TB) : w ∈ lw_tbl := (List.mem_filter.mp h).1
theorem nest_l : ∀ q ∈ nestL, Cond.methodLinkNest q.1 q.2.1 q.2.2.1 q.2.2.2 ∈ lw_tbl := by
  intro q hq
  unfold nestL at hq
  simp only [List.mem_cons, List.not_mem_nil, or_false] at hq
  rcases hq with e | e | e | e | e | e | e | e | e <;> subst e
  · exact tl_1 (List.mem_of_getElem? (i := 178) rfl)
  · exact tl_1 (List.mem_of_getElem? (i := 195) rfl)
  · exact tl_1 (List.mem_of_getElem? (i := 237) rfl)
  · exact tl_2 (List.mem_of_getElem? (i := 105) rfl)
  · exact tl_4 (List.mem_of_getElem? (i := 113) rfl)
  · exact tl_2 (List.mem_of_getElem? (i := 3) rfl)
  · exact tl_3 (List.mem_of_getElem? (i := 223) rfl)
  · exact tl_2 (List.mem_of_getElem? (i := 24) rfl)
  · exact tl_1 (List.mem_of_getElem? (i := 37) rfl)
def tmS (i : Nat) : Term := if i = 0 then .string RX8 69 else .string RX8 61
def ixS (i j : Nat) : Nat := if i = 0 then 37 + j else 160 + j
theorem elS : ∀ i, i < 2 → ∀ j, j < skL.getD i 0 → (flatC (Jvm.Cond.and given_1 narrow_1))[ixS i j]? = some (Cond.eq (.elem (.field (tmS i) "java/lang/String" "value" "[B") (.int (Int32.ofNat j))) (.int ((skB.getD i []).getD j 0))) := by decide +kernel
theorem m0S : ∀ i, i < 2 → (flatC (Jvm.Cond.and given_1 narrow_1))[if i = 0 then 33 else 156]? = some (Cond.exactly (tmS i) "java/lang/String") := by decide +kernel
theorem m1S : ∀ i, i < 2 → (flatC (Jvm.Cond.and given_1 narrow_1))[if i = 0 then 34 else 157]? = some (Cond.eq (.field (tmS i) "java/lang/String" "coder" "B") (.int 0)) := by decide +kernel
theorem m2S : ∀ i, i < 2 → (flatC (Jvm.Cond.and given_1 narrow_1))[if i = 0 then 35 else 158]? = some (Cond.arrayOf (.field (tmS i) "java/lang/String" "value" "[B") .byte) := by decide +kernel
theorem m3S : ∀ i, i < 2 → (flatC (Jvm.Cond.and given_1 narrow_1))[if i = 0 then 36 else 159]? = some (Cond.eq (.length (.field (tmS i) "java/lang/String" "value" "[B")) (.int (Int32.ofNat (skL.getD i 0)))) := by decide +kernel
theorem m4S : (flatC (Jvm.Cond.and given_1 narrow_1))[171]? = some (Cond.not (Cond.eq (tmS 0) (tmS 1))) := by decide +kernel
theorem m5S : (flatC (Jvm.Cond.and given_1 narrow_1))[4]? = some (Cond.eq (.static "java/lang/String" "COMPACT_STRINGS" "Z") (.int 1)) := by decide +kernel
theorem m6S : (flatC (Jvm.Cond.and given_1 narrow_1))[5]? = some (Cond.isRef (.static "jdk/internal/util/Preconditions" "SIOOBE_FORMATTER" "Ljava/util/function/BiFunction;")) := by decide +kernel
/-- an array's class, out of the tables -/
theorem arr_cl {A : Array Value} {s : State} {ty : FieldType} (h : (Cond.arrayClass ty).before A s = true) (hr : ∀ c : ClassId, s.vm.findClass ("[" ++ ty.toString) = some c → va_RA s c ty) : ∃ c : ClassId, ArrOfT s c ty ∧ va_RA s c ty := by
  obtain ⟨c, k, comp, h1, h2, h3⟩ := Cond.arrayClass_spec (args := A) (first := s) (o := none) (s := s) (idx := []) h
  exact ⟨c, fun n z => ⟨fun k h => (by cases h), k, h2, comp, h3⟩, hr c h1⟩
theorem arr_ov {A : Array Value} {s : State} {C : String} (h : (Cond.arrayOver (.object C)).before A s = true) : ∃ c : ClassId, ArrOfT s c (.object C) ∧ va_RA s c (.object C) := by
  obtain ⟨comp, c, k, h1, -, h2, h3, h4⟩ := Cond.arrayOver_spec (args := A) (first := s) (o := none) (s := s) (idx := []) h
  exact ⟨c, fun n z => ⟨fun k h => (by cases h), k, h2, comp, h3⟩, k, comp, h2, h3, h1, h4⟩
theorem kk_start {s : State} {A : Array Value} (l : Launch) (hts : ∀ w ∈ lw_tbl, w.before A s = true) (hgv : (Jvm.Cond.and given_1 narrow_1).before A s = true) : ∃ (D : va_G) (cy : Nat → ClassId) (sk : (Nat → Nat) × (Nat → Nat)), KK (l, D, cy, s.heap.size, s.heap, sk) s := by
  have hfl := flat_of_before _ hgv
  have hg : ∀ {w : Cond} (i : Nat), (flatC (Jvm.Cond.and given_1 narrow_1))[i]? = some w → w.before A s = true := fun i h => hfl _ (List.mem_of_getElem? h)
  have hA : ∀ a : Nat, a < s.heap.size → ¬ (fun q => s.heap.size ≤ q) a := fun a ha => Nat.not_le.mpr ha
  obtain ⟨c0, i0, n0⟩ := u_known (C := RX0) (T := TX0) (N := 6) (n := 6) hts (fun w hw => tb_l (kc0.2.2.1 w hw)) (hts _ (tb_l w_481))
  obtain ⟨c1, i1, n1⟩ := u_known (C := RX1) (T := TX1) (N := 3) (n := 3) hts (fun w hw => tb_l (kc1.2.2.1 w hw)) (hts _ (tb_l w_438))
  obtain ⟨c2, i2, n2⟩ := u_known (C := RX2) (T := TX2) (N := 6) (n := 6) hts (fun w hw => tb_l (kc2.2.2.1 w hw)) (hts _ (tb_l w_456))
  obtain ⟨c3, i3, n3⟩ := u_known (C := RX3) (T := TX3) (N := 9) (n := 9) hts (fun w hw => tb_l (kc3.2.2.1 w hw)) (hts _ (tb_l w_135))
  obtain ⟨c4, i4, n4⟩ := u_known (C := RX4) (T := TX4) (N := 12) (n := 12) hts (fun w hw => tb_l (kc4.2.2.1 w hw)) (hts _ (tb_l w_392))
  obtain ⟨c5, i5, n5⟩ := u_known (C := RX5) (T := TX5) (N := 8) (n := 8) hts (fun w hw => tb_l (kc5.2.2.1 w hw)) (hts _ (tb_l w_335))
  obtain ⟨c6, i6, n6⟩ := u_known (C := RX6) (T := TX6) (N := 2) (n := 2) hts (fun w hw => tb_l (kc6.2.2.1 w hw)) (hts _ (tb_l w_276))
  obtain ⟨c7, i7, n7⟩ := u_known (C := RX7) (T := TX7) (N := 9) (n := 9) hts (fun w hw => tb_l (kc7.2.2.1 w hw)) (hts _ (tb_l w_293))
  obtain ⟨c8, i8, n8⟩ := u_known (C := RX8) (T := TX8) (N := 4) (n := 4) hts (fun w hw => tb_l (kc8.2.2.1 w hw)) (hts _ (tb_l w_341))
  obtain ⟨c9, i9, n9⟩ := u_known (C := RX9) (T := TX9) (N := 18) (n := 18) hts (fun w hw => tb_l (kc9.2.2.1 w hw)) (hts _ (tb_l w_129))
  obtain ⟨c10, i10, n10⟩ := u_known (C := RX10) (T := TX10) (N := 12) (n := 12) hts (fun w hw => tb_l (kc10.2.2.1 w hw)) (hts _ (tb_l w_121))
  obtain ⟨c11, i11, n11⟩ := u_known (C := RX11) (T := TX11) (N := 31) (n := 31) hts (fun w hw => tb_l (kc11.2.2.1 w hw)) (hts _ (tb_l w_1365))
  obtain ⟨D, hD⟩ : ∃ D : va_G, ∀ (k : Nat) (q : vw_C), vwCl[k]? = some q → u_Kn s q.1 q.2.1 q.2.2 (D.1 k) (D.2 k) := by
    refine ⟨(fun k => if k = 0 then c0 else if k = 1 then c1 else if k = 2 then c2 else if k = 3 then c3 else if k = 4 then c4 else if k = 5 then c5 else if k = 6 then c6 else if k = 7 then c7 else if k = 8 then c8 else if k = 9 then c9 else if k = 10 then c10 else c11, fun k => if k = 0 then i0 else if k = 1 then i1 else if k = 2 then i2 else if k = 3 then i3 else if k = 4 then i4 else if k = 5 then i5 else if k = 6 then i6 else if k = 7 then i7 else if k = 8 then i8 else if k = 9 then i9 else if k = 10 then i10 else i11), ?_⟩
    intro k q hq
    match k, hq with
    | 0, hq => cases hq; exact n0
    | 1, hq => cases hq; exact n1
    | 2, hq => cases hq; exact n2
    | 3, hq => cases hq; exact n3
    | 4, hq => cases hq; exact n4
    | 5, hq => cases hq; exact n5
    | 6, hq => cases hq; exact n6
    | 7, hq => cases hq; exact n7
    | 8, hq => cases hq; exact n8
    | 9, hq => cases hq; exact n9
    | 10, hq => cases hq; exact n10
    | 11, hq => cases hq; exact n11
    | k + 12, hq => simp [vwCl] at hq
  obtain ⟨y2, a2, b2⟩ := arr_cl (ty := .int) (hts _ (tb_l w_187)) (fun c h => h)
  obtain ⟨y3, a3, b3⟩ := arr_cl (ty := .long) (hts _ (tb_l w_188)) (fun c h => h)
  obtain ⟨y4, a4, b4⟩ := arr_cl (ty := .boolean) (hts _ (tb_l w_1467)) (fun c h => h)
  have o3 := hts (Cond.arrayOver (.object RX3)) (tl_1 (List.mem_of_getElem? (i := 90) rfl))
  have o7 := hts (Cond.arrayOver (.object RX7)) (tl_1 (List.mem_of_getElem? (i := 193) rfl))
  obtain ⟨y5, a5, b5⟩ := arr_ov o3
  obtain ⟨y6, a6, b6⟩ := arr_ov o7
  obtain ⟨adK, adV, hS, hE⟩ := vk_Sof (args := A) (s := s) (N := 2) (tm := tmS) (len := skL) (byt := skB) (A := fun q => s.heap.size ≤ q) (by decide +kernel) (fun i hi => hg _ (m0S i hi)) (fun i hi => hg _ (m1S i hi)) (fun i hi => hg _ (m2S i hi)) (fun i hi => hg _ (m3S i hi)) (fun i hi j hj => hg _ (elS i hi j hj)) (fun i j hi hj hne => by
    have hc : (i = 0 ∧ j = 1) ∨ (i = 1 ∧ j = 0) := by omega
    rcases hc with ⟨e1, e2⟩ | ⟨e1, e2⟩ <;> subst e1 e2
    · exact Or.inl (hg _ m4S)
    · exact Or.inr (hg _ m4S)) hA
  refine ⟨D, fun k => if k = 12 then y2 else if k = 13 then y3 else if k = 14 then y4 else if k = 15 then y5 else y6, (adK, adV), ⟨hD, ?_⟩, va_AO.of o3, va_AO.of o7, fun q hq => va_Nw.of rfl (hts _ (nest_l q hq)), ⟨hS, vk_R.of (hts _ (tl_3 (List.mem_of_getElem? (i := 26) rfl))) (hE 0 (by omega)), vk_R.of (hts _ (tl_3 (List.mem_of_getElem? (i := 88) rfl))) (hE 1 (by omega)), va_Zof (hts _ (tl_3 (List.mem_of_getElem? (i := 36) rfl))) (hts _ (tl_1 (List.mem_of_getElem? (i := 13) rfl))) (va_eqt (hg _ m5S)) hA, va_Zqof (hts _ (tl_3 (List.mem_of_getElem? (i := 52) rfl))) (hts _ (tl_1 (List.mem_of_getElem? (i := 15) rfl))) (hg _ m6S) hA⟩, rfl⟩
  intro k q hq
  match k, hq with
  | 0, hq => cases hq; exact ⟨a2, b2⟩
  | 1, hq => cases hq; exact ⟨a3, b3⟩
  | 2, hq => cases hq; exact ⟨a4, b4⟩
  | 3, hq => cases hq; exact ⟨a5, b5⟩
  | 4, hq => cases hq; exact ⟨a6, b6⟩
  | k + 5, hq => simp [mtys] at hq
def mu0 : Me := (fun _ _ => 0, fun _ _ => 0, fun _ _ => none, fun _ => 0, fun _ => 0, 0)
theorem law_all {L : Nat} {xs : Nat → Int32} (hL : L ≤ 3072) {Q : Int32 → Me → Prop} : S_L_law L xs mu0 Q := by
  unfold S_L_law
  rintro _ rfl
  refine p_class (μ := mu0) rfl (fun ν nN zN aN => ?_)
  rintro _ rfl
  rw [nN]
  exact p_model nN zN aN (fun ρ hT => y_loop hL hT)
theorem whole_start {p : Program} {e : Env} {s : State} {m : MethodId} {below : List Frame} {meth : Method} {c : Code} (l : Launch) (hflags : l.flags = flags0) {b L : Nat} {xs : Nat → Int32} (hL : L ≤ 3072) (C0 : lw_At p s m meth c b L xs) : W p l e room_1 s m #[Value.ref b] below meth c s.heap [] 0 0 (lw_Z below #[Value.ref b] s) (entryFrame m ([Value.ref b] : List Value).toArray 4) := by
  obtain ⟨hx, hb, hr, hml, hown, hts, hX, hbl, hlocks, hgv⟩ := C0
  obtain ⟨D, cy, sk, hK⟩ := kk_start l hts hgv
  have hl := lv_entry ([.ref b]) (n := 4) (Nat.le_of_ble_eq_true rfl)
  rw [lg_entry_eq]
  have hG := t_L_law (x := ((p, e, room_1, s, m, #[Value.ref b], below, meth, c), (l, D, cy, s.heap.size, s.heap, sk), lw_Z below #[Value.ref b] s, mu0)) (b := b) (L := L) (xs := xs) (μ := mu0) (Q := fun _ _ => True) ⟨hx, hb, hml, hown, fun w hw => hts w (tb_l hw), hK, rfl⟩ ⟨hX, hbl, rfl, rfl, rfl, rfl, hr, hlocks⟩ (law_all hL)
  exact hG s.heap [] _ ⟨by show s.heap.size = s.heap.size + 0; omega, fun q hq => rfl, fun o ho => absurd ho (Nat.not_lt_zero o)⟩ (mex_rf mu0) (fun q hq => by cases hq) hl
set_option maxHeartbeats 4000000 in
theorem lw_walk (l : Launch) (hflags : l.flags = flags0) (b : Addr) (xs : List Int32) : MetFree l x (headSpec (Jvm.Cond.code x code maxLocals ret :: tables_1) room_1) (lw_P b xs) (fun _ _ _ _ _ => True) lw_Q := by
  refine MetFree.of_bodyS (code := code) (maxLocals := maxLocals) (ret := ret) (by decide) ?_ ?_
  · intro args s m h hn
    obtain ⟨meth, c, h1, h2, h3, h4, h5, h6, -, -⟩ := Cond.code_spec hn (atoms_spec (ws := Jvm.Cond.code x code maxLocals ret :: tables_1) h _ List.mem_cons_self)
    exact ⟨meth, c, h1, h2, h3, h4, h5, h6⟩
  · intro p e s m args below meth c s₁ B hml0 hP _
    obtain ⟨rfl, hx, hbd, hgv⟩ := hP
    obtain ⟨scr, harrAt, hlist, hof, hsmall⟩ := hx
    obtain ⟨hcb, hkn, -, -⟩ := State.arrayAt?_spec harrAt
    have hown : s.vm.findClass R_law = some m.cls := findClass_of_methodNamed B.named
    have hts0 : ∀ c ∈ (Jvm.Cond.code x code maxLocals ret :: tables_1), c.before #[Value.ref b] s = true := atoms_spec (ws := Jvm.Cond.code x code maxLocals ret :: tables_1) B.pre
    have hts : ∀ w ∈ lw_tbl, w.before #[Value.ref b] s = true := k2_hts_sels lw_privs (fun w hw => hts0 w (List.mem_cons_of_mem _ hw)) lw_privs_ok
    have hml : c.maxLocals = 4 := B.maxLocals_eq (hts0 _ List.mem_cons_self)
    have X₀ : Stand p l e room_1 s m #[Value.ref b] below meth c s₁ [] 0 0 := Stand.of_body B
    have hh0 : s₁.heap = s.heap := by rw [B.state]; rfl
    have hsz : scr.slots.size = xs.length := by rw [← Array.length_toList, hlist, List.length_map]
    have hval : ∀ j : Nat, j < xs.length → scr.slots[j]? = some (.int (xs.getD j 0)) := fun j hj => by
      rw [← Array.getElem?_toList, hlist]
      simp [hj]
    have hbl : b < s.heap.size := (Array.getElem?_eq_some_iff.mp hcb).1
    have hX : va_X b xs.length (fun j => xs.getD j 0) s s.heap := ⟨scr, hcb, hof, hkn, hsz, hval⟩
    have K : W p l e room_1 s m #[Value.ref b] below meth c s₁.heap [] 0 0 (lw_Z below #[Value.ref b] s) (entryFrame m ([Value.ref b] : List Value).toArray 4) := by
      rw [hh0]
      exact whole_start l hflags hbd ⟨B.exec, B.bytes, B.returns, hml, hown, hts, hX, hbl, B.notSynchronized, hgv⟩
    obtain ⟨t, a1, o, b1, b2, b3⟩ := K s₁ rfl X₀
    exact ⟨t, o, a1, b1, b2, b3⟩
theorem lw_pre_spec {args : Array Value} {s : State} (h : (Jvm.Cond.and given_1 narrow_1).before args s = true) (hr : rest_1_c.before args s = true) : ∃ (b : Addr) (xs : List Int32), lw_P b xs args s := by
  have hs := flat_of_before _ h
  have hq := flat_of_before _ hr
  have hc : (Cond.count 1).before args s = true := hs _ (by decide +kernel)
  have harr : (Cond.arrayOf (.arg 0) .int).before args s = true := hs _ (by decide +kernel)
  have hle : (Cond.le (.length (.arg 0)) (.int 3072)).before args s = true := hs _ (by decide +kernel)
  have hlen : (Cond.isInt (.length (.arg 0))).before args s = true := hq _ (by decide +kernel)
  have hall : (Cond.all (.arg 0) (.isInt (.elem (.arg 0) (.index 0)))).before args s = true := hq _ (by decide +kernel)
  obtain ⟨b, xs, hb, hx⟩ := State.ints_of_pre rfl harr hlen hall
  have hsm : xs.length < 2 ^ 31 := hx.choose_spec.2.2.2
  have hev : (Term.length (.arg 0)).eval args s none [] s = some (.int xs.length.toInt32) := hx.length_eval hb
  have hv := Cond.le_ints hev (show (Term.int 3072).eval args s none [] s = some (.int 3072) from rfl)
  have hd : xs.length.toInt32 ≤ 3072 := by
    simpa [Cond.before, Cond.holds, hv] using hle
  have hN : xs.length ≤ 3072 := (Int32.ofNat_le_ofNat hsm (by decide)).mp (show Int32.ofNat xs.length ≤ Int32.ofNat 3072 from hd)
  exact ⟨b, xs, Cond.one_arg hc (show args[0]? = some (.ref b) from hb), hx, hN, h⟩
theorem lw_comes (l : Launch) (hflags : l.flags = flags0) : Comes l x (Jvm.Cond.code x code maxLocals ret :: tables_1) room_1 (fun tb e args s => Calls_1 tb e args s ∧ rest_1 tb e args s ∧ Pre_1 tb e args s)
    (fun _ _ args s o t => lw_Q args s o t) := by
  intro p e ha hc hk s m args below hf hfit hheap happ hpre
  obtain ⟨b, xs, hP⟩ := lw_pre_spec hpre.2.2 hpre.2.1
  obtain ⟨k, o, h1, h2, h3, hQ⟩ := lw_walk l hflags b xs p e ha hc hk s m args below hf ((Spec.applies_iff_loose hf).mp happ).1 hP trivial
  exact ⟨k, o, h1, h2, h3, hQ⟩
theorem lw_frame {s t : State} {o : Outcome} {args : Array Value} (h : Framed s o t [] 600000 7302250) :
    Framed s o t (fieldLocs frame_1_writes args s ++ arrayLocs frame_1_arrays args s ++ staticLocs frame_1_statics s) 600000 7302250 := h
theorem lw_limb (L : Cond) (hL : ∀ (args : Array Value) (s t : State), L.after args s (.returned (some (.int 1))) t = true) :
    ArmFor flags0 classFile x code maxLocals ret World_1 tables_1 room_1 Calls_1 rest_1 Pre_1
      (fun tb e a s o t => postC L tb e a s o t ∧ Framed s o t (fieldLocs frame_1_writes a s ++ arrayLocs frame_1_arrays a s ++ staticLocs frame_1_statics s) 600000 7302250) := by
  intro l hflags _ _ p e ha hc hk s m args below hf hfit hheap happ hpre
  obtain ⟨k, o, h1, h2, h3, rfl, hF⟩ := lw_comes l hflags p e ha hc hk s m args below hf hfit hheap happ hpre
  exact ⟨k, _, h1, h2, h3, hL args s _, lw_frame hF⟩
theorem i_vc : Claimed_1_1 ∧ Claimed_1_2 := ⟨lw_limb limb_1_1 (fun args s t => by simp [limb_1_1, Cond.after, Cond.holds, Cond.value]), lw_limb limb_1_2 (fun args s t => Cond.after_iff.mpr (by
  first | (rw [show limb_1_2 = Cond.eq .result (.int 1) from rfl, Cond.eq_ints (x := 1) (y := 1) rfl rfl]; simp; done) | (simp [limb_1_2, Cond.value, Term.eval]; done)))⟩
