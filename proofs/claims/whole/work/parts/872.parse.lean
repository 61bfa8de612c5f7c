/-! a law's sum, read once for both sides: what it says, what each side writes down -/
abbrev Cd : Type := List (Nat × Nat)
abbrev Rs : Type := Nat × Nat × Cd × (Nat → Cd) × ((Nat → Nat) → (Nat → Bool) → Int)
def LiP (P : Nat → Nat × Nat → Prop) : Nat → Cd → Prop
  | _, [] => True
  | p, x :: c => P p x ∧ LiP P (p + 1) c
theorem LiP_app {P : Nat → Nat × Nat → Prop} : ∀ (c d : Cd) (p : Nat), LiP P p (c ++ d) ↔ LiP P p c ∧ LiP P (p + c.length) d
  | [], d, p => by
    show LiP P p d ↔ True ∧ LiP P (p + 0) d
    rw [Nat.add_zero]
    exact ⟨fun h => ⟨trivial, h⟩, fun h => h.2⟩
  | x :: c, d, p => by
    show P p x ∧ LiP P (p + 1) (c ++ d) ↔ (P p x ∧ LiP P (p + 1) c) ∧ LiP P (p + (c.length + 1)) d
    rw [LiP_app c d (p + 1), show p + 1 + c.length = p + (c.length + 1) by omega]
    exact ⟨fun h => ⟨⟨h.1, h.2.1⟩, h.2.2⟩, fun h => ⟨h.1.1, h.1.2, h.2⟩⟩
theorem LiP_m {P P' : Nat → Nat × Nat → Prop} : ∀ (c : Cd) (p : Nat), LiP P p c → (∀ k x, p ≤ k → k < p + c.length → P k x → P' k x) → LiP P' p c
  | [], _, _, _ => trivial
  | x :: c, p, h, k => ⟨k p x (Nat.le_refl _) (by simp) h.1, LiP_m c (p + 1) h.2 (fun q y h1 h2 h3 => k q y (by omega) (by simp; omega) h3)⟩
theorem LiP_1 {P : Nat → Nat × Nat → Prop} {p : Nat} {x : Nat × Nat} : LiP P p [x] ↔ P p x := ⟨fun h => h.1, fun h => ⟨h, trivial⟩⟩
def OA (O A : Nat → Nat) (k : Nat) (x : Nat × Nat) : Prop := O k = x.1 ∧ A k = x.2
/-! the reference's list of steps -/
def rlM (e : Nat → Nat) (R : Nat → Bool) : Cd → StM → Option StM
  | [], st => some st
  | x :: c, st => match stM e R x.1 x.2 st with
    | none => none
    | some st' => rlM e R c st'
theorem rlM_1 {e : Nat → Nat} {R : Nat → Bool} {x : Nat × Nat} {c : Cd} {st st' : StM} (h : stM e R x.1 x.2 st = some st') : rlM e R (x :: c) st = rlM e R c st' := by
  show (match stM e R x.1 x.2 st with
    | none => none
    | some st' => rlM e R c st') = _
  rw [h]
theorem rlM_app {e : Nat → Nat} {R : Nat → Bool} : ∀ (c d : Cd) (st st' : StM), rlM e R c st = some st' → rlM e R (c ++ d) st = rlM e R d st'
  | [], d, st, st', h => by
    cases h
    rfl
  | x :: c, d, st, st', h => by
    cases hs : stM e R x.1 x.2 st with
    | none =>
      have h2 : (match stM e R x.1 x.2 st with
        | none => none
        | some st' => rlM e R c st') = some st' := h
      rw [hs] at h2
      cases h2
    | some s1 =>
      rw [rlM_1 hs] at h
      rw [List.cons_append, rlM_1 hs]
      exact rlM_app c d s1 st' h
theorem rnM_li {O A : Nat → Nat} {e : Nat → Nat} {R : Nat → Bool} : ∀ (c : Cd) (p : Nat) (st : StM), LiP (OA O A) p c → rnM O A e R c.length p st = rlM e R c st
  | [], _, _, _ => rfl
  | x :: c, p, st, h => by
    obtain ⟨⟨h1, h2⟩, h3⟩ := h
    show (match stM e R (O p) (A p) st with
      | none => none
      | some st' => rnM O A e R c.length (p + 1) st') = (match stM e R x.1 x.2 st with
      | none => none
      | some st' => rlM e R c st')
    rw [h1, h2]
    cases stM e R x.1 x.2 st with
    | none => rfl
    | some s1 => exact rnM_li c (p + 1) s1 h3
/-- a segment of the reference: t = 0 lays a value, t = 1 a truth -/
def SgX (t : Nat) (c : Cd) (d : (Nat → Nat) → (Nat → Bool) → Int) : Prop := ∀ (e : Nat → Nat) (R : Nat → Bool) (n u : Nat) (V : Nat → Int) (W : Nat → Bool), n + c.length ≤ 330 → u + c.length ≤ 330 → ∃ V' W', rlM e R c (n, u, V, W) = some (n + (1 - t), u + t, V', W') ∧ (∀ i, i < n → V' i = V i) ∧ (∀ i, i < u → W' i = W i) ∧ (t = 0 → V' n = d e R) ∧ (t = 1 → W' u = decide (d e R = 1))
/-- a segment of the class -/
def SgC (p : Nat) (c : Cd) (d : (Nat → Nat) → (Nat → Bool) → Int) : Prop := ∀ O A : Nat → Nat, LiP (OA O A) p c → ∀ (e : Nat → Nat) (R : Nat → Bool) (h : Nat) (w : Nat → Int), h + c.length ≤ 300 → p + c.length ≤ 300 → ∃ k w', rnC O A e R (p + c.length) k (p, h, w) = some (p + c.length, h + 1, w') ∧ (∀ i, i < h → w' i = w i) ∧ w' h = d e R
def opM (k : Nat) : Nat := if k = 22 then 22 else if k = 23 then 23 else if k = 24 then 21 else if k < 34 then k - 24 else cmI k
def bdI (k : Nat) (x y : Int) : Int := if k < 25 then bN (jnI k (decide (x = 1)) (decide (y = 1))) else if k < 34 then twoI (k - 24) x y else bN (askI (cmI k) x y)
def uoM (k : Nat) : Nat := if k = 17 then 2 else if k = 31 then 5 else 20
def uoC (k : Nat) : Nat := if k = 31 then 60 else k
def udI (k : Nat) (R : Nat → Bool) (x : Int) : Int := if k = 17 then ringI R x else if k = 31 then -x else if x = 0 then 1 else 0
def pF (f j : Nat) : Rs := (f, j, [], fun _ => [], fun _ _ => 0)
def pB (k : Nat) (a b : Rs) : Rs := (b.1, b.2.1, a.2.2.1 ++ b.2.2.1 ++ [(opM k, 0)], fun p => a.2.2.2.1 p ++ b.2.2.2.1 (p + (a.2.2.2.1 p).length) ++ [(k, 0)], fun e R => bdI k (a.2.2.2.2 e R) (b.2.2.2.2 e R))
def pU (k : Nat) (a : Rs) : Rs := (a.1, a.2.1, a.2.2.1 ++ [(uoM k, 0)], fun p => a.2.2.2.1 p ++ [(uoC k, 0)], fun e R => udI k R (a.2.2.2.2 e R))
/-- where the class goes on behind THEN, and behind ELSE -/
def iT (p : Nat) (a b : Rs) : Nat := p + (a.2.2.2.1 p).length + 1 + (b.2.2.2.1 (p + (a.2.2.2.1 p).length + 1)).length + 1
def iE (p : Nat) (a b c : Rs) : Nat := iT p a b + (c.2.2.2.1 (iT p a b)).length
def iC (p : Nat) (a b c : Rs) : Cd := a.2.2.2.1 p ++ [(19, iT p a b)] ++ b.2.2.2.1 (p + (a.2.2.2.1 p).length + 1) ++ [(20, iE p a b c)] ++ c.2.2.2.1 (iT p a b)
def pI (a b c : Rs) : Rs := (0, c.2.1 + 1, a.2.2.1 ++ b.2.2.1 ++ c.2.2.1 ++ [(3, 0)], fun p => iC p a b c, fun e R => if a.2.2.2.2 e R = 0 then c.2.2.2.2 e R else b.2.2.2.2 e R)
def pL (kd : Nat → Nat) (f : Nat → Rs) (g : Nat → Bool) : Nat → Rs → Rs
  | 0, r => r
  | m + 1, r => if r.1 = 0 ∧ g (kd r.2.1) = true then pL kd f g m (pB (kd r.2.1) r (f (r.2.1 + 1))) else r
def g0 (k : Nat) : Bool := decide (k = 30 ∨ k = 31)
def g1 (k : Nat) : Bool := decide (k = 32 ∨ k = 33)
def g4 (k : Nat) : Bool := decide (k = 22 ∨ k = 23)
def g5 (k : Nat) : Bool := decide (k = 24)
def pNm (kd nm : Nat → Nat) (law j : Nat) : Rs :=
  if kd j = 50 then (if nm j ≤ 9999 then (0, j + 1, [(0, nm j)], fun _ => [(50, nm j)], fun _ _ => (nm j : Int)) else pF 2 j)
  else if 6 ≤ kd j ∧ kd j < 16 then (if (kd j = 13 ∧ law ≠ 0) ∨ ((kd j = 14 ∨ kd j = 15) ∧ law ≠ 1) then pF 5 j else (0, j + 1, [(1, nmI (kd j))], fun _ => [(kd j, 0)], fun e _ => (e (nmI (kd j)) : Int)))
  else pF 1 j
def pOne (kd nm : Nat → Nat) (law : Nat) (r : Nat → Nat → Nat → Rs) (o j : Nat) : Rs :=
  if kd j = 17 ∨ kd j = 31 then (if o < 8 then pU (kd j) (r 2 (o + 1) (j + 1)) else pF 3 j)
  else if kd j = 18 then (if o < 8 then r 3 (o + 1) (j + 1) else pF 3 j)
  else if kd j = 34 then (if o < 8 then (if (r 0 (o + 1) (j + 1)).1 = 0 then (if kd (r 0 (o + 1) (j + 1)).2.1 = 35 then (0, (r 0 (o + 1) (j + 1)).2.1 + 1, (r 0 (o + 1) (j + 1)).2.2) else pF 1 (r 0 (o + 1) (j + 1)).2.1) else r 0 (o + 1) (j + 1)) else pF 3 j)
  else pNm kd nm law j
def pAcc (kd : Nat → Nat) (k : Nat) (a : Rs) (f : Rs → Rs) : Rs := if a.1 = 0 then (if kd a.2.1 = k then f a else pF 1 a.2.1) else a
def pCh (kd : Nat → Nat) (r : Nat → Nat → Nat → Rs) (o j : Nat) : Rs :=
  pAcc kd 19 (r 4 o j) (fun a => pAcc kd 20 (r 0 o (a.2.1 + 1)) (fun b => pAcc kd 21 (r 0 o (b.2.1 + 1)) (fun c => pI a b c)))
def pAsk (kd : Nat → Nat) (r : Nat → Nat → Nat → Rs) (o j : Nat) : Rs :=
  if kd j = 25 then (if o < 8 then pU 25 (r 6 (o + 1) (j + 1)) else pF 3 j)
  else if (r 0 o j).1 = 0 then (if 37 ≤ kd (r 0 o j).2.1 ∧ kd (r 0 o j).2.1 ≤ 42 then pB (kd (r 0 o j).2.1) (r 0 o j) (r 0 o ((r 0 o j).2.1 + 1)) else pF 1 (r 0 o j).2.1) else r 0 o j
def pR (kd nm : Nat → Nat) (law : Nat) : Nat → Nat → Nat → Nat → Rs
  | 0, _, _, j => pF 9 j
  | d + 1, md, o, j =>
    if md = 0 then pL kd (pR kd nm law d 1 o) g0 300 (pR kd nm law d 1 o j)
    else if md = 1 then pL kd (pR kd nm law d 2 o) g1 300 (pR kd nm law d 2 o j)
    else if md = 2 then pOne kd nm law (pR kd nm law d) o j
    else if md = 3 then pCh kd (pR kd nm law d) o j
    else if md = 4 then pL kd (pR kd nm law d 5 o) g4 300 (pR kd nm law d 5 o j)
    else if md = 5 then pL kd (pR kd nm law d 6 o) g5 300 (pR kd nm law d 6 o j)
    else pAsk kd (pR kd nm law d) o j
