/-! THE WORDS OF THE PURE HALF: the abstract row s (numbers of the reference's row a), laws as functions, who runs and who is late, and how both sides hold them -/
/-- what a law says, of the ten named numbers and of whom it rings for -/
abbrev Den : Type := (Nat → Nat) → (Nat → Bool) → Int
/-- the ten numbers: day weather who road walk run due heard fast jam -/
def envS (s : Nat → Nat) (p hd fa jm : Nat) : Nat → Nat := fun k => match k with
  | 0 => s 6
  | 1 => s 8
  | 2 => p
  | 3 => s (14 + 7 * p)
  | 4 => s (15 + 7 * p)
  | 5 => s (16 + 7 * p)
  | 6 => s (11 + 7 * p)
  | 7 => hd
  | 8 => fa
  | _ => jm
/-- for how many it rings that p hears -/
def heardS (s : Nat → Nat) (rg p : Nat) : Nat := pcn (rg &&& s (67 + p))
/-- would p run (D: the laws, 0 runs, 1 takes) -/
def runS (s : Nat → Nat) (D : Nat → Option Den) (rg p : Nat) : Bool := s (12 + 7 * p) == 0 && match D 0 with
  | none => decide (0 < heardS s rg p)
  | some f => decide (0 < f (envS s p (heardS s rg p) 0 0) rg.testBit)
def runnersS (s : Nat → Nat) (D : Nat → Option Den) (rg : Nat) : Nat := setS (runS s D rg) (s 0)
/-- how many others on its road run -/
def jamS (s : Nat → Nat) (run p : Nat) : Nat → Nat
  | 0 => 0
  | q + 1 => jamS s run p q + (if q ≠ p ∧ run.testBit q = true ∧ s (14 + 7 * q) = s (14 + 7 * p) then 1 else 0)
def cutS (v : Int) (top : Nat) : Nat := if v < 0 then 0 else if (top : Int) < v then top else v.toNat
def takesS (s : Nat → Nat) (D : Nat → Option Den) (rg p fa jm : Nat) : Nat := match D 1 with
  | none => (if fa = 1 then s (16 + 7 * p) else s (15 + 7 * p)) + jm / 2
  | some f => cutS (f (envS s p 0 fa jm) rg.testBit) 999
def bitS (n p : Nat) : Nat := if n.testBit p then 1 else 0
def takesR (s : Nat → Nat) (D : Nat → Option Den) (rg run p : Nat) : Nat := takesS s D rg p (bitS run p) (jamS s run p (s 0))
def lateS (s : Nat → Nat) (D : Nat → Option Den) (rg : Nat) : Nat := setS (fun p => s (12 + 7 * p) == 0 && decide (s (11 + 7 * p) < takesR s D rg (runnersS s D rg) p)) (s 0)
/-- bounds of the row -/
def WF (s : Nat → Nat) : Prop := (∀ k, s k < 2147483648) ∧ (s 0 ≤ 8 ∧ s 1 ≤ 4 ∧ s 2 ≤ s 1 ∧ s 3 ≤ 30 ∧ s 4 ≤ 8 ∧ s 5 ≤ 8 ∧ s 6 ≤ 9999 ∧ s 7 < 2 ^ s 0 ∧ s 8 ≤ 9 ∧ s 9 < 30643 ∧ s 10 ≤ 30) ∧
  (∀ p, p < s 0 → s (11 + 7 * p) ≤ 99 ∧ s (12 + 7 * p) ≤ 1 ∧ s (13 + 7 * p) ≤ s 6 ∧ s (14 + 7 * p) ≤ 3 ∧ (1 ≤ s (15 + 7 * p) ∧ s (15 + 7 * p) ≤ 99) ∧ (1 ≤ s (16 + 7 * p) ∧ s (16 + 7 * p) ≤ 99) ∧ s (17 + 7 * p) ≤ 99) ∧
  (∀ p, p < 8 → s (67 + p) < 256) ∧ (∀ i, i < s 4 → s (75 + 2 * i) < s 0 ∧ s (76 + 2 * i) ≤ 1) ∧ (∀ i, i < s 5 → s (91 + 2 * i) < s 0 ∧ s (92 + 2 * i) ≤ 999) ∧
  (∀ i, i < s 10 → s (2807 + 2 * i) / 16 ≤ 9999 ∧ s (2807 + 2 * i) % 16 ≤ 9 ∧ s (2808 + 2 * i) < 65536) ∧
  (∀ i, i < s 3 → s (107 + 90 * i) ≤ s 0 ∧ s (108 + 90 * i) ≤ 9999 ∧ s (109 + 90 * i) < 2 ^ s (107 + 90 * i) ∧ s (110 + 90 * i) ≤ 9 ∧ s (111 + 90 * i) < 30643 ∧ s (112 + 90 * i) ≤ 30 ∧
    (∀ p, p < s (107 + 90 * i) → s (113 + 90 * i + 3 * p) ≤ 99 ∧ s (114 + 90 * i + 3 * p) ≤ 1 ∧ s (115 + 90 * i + 3 * p) ≤ s (108 + 90 * i)) ∧
    (∀ q, q < s (112 + 90 * i) → s (137 + 90 * i + 2 * q) / 16 ≤ 9999 ∧ s (137 + 90 * i + 2 * q) % 16 ≤ 9 ∧ s (138 + 90 * i + 2 * q) < 65536))
/-- the reference's row at an array holds s -/
def RowA (μ : Me) (o : Nat) (s : Nat → Nat) : Prop := (∀ k, k < 2867 → k ≠ 2 → mgi μ o k = nI (s k)) ∧ mgi μ o 2 = nI (s 2) - 1
/-- a page of the class's book -/
def pageL (a b : Nat) : Int64 := lN (a / 16 + b / 256 * 65536 + b % 256 * 4294967296 + a % 16 * 281474976710656)
/-- a moment of the class -/
def MomR (μ : Me) (m n dy rg we xx pg : Nat) (due bed late b1 b2 : Nat → Nat) : Prop := mgi μ m 0 = nI rg ∧ mgi μ m 1 = nI (setS (fun p => bed p == 1) n) ∧ mgi μ m 2 = nI we ∧ mgi μ m 3 = nI dy ∧ mgi μ m 4 = nI xx ∧ mgi μ m 8 = nI pg ∧ (∀ p, p < n → mgi μ (m + 1) p = nI (due p)) ∧ (∀ p, p < 8 → mgi μ (m + 2) p = nI (if p < n then late p else 0)) ∧ (∀ i, i < pg → mgl μ (m + 3) i = pageL (b1 i) (b2 i))
/-- the moment now, the moment ahead of the i-th step -/
def NowR (μ : Me) (m : Nat) (s : Nat → Nat) : Prop := MomR μ m (s 0) (s 6) (s 7) (s 8) (s 9) (s 10) (fun p => s (11 + 7 * p)) (fun p => s (12 + 7 * p)) (fun p => s (13 + 7 * p)) (fun i => s (2807 + 2 * i)) (fun i => s (2808 + 2 * i))
def StepR (μ : Me) (m : Nat) (s : Nat → Nat) (i : Nat) : Prop := MomR μ m (s 0) (s (108 + 90 * i)) (s (109 + 90 * i)) (s (110 + 90 * i)) (s (111 + 90 * i)) (s (112 + 90 * i)) (fun p => if p < s (107 + 90 * i) then s (113 + 90 * i + 3 * p) else s (17 + 7 * p)) (fun p => if p < s (107 + 90 * i) then s (114 + 90 * i + 3 * p) else 0) (fun p => if p < s (107 + 90 * i) then s (115 + 90 * i + 3 * p) else 0) (fun q => s (137 + 90 * i + 2 * q)) (fun q => s (138 + 90 * i + 2 * q))
/-- what the class's town at t tells, moments aside -/
def ToldR (μ : Me) (t : Nat) (s : Nat → Nat) : Prop := mgi μ t 0 = nI (s 0) ∧ mgi μ t 6 = nI (s 1) ∧ mgi μ t 7 = nI (s 2) - 1 ∧ mgi μ t 17 = nI (s 3) ∧ mgi μ t 8 = nI (s 4) ∧ mgi μ t 11 = nI (s 5) ∧
  (∀ p, p < s 0 → mgi μ (t + 1) p = nI (s (14 + 7 * p)) ∧ mgi μ (t + 3) p = nI (s (15 + 7 * p)) ∧ mgi μ (t + 4) p = nI (s (16 + 7 * p))) ∧
  (∀ r, r < 4 → mgi μ (t + 2) r = nI (setS (fun p => s (14 + 7 * p) == r) (s 0))) ∧ (∀ p, p < 8 → mgi μ (t + 5) p = nI (s (67 + p))) ∧
  (∀ i, i < s 4 → mgi μ (t + 6) i = nI (s (75 + 2 * i)) ∧ mgi μ (t + 7) i = nI (s (76 + 2 * i))) ∧ (∀ i, i < s 5 → mgi μ (t + 8) i = nI (s (91 + 2 * i)) ∧ mgi μ (t + 9) i = nI (s (92 + 2 * i)))
def PastR (μ : Me) (t : Nat) (s : Nat → Nat) : Prop := ∃ el, el < 30 ∧ mgi μ t 16 = nI el ∧ ∀ i, i < s 3 → StepR μ (t + 15 + 4 * ((el + i) % 30)) s i
def TownR (μ : Me) (t : Nat) (s : Nat → Nat) : Prop := ToldR μ t s ∧ NowR μ (t + 10) s ∧ PastR μ t s
