/-! what both objects hold, told once: D; the class holds it (X..), the model holds it (M..) -/
abbrev TPt : Type := Nat × (Nat → Nat)
abbrev TBt : Type := Nat × (Nat → Int64) × (Nat → Nat) × (Nat → Nat → Int64) × (Nat → Nat → Nat)
abbrev RWt : Type := Nat × (Nat → Nat) × (Nat → Nat → Int64)
abbrev TQt : Type := Nat × (Nat → Nat) × (Nat → Int64)
abbrev LTt : Type := Nat × (Nat → Nat)
/-- a sign that may stand on the tape -/
def okS (c : Nat) : Prop := c = 10 ∨ (32 ≤ c ∧ c ≤ 126)
theorem okS_dec (c : Nat) : okS c ∨ ¬ okS c := by unfold okS; omega
/-- the tape -/
def XTp (G : St) (T : TPt) : Prop := sI G 2 2 = nI T.1 ∧ T.1 ≤ 1000 ∧ ∀ j, j < T.1 → sI G 3 j = nI (T.2 j) ∧ okS (T.2 j)
def MTp (G : St) (T : TPt) : Prop := sI G 66 2 = nI T.1 ∧ T.1 ≤ 1000 ∧ ∀ j, j < T.1 → sI G 67 j = nI (T.2 j) ∧ okS (T.2 j)
/-- kinds of columns: 0 to 4 a key, 5 text, 6 number -/
def kdX (k : Nat) : Int32 := if k = 5 then -1 else if k = 6 then -2 else nI k
/-- the tables, at a House -/
def XTb (G : St) (h : Nat) (b : TBt) : Prop := sI G h 9 = nI b.1 ∧ b.1 ≤ 5 ∧ ∀ t, t < b.1 → sL G (h + 1) t = b.2.1 t ∧ sI G (h + 2) t = nI (b.2.2.1 t) ∧ b.2.2.1 t ≤ 4 ∧ ∀ c, c < b.2.2.1 t → sL G (h + 3) (4 * t + c) = b.2.2.2.1 t c ∧ sI G (h + 4) (4 * t + c) = kdX (b.2.2.2.2 t c)
/-- the tables, in the model's part q (0 told, 1 the draft) -/
def MTb (G : St) (q : Nat) (b : TBt) : Prop := sI G 72 q = nI b.1 ∧ b.1 ≤ 5 ∧ ∀ t, t < b.1 → sL G 73 (5 * q + t) = b.2.1 t ∧ sI G 74 (5 * q + t) = nI (b.2.2.1 t) ∧ b.2.2.1 t ≤ 4 ∧ ∀ c, c < b.2.2.1 t → sL G 75 (20 * q + 4 * t + c) = b.2.2.2.1 t c ∧ sI G 76 (20 * q + 4 * t + c) = nI (b.2.2.2.2 t c)
/-- how many rows ahead of r are of table t -/
def nOf (rt : Nat → Nat) (t : Nat) : Nat → Nat
  | 0 => 0
  | r + 1 => nOf rt t r + if rt r = t then 1 else 0
/-- the rows, at a House -/
def XRw (G : St) (h : Nat) (b : TBt) (w : RWt) : Prop := sI G h 10 = nI w.1 ∧ w.1 ≤ 30 ∧ (∀ r, r < w.1 → w.2.1 r < b.1 ∧ sI G (h + 5) r = nI (w.2.1 r) ∧ sI G (h + 6) r = nI (nOf w.2.1 (w.2.1 r) r) ∧ ∀ c, c < b.2.2.1 (w.2.1 r) → sL G (h + 8) (4 * r + c) = w.2.2 r c) ∧ ∀ t, t < 5 → sI G (h + 7) t = nI (nOf w.2.1 t w.1)
def MRw (G : St) (b : TBt) (w : RWt) : Prop := sI G 66 16 = nI w.1 ∧ w.1 ≤ 30 ∧ ∀ r, r < w.1 → w.2.1 r < b.1 ∧ sI G 77 r = nI (w.2.1 r) ∧ ∀ c, c < b.2.2.1 (w.2.1 r) → sL G 78 (4 * r + c) = w.2.2 r c
/-- hidden rows: person, row -/
def XHd (G : St) (h : Nat) (n : Nat) (d : Nat → Nat → Bool) : Prop := (∀ p, p < 4 → ∃ k, k < 2 ^ 30 ∧ sI G (h + 9) p = nI k ∧ ∀ r, k.testBit r = d p r) ∧ ∀ p r, n ≤ r → d p r = false
def MHd (G : St) (n : Nat) (d : Nat → Nat → Bool) : Prop := (∀ p r, p < 4 → r < 30 → sI G 83 (30 * p + r) = if d p r then 1 else 0) ∧ ∀ p r, n ≤ r → d p r = false
/-- terms, at a Terms -/
def XTq (G : St) (t : Nat) (q : TQt) : Prop := sI G t 2 = nI q.1 ∧ q.1 ≤ 4 ∧ ∀ k, k < q.1 → sI G (t + 1) k = nI (q.2.1 k) ∧ q.2.1 k ≤ 3 ∧ sL G (t + 2) k = q.2.2 k
def MTq (G : St) (q : TQt) : Prop := sI G 66 20 = nI q.1 ∧ q.1 ≤ 4 ∧ ∀ k, k < q.1 → sI G 79 k = nI (q.2.1 k) ∧ q.2.1 k ≤ 3 ∧ sL G 80 k = q.2.2 k
/-- ties that are let -/
def XLt (G : St) (l : LTt) : Prop := sI G 14 4 = nI l.1 ∧ l.1 ≤ 20 ∧ ∀ k, k < l.1 → sI G 16 k = nI (l.2 k) ∧ l.2 k < 400
def MLt (G : St) (l : LTt) : Prop := sI G 66 29 = nI l.1 ∧ l.1 ≤ 20 ∧ ∀ k, k < l.1 → sI G 84 k = nI (l.2 k) ∧ l.2 k < 400
