/-! the rows in order -/
def lexL : Nat → List Nat → Nat → List Nat
  | 0, _, _ => []
  | f + 1, l, k => l.getD (k / fac f) 0 :: lexL f (l.erase (l.getD (k / fac f) 0)) (k % fac f)
def lx (n k : Nat) : Nat → Nat := fun i => (lexL n (List.range n) k).getD i 0
def ckA (n c k : Nat) : Bool := if k % fac (n - c) = 0 then
    (nxr n c (lx n k)).2 == decide (k + fac (n - c) < fac n) && (if k + fac (n - c) < fac n then (List.range n).all fun i => (nxr n c (lx n k)).1 i == lx n (k + fac (n - c)) i else true)
  else true
def ckB (n c k : Nat) : Bool := (lexL n (List.range n) k).take c == (lexL n (List.range n) (k / fac (n - c) * fac (n - c))).take c
def ckC (n k : Nat) : Bool := (List.range n).all fun i => decide (lx n k i < n) && (List.range n).all fun j => i == j || !(lx n k i == lx n k j)
def ckX (n : Nat) : Bool := (List.range (n + 1)).all fun c => (List.range (fac n)).all fun k => ckA n c k && ckB n c k
def ckY (n : Nat) : Bool := (List.range (fac n)).all fun k => ckC n k
theorem ckX1 : ckX 1 = true := by decide +kernel
theorem ckX2 : ckX 2 = true := by decide +kernel
theorem ckX3 : ckX 3 = true := by decide +kernel
theorem ckX4 : ckX 4 = true := by decide +kernel
theorem ckX5 : ckX 5 = true := by decide +kernel
theorem ckX6 : ckX 6 = true := by decide +kernel
theorem ckY1 : ckY 1 = true := by decide +kernel
theorem ckY2 : ckY 2 = true := by decide +kernel
theorem ckY3 : ckY 3 = true := by decide +kernel
theorem ckY4 : ckY 4 = true := by decide +kernel
theorem ckY5 : ckY 5 = true := by decide +kernel
theorem ckY6 : ckY 6 = true := by decide +kernel
