/-! the orders of n suits, in the order of their numbers to the base n -/
def swpN (row : Nat → Nat) (a b : Nat) : Nat → Nat := fun i => if i = b then row a else if i = a then row b else row i
def fUn (row : Nat → Nat) : Nat → Nat
  | 0 => 0
  | r + 1 => if row r < row (r + 1) then r + 1 else fUn row r
def fVn (row : Nat → Nat) (p : Nat) : Nat → Nat
  | 0 => 0
  | q + 1 => if q + 1 ≤ p then q + 1 else if row p < row (q + 1) then q + 1 else fVn row p q
def fRn : Nat → (Nat → Nat) → Nat → Nat → (Nat → Nat)
  | 0, row, _, _ => row
  | f + 1, row, a, b => if b ≤ a then row else fRn f (swpN row a b) (a + 1) (b - 1)
def nxr (n : Nat) (row : Nat → Nat) : Nat → Nat := fRn n (swpN row (fUn row (n - 1) - 1) (fVn row (fUn row (n - 1) - 1) (n - 1))) (fUn row (n - 1) - 1 + 1) (n - 1)
def dgt (n c i : Nat) : Nat := c / n ^ (n - 1 - i) % n
def cdn (n : Nat) (row : Nat → Nat) : Nat → Nat
  | 0 => 0
  | r + 1 => cdn n row r * n + row r
def nxt (n e : Nat) : Nat := if fUn (dgt n e) (n - 1) = 0 then n ^ n else cdn n (nxr n (dgt n e)) n
def mkN (n : Nat) : Nat → Nat → Nat → Bool
  | 0, _, M => Nat.beq M (2 ^ n - 1)
  | r + 1, c, M => mkN n r (c / n) (M ||| 2 ^ (c % n))
def okl (f g : Nat → Nat) : Nat → Bool
  | 0 => true
  | r + 1 => Nat.beq (f r) (g r) && okl f g r
def okn (n e : Nat) : Bool := if fUn (dgt n e) (n - 1) = 0 then true else Nat.blt (nxt n e) (n ^ n) && okl (dgt n (nxt n e)) (nxr n (dgt n e)) n
def chk (n : Nat) : Nat → Nat → Nat → Bool
  | 0, e, _ => Nat.beq e (n ^ n)
  | r + 1, e, k => if n ^ n - (r + 1) = e then mkN n n e 0 && (Nat.blt k 720 && (okn n e && chk n r (nxt n e) (k + 1))) else !mkN n n (n ^ n - (r + 1)) 0 && chk n r e k
def idc (n : Nat) : Nat := cdn n (fun i => i) n
theorem chk0 : chk 0 (0 ^ 0) (idc 0) 0 = true := by decide +kernel
theorem chk1 : chk 1 (1 ^ 1) (idc 1) 0 = true := by decide +kernel
theorem chk2 : chk 2 (2 ^ 2) (idc 2) 0 = true := by decide +kernel
theorem chk3 : chk 3 (3 ^ 3) (idc 3) 0 = true := by decide +kernel
theorem chk4 : chk 4 (4 ^ 4) (idc 4) 0 = true := by decide +kernel
theorem chk5 : chk 5 (5 ^ 5) (idc 5) 0 = true := by decide +kernel
theorem chk6 : chk 6 (6 ^ 6) (idc 6) 0 = true := by decide +kernel
