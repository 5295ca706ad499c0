-- ORDERS: all orders of some parts, the least first, and how one comes from the last
def pml (rec : Nat → List (List Nat)) (m : Nat) : Nat → List (List Nat)
  | 0 => []
  | n + 1 => pml rec m n ++ (if m.testBit n then (rec (cm m (2 ^ n))).map (fun l => n :: l) else [])
def pmt : Nat → Nat → List (List Nat)
  | 0, _ => [[]]
  | f + 1, m => if m = 0 then [[]] else pml (pmt f) m 6
def srk (m : Nat) : Nat → List Nat
  | 0 => []
  | k + 1 => if m.testBit k then srk m k ++ [k] else srk m k
def rwf (l : List Nat) (j : Nat) : Nat := l.getD j 0
def np1 (r : Nat → Nat) : Nat → Nat
  | 0 => 0
  | m + 1 => if r m ≤ r (m + 1) then m + 1 else np1 r m
def np2 (r : Nat → Nat) (k : Nat) : Nat → Nat
  | 0 => 0
  | i + 1 => if r k ≤ r (i + 1) then i + 1 else np2 r k i
def swp (r : Nat → Nat) (a b : Nat) : Nat → Nat := fun j => if j = b then r a else if j = a then r b else r j
def np3 : Nat → (Nat → Nat) → Nat → Nat → Nat → Nat
  | 0, r, _, _ => r
  | f + 1, r, a, b => if b ≤ a then r else np3 f (swp r a b) (a + 1) (b - 1)
/-- the next row of numbers -/
def npF (n : Nat) (r : Nat → Nat) : Option (Nat → Nat) := if n = 0 then none else match np1 r (n - 1) with
  | 0 => none
  | k + 1 => some (np3 6 (swp r k (np2 r k (n - 1))) (k + 1) (n - 1))
def stB (n : Nat) (p q : List Nat) : Bool := match npF n (rwf p) with
  | some r => (List.range n).all (fun j => r j == rwf q j)
  | none => false
def chB (n : Nat) : List (List Nat) → Bool
  | [] => false
  | [p] => match npF n (rwf p) with
    | some _ => false
    | none => true
  | p :: q :: t => stB n p q && chB n (q :: t)
def ndB : List Nat → Bool
  | [] => true
  | k :: t => t.all (fun j => j != k) && ndB t
def okB (m n : Nat) (l : List Nat) : Bool := l.length == n && (l.all (fun k => m.testBit k) && ndB l)
def allB (m : Nat) : Bool := chB (srk m 6).length (pmt 6 m) && ((pmt 6 m).headD [7] == srk m 6 && ((pmt 6 m).all (okB m (srk m 6).length) && (srk m 6).length ≤ 6))
theorem allB_t : ∀ m, m < 64 → allB m = true := by decide +kernel
theorem pmt_len : ∀ m, m < 64 → (pmt 6 m).length ≤ 720 := by decide +kernel
