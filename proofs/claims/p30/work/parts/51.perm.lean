/-! ORDERS BY THEIR NUMBERS -/
def uF : Nat → Nat
  | 0 => 1
  | n + 1 => (n + 1) * uF n
def uB (s x : Nat) : Nat := if s ≤ x then x + 1 else x
def uL : Nat → Nat → List Nat
  | 0, _ => []
  | b + 1, r => (r / uF b % (b + 1)) :: (uL b r).map (uB (r / uF b % (b + 1)))
/-- the house in a place of an order by its number -/
def uD (n k j : Nat) : Nat := (uL n k).getD j 0
def uS (x : Nat) : List Nat → Nat
  | [] => 0
  | y :: t => (if y < x then 1 else 0) + uS x t
def uRk : List Nat → Nat → Nat
  | [], acc => acc
  | x :: t, acc => uRk t (acc * (t.length + 1) + uS x t)
def uN (n p : Nat) : Nat := if p + 1 < n then p + 1 else 0
def uW (n p : Nat) (l : List Nat) : List Nat := (List.range n).map (fun j => if j = p then l.getD (uN n p) 0 else if j = uN n p then l.getD p 0 else l.getD j 0)
/-- the number of the order behind a change in a place -/
def uC (n k p : Nat) : Nat := uRk (uW n p (uL n k)) 0
def uH : List Nat → Nat → Nat
  | [], acc => acc
  | x :: t, acc => uH t (6 * acc + x)
/-- an order's code -/
def uCd (n k : Nat) : Nat := uH (uL n k) 0
def uBits : Nat → Nat → Nat → Nat
  | 0, _, acc => acc
  | b + 1, c, acc => uBits b (c / 6) (acc ||| 2 ^ (c % 6))
def uFull (n c : Nat) : Bool := uBits n c 0 == 2 ^ n - 1
def uScan (n : Nat) : Nat → Nat → Bool
  | 0, k => k == 0
  | c + 1, k => if uFull n c then (Nat.blt 0 k && (uCd n (k - 1) == c)) && uScan n c (k - 1) else uScan n c k
def uOk1 (n : Nat) : Bool := (List.range (uF n)).all (fun k => uRk (uL n k) 0 == k && (uL n k).length == n && (uL n k).all (fun x => Nat.blt x n) && Nat.blt (uCd n k) (6 ^ n) && (List.range n).all (fun i => (List.range i).all (fun j => !(uD n k i == uD n k j))))
def uOk2 (n : Nat) : Bool := (List.range (uF n)).all (fun k => (List.range n).all (fun p => Nat.blt (uC n k p) (uF n) && (uL n (uC n k p) == uW n p (uL n k))))
def uOk3 (n : Nat) : Bool := (List.range (uF n - 1)).all (fun k => Nat.blt (uCd n k) (uCd n (k + 1)))
-- 
theorem uOk1_3 : uOk1 3 = true := by decide +kernel
theorem uOk1_4 : uOk1 4 = true := by decide +kernel
theorem uOk1_5 : uOk1 5 = true := by decide +kernel
theorem uOk1_6 : uOk1 6 = true := by decide +kernel
theorem uOk2_3 : uOk2 3 = true := by decide +kernel
theorem uOk2_4 : uOk2 4 = true := by decide +kernel
theorem uOk2_5 : uOk2 5 = true := by decide +kernel
theorem uOk2_6 : uOk2 6 = true := by decide +kernel
theorem uOk3_3 : uOk3 3 = true := by decide +kernel
theorem uOk3_4 : uOk3 4 = true := by decide +kernel
theorem uOk3_5 : uOk3 5 = true := by decide +kernel
theorem uOk3_6 : uOk3 6 = true := by decide +kernel
theorem uScan_3 : uScan 3 216 6 = true := by decide +kernel
theorem uScan_4 : uScan 4 1296 24 = true := by decide +kernel
theorem uScan_5 : uScan 5 7776 120 = true := by decide +kernel
theorem uScan_6 : uScan 6 46656 720 = true := by decide +kernel
