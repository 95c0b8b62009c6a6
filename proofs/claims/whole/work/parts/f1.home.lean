/-! homeward: orders as lists, the fewest passes, and what was looked through -/
/-- first of the greatest, first of the least: rest, its place, the best so far -/
def mxG : List Nat → Nat → Nat → Nat → Nat
  | [], _, bi, _ => bi
  | a :: r, i, bi, bv => bif Nat.blt bv a then mxG r (i + 1) i a else mxG r (i + 1) bi bv
def mnG : List Nat → Nat → Nat → Nat → Nat
  | [], _, bi, _ => bi
  | a :: r, i, bi, bv => bif Nat.blt a bv then mnG r (i + 1) i a else mnG r (i + 1) bi bv
/-- walks, 20 more than they are -/
def wkL : List Nat → Nat → List Nat
  | [], _ => []
  | a :: r, p => (a + 20 - p) :: wkL r (p + 1)
def atL : List Nat → Nat → Nat
  | [], _ => 0
  | a :: _, 0 => a
  | _ :: r, i + 1 => atL r i
def stL : List Nat → Nat → Nat → List Nat
  | [], _, _ => []
  | _ :: r, 0, v => v :: r
  | a :: r, i + 1, v => a :: stL r i v
/-- first look at it, then go on -/
def frc {α : Type} (v : Nat) (k : Nat → α) : α := match v with
  | 0 => k 0
  | m + 1 => k (m + 1)
def frL {α : Type} : List Nat → (List Nat → α) → α
  | [], k => k []
  | a :: r, k => frc a fun a => frL r fun r => k (a :: r)
def shL (n : Nat) : Nat → List Nat → List Nat
  | 0, u => u
  | f + 1, u => frc (mxG u 0 0 (atL u 0)) fun M => frc (mnG u 0 0 (atL u 0)) fun m => frc (atL u M) fun vM => frc (atL u m) fun vm => bif Nat.blt (vm + n) vM then frL (stL (stL u M (vM - n)) m (vm + n)) fun u' => shL n f u' else u
/-- how often a walk from A passes one from B -/
def paN (n A B : Nat) : Nat := frc ((A + 10 * n - B) / n) fun q => bif Nat.blt q 9 then 9 - q else q - 9
def paL (n A : Nat) : List Nat → Nat → Nat
  | [], _ => 0
  | b :: r, q => paN n A (q + b) + paL n A r (q + 1)
def smL (n : Nat) : List Nat → Nat → Nat
  | [], _ => 0
  | a :: r, p => paL n (p + a) r (p + 1) + smL n r (p + 1)
/-- the fewest passes home, as the class counts them -/
def fwL (n : Nat) (x : List Nat) : Nat := frL (wkL x 0) fun u => frL (shL n 7 u) fun u => smL n u 0
def swL (n : Nat) (x : List Nat) (g : Nat) : List Nat := stL (stL x g (atL x ((g + 1) % n))) ((g + 1) % n) (atL x g)
def fcN : Nat → Nat
  | 0 => 1
  | n + 1 => (n + 1) * fcN n
def ltC (a : Nat) : List Nat → Nat
  | [] => 0
  | b :: r => bif Nat.blt b a then ltC a r + 1 else ltC a r
def lnN : List Nat → Nat
  | [] => 0
  | _ :: r => lnN r + 1
/-- an order's number -/
def nuL : List Nat → Nat → Nat
  | [], c => c
  | a :: r, c => nuL r (c * (lnN r + 1) + ltC a r)
def erL : List Nat → Nat → List Nat
  | [], _ => []
  | _ :: r, 0 => r
  | a :: r, i + 1 => a :: erL r i
/-- the order of a number -/
def lyL : Nat → Nat → List Nat → List Nat
  | 0, _, _ => []
  | k + 1, m, rem => atL rem (m / fcN k) :: lyL k (m % fcN k) (erL rem (m / fcN k))
def upL : Nat → Nat → List Nat
  | 0, _ => []
  | k + 1, p => p :: upL k (p + 1)
def eqL : List Nat → List Nat → Bool
  | [], [] => true
  | a :: r, b :: q => Nat.beq a b && eqL r q
  | _, _ => false
def allN (f : Nat → Bool) : Nat → Bool
  | 0 => true
  | k + 1 => f k && allN f k
/-- the gaps below k: none leads farther than by one, and whether one led nearer -/
def ckG (n : Nat) (x : List Nat) (d : Nat) : Nat → Bool → Bool
  | 0, s => s
  | k + 1, s => frc (fwL n (swL n x k)) fun e => bif Nat.ble e (d + 1) then ckG n x d k (s || Nat.beq (e + 1) d) else false
/-- what is looked at, an order -/
def ckL (n : Nat) (x : List Nat) : Bool := frL x fun x => frc (nuL x 0) fun m => Nat.blt m (fcN n) && eqL (lyL n m (upL n 0)) x && frc (fwL n x) fun d => ckG n x d (gpN n) (eqL x (upL n 0))
/-- all orders of the places that are left, behind those that are laid -/
def ckA (n : Nat) : Nat → List Nat → List Nat → Bool
  | 0, done, _ => ckL n done.reverse
  | k + 1, done, rem => allN (fun i => ckA n k (atL rem i :: done) (erL rem i)) (k + 1)
theorem ck_5 : ∀ n, n < 6 → ckA n n [] (upL n 0) = true := by decide +kernel
theorem ck_6 : ckA 6 6 [] (upL 6 0) = true := by decide +kernel
