/-! ORDERS: rows of numbers, the next greater row -/
def sw (a : Nat → Nat) (i j : Nat) : Nat → Nat := fun k => if k = i then a j else if k = j then a i else a k
def risF (a : Nat → Nat) : Nat → Option Nat
  | 0 => none
  | i + 1 => if a (i + 1) < a i then risF a i else some i
def grF (a : Nat → Nat) (i : Nat) : Nat → Nat
  | 0 => 0
  | j + 1 => if j + 1 ≤ i + 1 then j + 1 else if a (j + 1) < a i then grF a i j else j + 1
def rvF : Nat → (Nat → Nat) → Nat → Nat → (Nat → Nat)
  | 0, a, _, _ => a
  | f + 1, a, lo, hi => if hi ≤ lo then a else rvF f (sw a lo hi) (lo + 1) (hi - 1)
def nxF (a : Nat → Nat) (n : Nat) : Option (Nat → Nat) := match risF a (n - 1) with
  | none => none
  | some i => some (rvF n (sw a i (grF a i (n - 1))) (i + 1) (n - 1))
def lf (l : List Nat) : Nat → Nat := fun k => l.getD k 0
def allB (n : Nat) (p : Nat → Bool) : Bool := (List.range n).all p
theorem allB_at {n : Nat} {p : Nat → Bool} (h : allB n p = true) {k : Nat} (hk : k < n) : p k = true := List.all_eq_true.mp h k (List.mem_range.mpr hk)
def chkN (n : Nat) : List (List Nat) → Bool
  | [] => false
  | [a] => (nxF (lf a) n).isNone
  | a :: b :: r => (match nxF (lf a) n with
      | some c => allB n (fun k => c k == lf b k)
      | none => false) && chkN n (b :: r)
def chkP (n : Nat) (L : List (List Nat)) : Bool := L.all (fun a => allB n (fun k => decide (lf a k < n) && allB k (fun j => decide (lf a j ≠ lf a k))))
def pt1 : List (List Nat) := [[0]]
def pt2 : List (List Nat) := [[0, 1], [1, 0]]
def pt3 : List (List Nat) := [[0, 1, 2], [0, 2, 1], [1, 0, 2], [1, 2, 0], [2, 0, 1], [2, 1, 0]]
def pt4 : List (List Nat) := [[0, 1, 2, 3], [0, 1, 3, 2], [0, 2, 1, 3], [0, 2, 3, 1], [0, 3, 1, 2], [0, 3, 2, 1], [1, 0, 2, 3], [1, 0, 3, 2], [1, 2, 0, 3], [1, 2, 3, 0], [1, 3, 0, 2], [1, 3, 2, 0], [2, 0, 1, 3], [2, 0, 3, 1], [2, 1, 0, 3], [2, 1, 3, 0], [2, 3, 0, 1], [2, 3, 1, 0], [3, 0, 1, 2], [3, 0, 2, 1], [3, 1, 0, 2], [3, 1, 2, 0], [3, 2, 0, 1], [3, 2, 1, 0]]
def pt5 : List (List Nat) := [[0, 1, 2, 3, 4], [0, 1, 2, 4, 3], [0, 1, 3, 2, 4], [0, 1, 3, 4, 2], [0, 1, 4, 2, 3], [0, 1, 4, 3, 2], [0, 2, 1, 3, 4], [0, 2, 1, 4, 3], [0, 2, 3, 1, 4], [0, 2, 3, 4, 1], [0, 2, 4, 1, 3], [0, 2, 4, 3, 1], [0, 3, 1, 2, 4], [0, 3, 1, 4, 2], [0, 3, 2, 1, 4], [0, 3, 2, 4, 1], [0, 3, 4, 1, 2], [0, 3, 4, 2, 1], [0, 4, 1, 2, 3], [0, 4, 1, 3, 2], [0, 4, 2, 1, 3], [0, 4, 2, 3, 1], [0, 4, 3, 1, 2], [0, 4, 3, 2, 1], [1, 0, 2, 3, 4], [1, 0, 2, 4, 3], [1, 0, 3, 2, 4], [1, 0, 3, 4, 2], [1, 0, 4, 2, 3], [1, 0, 4, 3, 2], [1, 2, 0, 3, 4], [1, 2, 0, 4, 3], [1, 2, 3, 0, 4], [1, 2, 3, 4, 0], [1, 2, 4, 0, 3], [1, 2, 4, 3, 0], [1, 3, 0, 2, 4], [1, 3, 0, 4, 2], [1, 3, 2, 0, 4], [1, 3, 2, 4, 0], [1, 3, 4, 0, 2], [1, 3, 4, 2, 0], [1, 4, 0, 2, 3], [1, 4, 0, 3, 2], [1, 4, 2, 0, 3], [1, 4, 2, 3, 0], [1, 4, 3, 0, 2], [1, 4, 3, 2, 0], [2, 0, 1, 3, 4], [2, 0, 1, 4, 3], [2, 0, 3, 1, 4], [2, 0, 3, 4, 1], [2, 0, 4, 1, 3], [2, 0, 4, 3, 1], [2, 1, 0, 3, 4], [2, 1, 0, 4, 3], [2, 1, 3, 0, 4], [2, 1, 3, 4, 0], [2, 1, 4, 0, 3], [2, 1, 4, 3, 0], [2, 3, 0, 1, 4], [2, 3, 0, 4, 1], [2, 3, 1, 0, 4], [2, 3, 1, 4, 0], [2, 3, 4, 0, 1], [2, 3, 4, 1, 0], [2, 4, 0, 1, 3], [2, 4, 0, 3, 1], [2, 4, 1, 0, 3], [2, 4, 1, 3, 0], [2, 4, 3, 0, 1], [2, 4, 3, 1, 0], [3, 0, 1, 2, 4], [3, 0, 1, 4, 2], [3, 0, 2, 1, 4], [3, 0, 2, 4, 1], [3, 0, 4, 1, 2], [3, 0, 4, 2, 1], [3, 1, 0, 2, 4], [3, 1, 0, 4, 2], [3, 1, 2, 0, 4], [3, 1, 2, 4, 0], [3, 1, 4, 0, 2], [3, 1, 4, 2, 0], [3, 2, 0, 1, 4], [3, 2, 0, 4, 1], [3, 2, 1, 0, 4], [3, 2, 1, 4, 0], [3, 2, 4, 0, 1], [3, 2, 4, 1, 0], [3, 4, 0, 1, 2], [3, 4, 0, 2, 1], [3, 4, 1, 0, 2], [3, 4, 1, 2, 0], [3, 4, 2, 0, 1], [3, 4, 2, 1, 0], [4, 0, 1, 2, 3], [4, 0, 1, 3, 2], [4, 0, 2, 1, 3], [4, 0, 2, 3, 1], [4, 0, 3, 1, 2], [4, 0, 3, 2, 1], [4, 1, 0, 2, 3], [4, 1, 0, 3, 2], [4, 1, 2, 0, 3], [4, 1, 2, 3, 0], [4, 1, 3, 0, 2], [4, 1, 3, 2, 0], [4, 2, 0, 1, 3], [4, 2, 0, 3, 1], [4, 2, 1, 0, 3], [4, 2, 1, 3, 0], [4, 2, 3, 0, 1], [4, 2, 3, 1, 0], [4, 3, 0, 1, 2], [4, 3, 0, 2, 1], [4, 3, 1, 0, 2], [4, 3, 1, 2, 0], [4, 3, 2, 0, 1], [4, 3, 2, 1, 0]]
def pt6 : List (List Nat) := [[0, 1, 2, 3, 4, 5], [0, 1, 2, 3, 5, 4], [0, 1, 2, 4, 3, 5], [0, 1, 2, 4, 5, 3], [0, 1, 2, 5, 3, 4], [0, 1, 2, 5, 4, 3], [0, 1, 3, 2, 4, 5], [0, 1, 3, 2, 5, 4], [0, 1, 3, 4, 2, 5], [0, 1, 3, 4, 5, 2], [0, 1, 3, 5, 2, 4], [0, 1, 3, 5, 4, 2], [0, 1, 4, 2, 3, 5], [0, 1, 4, 2, 5, 3], [0, 1, 4, 3, 2, 5], [0, 1, 4, 3, 5, 2], [0, 1, 4, 5, 2, 3], [0, 1, 4, 5, 3, 2], [0, 1, 5, 2, 3, 4], [0, 1, 5, 2, 4, 3], [0, 1, 5, 3, 2, 4], [0, 1, 5, 3, 4, 2], [0, 1, 5, 4, 2, 3], [0, 1, 5, 4, 3, 2], [0, 2, 1, 3, 4, 5], [0, 2, 1, 3, 5, 4], [0, 2, 1, 4, 3, 5], [0, 2, 1, 4, 5, 3], [0, 2, 1, 5, 3, 4], [0, 2, 1, 5, 4, 3], [0, 2, 3, 1, 4, 5], [0, 2, 3, 1, 5, 4], [0, 2, 3, 4, 1, 5], [0, 2, 3, 4, 5, 1], [0, 2, 3, 5, 1, 4], [0, 2, 3, 5, 4, 1], [0, 2, 4, 1, 3, 5], [0, 2, 4, 1, 5, 3], [0, 2, 4, 3, 1, 5], [0, 2, 4, 3, 5, 1], [0, 2, 4, 5, 1, 3], [0, 2, 4, 5, 3, 1], [0, 2, 5, 1, 3, 4], [0, 2, 5, 1, 4, 3], [0, 2, 5, 3, 1, 4], [0, 2, 5, 3, 4, 1], [0, 2, 5, 4, 1, 3], [0, 2, 5, 4, 3, 1], [0, 3, 1, 2, 4, 5], [0, 3, 1, 2, 5, 4], [0, 3, 1, 4, 2, 5], [0, 3, 1, 4, 5, 2], [0, 3, 1, 5, 2, 4], [0, 3, 1, 5, 4, 2], [0, 3, 2, 1, 4, 5], [0, 3, 2, 1, 5, 4], [0, 3, 2, 4, 1, 5], [0, 3, 2, 4, 5, 1], [0, 3, 2, 5, 1, 4], [0, 3, 2, 5, 4, 1], [0, 3, 4, 1, 2, 5], [0, 3, 4, 1, 5, 2], [0, 3, 4, 2, 1, 5], [0, 3, 4, 2, 5, 1], [0, 3, 4, 5, 1, 2], [0, 3, 4, 5, 2, 1], [0, 3, 5, 1, 2, 4], [0, 3, 5, 1, 4, 2], [0, 3, 5, 2, 1, 4], [0, 3, 5, 2, 4, 1], [0, 3, 5, 4, 1, 2], [0, 3, 5, 4, 2, 1], [0, 4, 1, 2, 3, 5], [0, 4, 1, 2, 5, 3], [0, 4, 1, 3, 2, 5], [0, 4, 1, 3, 5, 2], [0, 4, 1, 5, 2, 3], [0, 4, 1, 5, 3, 2], [0, 4, 2, 1, 3, 5], [0, 4, 2, 1, 5, 3], [0, 4, 2, 3, 1, 5], [0, 4, 2, 3, 5, 1], [0, 4, 2, 5, 1, 3], [0, 4, 2, 5, 3, 1], [0, 4, 3, 1, 2, 5], [0, 4, 3, 1, 5, 2], [0, 4, 3, 2, 1, 5], [0, 4, 3, 2, 5, 1], [0, 4, 3, 5, 1, 2], [0, 4, 3, 5, 2, 1], [0, 4, 5, 1, 2, 3], [0, 4, 5, 1, 3, 2], [0, 4, 5, 2, 1, 3], [0, 4, 5, 2, 3, 1], [0, 4, 5, 3, 1, 2], [0, 4, 5, 3, 2, 1], [0, 5, 1, 2, 3, 4], [0, 5, 1, 2, 4, 3], [0, 5, 1, 3, 2, 4], [0, 5, 1, 3, 4, 2], [0, 5, 1, 4, 2, 3], [0, 5, 1, 4, 3, 2], [0, 5, 2, 1, 3, 4], [0, 5, 2, 1, 4, 3], [0, 5, 2, 3, 1, 4], [0, 5, 2, 3, 4, 1], [0, 5, 2, 4, 1, 3], [0, 5, 2, 4, 3, 1], [0, 5, 3, 1, 2, 4], [0, 5, 3, 1, 4, 2], [0, 5, 3, 2, 1, 4], [0, 5, 3, 2, 4, 1], [0, 5, 3, 4, 1, 2], [0, 5, 3, 4, 2, 1], [0, 5, 4, 1, 2, 3], [0, 5, 4, 1, 3, 2], [0, 5, 4, 2, 1, 3], [0, 5, 4, 2, 3, 1], [0, 5, 4, 3, 1, 2], [0, 5, 4, 3, 2, 1], [1, 0, 2, 3, 4, 5], [1, 0, 2, 3, 5, 4], [1, 0, 2, 4, 3, 5], [1, 0, 2, 4, 5, 3], [1, 0, 2, 5, 3, 4], [1, 0, 2, 5, 4, 3], [1, 0, 3, 2, 4, 5], [1, 0, 3, 2, 5, 4], [1, 0, 3, 4, 2, 5], [1, 0, 3, 4, 5, 2], [1, 0, 3, 5, 2, 4], [1, 0, 3, 5, 4, 2], [1, 0, 4, 2, 3, 5], [1, 0, 4, 2, 5, 3], [1, 0, 4, 3, 2, 5], [1, 0, 4, 3, 5, 2], [1, 0, 4, 5, 2, 3], [1, 0, 4, 5, 3, 2], [1, 0, 5, 2, 3, 4], [1, 0, 5, 2, 4, 3], [1, 0, 5, 3, 2, 4], [1, 0, 5, 3, 4, 2], [1, 0, 5, 4, 2, 3], [1, 0, 5, 4, 3, 2], [1, 2, 0, 3, 4, 5], [1, 2, 0, 3, 5, 4], [1, 2, 0, 4, 3, 5], [1, 2, 0, 4, 5, 3], [1, 2, 0, 5, 3, 4], [1, 2, 0, 5, 4, 3], [1, 2, 3, 0, 4, 5], [1, 2, 3, 0, 5, 4], [1, 2, 3, 4, 0, 5], [1, 2, 3, 4, 5, 0], [1, 2, 3, 5, 0, 4], [1, 2, 3, 5, 4, 0], [1, 2, 4, 0, 3, 5], [1, 2, 4, 0, 5, 3], [1, 2, 4, 3, 0, 5], [1, 2, 4, 3, 5, 0], [1, 2, 4, 5, 0, 3], [1, 2, 4, 5, 3, 0], [1, 2, 5, 0, 3, 4], [1, 2, 5, 0, 4, 3], [1, 2, 5, 3, 0, 4], [1, 2, 5, 3, 4, 0], [1, 2, 5, 4, 0, 3], [1, 2, 5, 4, 3, 0], [1, 3, 0, 2, 4, 5], [1, 3, 0, 2, 5, 4], [1, 3, 0, 4, 2, 5], [1, 3, 0, 4, 5, 2], [1, 3, 0, 5, 2, 4], [1, 3, 0, 5, 4, 2], [1, 3, 2, 0, 4, 5], [1, 3, 2, 0, 5, 4], [1, 3, 2, 4, 0, 5], [1, 3, 2, 4, 5, 0], [1, 3, 2, 5, 0, 4], [1, 3, 2, 5, 4, 0], [1, 3, 4, 0, 2, 5], [1, 3, 4, 0, 5, 2], [1, 3, 4, 2, 0, 5], [1, 3, 4, 2, 5, 0], [1, 3, 4, 5, 0, 2], [1, 3, 4, 5, 2, 0], [1, 3, 5, 0, 2, 4], [1, 3, 5, 0, 4, 2], [1, 3, 5, 2, 0, 4], [1, 3, 5, 2, 4, 0], [1, 3, 5, 4, 0, 2], [1, 3, 5, 4, 2, 0], [1, 4, 0, 2, 3, 5], [1, 4, 0, 2, 5, 3], [1, 4, 0, 3, 2, 5], [1, 4, 0, 3, 5, 2], [1, 4, 0, 5, 2, 3], [1, 4, 0, 5, 3, 2], [1, 4, 2, 0, 3, 5], [1, 4, 2, 0, 5, 3], [1, 4, 2, 3, 0, 5], [1, 4, 2, 3, 5, 0], [1, 4, 2, 5, 0, 3], [1, 4, 2, 5, 3, 0], [1, 4, 3, 0, 2, 5], [1, 4, 3, 0, 5, 2], [1, 4, 3, 2, 0, 5], [1, 4, 3, 2, 5, 0], [1, 4, 3, 5, 0, 2], [1, 4, 3, 5, 2, 0], [1, 4, 5, 0, 2, 3], [1, 4, 5, 0, 3, 2], [1, 4, 5, 2, 0, 3], [1, 4, 5, 2, 3, 0], [1, 4, 5, 3, 0, 2], [1, 4, 5, 3, 2, 0], [1, 5, 0, 2, 3, 4], [1, 5, 0, 2, 4, 3], [1, 5, 0, 3, 2, 4], [1, 5, 0, 3, 4, 2], [1, 5, 0, 4, 2, 3], [1, 5, 0, 4, 3, 2], [1, 5, 2, 0, 3, 4], [1, 5, 2, 0, 4, 3], [1, 5, 2, 3, 0, 4], [1, 5, 2, 3, 4, 0], [1, 5, 2, 4, 0, 3], [1, 5, 2, 4, 3, 0], [1, 5, 3, 0, 2, 4], [1, 5, 3, 0, 4, 2], [1, 5, 3, 2, 0, 4], [1, 5, 3, 2, 4, 0], [1, 5, 3, 4, 0, 2], [1, 5, 3, 4, 2, 0], [1, 5, 4, 0, 2, 3], [1, 5, 4, 0, 3, 2], [1, 5, 4, 2, 0, 3], [1, 5, 4, 2, 3, 0], [1, 5, 4, 3, 0, 2], [1, 5, 4, 3, 2, 0], [2, 0, 1, 3, 4, 5], [2, 0, 1, 3, 5, 4], [2, 0, 1, 4, 3, 5], [2, 0, 1, 4, 5, 3], [2, 0, 1, 5, 3, 4], [2, 0, 1, 5, 4, 3], [2, 0, 3, 1, 4, 5], [2, 0, 3, 1, 5, 4], [2, 0, 3, 4, 1, 5], [2, 0, 3, 4, 5, 1], [2, 0, 3, 5, 1, 4], [2, 0, 3, 5, 4, 1], [2, 0, 4, 1, 3, 5], [2, 0, 4, 1, 5, 3], [2, 0, 4, 3, 1, 5], [2, 0, 4, 3, 5, 1], [2, 0, 4, 5, 1, 3], [2, 0, 4, 5, 3, 1], [2, 0, 5, 1, 3, 4], [2, 0, 5, 1, 4, 3], [2, 0, 5, 3, 1, 4], [2, 0, 5, 3, 4, 1], [2, 0, 5, 4, 1, 3], [2, 0, 5, 4, 3, 1], [2, 1, 0, 3, 4, 5], [2, 1, 0, 3, 5, 4], [2, 1, 0, 4, 3, 5], [2, 1, 0, 4, 5, 3], [2, 1, 0, 5, 3, 4], [2, 1, 0, 5, 4, 3], [2, 1, 3, 0, 4, 5], [2, 1, 3, 0, 5, 4], [2, 1, 3, 4, 0, 5], [2, 1, 3, 4, 5, 0], [2, 1, 3, 5, 0, 4], [2, 1, 3, 5, 4, 0], [2, 1, 4, 0, 3, 5], [2, 1, 4, 0, 5, 3], [2, 1, 4, 3, 0, 5], [2, 1, 4, 3, 5, 0], [2, 1, 4, 5, 0, 3], [2, 1, 4, 5, 3, 0], [2, 1, 5, 0, 3, 4], [2, 1, 5, 0, 4, 3], [2, 1, 5, 3, 0, 4], [2, 1, 5, 3, 4, 0], [2, 1, 5, 4, 0, 3], [2, 1, 5, 4, 3, 0], [2, 3, 0, 1, 4, 5], [2, 3, 0, 1, 5, 4], [2, 3, 0, 4, 1, 5], [2, 3, 0, 4, 5, 1], [2, 3, 0, 5, 1, 4], [2, 3, 0, 5, 4, 1], [2, 3, 1, 0, 4, 5], [2, 3, 1, 0, 5, 4], [2, 3, 1, 4, 0, 5], [2, 3, 1, 4, 5, 0], [2, 3, 1, 5, 0, 4], [2, 3, 1, 5, 4, 0], [2, 3, 4, 0, 1, 5], [2, 3, 4, 0, 5, 1], [2, 3, 4, 1, 0, 5], [2, 3, 4, 1, 5, 0], [2, 3, 4, 5, 0, 1], [2, 3, 4, 5, 1, 0], [2, 3, 5, 0, 1, 4], [2, 3, 5, 0, 4, 1], [2, 3, 5, 1, 0, 4], [2, 3, 5, 1, 4, 0], [2, 3, 5, 4, 0, 1], [2, 3, 5, 4, 1, 0], [2, 4, 0, 1, 3, 5], [2, 4, 0, 1, 5, 3], [2, 4, 0, 3, 1, 5], [2, 4, 0, 3, 5, 1], [2, 4, 0, 5, 1, 3], [2, 4, 0, 5, 3, 1], [2, 4, 1, 0, 3, 5], [2, 4, 1, 0, 5, 3], [2, 4, 1, 3, 0, 5], [2, 4, 1, 3, 5, 0], [2, 4, 1, 5, 0, 3], [2, 4, 1, 5, 3, 0], [2, 4, 3, 0, 1, 5], [2, 4, 3, 0, 5, 1], [2, 4, 3, 1, 0, 5], [2, 4, 3, 1, 5, 0], [2, 4, 3, 5, 0, 1], [2, 4, 3, 5, 1, 0], [2, 4, 5, 0, 1, 3], [2, 4, 5, 0, 3, 1], [2, 4, 5, 1, 0, 3], [2, 4, 5, 1, 3, 0], [2, 4, 5, 3, 0, 1], [2, 4, 5, 3, 1, 0], [2, 5, 0, 1, 3, 4], [2, 5, 0, 1, 4, 3], [2, 5, 0, 3, 1, 4], [2, 5, 0, 3, 4, 1], [2, 5, 0, 4, 1, 3], [2, 5, 0, 4, 3, 1], [2, 5, 1, 0, 3, 4], [2, 5, 1, 0, 4, 3], [2, 5, 1, 3, 0, 4], [2, 5, 1, 3, 4, 0], [2, 5, 1, 4, 0, 3], [2, 5, 1, 4, 3, 0], [2, 5, 3, 0, 1, 4], [2, 5, 3, 0, 4, 1], [2, 5, 3, 1, 0, 4], [2, 5, 3, 1, 4, 0], [2, 5, 3, 4, 0, 1], [2, 5, 3, 4, 1, 0], [2, 5, 4, 0, 1, 3], [2, 5, 4, 0, 3, 1], [2, 5, 4, 1, 0, 3], [2, 5, 4, 1, 3, 0], [2, 5, 4, 3, 0, 1], [2, 5, 4, 3, 1, 0], [3, 0, 1, 2, 4, 5], [3, 0, 1, 2, 5, 4], [3, 0, 1, 4, 2, 5], [3, 0, 1, 4, 5, 2], [3, 0, 1, 5, 2, 4], [3, 0, 1, 5, 4, 2], [3, 0, 2, 1, 4, 5], [3, 0, 2, 1, 5, 4], [3, 0, 2, 4, 1, 5], [3, 0, 2, 4, 5, 1], [3, 0, 2, 5, 1, 4], [3, 0, 2, 5, 4, 1], [3, 0, 4, 1, 2, 5], [3, 0, 4, 1, 5, 2], [3, 0, 4, 2, 1, 5], [3, 0, 4, 2, 5, 1], [3, 0, 4, 5, 1, 2], [3, 0, 4, 5, 2, 1], [3, 0, 5, 1, 2, 4], [3, 0, 5, 1, 4, 2], [3, 0, 5, 2, 1, 4], [3, 0, 5, 2, 4, 1], [3, 0, 5, 4, 1, 2], [3, 0, 5, 4, 2, 1], [3, 1, 0, 2, 4, 5], [3, 1, 0, 2, 5, 4], [3, 1, 0, 4, 2, 5], [3, 1, 0, 4, 5, 2], [3, 1, 0, 5, 2, 4], [3, 1, 0, 5, 4, 2], [3, 1, 2, 0, 4, 5], [3, 1, 2, 0, 5, 4], [3, 1, 2, 4, 0, 5], [3, 1, 2, 4, 5, 0], [3, 1, 2, 5, 0, 4], [3, 1, 2, 5, 4, 0], [3, 1, 4, 0, 2, 5], [3, 1, 4, 0, 5, 2], [3, 1, 4, 2, 0, 5], [3, 1, 4, 2, 5, 0], [3, 1, 4, 5, 0, 2], [3, 1, 4, 5, 2, 0], [3, 1, 5, 0, 2, 4], [3, 1, 5, 0, 4, 2], [3, 1, 5, 2, 0, 4], [3, 1, 5, 2, 4, 0], [3, 1, 5, 4, 0, 2], [3, 1, 5, 4, 2, 0], [3, 2, 0, 1, 4, 5], [3, 2, 0, 1, 5, 4], [3, 2, 0, 4, 1, 5], [3, 2, 0, 4, 5, 1], [3, 2, 0, 5, 1, 4], [3, 2, 0, 5, 4, 1], [3, 2, 1, 0, 4, 5], [3, 2, 1, 0, 5, 4], [3, 2, 1, 4, 0, 5], [3, 2, 1, 4, 5, 0], [3, 2, 1, 5, 0, 4], [3, 2, 1, 5, 4, 0], [3, 2, 4, 0, 1, 5], [3, 2, 4, 0, 5, 1], [3, 2, 4, 1, 0, 5], [3, 2, 4, 1, 5, 0], [3, 2, 4, 5, 0, 1], [3, 2, 4, 5, 1, 0], [3, 2, 5, 0, 1, 4], [3, 2, 5, 0, 4, 1], [3, 2, 5, 1, 0, 4], [3, 2, 5, 1, 4, 0], [3, 2, 5, 4, 0, 1], [3, 2, 5, 4, 1, 0], [3, 4, 0, 1, 2, 5], [3, 4, 0, 1, 5, 2], [3, 4, 0, 2, 1, 5], [3, 4, 0, 2, 5, 1], [3, 4, 0, 5, 1, 2], [3, 4, 0, 5, 2, 1], [3, 4, 1, 0, 2, 5], [3, 4, 1, 0, 5, 2], [3, 4, 1, 2, 0, 5], [3, 4, 1, 2, 5, 0], [3, 4, 1, 5, 0, 2], [3, 4, 1, 5, 2, 0], [3, 4, 2, 0, 1, 5], [3, 4, 2, 0, 5, 1], [3, 4, 2, 1, 0, 5], [3, 4, 2, 1, 5, 0], [3, 4, 2, 5, 0, 1], [3, 4, 2, 5, 1, 0], [3, 4, 5, 0, 1, 2], [3, 4, 5, 0, 2, 1], [3, 4, 5, 1, 0, 2], [3, 4, 5, 1, 2, 0], [3, 4, 5, 2, 0, 1], [3, 4, 5, 2, 1, 0], [3, 5, 0, 1, 2, 4], [3, 5, 0, 1, 4, 2], [3, 5, 0, 2, 1, 4], [3, 5, 0, 2, 4, 1], [3, 5, 0, 4, 1, 2], [3, 5, 0, 4, 2, 1], [3, 5, 1, 0, 2, 4], [3, 5, 1, 0, 4, 2], [3, 5, 1, 2, 0, 4], [3, 5, 1, 2, 4, 0], [3, 5, 1, 4, 0, 2], [3, 5, 1, 4, 2, 0], [3, 5, 2, 0, 1, 4], [3, 5, 2, 0, 4, 1], [3, 5, 2, 1, 0, 4], [3, 5, 2, 1, 4, 0], [3, 5, 2, 4, 0, 1], [3, 5, 2, 4, 1, 0], [3, 5, 4, 0, 1, 2], [3, 5, 4, 0, 2, 1], [3, 5, 4, 1, 0, 2], [3, 5, 4, 1, 2, 0], [3, 5, 4, 2, 0, 1], [3, 5, 4, 2, 1, 0], [4, 0, 1, 2, 3, 5], [4, 0, 1, 2, 5, 3], [4, 0, 1, 3, 2, 5], [4, 0, 1, 3, 5, 2], [4, 0, 1, 5, 2, 3], [4, 0, 1, 5, 3, 2], [4, 0, 2, 1, 3, 5], [4, 0, 2, 1, 5, 3], [4, 0, 2, 3, 1, 5], [4, 0, 2, 3, 5, 1], [4, 0, 2, 5, 1, 3], [4, 0, 2, 5, 3, 1], [4, 0, 3, 1, 2, 5], [4, 0, 3, 1, 5, 2], [4, 0, 3, 2, 1, 5], [4, 0, 3, 2, 5, 1], [4, 0, 3, 5, 1, 2], [4, 0, 3, 5, 2, 1], [4, 0, 5, 1, 2, 3], [4, 0, 5, 1, 3, 2], [4, 0, 5, 2, 1, 3], [4, 0, 5, 2, 3, 1], [4, 0, 5, 3, 1, 2], [4, 0, 5, 3, 2, 1], [4, 1, 0, 2, 3, 5], [4, 1, 0, 2, 5, 3], [4, 1, 0, 3, 2, 5], [4, 1, 0, 3, 5, 2], [4, 1, 0, 5, 2, 3], [4, 1, 0, 5, 3, 2], [4, 1, 2, 0, 3, 5], [4, 1, 2, 0, 5, 3], [4, 1, 2, 3, 0, 5], [4, 1, 2, 3, 5, 0], [4, 1, 2, 5, 0, 3], [4, 1, 2, 5, 3, 0], [4, 1, 3, 0, 2, 5], [4, 1, 3, 0, 5, 2], [4, 1, 3, 2, 0, 5], [4, 1, 3, 2, 5, 0], [4, 1, 3, 5, 0, 2], [4, 1, 3, 5, 2, 0], [4, 1, 5, 0, 2, 3], [4, 1, 5, 0, 3, 2], [4, 1, 5, 2, 0, 3], [4, 1, 5, 2, 3, 0], [4, 1, 5, 3, 0, 2], [4, 1, 5, 3, 2, 0], [4, 2, 0, 1, 3, 5], [4, 2, 0, 1, 5, 3], [4, 2, 0, 3, 1, 5], [4, 2, 0, 3, 5, 1], [4, 2, 0, 5, 1, 3], [4, 2, 0, 5, 3, 1], [4, 2, 1, 0, 3, 5], [4, 2, 1, 0, 5, 3], [4, 2, 1, 3, 0, 5], [4, 2, 1, 3, 5, 0], [4, 2, 1, 5, 0, 3], [4, 2, 1, 5, 3, 0], [4, 2, 3, 0, 1, 5], [4, 2, 3, 0, 5, 1], [4, 2, 3, 1, 0, 5], [4, 2, 3, 1, 5, 0], [4, 2, 3, 5, 0, 1], [4, 2, 3, 5, 1, 0], [4, 2, 5, 0, 1, 3], [4, 2, 5, 0, 3, 1], [4, 2, 5, 1, 0, 3], [4, 2, 5, 1, 3, 0], [4, 2, 5, 3, 0, 1], [4, 2, 5, 3, 1, 0], [4, 3, 0, 1, 2, 5], [4, 3, 0, 1, 5, 2], [4, 3, 0, 2, 1, 5], [4, 3, 0, 2, 5, 1], [4, 3, 0, 5, 1, 2], [4, 3, 0, 5, 2, 1], [4, 3, 1, 0, 2, 5], [4, 3, 1, 0, 5, 2], [4, 3, 1, 2, 0, 5], [4, 3, 1, 2, 5, 0], [4, 3, 1, 5, 0, 2], [4, 3, 1, 5, 2, 0], [4, 3, 2, 0, 1, 5], [4, 3, 2, 0, 5, 1], [4, 3, 2, 1, 0, 5], [4, 3, 2, 1, 5, 0], [4, 3, 2, 5, 0, 1], [4, 3, 2, 5, 1, 0], [4, 3, 5, 0, 1, 2], [4, 3, 5, 0, 2, 1], [4, 3, 5, 1, 0, 2], [4, 3, 5, 1, 2, 0], [4, 3, 5, 2, 0, 1], [4, 3, 5, 2, 1, 0], [4, 5, 0, 1, 2, 3], [4, 5, 0, 1, 3, 2], [4, 5, 0, 2, 1, 3], [4, 5, 0, 2, 3, 1], [4, 5, 0, 3, 1, 2], [4, 5, 0, 3, 2, 1], [4, 5, 1, 0, 2, 3], [4, 5, 1, 0, 3, 2], [4, 5, 1, 2, 0, 3], [4, 5, 1, 2, 3, 0], [4, 5, 1, 3, 0, 2], [4, 5, 1, 3, 2, 0], [4, 5, 2, 0, 1, 3], [4, 5, 2, 0, 3, 1], [4, 5, 2, 1, 0, 3], [4, 5, 2, 1, 3, 0], [4, 5, 2, 3, 0, 1], [4, 5, 2, 3, 1, 0], [4, 5, 3, 0, 1, 2], [4, 5, 3, 0, 2, 1], [4, 5, 3, 1, 0, 2], [4, 5, 3, 1, 2, 0], [4, 5, 3, 2, 0, 1], [4, 5, 3, 2, 1, 0], [5, 0, 1, 2, 3, 4], [5, 0, 1, 2, 4, 3], [5, 0, 1, 3, 2, 4], [5, 0, 1, 3, 4, 2], [5, 0, 1, 4, 2, 3], [5, 0, 1, 4, 3, 2], [5, 0, 2, 1, 3, 4], [5, 0, 2, 1, 4, 3], [5, 0, 2, 3, 1, 4], [5, 0, 2, 3, 4, 1], [5, 0, 2, 4, 1, 3], [5, 0, 2, 4, 3, 1], [5, 0, 3, 1, 2, 4], [5, 0, 3, 1, 4, 2], [5, 0, 3, 2, 1, 4], [5, 0, 3, 2, 4, 1], [5, 0, 3, 4, 1, 2], [5, 0, 3, 4, 2, 1], [5, 0, 4, 1, 2, 3], [5, 0, 4, 1, 3, 2], [5, 0, 4, 2, 1, 3], [5, 0, 4, 2, 3, 1], [5, 0, 4, 3, 1, 2], [5, 0, 4, 3, 2, 1], [5, 1, 0, 2, 3, 4], [5, 1, 0, 2, 4, 3], [5, 1, 0, 3, 2, 4], [5, 1, 0, 3, 4, 2], [5, 1, 0, 4, 2, 3], [5, 1, 0, 4, 3, 2], [5, 1, 2, 0, 3, 4], [5, 1, 2, 0, 4, 3], [5, 1, 2, 3, 0, 4], [5, 1, 2, 3, 4, 0], [5, 1, 2, 4, 0, 3], [5, 1, 2, 4, 3, 0], [5, 1, 3, 0, 2, 4], [5, 1, 3, 0, 4, 2], [5, 1, 3, 2, 0, 4], [5, 1, 3, 2, 4, 0], [5, 1, 3, 4, 0, 2], [5, 1, 3, 4, 2, 0], [5, 1, 4, 0, 2, 3], [5, 1, 4, 0, 3, 2], [5, 1, 4, 2, 0, 3], [5, 1, 4, 2, 3, 0], [5, 1, 4, 3, 0, 2], [5, 1, 4, 3, 2, 0], [5, 2, 0, 1, 3, 4], [5, 2, 0, 1, 4, 3], [5, 2, 0, 3, 1, 4], [5, 2, 0, 3, 4, 1], [5, 2, 0, 4, 1, 3], [5, 2, 0, 4, 3, 1], [5, 2, 1, 0, 3, 4], [5, 2, 1, 0, 4, 3], [5, 2, 1, 3, 0, 4], [5, 2, 1, 3, 4, 0], [5, 2, 1, 4, 0, 3], [5, 2, 1, 4, 3, 0], [5, 2, 3, 0, 1, 4], [5, 2, 3, 0, 4, 1], [5, 2, 3, 1, 0, 4], [5, 2, 3, 1, 4, 0], [5, 2, 3, 4, 0, 1], [5, 2, 3, 4, 1, 0], [5, 2, 4, 0, 1, 3], [5, 2, 4, 0, 3, 1], [5, 2, 4, 1, 0, 3], [5, 2, 4, 1, 3, 0], [5, 2, 4, 3, 0, 1], [5, 2, 4, 3, 1, 0], [5, 3, 0, 1, 2, 4], [5, 3, 0, 1, 4, 2], [5, 3, 0, 2, 1, 4], [5, 3, 0, 2, 4, 1], [5, 3, 0, 4, 1, 2], [5, 3, 0, 4, 2, 1], [5, 3, 1, 0, 2, 4], [5, 3, 1, 0, 4, 2], [5, 3, 1, 2, 0, 4], [5, 3, 1, 2, 4, 0], [5, 3, 1, 4, 0, 2], [5, 3, 1, 4, 2, 0], [5, 3, 2, 0, 1, 4], [5, 3, 2, 0, 4, 1], [5, 3, 2, 1, 0, 4], [5, 3, 2, 1, 4, 0], [5, 3, 2, 4, 0, 1], [5, 3, 2, 4, 1, 0], [5, 3, 4, 0, 1, 2], [5, 3, 4, 0, 2, 1], [5, 3, 4, 1, 0, 2], [5, 3, 4, 1, 2, 0], [5, 3, 4, 2, 0, 1], [5, 3, 4, 2, 1, 0], [5, 4, 0, 1, 2, 3], [5, 4, 0, 1, 3, 2], [5, 4, 0, 2, 1, 3], [5, 4, 0, 2, 3, 1], [5, 4, 0, 3, 1, 2], [5, 4, 0, 3, 2, 1], [5, 4, 1, 0, 2, 3], [5, 4, 1, 0, 3, 2], [5, 4, 1, 2, 0, 3], [5, 4, 1, 2, 3, 0], [5, 4, 1, 3, 0, 2], [5, 4, 1, 3, 2, 0], [5, 4, 2, 0, 1, 3], [5, 4, 2, 0, 3, 1], [5, 4, 2, 1, 0, 3], [5, 4, 2, 1, 3, 0], [5, 4, 2, 3, 0, 1], [5, 4, 2, 3, 1, 0], [5, 4, 3, 0, 1, 2], [5, 4, 3, 0, 2, 1], [5, 4, 3, 1, 0, 2], [5, 4, 3, 1, 2, 0], [5, 4, 3, 2, 0, 1], [5, 4, 3, 2, 1, 0]]
def pts (n : Nat) : List (List Nat) := match n with
  | 1 => pt1
  | 2 => pt2
  | 3 => pt3
  | 4 => pt4
  | 5 => pt5
  | 6 => pt6
  | _ => []
set_option maxRecDepth 100000 in
theorem ckn1 : chkN 1 pt1 = true := by decide +kernel
set_option maxRecDepth 100000 in
theorem ckp1 : chkP 1 pt1 = true := by decide +kernel
set_option maxRecDepth 100000 in
theorem ckn2 : chkN 2 pt2 = true := by decide +kernel
set_option maxRecDepth 100000 in
theorem ckp2 : chkP 2 pt2 = true := by decide +kernel
set_option maxRecDepth 100000 in
theorem ckn3 : chkN 3 pt3 = true := by decide +kernel
set_option maxRecDepth 100000 in
theorem ckp3 : chkP 3 pt3 = true := by decide +kernel
set_option maxRecDepth 100000 in
theorem ckn4 : chkN 4 pt4 = true := by decide +kernel
set_option maxRecDepth 100000 in
theorem ckp4 : chkP 4 pt4 = true := by decide +kernel
set_option maxRecDepth 100000 in
theorem ckn5 : chkN 5 pt5 = true := by decide +kernel
set_option maxRecDepth 100000 in
theorem ckp5 : chkP 5 pt5 = true := by decide +kernel
set_option maxRecDepth 100000 in
theorem ckn6 : chkN 6 pt6 = true := by decide +kernel
set_option maxRecDepth 100000 in
theorem ckp6 : chkP 6 pt6 = true := by decide +kernel
theorem ckn_all {n : Nat} (h0 : 0 < n) (h7 : n < 7) : chkN n (pts n) = true ∧ chkP n (pts n) = true := by
  rcases (by omega : n = 1 ∨ n = 2 ∨ n = 3 ∨ n = 4 ∨ n = 5 ∨ n = 6) with rfl | rfl | rfl | rfl | rfl | rfl
  · exact ⟨ckn1, ckp1⟩
  · exact ⟨ckn2, ckp2⟩
  · exact ⟨ckn3, ckp3⟩
  · exact ⟨ckn4, ckp4⟩
  · exact ⟨ckn5, ckp5⟩
  · exact ⟨ckn6, ckp6⟩
set_option maxRecDepth 100000 in
theorem len_all {n : Nat} (h0 : 0 < n) (h7 : n < 7) : 0 < (pts n).length ∧ (pts n).length ≤ 720 := by
  rcases (by omega : n = 1 ∨ n = 2 ∨ n = 3 ∨ n = 4 ∨ n = 5 ∨ n = 6) with rfl | rfl | rfl | rfl | rfl | rfl <;> decide +kernel
/-- the order number t -/
def pa (n t : Nat) : Nat → Nat := lf ((pts n).getD t [])
theorem pa_0 {n : Nat} (h0 : 0 < n) (h7 : n < 7) : ∀ k, k < n → pa n 0 k = k := by
  rcases (by omega : n = 1 ∨ n = 2 ∨ n = 3 ∨ n = 4 ∨ n = 5 ∨ n = 6) with rfl | rfl | rfl | rfl | rfl | rfl <;> decide +kernel
theorem chkN_at {n : Nat} : ∀ (L : List (List Nat)), chkN n L = true → ∀ t, t < L.length → (t + 1 < L.length → ∃ b, nxF (lf (L.getD t [])) n = some b ∧ ∀ k, k < n → b k = lf (L.getD (t + 1) []) k) ∧ (t + 1 = L.length → nxF (lf (L.getD t [])) n = none)
  | [], h, t, ht => absurd ht (Nat.not_lt_zero t)
  | [a], h, t, ht => by
    have ht0 : t = 0 := by
      have : t < 1 := ht
      omega
    subst ht0
    refine ⟨fun z => absurd z (by show ¬ 0 + 1 < 1; omega), fun _ => ?_⟩
    have h1 : (nxF (lf a) n).isNone = true := h
    exact Option.isNone_iff_eq_none.mp h1
  | a :: b :: r, h, t, ht => by
    have h1 : ((match nxF (lf a) n with
      | some c => allB n (fun k => c k == lf b k)
      | none => false) && chkN n (b :: r)) = true := h
    rw [Bool.and_eq_true] at h1
    obtain ⟨h1, h2⟩ := h1
    rcases t with _ | t
    · refine ⟨fun _ => ?_, fun z => absurd z (by show ¬ 0 + 1 = r.length + 1 + 1; omega)⟩
      show ∃ c, nxF (lf a) n = some c ∧ ∀ k, k < n → c k = lf b k
      cases hx : nxF (lf a) n with
      | none => rw [hx] at h1; exact absurd (show false = true from h1) (by decide)
      | some c =>
        rw [hx] at h1
        exact ⟨c, rfl, fun k hk => eq_of_beq (allB_at h1 hk)⟩
    · have ih := chkN_at (b :: r) h2 t (by
        have : t + 1 < (b :: r).length + 1 := ht
        omega)
      refine ⟨fun z => ih.1 (by
        have : t + 1 + 1 < (b :: r).length + 1 := z
        omega), fun z => ih.2 (by
        have : t + 1 + 1 = (b :: r).length + 1 := z
        omega)⟩
theorem pa_next {n t : Nat} (h0 : 0 < n) (h7 : n < 7) (ht : t + 1 < (pts n).length) : ∃ b, nxF (pa n t) n = some b ∧ ∀ k, k < n → b k = pa n (t + 1) k := (chkN_at (pts n) (ckn_all h0 h7).1 t (by omega)).1 ht
theorem pa_last {n t : Nat} (h0 : 0 < n) (h7 : n < 7) (ht : t + 1 = (pts n).length) : nxF (pa n t) n = none := (chkN_at (pts n) (ckn_all h0 h7).1 t (by omega)).2 ht
theorem pa_perm {n t : Nat} (h0 : 0 < n) (h7 : n < 7) (ht : t < (pts n).length) : ∀ k, k < n → pa n t k < n ∧ ∀ j, j < k → pa n t j ≠ pa n t k := by
  intro k hk
  have h1 := List.all_eq_true.mp (ckn_all h0 h7).2 ((pts n).getD t []) (by
    rw [List.getD_eq_getElem?_getD, List.getElem?_eq_getElem ht]
    exact List.getElem_mem ht)
  have h2 := allB_at h1 hk
  rw [Bool.and_eq_true] at h2
  exact ⟨of_decide_eq_true h2.1, fun j hj => of_decide_eq_true (allB_at h2.2 hj)⟩
/-! along a rising map -/
def inc (f : Nat → Nat) (n : Nat) : Prop := ∀ x y, x < y → y < n → f x < f y
theorem inc_lt {f : Nat → Nat} {n x y : Nat} (h : inc f n) (hx : x < n) (hy : y < n) : f x < f y ↔ x < y := by
  refine ⟨fun z => ?_, fun z => h x y z hy⟩
  rcases Nat.lt_trichotomy x y with h1 | h1 | h1
  · exact h1
  · subst h1; exact absurd z (Nat.lt_irrefl _)
  · have := h y x h1 hx; omega
theorem sw_comp (f a : Nat → Nat) (i j : Nat) : sw (fun k => f (a k)) i j = fun k => f (sw a i j k) := by
  funext k
  unfold sw
  by_cases h1 : k = i
  · rw [if_pos h1, if_pos h1]
  · rw [if_neg h1, if_neg h1]
    by_cases h2 : k = j
    · rw [if_pos h2, if_pos h2]
    · rw [if_neg h2, if_neg h2]
theorem rvF_comp (f : Nat → Nat) : ∀ (u : Nat) (a : Nat → Nat) (lo hi : Nat), rvF u (fun k => f (a k)) lo hi = fun k => f (rvF u a lo hi k)
  | 0, _, _, _ => rfl
  | u + 1, a, lo, hi => by
    show (if hi ≤ lo then (fun k => f (a k)) else rvF u (sw (fun k => f (a k)) lo hi) (lo + 1) (hi - 1)) = fun k => f ((if hi ≤ lo then a else rvF u (sw a lo hi) (lo + 1) (hi - 1)) k)
    by_cases h : hi ≤ lo
    · rw [if_pos h, if_pos h]
    · rw [if_neg h, if_neg h, sw_comp, rvF_comp f u]
theorem risF_comp {f a : Nat → Nat} {n : Nat} (h : inc f n) (ha : ∀ k, k < n → a k < n) : ∀ i, i < n → risF (fun k => f (a k)) i = risF a i
  | 0, _ => rfl
  | i + 1, hi => by
    have ih := risF_comp h ha i (by omega)
    have e := inc_lt h (ha (i + 1) hi) (ha i (by omega))
    show (if f (a (i + 1)) < f (a i) then risF (fun k => f (a k)) i else some i) = (if a (i + 1) < a i then risF a i else some i)
    by_cases hc : a (i + 1) < a i
    · rw [if_pos hc, if_pos (e.2 hc), ih]
    · rw [if_neg hc, if_neg (fun z => hc (e.1 z))]
theorem grF_comp {f a : Nat → Nat} {n i : Nat} (h : inc f n) (ha : ∀ k, k < n → a k < n) (hi : i < n) : ∀ j, j < n → grF (fun k => f (a k)) i j = grF a i j
  | 0, _ => rfl
  | j + 1, hj => by
    have ih := grF_comp h ha hi j (by omega)
    have e := inc_lt h (ha (j + 1) hj) (ha i hi)
    show (if j + 1 ≤ i + 1 then j + 1 else if f (a (j + 1)) < f (a i) then grF (fun k => f (a k)) i j else j + 1) = (if j + 1 ≤ i + 1 then j + 1 else if a (j + 1) < a i then grF a i j else j + 1)
    by_cases hq : j + 1 ≤ i + 1
    · rw [if_pos hq, if_pos hq]
    · rw [if_neg hq, if_neg hq]
      by_cases hc : a (j + 1) < a i
      · rw [if_pos hc, if_pos (e.2 hc), ih]
      · rw [if_neg hc, if_neg (fun z => hc (e.1 z))]
theorem risF_b {a : Nat → Nat} : ∀ t i, risF a t = some i → i < t ∧ ¬ a (i + 1) < a i
  | 0, i, h => by cases h
  | t + 1, i, h => by
    have h1 : (if a (t + 1) < a t then risF a t else some t) = some i := h
    by_cases hc : a (t + 1) < a t
    · rw [if_pos hc] at h1
      have := risF_b t i h1
      exact ⟨by omega, this.2⟩
    · rw [if_neg hc] at h1
      have h2 := Option.some.inj h1
      subst h2
      exact ⟨by omega, hc⟩
theorem nxF_comp {f a : Nat → Nat} {n : Nat} (h0 : 0 < n) (h : inc f n) (ha : ∀ k, k < n → a k < n) : nxF (fun k => f (a k)) n = (nxF a n).map (fun b k => f (b k)) := by
  unfold nxF
  rw [risF_comp h ha (n - 1) (by omega)]
  cases hx : risF a (n - 1) with
  | none => rfl
  | some i =>
    have hi := (risF_b _ _ hx).1
    show some (rvF n (sw (fun k => f (a k)) i (grF (fun k => f (a k)) i (n - 1))) (i + 1) (n - 1)) = some (fun k => f (rvF n (sw a i (grF a i (n - 1))) (i + 1) (n - 1) k))
    rw [grF_comp h ha (by omega) (n - 1) (by omega), sw_comp, rvF_comp]
/-! sorting by putting in -/
def upN (F : Nat → Nat) (k v : Nat) : Nat → Nat := fun q => if q = k then v else F q
def insF (v : Nat) : Nat → (Nat → Nat) → (Nat → Nat)
  | 0, F => upN F 0 v
  | p + 1, F => if F p ≤ v then upN F (p + 1) v else insF v p (upN F (p + 1) (F p))
def srtF (g : Nat → Nat) : Nat → (Nat → Nat)
  | 0 => fun _ => 0
  | i + 1 => insF (g i) i (srtF g i)
theorem insF_sp {v : Nat} : ∀ (p : Nat) (F : Nat → Nat), inc F p → (∀ k, k < p → F k ≠ v) → (∀ k, p < k → insF v p F k = F k) ∧ inc (insF v p F) (p + 1) ∧ ∀ k, k < p + 1 → insF v p F k = v ∨ ∃ j, j < p ∧ insF v p F k = F j
  | 0, F, h1, h2 => by
    refine ⟨fun k hk => if_neg (by omega), fun x y hx hy => by omega, fun k hk => Or.inl (if_pos (by omega))⟩
  | p + 1, F, h1, h2 => by
    show (∀ k, p + 1 < k → (if F p ≤ v then upN F (p + 1) v else insF v p (upN F (p + 1) (F p))) k = F k) ∧ inc (if F p ≤ v then upN F (p + 1) v else insF v p (upN F (p + 1) (F p))) (p + 1 + 1) ∧ ∀ k, k < p + 1 + 1 → (if F p ≤ v then upN F (p + 1) v else insF v p (upN F (p + 1) (F p))) k = v ∨ ∃ j, j < p + 1 ∧ (if F p ≤ v then upN F (p + 1) v else insF v p (upN F (p + 1) (F p))) k = F j
    by_cases hc : F p ≤ v
    · rw [if_pos hc]
      have hlt : F p < v := Nat.lt_of_le_of_ne hc (h2 p (by omega))
      have hall : ∀ k, k < p + 1 → F k < v := fun k hk => by
        by_cases hkp : k = p
        · subst hkp; exact hlt
        · have := h1 k p (by omega) (by omega); omega
      have e1 : upN F (p + 1) v (p + 1) = v := if_pos rfl
      have e2 : ∀ k, k ≠ p + 1 → upN F (p + 1) v k = F k := fun k hk => if_neg hk
      refine ⟨fun k hk => e2 k (by omega), fun x y hx hy => ?_, fun k hk => ?_⟩
      · by_cases hyp : y = p + 1
        · subst hyp; rw [e1, e2 x (by omega)]; exact hall x (by omega)
        · rw [e2 x (by omega), e2 y hyp]; exact h1 x y hx (by omega)
      · by_cases hkp : k = p + 1
        · subst hkp; exact Or.inl e1
        · exact Or.inr ⟨k, by omega, e2 k hkp⟩
    · rw [if_neg hc]
      have e1 : upN F (p + 1) (F p) (p + 1) = F p := if_pos rfl
      have e2 : ∀ k, k ≠ p + 1 → upN F (p + 1) (F p) k = F k := fun k hk => if_neg hk
      obtain ⟨i1, i2, i3⟩ := insF_sp (v := v) p (upN F (p + 1) (F p)) (fun x y hx hy => by rw [e2 x (by omega), e2 y (by omega)]; exact h1 x y hx (by omega)) (fun k hk => by rw [e2 k (by omega)]; exact h2 k (by omega))
      have hsm : ∀ k, k < p + 1 → insF v p (upN F (p + 1) (F p)) k < F p := fun k hk => by
        rcases i3 k hk with h | ⟨j, hj, h⟩
        · rw [h]; omega
        · rw [h, e2 j (by omega)]; exact h1 j p hj (by omega)
      refine ⟨fun k hk => by rw [i1 k (by omega), e2 k (by omega)], fun x y hx hy => ?_, fun k hk => ?_⟩
      · by_cases hyp : y = p + 1
        · subst hyp; rw [i1 (p + 1) (by omega), e1]; exact hsm x (by omega)
        · exact i2 x y hx (by omega)
      · by_cases hkp : k = p + 1
        · subst hkp; exact Or.inr ⟨p, by omega, by rw [i1 (p + 1) (by omega), e1]⟩
        · rcases i3 k (by omega) with h | ⟨j, hj, h⟩
          · exact Or.inl h
          · exact Or.inr ⟨j, by omega, by rw [h, e2 j (by omega)]⟩
theorem srtF_sp {g : Nat → Nat} : ∀ n, (∀ i, i < n → ∀ j, j < i → g j ≠ g i) → inc (srtF g n) n ∧ ∀ k, k < n → ∃ i, i < n ∧ srtF g n k = g i
  | 0, _ => ⟨fun x y hx hy => absurd hy (Nat.not_lt_zero y), fun k hk => absurd hk (Nat.not_lt_zero k)⟩
  | n + 1, h => by
    obtain ⟨h1, h2⟩ := srtF_sp n (fun i hi => h i (by omega))
    obtain ⟨i1, i2, i3⟩ := insF_sp (v := g n) n (srtF g n) h1 (fun k hk z => by
      obtain ⟨i, hi, e⟩ := h2 k hk
      exact h n (by omega) i hi (by rw [← e]; exact z))
    refine ⟨i2, fun k hk => ?_⟩
    rcases i3 k hk with e | ⟨j, hj, e⟩
    · exact ⟨n, by omega, e⟩
    · obtain ⟨i, hi, e2⟩ := h2 j hj
      exact ⟨i, by omega, e.trans e2⟩
/-! sums, and the first least of them -/
def smF (W : Nat → Nat → Nat) (a : Nat → Nat) : Nat → Option Nat
  | 0 => some 0
  | k + 1 => match smF W a k with
    | none => none
    | some v => if W (a k) (a (k + 1)) = 0 then none else some (v + W (a k) (a (k + 1)))
def bsF (S : Nat → Option Nat) : Nat → Option (Nat × Nat)
  | 0 => none
  | t + 1 => match S t with
    | none => bsF S t
    | some v => match bsF S t with
      | none => some (v, t)
      | some (w, u) => if v < w then some (v, t) else some (w, u)
theorem smF_cg {W : Nat → Nat → Nat} {a b : Nat → Nat} {n : Nat} (h : ∀ k, k < n → a k = b k) : ∀ k, k < n → smF W a k = smF W b k
  | 0, _ => rfl
  | k + 1, hk => by
    rw [smF, smF, smF_cg h k (by omega), h k (by omega), h (k + 1) hk]
theorem smF_b {W : Nat → Nat → Nat} {a : Nat → Nat} (hW : ∀ x y, W x y ≤ 60) : ∀ k v, smF W a k = some v → v ≤ 60 * k ∧ ∀ j, j < k → W (a j) (a (j + 1)) ≠ 0
  | 0, v, h => by
    have := Option.some.inj h
    exact ⟨by omega, fun j hj => absurd hj (Nat.not_lt_zero j)⟩
  | k + 1, v, h => by
    rw [smF] at h
    cases hx : smF W a k with
    | none => rw [hx] at h; cases h
    | some w =>
      rw [hx] at h
      dsimp only at h
      obtain ⟨h1, h2⟩ := smF_b hW k w hx
      by_cases hz : W (a k) (a (k + 1)) = 0
      · rw [if_pos hz] at h; cases h
      · rw [if_neg hz] at h
        have e := Option.some.inj h
        have := hW (a k) (a (k + 1))
        refine ⟨by omega, fun j hj => ?_⟩
        by_cases hjk : j = k
        · subst hjk; exact hz
        · exact h2 j (by omega)
theorem bsF_sp (S : Nat → Option Nat) : ∀ t v u, bsF S t = some (v, u) → u < t ∧ S u = some v
  | 0, v, u, h => by cases h
  | t + 1, v, u, h => by
    rw [bsF] at h
    cases hx : S t with
    | none =>
      rw [hx] at h
      have := bsF_sp S t v u h
      exact ⟨by omega, this.2⟩
    | some x =>
      rw [hx] at h
      dsimp only at h
      cases hy : bsF S t with
      | none =>
        rw [hy] at h
        have e := Option.some.inj h
        have e1 := congrArg Prod.fst e
        have e2 := congrArg Prod.snd e
        dsimp only at e1 e2
        subst e1 e2
        exact ⟨by omega, hx⟩
      | some q =>
        obtain ⟨w, z⟩ := q
        rw [hy] at h
        dsimp only at h
        by_cases hc : x < w
        · rw [if_pos hc] at h
          have e := Option.some.inj h
          have e1 := congrArg Prod.fst e
          have e2 := congrArg Prod.snd e
          dsimp only at e1 e2
          subst e1 e2
          exact ⟨by omega, hx⟩
        · rw [if_neg hc] at h
          have := bsF_sp S t v u (hy.trans h)
          exact ⟨by omega, this.2⟩
