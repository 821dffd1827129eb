def moL : List Nat := [208, 209, 210, 211, 212, 213, 214, 215, 0, 216, 217, 218, 219, 220, 221, 222, 223, 224, 225, 226, 0, 227, 228, 229, 230, 231, 232, 233, 234, 235, 236, 0, 237, 238, 0, 0, 239, 240, 241, 242, 243, 244, 245, 246, 247, 248, 0, 0]
def moR (k : Nat) : Nat := moL.getD k 0
/-! THE RELATION between the class's cells and the reference's, over one memory: bounded, so that a program decides it of the first state -/
/-- the references that never change -/
abbrev R0 (s : Sg) : Prop := sN s = 249 ∧ sR s 0 0 = some 1 ∧ sR s 0 1 = some 2 ∧ sR s 0 2 = some 5 ∧ sR s 0 3 = some 6 ∧ sR s 0 4 = some 7 ∧ sR s 0 5 = some 8 ∧ sR s 0 6 = some 9 ∧ sR s 0 7 = some 10 ∧ sR s 0 8 = some 11 ∧ sR s 2 0 = some 3 ∧ sR s 2 1 = some 4 ∧ sR s 11 0 = some 12 ∧ sR s 11 1 = some 13 ∧ sR s 11 2 = some 14 ∧
  (∀ r, r < 3 → sR s 1 r = some (15 + 3 * r) ∧ sR s (15 + 3 * r) 0 = some (16 + 3 * r) ∧ sR s (15 + 3 * r) 1 = some (17 + 3 * r)) ∧
  (∀ j, j < 32 → sR s 5 j = some (24 + j) ∧ sI s (24 + j) 0 = nI j) ∧
  (∀ g, g < 20 → sR s 6 g = some (56 + 2 * g) ∧ sI s (56 + 2 * g) 0 = nI g ∧ sR s (56 + 2 * g) 1 = some (57 + 2 * g)) ∧
  (∀ p, p < 3 → sR s 7 p = some (96 + p) ∧ sI s (96 + p) 0 = nI p) ∧
  (∀ l, l < 12 → sR s 8 l = some (99 + 7 * l) ∧ sR s (99 + 7 * l) 0 = some (100 + 7 * l) ∧ sR s (99 + 7 * l) 1 = some (101 + 7 * l) ∧ sR s (99 + 7 * l) 2 = some (102 + 7 * l) ∧ sR s (99 + 7 * l) 3 = some (103 + 7 * l) ∧ sR s (103 + 7 * l) 0 = some (104 + 7 * l) ∧ sR s (103 + 7 * l) 1 = some (105 + 7 * l)) ∧
  (∀ i, i < 6 → sR s 10 i = some (183 + 4 * i) ∧ sR s (183 + 4 * i) 0 = some (184 + 4 * i) ∧ sR s (183 + 4 * i) 1 = some (185 + 4 * i) ∧ sR s (183 + 4 * i) 2 = some (186 + 4 * i)) ∧
  ∀ k, k < 48 → moR k = 0 ∨ sR s 207 k = some (moR k)
/-- a float of a sheet: no NaN, not far beyond 2 to the power of 31 -/
abbrev okF (x : UInt32) : Prop := x.toNat % 2 ^ 31 < 161 * 2 ^ 23
/-- sheets -/
abbrev R1 (s : Sg) : Prop := ∀ r, r < 3 → (sI s (15 + 3 * r) 3 = 0 ∧ sI s 208 r = -1) ∨ (sI s (15 + 3 * r) 3 = 1 ∧ sI s (15 + 3 * r) 2 = sI s 208 r ∧ ∃ n, n < 21 ∧ sI s 208 r = nI n ∧ ∀ i, i < n → sF s (16 + 3 * r) i = sF s 209 (20 * r + i) ∧ sI s (17 + 3 * r) i = sI s 210 (20 * r + i) ∧ (sI s 210 (20 * r + i) = 0 ∨ sI s 210 (20 * r + i) = 1) ∧ okF (sF s 209 (20 * r + i)))
/-- a wind's number -/
abbrev okW (x : Int32) : Prop := -300 ≤ x.toInt ∧ x.toInt ≤ 300
abbrev R2 (s : Sg) : Prop := ∀ k, k < 12 → sI s 3 k = sI s 211 k ∧ sI s 4 k = sI s 212 k ∧ okW (sI s 211 k) ∧ okW (sI s 212 k)
abbrev btw (x : Int32) (a b : Int) : Prop := a ≤ x.toInt ∧ x.toInt ≤ b
/-- jumpers -/
abbrev R3 (s : Sg) : Prop := ∀ j, j < 32 → sI s (24 + j) 1 = sI s 213 j ∧ sI s (24 + j) 2 = sI s 214 j ∧ sI s (24 + j) 3 = sI s 215 j ∧ btw (sI s 213 j) 0 2 ∧ btw (sI s 214 j) 40 200 ∧ btw (sI s 215 j) 0 1000
/-- groups -/
abbrev R4 (s : Sg) : Prop := sI s 0 9 = sI s 207 8 ∧ ∃ n, n < 21 ∧ sI s 207 8 = nI n ∧ ∀ g, g < 20 → sI s (56 + 2 * g) 3 = sI s 216 g ∧ sI s (56 + 2 * g) 4 = sI s 217 g ∧ sI s (56 + 2 * g) 5 = sI s 218 g ∧ sI s (56 + 2 * g) 6 = sI s 219 g ∧ sI s (56 + 2 * g) 2 = sI s 220 g ∧ btw (sI s 216 g) 0 3 ∧ btw (sI s 217 g) 0 15000 ∧ btw (sI s 218 g) 0 150 ∧ btw (sI s 219 g) 0 3 ∧ (g < n → 6000 ≤ (sI s 217 g).toInt) ∧ (n ≤ g → sI s 220 g = 0) ∧ ∃ m, m < 5 ∧ sI s 220 g = nI m ∧ ∀ k, k < m → ∃ j, j < 32 ∧ sI s 221 (4 * g + k) = nI j ∧ sR s (57 + 2 * g) k = some (24 + j)
/-- planes -/
abbrev R5 (s : Sg) : Prop := ∀ p, p < 3 → sI s (96 + p) 1 = sI s 222 p ∧ sI s (96 + p) 2 = sI s 223 p ∧ sI s (96 + p) 3 = sI s 224 p ∧ sI s (96 + p) 4 = sI s 225 p ∧ btw (sI s 222 p) 1 20 ∧ btw (sI s 223 p) 100 4000 ∧ btw (sI s 224 p) 200 600 ∧ btw (sI s 225 p) 15000 47000
/-- rules -/
abbrev R6 (s : Sg) : Prop := ∀ k, k < 10 → sI s 9 k = sI s 226 k ∧ btw (sI s 226 k) 0 (stv 1 k).toInt
/-- one load -/
abbrev RL1 (s : Sg) (n l : Nat) : Prop := sI s (99 + 7 * l) 6 = sI s 228 l ∧ sI s (99 + 7 * l) 7 = sI s 231 l ∧ sI s (99 + 7 * l) 8 = sI s 232 l ∧ btw (sI s 231 l) (-50000) 50000 ∧ (∃ p, p < 3 ∧ sI s 227 l = nI p ∧ ((sI s 232 l = 0 ∧ (n ≤ l ∨ (sR s (99 + 7 * l) 4 = some (96 + p) ∧ sR s (99 + 7 * l) 5 = some 2))) ∨ (sI s 232 l = 1 ∧ l < n ∧ sR s (99 + 7 * l) 4 = some (102 + 7 * l) ∧ sR s (99 + 7 * l) 5 = some (103 + 7 * l) ∧ sI s (102 + 7 * l) 0 = nI p ∧ sI s (102 + 7 * l) 3 = sI s 235 l ∧ sI s (102 + 7 * l) 4 = sI s 236 l ∧ btw (sI s 235 l) 200 600 ∧ btw (sI s 236 l) 15000 47000 ∧ ∀ k, k < 12 → sI s (104 + 7 * l) k = sI s 233 (12 * l + k) ∧ sI s (105 + 7 * l) k = sI s 234 (12 * l + k) ∧ okW (sI s 233 (12 * l + k)) ∧ okW (sI s 234 (12 * l + k))))) ∧
  ∃ m, m < 7 ∧ sI s 228 l = nI m ∧ (n ≤ l → m = 0) ∧ ∀ i, i < m → (sI s (101 + 7 * l) i = sI s 230 (6 * l + i) ∧ btw (sI s 230 (6 * l + i)) 1 60 ∧ ∃ g, g < 20 ∧ nI g < sI s 207 8 ∧ sI s 229 (6 * l + i) = nI g ∧ sR s (100 + 7 * l) i = some (56 + 2 * g)) ∧ ∀ j, j < i → ¬ sI s 229 (6 * l + j) = sI s 229 (6 * l + i)
/-- loads -/
abbrev R7 (s : Sg) : Prop := sI s 0 10 = sI s 207 20 ∧ ∃ n, n < 13 ∧ sI s 207 20 = nI n ∧ ∀ l, l < 12 → RL1 s n l
/-- how many jumpers are in the first i groups of a load, and in the first l loads that have left -/
def jin (s : Sg) (l : Nat) : Nat → Int32
  | 0 => 0
  | i + 1 => jin s l i + sI s 220 (sI s 229 (6 * l + i)).toNatClampNeg
def jup (s : Sg) : Nat → Int32
  | 0 => 0
  | l + 1 => if sI s 232 l = 0 then jup s l else jup s l + jin s l (sI s 228 l).toNatClampNeg
abbrev R8 (s : Sg) : Prop := sI s 207 31 = jup s 12
abbrev Rel (s : Sg) : Prop := R0 s ∧ R1 s ∧ R2 s ∧ R3 s ∧ R4 s ∧ R5 s ∧ R6 s ∧ R7 s ∧ R8 s
def sgA : Option Sg := nwO sg0 8 fun x1 s2 => cx x1 fun a5 => cl (mX8_init a5 s2) fun _ s4 => nwO s4 9 fun x6 s7 => cx x6 fun a10 => cl (mX9_init a10 s7) fun _ s9 => if x1 = some 0 ∧ x6 = some 207 then some s9 else none
def sg1 : Sg := sgA.getD sg0
