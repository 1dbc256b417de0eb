/-! AN ABSTRACT MACHINE: the class, the reference and the law as lists of resolved instructions over Int; what a run of it answers is claimed of the JVM by one simulation theorem (a later part) -/
abbrev AV : Type := Nat × Int
abbrev Hp : Type := Int → Int → Int
abbrev AI : Type := Nat × Nat × Int × List (Int × Nat)
def vi (x : Int) : AV := (0, x)
def vl (x : Int) : AV := (1, x)
def va (x : Int) : AV := (2, x)
def vu : AV := (3, 0)
def hs (H : Hp) (c j v : Int) : Hp := fun a b => if a = c ∧ b = j then v else H a b
def w32 (x : Int) : Int := (x + 2147483648) % 4294967296 - 2147483648
def w64 (x : Int) : Int := (x + 9223372036854775808) % 18446744073709551616 - 9223372036854775808
def b_and (x y : Int) : Int := (Int32.ofInt x &&& Int32.ofInt y).toInt
def b_or (x y : Int) : Int := (Int32.ofInt x ||| Int32.ofInt y).toInt
def b_xor (x y : Int) : Int := (Int32.ofInt x ^^^ Int32.ofInt y).toInt
def b_shl (x y : Int) : Int := (Int32.ofInt x <<< (Int32.ofInt y &&& 31)).toInt
def b_shr (x y : Int) : Int := (Int32.ofInt x >>> (Int32.ofInt y &&& 31)).toInt
def b_ushr (x y : Int) : Int := ((Int32.ofInt x).toUInt32 >>> ((Int32.ofInt y).toUInt32 &&& Int32.toUInt32 31)).toInt32.toInt
def l_and (x y : Int) : Int := (Int64.ofInt x &&& Int64.ofInt y).toInt
def l_or (x y : Int) : Int := (Int64.ofInt x ||| Int64.ofInt y).toInt
def l_xor (x y : Int) : Int := (Int64.ofInt x ^^^ Int64.ofInt y).toInt
def l_shl (x y : Int) : Int := (Int64.ofInt x <<< ((Int32.ofInt y).toInt64 &&& 63)).toInt
def l_shr (x y : Int) : Int := (Int64.ofInt x >>> ((Int32.ofInt y).toInt64 &&& 63)).toInt
def w8 (x : Int) : Int := (x + 128) % 256 - 128
def w16u (x : Int) : Int := x % 65536
def cmp3 (x y : Int) : Int := if x > y then 1 else if x = y then 0 else -1
def am_bi (k : Nat) (x y : Int) : Int := match k with
  | 0 => w32 (x + y)
  | 1 => w32 (x - y)
  | 2 => w32 (x * y)
  | 3 => b_and x y
  | 4 => b_or x y
  | 5 => b_xor x y
  | 6 => b_shl x y
  | 7 => b_shr x y
  | 8 => b_ushr x y
  | 9 => w32 (Int.tdiv x y)
  | _ => w32 (Int.tmod x y)
def am_bl (k : Nat) (x y : Int) : Int := match k with
  | 0 => w64 (x + y)
  | 1 => w64 (x - y)
  | 2 => w64 (x * y)
  | 3 => l_and x y
  | 4 => l_or x y
  | 5 => l_xor x y
  | 6 => w64 (Int.tdiv x y)
  | _ => w64 (Int.tmod x y)
def am_cn (z : Int) (x y : Int) : Bool := if z = 0 then decide (x = y) else if z = 1 then decide (x ≠ y) else if z = 2 then decide (x < y) else if z = 3 then decide (y ≤ x) else if z = 4 then decide (y < x) else decide (x ≤ y)
def lget : List AV → Nat → AV
  | [], _ => vu
  | a :: _, 0 => a
  | _ :: l, n + 1 => lget l n
/-- a store of one word: what stood there goes, and a long whose second half it was -/
def lst1 : List AV → Nat → AV → List AV
  | [], _, _ => []
  | _ :: l, 0, v => v :: l
  | a :: l, 1, v => (if a.1 = 1 then vu else a) :: lst1 l 0 v
  | a :: l, n + 2, v => a :: lst1 l (n + 1) v
def lst2 : List AV → Nat → AV → List AV
  | [], _, _ => []
  | [_], _, _ => []
  | _ :: _ :: l, 0, v => v :: vu :: l
  | a :: b :: l, 1, v => (if a.1 = 1 then vu else a) :: lst2 (b :: l) 0 v
  | a :: b :: l, n + 2, v => a :: lst2 (b :: l) (n + 1) v
/-- locals at the entry -/
def lcs : Nat → List AV → List AV
  | 0, _ => []
  | n + 1, [] => vu :: lcs n []
  | 1, a :: _ => [a]
  | n + 2, a :: l => if a.1 = 1 then a :: vu :: lcs n l else a :: lcs (n + 1) l
def wds : List AV → Nat
  | [] => 0
  | a :: l => wds l + (if a.1 = 1 then 2 else 1)
def tkr : Nat → List AV → List AV → List AV
  | 0, _, acc => acc
  | _ + 1, [], acc => acc
  | n + 1, a :: st, acc => tkr n st (a :: acc)
def dpr : Nat → List AV → List AV
  | 0, st => st
  | _ + 1, [] => []
  | n + 1, _ :: st => dpr n st
def swl (x : Int) (d : Nat) : List (Int × Nat) → Nat
  | [] => d
  | q :: l => if x = q.1 then q.2 else swl x d l
