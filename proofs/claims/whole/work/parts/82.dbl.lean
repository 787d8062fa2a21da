-- ==== the bits of a double, by computing
def dbE (x : Int) (e : Int) : Int := glor (glshl e 52) ((FP.d2l (gU64 (gdb (FP.dmul (gU64 (gdb (FP.dsub (gU64 x) (gU64 (gdb FP.dconst1))))) (gU64 (gdb 4841369599423283200)))))).toInt)
def dbV (x : Int) : Bool := decide ((FP.dsub (gU64 x) (gU64 (gdb FP.dconst1))) &&& 0x7fffffffffffffff ≤ (0x7ff0000000000000 : UInt64)) && decide ((FP.dmul (gU64 (gdb (FP.dsub (gU64 x) (gU64 (gdb FP.dconst1))))) (gU64 (gdb 4841369599423283200))) &&& 0x7fffffffffffffff ≤ (0x7ff0000000000000 : UInt64))
/-- what the class comes to: none, if it would not go through in so many steps -/
def dbL : Nat → Int → Int → Option Int
  | 0, _, _ => none
  | n + 1, x, e => if (Op.cmpValue (FP.dcmp (gU64 x) (gU64 (gdb FP.dconst1))) .g).toInt < 0 then
      (if (FP.dmul (gU64 x) (gU64 (gdb 4611686018427387904))) &&& 0x7fffffffffffffff ≤ (0x7ff0000000000000 : UInt64) then dbL n (gdb (FP.dmul (gU64 x) (gU64 (gdb 4611686018427387904)))) (glsub e 1) else none)
    else if dbV x then some (dbE x e) else none
def dbQ (n m : Nat) : Int := gdb (FP.ddiv (gU64 (gdb (FP.i2d (Int32.ofInt (n : Int))))) (gU64 (gdb (FP.i2d (Int32.ofInt (m : Int))))))
def dbK (n m : Nat) : Bool := decide (FP.ddiv (gU64 (gdb (FP.i2d (Int32.ofInt (n : Int))))) (gU64 (gdb (FP.i2d (Int32.ofInt (m : Int))))) &&& 0x7fffffffffffffff ≤ (0x7ff0000000000000 : UInt64)) && decide ((Op.cmpValue (FP.dcmp (gU64 (dbQ n m)) (gU64 (dbQ n m))) .l).toInt = 0)
def dbC (n m : Nat) : Bool := dbK n m && decide ((0 : Int) < (Op.cmpValue (FP.dcmp (gU64 (dbQ n m)) (gU64 (gdb FP.dconst0))) .g).toInt) && decide (dbL 8 (dbQ n m) 1023 = some (((gU64 (dbQ n m)).toInt64).toInt))
theorem dbT1 : ∀ m : Nat, m < 61 → ∀ n : Nat, n < m → dbC (n + 1) m = true := by decide +kernel
