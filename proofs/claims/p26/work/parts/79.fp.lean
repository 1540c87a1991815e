/-! the mean: no NaN (how dear is it?) -/
section FPX
def fpOk (x n : Nat) : Bool := decide (FP.ddiv (FP.i2d (Int32.ofInt (x : Int))) (FP.i2d (Int32.ofInt (n : Int))) &&& 0x7fffffffffffffff ≤ 0x7ff0000000000000) && !(aCmp .ne (Op.cmpValue (FP.dcmp (FP.ddiv (FP.i2d (Int32.ofInt (x : Int))) (FP.i2d (Int32.ofInt (n : Int)))) (FP.ddiv (FP.i2d (Int32.ofInt (x : Int))) (FP.i2d (Int32.ofInt (n : Int))))) .l) 0)
set_option maxRecDepth 100000 in
theorem fp_some : (List.range 50).all (fun x => (List.range 10).all (fun n => fpOk x (n + 1))) = true := by decide +kernel
end FPX
