/-! ===== strings, sums of longs, copies: what they answer ===== -/
def St_length (i : Nat) : Option Int := if i < zstr.length then some ((zstr.getD i []).length : Int) else none
def St_charAt (i : Nat) (k : Int) : Option Int := if i < zstr.length ∧ 0 ≤ k ∧ k < ((zstr.getD i []).length : Int) then some (((zstr.getD i []).getD k.toNat 0 : Nat) : Int) else none
def Mo_in (fu : Nat) (L : zL) (M : zM) (a0 a1 a2 : Int) : Option Int := if a0 < a1 then some 0 else if a2 < a0 then some 0 else some 1
def mcp (M : zM) (a n top k : Int) : zM := fun b j => if b = top then (if 0 ≤ j ∧ j < n ∧ j < k then M a j else 0) else M b j
def Ar_copyOf (fu : Nat) (top : Int) (L : zL) (M : zM) (a n : Int) : Option (Int × zL × zM × Int) := if (L a).1 = 101 ∧ (0 ≤ n ∧ n ≤ 600) ∧ top < 2000000000 then some (top + 1, lu L top (101, n), mcp M a n top (L a).2, top) else none
