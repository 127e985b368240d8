def lmC (no : Nat) (at_ : Nat → Int32) (b v : Int32) : Nat := if inB b no = true then (if at_ (nN b) = -1 then 2 else if v = -1 then 3 else 0) else 1
