set_option maxRecDepth 100000 in
noncomputable def Fx_T_hasHillX (number : Int32) (u : Nat → Nat → Int32) (g : Nat → Nat → Int64) : Bool := if number < (0 : Int32) then (false) else (if (u 1 5) ≤ number then (false) else (true))
