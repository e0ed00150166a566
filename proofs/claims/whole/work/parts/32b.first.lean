/-! ===== THE FIRST STORE ===== -/
/-- behind the two constructors -/
def q_i1 (X : Sx) : Rs := q_cc X q_sb q_pg 400 8 143 [.ref 0] (q_mk q_h0 (11, 20, List.replicate 20 none))
theorem q_i1_s (X : Sx) : ((q_i1 X).isSome) = true := by decide +kernel
