theorem zz_a : Cond.methodLink RX2 60 Lib.Math.max.name ∈ okW ∨ True := Or.inr trivial
theorem zz_b : lw_tbl[35]? = some (Cond.initialized RX1) := rfl
theorem zz_c : lw_tbl[300]? = lw_tbl[300]? := rfl
