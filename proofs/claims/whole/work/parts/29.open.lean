theorem rel_put {nb : Nat} {tx ty : Nat → Int32} {ln sz : Nat} {rd nw : Int64} {wh im : Bool} {cm : Nat} {M : MS} {T : TS} (h : Rel nb tx ln rd wh cm M ty sz im nw T) (v : Int64) (x : Int32) : (d_put tx ln v x).2.2 = (e_put ty sz v x).2.2 ∧ Rel nb (d_put tx ln v x).1 (d_put tx ln v x).2.1 rd wh cm M (e_put ty sz v x).1 (e_put ty sz v x).2.1 im nw T := by
  sorry
theorem rel_read {nb : Nat} {tx ty : Nat → Int32} {ln sz : Nat} {rd nw : Int64} {wh im : Bool} {cm : Nat} {M : MS} {T : TS} (h : Rel nb tx ln rd wh cm M ty sz im nw T) (R : RS) :
    (d_read tx ln R M).2.2 = (e_read ty sz T).2.2 ∧ ∃ nb3, Rel nb3 tx 0 (d_read tx ln R M).2.1.2.2.2.1 (d_read tx ln R M).2.1.2.2.2.2.2 0 (d_read tx ln R M).2.1 ty 0 (e_read ty sz T).2.1 0 (e_read ty sz T).1 := by
  sorry
