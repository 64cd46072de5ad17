theorem rel_read {nb : Nat} {tx ty : Nat → Int32} {ln sz : Nat} {rd nw : Int64} {wh im : Bool} {cm : Nat} {M : MS} {T : TS} (h : Rel nb tx ln rd wh cm M ty sz im nw T) (R : RS) :
    (d_read tx ln R M).2.2 = (e_read ty sz T).2.2 ∧ ∃ nb3, Rel nb3 tx 0 (d_read tx ln R M).2.1.2.2.2.1 (d_read tx ln R M).2.1.2.2.2.2.2 0 (d_read tx ln R M).2.1 ty 0 (e_read ty sz T).2.1 0 (e_read ty sz T).1 := by
  sorry
