/-! READ keeps the relation -/
theorem base_0 {F L C : Nat → Int64} {J X : Nat → List Nat} {oF oL : Nat → Int64} {oE : Nat → Bool} {sp : Nat → Int32} {nx : Nat → Int64} {kd : Nat → Int32} {pa be af : Nat → Option Nat} {mi : Nat → Bool} {lf : Nat → Nat} {lq : Nat → Option Nat} {so : Nat → Int32} : Base F L C J X [] oF oL oE sp 0 nx 0 kd pa be af mi 0 lf lq so :=
  ⟨⟨Nat.zero_le _, Nat.zero_le _, fun n p h => absurd h (Nat.not_lt_zero _), fun n p h => absurd h (Nat.not_lt_zero _), fun n p h => absurd h (Nat.not_lt_zero _), fun n h => absurd h (Nat.not_lt_zero _)⟩, fun n h => absurd h (Nat.not_lt_zero _), fun n h => absurd h (Nat.not_lt_zero _), fun n h => absurd h (Nat.not_lt_zero _), fun n h => absurd h (Nat.not_lt_zero _), fun v w a b _ h => absurd h (Nat.not_lt_zero _), fun c hc => absurd hc List.not_mem_nil, fun n h => absurd h (Nat.not_lt_zero _)⟩
theorem m1_0 : (-1 : Int32) - nI 0 = -1 := by decide
theorem agree_read {tx ty : Nat → Int32} {sz : Nat} (hT : ∀ j, j < sz → ∃ n : Nat, n < 256 ∧ ty j = nI n ∧ tx j = (nI n).toInt8.toInt32) (hsz : sz ≤ 300) (R : RS) (M : MS) (T : TS) : Agree (d_text tx sz R M) (e_parse ty sz (t_clear T)) := by
  obtain ⟨oF, oL, oE, sp, dp, sta, pF, pL, pE⟩ := R
  obtain ⟨nm, nx, np, fi, la, em⟩ := M
  obtain ⟨nd, kd, pa, be, af, mi, nq, lf, nr, dq, lq, so, ro⟩ := T
  show Agree (rdL tx sz sz 0 (oF, oL, oE, sp, 0, 0, pF, pL, pE) (nm, nx, 0, 0, 0, false)) (e_parse ty sz (0, kd, pa, be, af, mi, 0, lf, nr, 0, lq, so, ro))
  unfold e_parse
  by_cases h0 : 0 < sz
  · obtain ⟨k, hk⟩ : ∃ k, sz = k + 1 := ⟨sz - 1, by omega⟩
    have hat : atF ty sz 0 = ty 0 := by rw [atF, if_pos h0]
    rw [hat]
    have hx : (tx 0 = 40 ↔ ty 0 = 40) := by
      rcases tx_ty hT h0 with e | ⟨a, -, b, -⟩
      · rw [e]
      · exact ⟨fun z => absurd z (neg_ne a).1, fun z => absurd z b⟩
    by_cases c : ty 0 = 40
    · rw [if_pos c]
      have hb : r_take (oF, oL, oE, sp, 0, 0, pF, pL, pE) (nm, nx, 0, 0, 0, false) (tx 0) = ((oF, oL, oE, upd sp 0 0, 0 + 1, 1, pF, pL, pE), (nm, nx, 0, 0, 0, false), 0) := by
        rw [hx.mpr c, r_take, if_pos rfl, if_pos rfl, r_open, if_neg (by decide)]
      have hs := sim_run hT hsz 302 1 true (t_open (0, kd, pa, be, af, mi, 0, lf, nr, 0, lq, so, ro)) (oF, oL, oE, upd sp 0 0, 0 + 1, 1, pF, pL, pE) (nm, nx, 0, 0, 0, false) h0 (by omega) okP_start (Or.inl ⟨rfl, ⟨rfl, rfl, rfl, fun q h => absurd h (Nat.not_lt_zero _), fun _ => 0, fun _ => 0, fun _ => 0, va_up (fun _ => []) 0 [], base_open base_0⟩, Nat.succ_pos _⟩)
      have e : rdL tx sz sz 0 (oF, oL, oE, sp, 0, 0, pF, pL, pE) (nm, nx, 0, 0, 0, false) = rdL tx sz (sz - 1) 1 (oF, oL, oE, upd sp 0 0, 0 + 1, 1, pF, pL, pE) (nm, nx, 0, 0, 0, false) := by
        have e1 : rdL tx sz (k + 1) 0 (oF, oL, oE, sp, 0, 0, pF, pL, pE) (nm, nx, 0, 0, 0, false) = rdL tx sz k 1 (oF, oL, oE, upd sp 0 0, 0 + 1, 1, pF, pL, pE) (nm, nx, 0, 0, 0, false) := rd_go hb
        rw [← hk] at e1
        have e2 : sz - 1 = k := by omega
        rw [e2]
        exact e1
      rw [e]
      exact hs
    · rw [if_neg c]
      refine agree_err ?_ (by decide)
      have hb : (r_take (oF, oL, oE, sp, 0, 0, pF, pL, pE) (nm, nx, 0, 0, 0, false) (tx 0)).2.2 = 1 := by
        rw [r_take, if_pos rfl, if_neg (fun z => c (hx.mp z))]
      have e1 := rd_wrong (tx := tx) (ln := sz) (n := k) (i := 0) hb
      rw [← hk, m1_0] at e1
      exact e1
  · have e : sz = 0 := by omega
    subst e
    have hat : atF ty 0 0 = -1 := by rw [atF, if_neg (by omega)]
    rw [hat, if_neg (by decide)]
    refine agree_err ?_ (by decide)
    have hf : (r_fin (oF, oL, oE, sp, 0, 0, pF, pL, pE) (nm, nx, 0, 0, 0, false)).2 = false := by
      rw [r_fin, if_neg (by omega), if_pos rfl]
    rw [rd_end hf, m1_0]
theorem rel_read {nb : Nat} {tx ty : Nat → Int32} {ln sz : Nat} {rd nw : Int64} {wh im : Bool} {cm : Nat} {M : MS} {T : TS} (h : Rel nb tx ln rd wh cm M ty sz im nw T) (R : RS) :
    (d_read tx ln R M).2.2 = (e_read ty sz T).2.2 ∧ ∃ nb3, Rel nb3 tx 0 (d_read tx ln R M).2.1.2.2.2.1 (d_read tx ln R M).2.1.2.2.2.2.2 0 (d_read tx ln R M).2.1 ty 0 (e_read ty sz T).2.1 0 (e_read ty sz T).1 := by
  obtain ⟨⟨rfl, hsz, hT⟩, -, -⟩ := h
  have hA := agree_read hT hsz R M T
  unfold d_read e_read
  generalize d_text tx ln R M = A at hA ⊢
  generalize e_parse ty ln (t_clear T) = B at hA ⊢
  obtain ⟨R3, ⟨nm, nx, np, fi, la, em⟩, v⟩ := A
  obtain ⟨⟨nd, kd, pa, be, af, mi, nq, lf, nr, dq, lq, so, ro⟩, w⟩ := B
  obtain ⟨e, hA⟩ := hA
  have e : v = w := e
  subst e
  have ht : RelT tx 0 ty 0 := ⟨rfl, Nat.zero_le _, fun j hj => absurd hj (Nat.not_lt_zero _)⟩
  rcases hA with hn | ⟨hp, nb3, hM⟩
  · have hn : v < 0 := hn
    have hn2 : ¬ 0 ≤ v := Int32.not_le.mpr hn
    dsimp only
    rw [if_neg hn2, if_pos hn]
    refine ⟨rfl, 0, ht, ⟨rfl, ⟨Nat.zero_le _, Nat.zero_le _, fun n p h => absurd h (Nat.not_lt_zero _), fun n p h => absurd h (Nat.not_lt_zero _), fun n p h => absurd h (Nat.not_lt_zero _), fun n h => absurd h (Nat.not_lt_zero _)⟩, fun z => Bool.noConfusion z, fun q h => absurd h (Nat.not_lt_zero _), rfl, rfl, rfl, fun q h => absurd h (Nat.not_lt_zero _), fun _ => rfl, fun z => Bool.noConfusion z⟩, Or.inl ⟨rfl, rfl, rfl⟩⟩
  · have hp : 0 ≤ v := hp
    have hn : ¬ v < 0 := Int32.not_lt.mpr hp
    dsimp only
    rw [if_pos hp, if_neg hn]
    exact ⟨rfl, nb3, ht, hM, Or.inl ⟨rfl, rfl, rfl⟩⟩
