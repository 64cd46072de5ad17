/-! the parser's tree keeps what the parser needs, over a name and over the end of a bracket -/
theorem t_place_lt {T : TS} {n : Nat} {x : Int32} : (t_place T n x).1 = T.1 := by
  obtain ⟨nd, kd, pa, be, af, mi, np, lf, nm, dp, la, so, ro⟩ := T
  rfl
theorem t_node_lt {T : TS} {x : Int32} : (t_node T x).1 = T.1 + 1 := by
  obtain ⟨nd, kd, pa, be, af, mi, np, lf, nm, dp, la, so, ro⟩ := T
  rfl
theorem t_part_la {tx : Nat → Int32} {sz : Nat} {T : TS} {i n : Nat} : (t_part tx sz T n i).1.2.2.2.2.2.2.2.2.2.2.1 = T.2.2.2.2.2.2.2.2.2.2.1 := by
  unfold t_part
  split
  · obtain ⟨nd, kd, pa, be, af, mi, np, lf, nm, dp, la, so, ro⟩ := T
    rfl
  · rfl
theorem t_part_n {tx : Nat → Int32} {sz : Nat} {T : TS} {i n : Nat} (hn : n < T.1) : n ≤ (t_part tx sz T n i).2.1 := by
  unfold t_part
  split
  · exact Nat.le_of_lt hn
  · exact Nat.le_refl n
theorem okP_name {tx : Nat → Int32} {sz : Nat} {T : TS} {i d : Nat} {c : Int32} (h : okP T i) (hd : T.2.2.2.2.2.2.2.2.2.1 = d + 1) (hp : T.2.2.2.2.2.2.1 < 60) (hi : i < sz) :
    okP (t_name tx sz T d i c).1 (t_name tx sz T d i c).2 ∧ (t_name tx sz T d i c).2 ≤ sz ∧ i < (t_name tx sz T d i c).2 := by
  have h0 := h.2.2.2.1
  have h1 : okP (t_place (t_node T 0) T.1 (c - 97)) (i + 1) := by
    refine okP_place (okP_node h) ?_
    obtain ⟨nd, kd, pa, be, af, mi, np, lf, nm, dp, la, so, ro⟩ := T
    exact hp
  have hlt : T.1 < (t_place (t_node T 0) T.1 (c - 97)).1 := by rw [t_place_lt, t_node_lt]; exact Nat.lt_succ_self _
  have hdp : (t_place (t_node T 0) T.1 (c - 97)).2.2.2.2.2.2.2.2.2.1 = d + 1 ∧ (t_place (t_node T 0) T.1 (c - 97)).2.2.2.2.2.2.2.2.2.2.1 = T.2.2.2.2.2.2.2.2.2.2.1 := by
    obtain ⟨nd, kd, pa, be, af, mi, np, lf, nm, dp, la, so, ro⟩ := T
    exact ⟨hd, rfl⟩
  have h2 := okP_part (tx := tx) (sz := sz) (n := T.1) h1
  have h3 := t_part_lt (tx := tx) (sz := sz) (i := i + 1) hlt
  have h4 := t_part_n (tx := tx) (sz := sz) (i := i + 1) hlt
  refine ⟨okP_add h2 (by rw [t_part_dp, hdp.1]; exact Nat.lt_succ_self d) h3.1 ?_, h3.2.2 hi, h3.2.1⟩
  intro x hx
  rw [t_part_la, hdp.2] at hx
  exact Nat.lt_of_lt_of_le (h0 d x (by rw [hd]; exact Nat.lt_succ_self d) hx) h4
theorem okP_end {tx : Nat → Int32} {sz : Nat} {T : TS} {i d : Nat} (h : okP T i) (hd : T.2.2.2.2.2.2.2.2.2.1 = d + 1) (hi : i < sz) :
    okP (t_end tx sz T d i).1 (t_end tx sz T d i).2 ∧ (t_end tx sz T d i).2 ≤ sz ∧ i < (t_end tx sz T d i).2 := by
  have h0 := h.2.2.2.1
  have h1 := okP_close h hd
  have hlt : T.1 < (t_close T d).1 := by
    obtain ⟨nd, kd, pa, be, af, mi, np, lf, nm, dp, la, so, ro⟩ := T
    exact Nat.lt_succ_self nd
  have hdp : (t_close T d).2.2.2.2.2.2.2.2.2.1 = d ∧ (t_close T d).2.2.2.2.2.2.2.2.2.2.1 = T.2.2.2.2.2.2.2.2.2.2.1 := by
    obtain ⟨nd, kd, pa, be, af, mi, np, lf, nm, dp, la, so, ro⟩ := T
    exact ⟨rfl, rfl⟩
  have h2 := okP_part (tx := tx) (sz := sz) (n := T.1) h1
  have h3 := t_part_lt (tx := tx) (sz := sz) (i := i + 1) hlt
  have h4 := t_part_n (tx := tx) (sz := sz) (i := i + 1) hlt
  cases d with
  | zero => exact ⟨okP_root h2, h3.2.2 hi, h3.2.1⟩
  | succ d1 =>
    refine ⟨okP_add h2 (by rw [t_part_dp, hdp.1]; exact Nat.lt_succ_self d1) h3.1 ?_, h3.2.2 hi, h3.2.1⟩
    intro x hx
    rw [t_part_la, hdp.2] at hx
    exact Nat.lt_of_lt_of_le (h0 d1 x (by rw [hd]; omega) hx) h4
theorem okP_start {kd : Nat → Int32} {pa be af : Nat → Option Nat} {mi : Nat → Bool} {lf : Nat → Nat} {nm : Nat → Int32} {la : Nat → Option Nat} {so : Nat → Int32} {ro : Nat} : okP (t_open (0, kd, pa, be, af, mi, 0, lf, nm, 0, la, so, ro)) 1 := by
  refine okP_open ⟨Nat.zero_le _, Nat.zero_le _, Nat.zero_le _, fun v x hv => absurd hv (Nat.not_lt_zero _), fun x y hx => absurd hx (Nat.not_lt_zero _)⟩ ?_
  show ¬ (0 : Nat) = 12
  decide
