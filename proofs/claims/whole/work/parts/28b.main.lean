/-! READ: the class byte by byte, the reference turn by turn, come to the same answer and to the same model -/
def Agree (a : RS × MS × Int32) (b : TS × Int32) : Prop := a.2.2 = b.2 ∧ (b.2 < 0 ∨ (0 ≤ b.2 ∧ ∃ nb, RelM nb true a.2.1 b.1))
theorem byte_cl : ∀ n, n < 256 → (((nI n).toInt8.toInt32 = nI n ∧ n < 128) ∨ ((nI n).toInt8.toInt32 < 0 ∧ 128 ≤ n)) := by decide +kernel
theorem neg_1 {i : Nat} (h : i ≤ 300) : (-1 : Int32) - nI i < 0 := by
  have h1 : (-1 : Int32) - nI i = nI 0 - nI (i + 1) := by
    have e : (-1 : Int32) = nI 0 - nI 1 := by decide
    rw [e, ← nI_add i 1]
    apply Int32.toBitVec_inj.mp
    simp only [Int32.toBitVec_sub, Int32.toBitVec_add]
    rw [BitVec.sub_sub, BitVec.add_comm]
  rw [h1]
  exact pk_sneg (by omega) (by omega)
theorem neg_1000 {i : Nat} (h : i ≤ 300) : (-1000 : Int32) - nI i < 0 := by
  have h1 : (-1000 : Int32) - nI i = nI 0 - nI (i + 1000) := by
    have e : (-1000 : Int32) = nI 0 - nI 1000 := by decide
    rw [e, ← nI_add i 1000]
    apply Int32.toBitVec_inj.mp
    simp only [Int32.toBitVec_sub, Int32.toBitVec_add]
    rw [BitVec.sub_sub, BitVec.add_comm]
  rw [h1]
  exact pk_sneg (by omega) (by omega)
section RUN
variable {tx ty : Nat → Int32} {sz : Nat}
/-- a byte and its number -/
theorem tx_ty (hT : ∀ j, j < sz → ∃ n : Nat, n < 256 ∧ ty j = nI n ∧ tx j = (nI n).toInt8.toInt32) {j : Nat} (hj : j < sz) : (tx j = ty j) ∨ (tx j < 0 ∧ 122 < ty j ∧ ¬ ty j = 40 ∧ ¬ ty j = 41 ∧ ¬ ty j = 44 ∧ ¬ ty j = 124 ∧ ¬ ty j = 32 ∧ r_isSign (ty j) = false) := by
  obtain ⟨n, hn, h1, h2⟩ := hT j hj
  rcases byte_cl n hn with ⟨a, b⟩ | ⟨a, b⟩
  · exact Or.inl (by rw [h2, a, h1])
  · right
    rw [h2, h1]
    have ne : ∀ k : Nat, k < 128 → ¬ nI n = nI k := fun k hk e => by rw [nI_eq (by omega) (by omega)] at e; omega
    refine ⟨a, nI_lt (a := 122) (by omega) (by omega), ne 40 (by omega), ne 41 (by omega), ne 44 (by omega), ?_, ne 32 (by omega), ?_⟩
    · exact fun e => by have := (nI_eq (a := n) (b := 124) (by omega) (by omega)).mp e; omega
    · rw [r_isSign, if_neg (show ¬ nI n = 63 from ne 63 (by omega)), if_neg (show ¬ nI n = 42 from ne 42 (by omega)), if_neg (show ¬ nI n = 43 from ne 43 (by omega))]
theorem neg_ne {x : Int32} (h : x < 0) : ¬ x = 40 ∧ ¬ x = 41 ∧ ¬ x = 44 ∧ ¬ x = 124 ∧ ¬ x = 32 ∧ x < 97 ∧ r_isSign x = false := by
  have ne : ∀ k : Int32, 0 ≤ k → ¬ x = k := fun k hk e => by rw [e] at h; exact absurd hk (Int32.not_le.mpr h)
  refine ⟨ne _ (by decide), ne _ (by decide), ne _ (by decide), ne _ (by decide), ne _ (by decide), Int32.lt_trans h (by decide), ?_⟩
  rw [r_isSign, if_neg (ne _ (by decide)), if_neg (ne _ (by decide)), if_neg (ne _ (by decide))]
theorem sg_eq (hT : ∀ j, j < sz → ∃ n : Nat, n < 256 ∧ ty j = nI n ∧ tx j = (nI n).toInt8.toInt32) {j : Nat} (hj : j < sz) : r_isSign (tx j) = r_isSign (atF ty sz j) := by
  rw [atF, if_pos hj]
  rcases tx_ty hT hj with e | ⟨a, -, -, -, -, -, -, b⟩
  · rw [e]
  · rw [b, (neg_ne a).2.2.2.2.2.2]
theorem rd_go {ln n i : Nat} {R R' : RS} {M M' : MS} (h : r_take R M (tx i) = (R', M', 0)) : rdL tx ln (n + 1) i R M = rdL tx ln n (i + 1) R' M' := by
  rw [rdL, h, if_neg (show ¬ (0 : Int32) = 1 by decide), if_neg (show ¬ (0 : Int32) = 2 by decide)]
theorem rd_wrong {ln n i : Nat} {R : RS} {M : MS} (h : (r_take R M (tx i)).2.2 = 1) : (rdL tx ln (n + 1) i R M).2.2 = (-1) - nI i := by
  rw [rdL, if_pos h]
theorem rd_much {ln n i : Nat} {R : RS} {M : MS} (h : (r_take R M (tx i)).2.2 = 2) : (rdL tx ln (n + 1) i R M).2.2 = (-1000) - nI i := by
  rw [rdL, if_neg (by rw [h]; decide), if_pos h]
theorem trip {a : RS × MS × Int32} {v : Int32} (h : a.2.2 = v) : a = (a.1, a.2.1, v) := by rw [← h]
theorem simT_eq {R : RS} {M : MS} {T : TS} (h : SimT R M T) : R.2.2.2.2.2.1 = 1 ∧ R.2.2.2.2.1 = T.2.2.2.2.2.2.2.2.2.1 ∧ M.2.2.1 = T.2.2.2.2.2.2.1 := by
  obtain ⟨oF, oL, oE, sp, dp, sta, pF, pL, pE⟩ := R
  obtain ⟨nm, nx, np, fi, la, em⟩ := M
  obtain ⟨nd, kd, pa, be, af, mi, nq, lf, nr, dq, lq, so, ro⟩ := T
  exact ⟨h.1, h.2.2.1, h.2.1⟩
theorem simP_eq {R : RS} {M : MS} {T : TS} (h : SimP R M T) : (R.2.2.2.2.2.1 = 2 ∨ R.2.2.2.2.2.1 = 3) ∧ R.2.2.2.2.1 = T.2.2.2.2.2.2.2.2.2.1 ∧ 0 < T.2.2.2.2.2.2.2.2.2.1 := by
  obtain ⟨oF, oL, oE, sp, dp, sta, pF, pL, pE⟩ := R
  obtain ⟨nm, nx, np, fi, la, em⟩ := M
  obtain ⟨nd, kd, pa, be, af, mi, nq, lf, nr, dq, lq, so, ro⟩ := T
  obtain ⟨h1, h2, h3, h4, h5, F, L, C, J, X, n, d', e1, -⟩ := h
  exact ⟨h1, h3, by show 0 < dq; omega⟩
theorem simL_eq {R : RS} {M : MS} {T : TS} {n : Nat} (h : SimL n R M T) : (R.2.2.2.2.2.1 = 2 ∨ R.2.2.2.2.2.1 = 3) ∧ R.2.2.2.2.1 = T.2.2.2.2.2.2.2.2.2.1 ∧ n < T.1 := by
  obtain ⟨oF, oL, oE, sp, dp, sta, pF, pL, pE⟩ := R
  obtain ⟨nm, nx, np, fi, la, em⟩ := M
  obtain ⟨nd, kd, pa, be, af, mi, nq, lf, nr, dq, lq, so, ro⟩ := T
  obtain ⟨h1, h2, h3, h4, h5, F, L, C, J, hB, -⟩ := h
  exact ⟨h1, h3, (hB.2.2.2.2.2.2.1 n (by simp)).1⟩
theorem st_ne {x : Int32} (h : x = 2 ∨ x = 3) : ¬ x = 0 ∧ ¬ x = 1 := by
  rcases h with rfl | rfl <;> decide
theorem take_T {R : RS} {M : MS} (x : Int32) (h : R.2.2.2.2.2.1 = 1) : r_take R M x = r_before R M x := by
  rw [r_take, if_neg (by rw [h]; decide), if_pos h]
theorem take_sg {R : RS} {M : MS} {x : Int32} (h : R.2.2.2.2.2.1 = 2 ∨ R.2.2.2.2.2.1 = 3) (hx : r_isSign x = true) : r_take R M x = r_sign R M x := by
  rw [r_take, if_neg (st_ne h).1, if_neg (st_ne h).2, if_pos hx]
theorem sign_3 {R : RS} {M : MS} {x : Int32} (h : ¬ R.2.2.2.2.2.1 = 2) : (r_sign R M x).2.2 = 1 := by
  obtain ⟨oF, oL, oE, sp, dp, sta, pF, pL, pE⟩ := R
  obtain ⟨nm, nx, np, fi, la, em⟩ := M
  have h : ¬ sta = 2 := h
  rw [r_sign, if_neg h]
/-- behind the last bracket nothing but its sign can stand -/
theorem take_0 {R : RS} {M : MS} {x : Int32} (h : R.2.2.2.2.2.1 = 2 ∨ R.2.2.2.2.2.1 = 3) (hd : R.2.2.2.2.1 = 0) (hs : R.2.2.2.2.2.1 = 2 → r_isSign x = false) : (r_take R M x).2.2 = 1 := by
  by_cases hx : r_isSign x = true
  · rw [take_sg h hx]
    exact sign_3 (fun z => by rw [hs z] at hx; cases hx)
  · rw [r_take, if_neg (st_ne h).1, if_neg (st_ne h).2, if_neg hx, if_pos hd]
theorem sim_fin {R : RS} {M : MS} {T : TS} {n : Nat} (h : SimL n R M T) (hd : T.2.2.2.2.2.2.2.2.2.1 = 0) (hr : T.2.2.2.2.2.2.2.2.2.2.2.2 = n) : (r_fin R M).2 = true ∧ (r_fin R M).1.2.2.1 = T.2.2.2.2.2.2.1 ∧ T.2.2.2.2.2.2.1 ≤ 60 ∧ RelM T.1 true (r_fin R M).1 T := by
  obtain ⟨oF, oL, oE, sp, dp, sta, pF, pL, pE⟩ := R
  obtain ⟨nm, nx, np, fi, la, em⟩ := M
  obtain ⟨nd, kd, pa, be, af, mi, nq, lf, nr, dq, lq, so, ro⟩ := T
  obtain ⟨h1, h2, h3, h4, h5, F, L, C, J, hB, b1, b2, b3⟩ := h
  have hd : dq = 0 := hd
  have hr : ro = n := hr
  subst hr; subst h3; subst hd
  rw [r_fin, if_neg (by omega), if_neg (st_ne h1).1]
  obtain ⟨t1, t2, t3, t4, t5, t6, t7, t8⟩ := hB
  obtain ⟨n1, n2, n3, n4, n5, n6⟩ := t7 ro (by simp)
  have hone : ∀ m, m < nd → pa m = none → m = ro := by
    intro m hm hp
    rcases t8 m hm hp with a | ⟨v, hv, -⟩
    · simpa using a
    · omega
  have hF : ∀ p, p < nd → NodeF nd kd pa be mi nq lf F p := fun p hp => (t2 p hp).1
  have hL : ∀ p, p < nd → NodeF nd kd pa af mi nq lf L p := fun p hp => (t2 p hp).2.1
  have hC : ∀ p, p < nd → NodeC nd kd pa af mi F C p := fun p hp => (t2 p hp).2.2
  have hC0 : ∀ p, p < nd → kd p = 0 → ∀ m, m < nd → ¬ pa m = some p := fun p hp => (hC p hp).1
  refine ⟨rfl, h2, t1.2.1, h2, ⟨t1.1, t1.2.1, t1.2.2.1, fun m x a b => (t1.2.2.2.1 m x a b).1, fun m x a b => ⟨(t1.2.2.2.2.1 m x a b).1, (t1.2.2.2.2.1 m x a b).2.1⟩, fun q hq => (t1.2.2.2.2.2 q hq).1⟩, fun _ => n1, h4, ?_, ?_, ?_, fun q hq => ?_, fun z => Bool.noConfusion z, fun _ => h5⟩
  · rw [b1, e_first, if_pos rfl, fs_F t1 hF hC0 n1]
  · rw [b2, la_L t1 hL hC0 n1 n2 hone]
  · rw [b3, Bool.true_and]
  · exact nx_N t1 hF hL hC (fun m hm hp => by rw [hone m hm hp]; exact n5) t3 hq
/-- behind a complete part: its sign, if one stands there -/
theorem sim_part (hT : ∀ j, j < sz → ∃ n : Nat, n < 256 ∧ ty j = nI n ∧ tx j = (nI n).toInt8.toInt32) {R : RS} {M : MS} {T : TS} {n i : Nat} (h : SimL n R M T) (hs : R.2.2.2.2.2.1 = 2) (hn : T.1 < 700) :
    ∃ (R' : RS) (M' : MS), rdL tx sz (sz - i) i R M = rdL tx sz (sz - (t_part ty sz T n i).2.2) (t_part ty sz T n i).2.2 R' M' ∧ SimL (t_part ty sz T n i).2.1 R' M' (t_part ty sz T n i).1 ∧ (R'.2.2.2.2.2.1 = 2 → r_isSign (atF ty sz (t_part ty sz T n i).2.2) = false) := by
  unfold t_part
  by_cases hg : r_isSign (atF ty sz i) = true
  · rw [if_pos hg]
    have hi := sg_lt hg
    have hg2 : r_isSign (tx i) = true := by rw [sg_eq hT hi]; exact hg
    have e : tx i = atF ty sz i := by
      rw [atF, if_pos hi]
      rcases tx_ty hT hi with a | ⟨a, -⟩
      · exact a
      · rw [(neg_ne a).2.2.2.2.2.2] at hg2; cases hg2
    obtain ⟨s1, s2, s3⟩ := sim_sign (atF ty sz i) h hs hg hn
    refine ⟨(r_sign R M (atF ty sz i)).1, (r_sign R M (atF ty sz i)).2.1, ?_, s3, fun z => by rw [s2] at z; exact absurd z (by decide)⟩
    obtain ⟨k, hk⟩ : ∃ k, sz - i = k + 1 := ⟨sz - i - 1, by omega⟩
    have hk2 : sz - (i + 1) = k := by omega
    dsimp only
    rw [hk, hk2]
    exact rd_go (by rw [e, take_sg (Or.inl hs) hg]; exact trip s1)
  · rw [if_neg hg]
    exact ⟨R, M, rfl, h, fun _ => ts_nt hg⟩
theorem skip_T (hT : ∀ j, j < sz → ∃ n : Nat, n < 256 ∧ ty j = nI n ∧ tx j = (nI n).toInt8.toInt32) {R : RS} {M : MS} (h : R.2.2.2.2.2.1 = 1) : ∀ (g i : Nat), i ≤ sz → rdL tx sz (sz - i) i R M = rdL tx sz (sz - skL ty sz g i) (skL ty sz g i) R M ∧ i ≤ skL ty sz g i ∧ skL ty sz g i ≤ sz
  | 0, i, hi => ⟨by rw [skL], by rw [skL]; exact Nat.le_refl i, by rw [skL]; exact hi⟩
  | g + 1, i, hi => by
    rw [skL]
    by_cases hc : atF ty sz i = 32
    · rw [if_pos hc]
      have hlt := at_lt hc (by decide)
      obtain ⟨a1, a2, a3⟩ := skip_T hT h g (i + 1) hlt
      refine ⟨?_, by omega, a3⟩
      rw [← a1]
      obtain ⟨k, hk⟩ : ∃ k, sz - i = k + 1 := ⟨sz - i - 1, by omega⟩
      have hk2 : sz - (i + 1) = k := by omega
      rw [hk, hk2]
      rw [atF, if_pos hlt] at hc
      have e : tx i = 32 := by
        rcases tx_ty hT hlt with a | ⟨-, -, -, -, -, -, b, -⟩
        · rw [a]; exact hc
        · exact absurd hc b
      exact rd_go (by rw [e, take_T _ h, r_before, if_pos rfl])
    · rw [if_neg hc]
      exact ⟨rfl, Nat.le_refl i, hi⟩
theorem sim_blank {R : RS} {M : MS} {T : TS} (h : SimP R M T) : SimP (r_blank R) M T ∧ (r_blank R).2.2.2.2.2.1 = 3 := by
  obtain ⟨oF, oL, oE, sp, dp, sta, pF, pL, pE⟩ := R
  obtain ⟨nm, nx, np, fi, la, em⟩ := M
  obtain ⟨nd, kd, pa, be, af, mi, nq, lf, nr, dq, lq, so, ro⟩ := T
  exact ⟨⟨Or.inr rfl, h.2⟩, rfl⟩
theorem skip_P (hT : ∀ j, j < sz → ∃ n : Nat, n < 256 ∧ ty j = nI n ∧ tx j = (nI n).toInt8.toInt32) {M : MS} {T : TS} : ∀ (g i : Nat) (R : RS), SimP R M T → (R.2.2.2.2.2.1 = 2 → r_isSign (atF ty sz i) = false) → i ≤ sz → ∃ R1, rdL tx sz (sz - i) i R M = rdL tx sz (sz - skL ty sz g i) (skL ty sz g i) R1 M ∧ SimP R1 M T ∧ (R1.2.2.2.2.2.1 = 2 → r_isSign (atF ty sz (skL ty sz g i)) = false) ∧ i ≤ skL ty sz g i ∧ skL ty sz g i ≤ sz
  | 0, i, R, h, hs, hi => ⟨R, by rw [skL], h, by rw [skL]; exact hs, by rw [skL]; exact Nat.le_refl i, by rw [skL]; exact hi⟩
  | g + 1, i, R, h, hs, hi => by
    rw [skL]
    by_cases hc : atF ty sz i = 32
    · rw [if_pos hc]
      have hlt := at_lt hc (by decide)
      obtain ⟨b1, b2⟩ := sim_blank h
      obtain ⟨R1, a1, a2, a3, a4, a5⟩ := skip_P hT g (i + 1) (r_blank R) b1 (fun z => by rw [b2] at z; exact absurd z (by decide)) hlt
      refine ⟨R1, ?_, a2, a3, by omega, a5⟩
      rw [← a1]
      obtain ⟨k, hk⟩ : ∃ k, sz - i = k + 1 := ⟨sz - i - 1, by omega⟩
      have hk2 : sz - (i + 1) = k := by omega
      rw [hk, hk2]
      rw [atF, if_pos hlt] at hc
      have e : tx i = 32 := by
        rcases tx_ty hT hlt with a | ⟨-, -, -, -, -, -, b, -⟩
        · rw [a]; exact hc
        · exact absurd hc b
      obtain ⟨p1, p2, p3⟩ := simP_eq h
      exact rd_go (by rw [e, r_take, if_neg (st_ne p1).1, if_neg (st_ne p1).2, if_neg (by rw [r_isSign_k.2.2.2]; decide), if_neg (by omega), if_pos rfl])
    · rw [if_neg hc]
      exact ⟨R, rfl, h, hs, Nat.le_refl i, hi⟩
end RUN
