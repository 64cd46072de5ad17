/-! THE PARSE: every turn of the reference is matched by the class -/
theorem go_l (k : Nat → Bool → TS → TS × Int32) (T : TS) (i : Nat) (p : Bool) : t_go k (.inl (T, i, p)) = k i p T := rfl
theorem go_r (k : Nat → Bool → TS → TS × Int32) (r : TS × Int32) : t_go k (.inr r) = r := rfl
theorem agree_err {a : RS × MS × Int32} {T : TS} {v : Int32} (h : a.2.2 = v) (hv : v < 0) : Agree a (T, v) := ⟨h, Or.inl hv⟩
theorem simL_root {R : RS} {M : MS} {T : TS} {n m : Nat} (h : SimL n R M T) : SimL n R M (t_root T m) := by
  obtain ⟨oF, oL, oE, sp, dp, sta, pF, pL, pE⟩ := R
  obtain ⟨nm, nx, np, fi, la, em⟩ := M
  obtain ⟨nd, kd, pa, be, af, mi, nq, lf, nr, dq, lq, so, ro⟩ := T
  exact h
theorem t_root_eq {T : TS} {n : Nat} : (t_root T n).2.2.2.2.2.2.2.2.2.2.2.2 = n ∧ (t_root T n).2.2.2.2.2.2.2.2.2.1 = T.2.2.2.2.2.2.2.2.2.1 := by
  obtain ⟨nd, kd, pa, be, af, mi, nq, lf, nr, dq, lq, so, ro⟩ := T
  exact ⟨rfl, rfl⟩
theorem t_pl_dp {T : TS} {n : Nat} {c : Int32} : (t_place (t_node T 0) n c).2.2.2.2.2.2.2.2.2.1 = T.2.2.2.2.2.2.2.2.2.1 ∧ (t_place (t_node T 0) n c).1 = T.1 + 1 := by
  obtain ⟨nd, kd, pa, be, af, mi, nq, lf, nr, dq, lq, so, ro⟩ := T
  exact ⟨rfl, rfl⟩
theorem t_cl_dp {T : TS} {d : Nat} : (t_close T d).2.2.2.2.2.2.2.2.2.1 = d ∧ (t_close T d).1 = T.1 + 1 := by
  obtain ⟨nd, kd, pa, be, af, mi, nq, lf, nr, dq, lq, so, ro⟩ := T
  exact ⟨rfl, rfl⟩
theorem sort_dp {T : TS} {d : Nat} {x : Int32} : (t_sort T d x).2.2.2.2.2.2.2.2.2.1 = T.2.2.2.2.2.2.2.2.2.1 := by
  obtain ⟨nd, kd, pa, be, af, mi, nq, lf, nr, dq, lq, so, ro⟩ := T
  rfl
theorem open_dp {T : TS} : (t_open T).2.2.2.2.2.2.2.2.2.1 = T.2.2.2.2.2.2.2.2.2.1 + 1 := by
  obtain ⟨nd, kd, pa, be, af, mi, nq, lf, nr, dq, lq, so, ro⟩ := T
  rfl
theorem open_2 {R : RS} (h : 12 ≤ R.2.2.2.2.1) : (r_open R).2 = 2 := by
  obtain ⟨oF, oL, oE, sp, dp, sta, pF, pL, pE⟩ := R
  have h : 12 ≤ dp := h
  rw [r_open, if_pos h]
theorem name_2 {R : RS} {M : MS} {c : Int32} (h : 60 ≤ M.2.2.1) : (r_name R M c).2.2 = 2 := by
  obtain ⟨oF, oL, oE, sp, dp, sta, pF, pL, pE⟩ := R
  obtain ⟨nm, nx, np, fi, la, em⟩ := M
  have h : 60 ≤ np := h
  rw [r_name, if_pos h]
theorem fin_open {R : RS} {M : MS} (h : 0 < R.2.2.2.2.1) : (r_fin R M).2 = false := by
  obtain ⟨oF, oL, oE, sp, dp, sta, pF, pL, pE⟩ := R
  obtain ⟨nm, nx, np, fi, la, em⟩ := M
  have h : 0 < dp := h
  rw [r_fin, if_pos h]
section RUN2
variable {tx ty : Nat → Int32} {sz : Nat}
/-- the state at the head of the reference's loop -/
def St (ty : Nat → Int32) (sz i : Nat) (part : Bool) (R : RS) (M : MS) (T : TS) : Prop :=
  (part = true ∧ SimT R M T ∧ 0 < T.2.2.2.2.2.2.2.2.2.1) ∨ (part = false ∧ SimP R M T ∧ (R.2.2.2.2.2.1 = 2 → r_isSign (atF ty sz i) = false)) ∨ (part = false ∧ SimL T.2.2.2.2.2.2.2.2.2.2.2.2 R M T ∧ T.2.2.2.2.2.2.2.2.2.1 = 0 ∧ (R.2.2.2.2.2.1 = 2 → r_isSign (atF ty sz i) = false))
theorem sk_ne (hsz : sz ≤ 300) : ∀ (g i : Nat), i ≤ sz → 301 ≤ g + i → ¬ atF ty sz (skL ty sz g i) = 32
  | 0, i, hi, hg => by omega
  | g + 1, i, hi, hg => by
    rw [skL]
    by_cases hc : atF ty sz i = 32
    · rw [if_pos hc]
      exact sk_ne hsz g (i + 1) (at_lt hc (by decide)) (by omega)
    · rw [if_neg hc]; exact hc
theorem rd_end {ln i : Nat} {R : RS} {M : MS} (h : (r_fin R M).2 = false) : (rdL tx ln 0 i R M).2.2 = (-1) - nI ln := by
  rw [rdL, if_neg (by rw [h]; decide)]
theorem sim_run (hT : ∀ j, j < sz → ∃ n : Nat, n < 256 ∧ ty j = nI n ∧ tx j = (nI n).toInt8.toInt32) (hsz : sz ≤ 300) : ∀ (f i : Nat) (part : Bool) (T : TS) (R : RS) (M : MS), i ≤ sz → 302 ≤ f + i → okP T i → St ty sz i part R M T → Agree (rdL tx sz (sz - i) i R M) (paL ty sz f i part T)
  | 0, i, part, T, R, M, hi, hf, ok, hst => by omega
  | f + 1, i, part, T, R, M, hi, hf, ok, hst => by
    rw [paL]
    rcases hst with ⟨hp, hS, hd⟩ | ⟨hp, hS, hs⟩ | ⟨hp, hS, hd, hs⟩
    · -- a part is due
      obtain ⟨q1, q2, q3⟩ := simT_eq hS
      obtain ⟨d, hdd⟩ : ∃ d, T.2.2.2.2.2.2.2.2.2.1 = d + 1 := ⟨T.2.2.2.2.2.2.2.2.2.1 - 1, by omega⟩
      have hd1 : T.2.2.2.2.2.2.2.2.2.1 - 1 = d := by omega
      rw [if_neg (by omega), hd1]
      obtain ⟨k1, k2, k3⟩ := skip_T (tx := tx) (M := M) hT q1 301 i hi
      have k4 := sk_ne (ty := ty) hsz 301 i hi (by omega)
      rw [k1]
      generalize skL ty sz 301 i = i1 at k2 k3 k4 ⊢
      have ok1 : okP T i1 := okP_mono ok k2
      have hn7 : T.1 < 700 := by have := ok.1; omega
      subst hp
      by_cases hlt : i1 < sz
      · obtain ⟨k, hk⟩ : ∃ k, sz - i1 = k + 1 := ⟨sz - i1 - 1, by omega⟩
        have hk2 : sz - (i1 + 1) = k := by omega
        rw [hk]
        have hat : atF ty sz i1 = ty i1 := by rw [atF, if_pos hlt]
        rw [hat, t_turn, if_pos rfl]
        have htake := take_T (M := M) (tx i1) q1
        rcases tx_ty hT hlt with hx | ⟨hx, b1, b2, -⟩
        · by_cases c40 : ty i1 = 40
          · rw [if_pos c40]
            have hb : r_take R M (tx i1) = ((r_open R).1, M, (r_open R).2) := by rw [htake, hx, c40, r_before, if_neg (by decide), if_pos rfl]
            by_cases c12 : d + 1 = 12
            · rw [if_pos c12, go_r]
              exact agree_err (rd_much (by rw [hb]; exact open_2 (by omega))) (neg_1000 (by omega))
            · rw [if_neg c12, go_l]
              have ok3 : T.2.2.2.2.2.2.2.2.2.1 ≤ 12 := ok.2.2.1
              obtain ⟨s1, s2⟩ := sim_open hS (by omega)
              rw [rd_go (R' := (r_open R).1) (M' := M) (by rw [hb, s1]), ← hk2]
              exact sim_run hT hsz f (i1 + 1) true (t_open T) (r_open R).1 M hlt (by omega) (okP_mono (okP_open ok1 (by omega)) (Nat.le_succ _)) (Or.inl ⟨rfl, s2, by rw [open_dp]; omega⟩)
          · rw [if_neg c40]
            by_cases c97 : ty i1 < 97
            · rw [if_pos c97, go_r]
              refine agree_err (rd_wrong ?_) (neg_1 (by omega))
              rw [htake, hx, r_before, if_neg c40, if_pos c97]
              by_cases c32 : ty i1 = 32
              · exact absurd (by rw [hat]; exact c32) k4
              · rw [if_neg c32]
            · rw [if_neg c97]
              have c32 : ¬ ty i1 = 32 := fun e => c97 (by rw [e]; decide)
              by_cases c122 : 122 < ty i1
              · rw [if_pos c122, go_r]
                refine agree_err (rd_wrong ?_) (neg_1 (by omega))
                rw [htake, hx, r_before, if_neg c32, if_neg c40, if_neg c97, if_pos c122]
              · rw [if_neg c122]
                have hb : r_take R M (tx i1) = r_name R M (ty i1 - 97) := by rw [htake, hx, r_before, if_neg c32, if_neg c40, if_neg c97, if_neg c122]
                by_cases c60 : T.2.2.2.2.2.2.1 = 60
                · rw [if_pos c60, go_r]
                  exact agree_err (rd_much (by rw [hb]; exact name_2 (by omega))) (neg_1000 (by omega))
                · rw [if_neg c60, go_l]
                  have hq60 : T.2.2.2.2.2.2.1 < 60 := by have h2 : T.2.2.2.2.2.2.1 ≤ 60 := ok.2.1; omega
                  obtain ⟨s1, s2, s3⟩ := sim_name (ty i1 - 97) hS hn7 hq60
                  obtain ⟨o1, o2, o3⟩ := okP_name (tx := ty) (sz := sz) (d := d) (c := ty i1) ok1 hdd hq60 hlt
                  obtain ⟨R', M', p1, p2, p3⟩ := sim_part (i := i1 + 1) hT s3 s2 (by rw [t_pl_dp.2]; have := ok.1; omega)
                  rw [rd_go (R' := (r_name R M (ty i1 - 97)).1) (M' := (r_name R M (ty i1 - 97)).2.1) (by rw [hb]; exact trip s1), ← hk2, p1]
                  refine sim_run hT hsz f _ false _ R' M' o2 (Nat.le_trans (show 302 ≤ f + (i1 + 1) by omega) (Nat.add_le_add_left o3 f)) o1 (Or.inr (Or.inl ⟨rfl, sim_add p2 ?_, p3⟩))
                  rw [t_part_dp, t_pl_dp.1, hdd]
        · rw [if_neg b2]
          obtain ⟨e1, e2, e3, e4, e5, e6, e7⟩ := neg_ne hx
          have hb : (r_take R M (tx i1)).2.2 = 1 := by rw [htake, r_before, if_neg e5, if_neg e1, if_pos e6]
          rw [if_neg (fun z => by have := Int32.lt_trans b1 z; exact absurd this (by decide)), if_pos b1, go_r]
          exact agree_err (rd_wrong hb) (neg_1 (by omega))
      · have e : i1 = sz := by omega
        subst e
        have hat : atF ty i1 i1 = -1 := by rw [atF, if_neg (by omega)]
        rw [hat, t_turn, if_pos rfl, if_neg (by decide), if_pos (by decide), go_r, Nat.sub_self]
        exact agree_err (rd_end (fin_open (by omega))) (neg_1 (by omega))
    · -- a part stands there
      obtain ⟨q1, q2, q3⟩ := simP_eq hS
      obtain ⟨d, hdd⟩ : ∃ d, T.2.2.2.2.2.2.2.2.2.1 = d + 1 := ⟨T.2.2.2.2.2.2.2.2.2.1 - 1, by omega⟩
      have hd1 : T.2.2.2.2.2.2.2.2.2.1 - 1 = d := by omega
      rw [if_neg (by omega), hd1]
      obtain ⟨R1, k1, hS1, hs1, k2, k3⟩ := skip_P (tx := tx) hT 301 i R hS hs hi
      have k4 := sk_ne (ty := ty) hsz 301 i hi (by omega)
      rw [k1]
      generalize skL ty sz 301 i = i1 at k2 k3 k4 hs1 ⊢
      obtain ⟨r1, r2, r3⟩ := simP_eq hS1
      have ok1 : okP T i1 := okP_mono ok k2
      have hn7 : T.1 < 700 := by have := ok.1; omega
      have hRd : R1.2.2.2.2.1 - 1 = d := by omega
      subst hp
      by_cases hlt : i1 < sz
      · obtain ⟨k, hk⟩ : ∃ k, sz - i1 = k + 1 := ⟨sz - i1 - 1, by omega⟩
        have hk2 : sz - (i1 + 1) = k := by omega
        rw [hk]
        have hat : atF ty sz i1 = ty i1 := by rw [atF, if_pos hlt]
        rw [hat, t_turn, if_neg (by decide)]
        rcases tx_ty hT hlt with hx | ⟨hx, b1, b2, b3, b4, b5, b6, b7⟩
        · by_cases hsep : ty i1 = 124 ∨ ty i1 = 44
          · rw [if_pos hsep]
            have hb : r_take R1 M (tx i1) = r_sep R1 M d (ty i1) := by
              rw [hx, r_take, if_neg (st_ne r1).1, if_neg (st_ne r1).2]
              rcases hsep with e | e
              · rw [e, if_neg (by rw [r_isSign_k.1]; decide), if_neg (by omega), if_neg (by decide), if_neg (by decide), if_pos rfl, hRd]
              · rw [e, if_neg (by rw [r_isSign_k.2.1]; decide), if_neg (by omega), if_neg (by decide), if_neg (by decide), if_neg (by decide), if_pos rfl, hRd]
            obtain ⟨s1, s2⟩ := sim_sep hS1 hdd hsep
            by_cases hw : ¬ T.2.2.2.2.2.2.2.2.2.2.2.1 d < 0 ∧ ¬ T.2.2.2.2.2.2.2.2.2.2.2.1 d = soK (ty i1)
            · rw [if_pos hw, go_r]
              rw [if_pos hw] at s1
              exact agree_err (rd_wrong (by rw [hb]; exact s1)) (neg_1 (by omega))
            · rw [if_neg hw, go_l]
              rw [if_neg hw] at s1
              rw [rd_go (R' := (r_sep R1 M d (ty i1)).1) (M' := (r_sep R1 M d (ty i1)).2.1) (by rw [hb]; exact trip s1), ← hk2]
              exact sim_run hT hsz f (i1 + 1) true _ _ _ hlt (by omega) (okP_mono (okP_sort ok1) (Nat.le_succ _)) (Or.inl ⟨rfl, s2 hw, by rw [sort_dp]; omega⟩)
          · rw [if_neg hsep]
            by_cases c41 : ty i1 = 41
            · rw [if_pos c41, go_l]
              have hb : r_take R1 M (tx i1) = r_close R1 M d := by
                rw [hx, c41, r_take, if_neg (st_ne r1).1, if_neg (st_ne r1).2, if_neg (by rw [r_isSign_k.2.2.1]; decide), if_neg (by omega), if_neg (by decide), if_pos rfl, hRd]
              obtain ⟨s1, s2, s3⟩ := sim_close hS1 hdd hn7
              obtain ⟨o1, o2, o3⟩ := okP_end (tx := ty) (sz := sz) ok1 hdd hlt
              obtain ⟨R', M', p1, p2, p3⟩ := sim_part (i := i1 + 1) hT s3 s2 (by rw [t_cl_dp.2]; have := ok.1; omega)
              rw [rd_go (R' := (r_close R1 M d).1) (M' := (r_close R1 M d).2.1) (by rw [hb]; exact trip s1), ← hk2, p1]
              cases d with
              | zero =>
                refine sim_run hT hsz f _ false _ R' M' o2 (Nat.le_trans (show 302 ≤ f + (i1 + 1) by omega) (Nat.add_le_add_left o3 f)) o1 (Or.inr (Or.inr ⟨rfl, ?_, ?_, p3⟩))
                · show SimL (t_root _ _).2.2.2.2.2.2.2.2.2.2.2.2 R' M' (t_root _ _)
                  rw [t_root_eq.1]
                  exact simL_root p2
                · show (t_root _ _).2.2.2.2.2.2.2.2.2.1 = 0
                  rw [t_root_eq.2, t_part_dp, t_cl_dp.1]
              | succ d1 =>
                refine sim_run hT hsz f _ false _ R' M' o2 (Nat.le_trans (show 302 ≤ f + (i1 + 1) by omega) (Nat.add_le_add_left o3 f)) o1 (Or.inr (Or.inl ⟨rfl, sim_add p2 ?_, p3⟩))
                rw [t_part_dp, t_cl_dp.1]
            · rw [if_neg c41, go_r]
              refine agree_err (rd_wrong ?_) (neg_1 (by omega))
              rw [hx]
              by_cases hg : r_isSign (ty i1) = true
              · rw [take_sg r1 hg]
                exact sign_3 (fun z => by have := hs1 z; rw [hat, hg] at this; cases this)
              · rw [r_take, if_neg (st_ne r1).1, if_neg (st_ne r1).2, if_neg hg, if_neg (by omega)]
                by_cases c32 : ty i1 = 32
                · exact absurd (by rw [hat]; exact c32) k4
                · rw [if_neg c32, if_neg c41, if_neg (fun z => hsep (Or.inl z)), if_neg (fun z => hsep (Or.inr z))]
        · rw [if_neg (fun z => z.elim b5 b4), if_neg b3, go_r]
          obtain ⟨e1, e2, e3, e4, e5, e6, e7⟩ := neg_ne hx
          refine agree_err (rd_wrong ?_) (neg_1 (by omega))
          rw [r_take, if_neg (st_ne r1).1, if_neg (st_ne r1).2, if_neg (by rw [e7]; decide), if_neg (by omega), if_neg e5, if_neg e2, if_neg e4, if_neg e3]
      · have e : i1 = sz := by omega
        subst e
        have hat : atF ty i1 i1 = -1 := by rw [atF, if_neg (by omega)]
        rw [hat, t_turn, if_neg (by decide), if_neg (by decide), if_neg (by decide), go_r, Nat.sub_self]
        exact agree_err (rd_end (fin_open (by omega))) (neg_1 (by omega))
    · -- behind the last bracket
      obtain ⟨q1, q2, q3⟩ := simL_eq hS
      rw [if_pos hd]
      by_cases hlt : i < sz
      · rw [if_pos hlt]
        obtain ⟨k, hk⟩ : ∃ k, sz - i = k + 1 := ⟨sz - i - 1, by omega⟩
        rw [hk]
        refine agree_err (rd_wrong (take_0 q1 (by omega) (fun z => ?_))) (neg_1 (by omega))
        rw [sg_eq hT hlt]
        exact hs z
      · rw [if_neg hlt]
        have e : sz - i = 0 := by omega
        obtain ⟨s1, s2, s3, s4⟩ := sim_fin hS hd rfl
        rw [e, rdL, if_pos s1]
        exact ⟨by show nI (r_fin R M).1.2.2.1 = nI T.2.2.2.2.2.2.1; rw [s2], Or.inr ⟨nI_pos' (by omega), T.1, s4⟩⟩
end RUN2
