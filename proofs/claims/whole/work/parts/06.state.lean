/-! STATE of the class: the cells of a desk, and what its methods do to them, as numbers and functions -/
/-- the reader: openFirsts, openLasts, openEmpty, separators, depth, state, partFirsts, partLasts, partEmpty -/
abbrev RS : Type := (Nat → Int64) × (Nat → Int64) × (Nat → Bool) × (Nat → Int32) × Nat × Int32 × Int64 × Int64 × Bool
/-- the model: names, nexts, places, firsts, lasts, empty -/
abbrev MS : Type := (Nat → Int32) × (Nat → Int64) × Nat × Int64 × Int64 × Bool
/-- the cells of a desk: addresses h, array classes k, and what they hold -/
def wD (h : Nat → Nat) (k : Nat → ClassId) (tx : Nat → Int32) (ln : Nat) (rd : Int64) (wh : Bool) (cm : Nat) (R : RS) (M : MS) : va_W :=
  [(h 0, .inr (2, [.ref (h 1), .int (nI ln), .ref (h 2), .ref (h 7), .long rd, .int (bI wh), .int (nI cm)])), (h 1, .inl (k 1, 300, .inl tx)), (h 2, .inr (1, [.ref (h 7), .ref (h 3), .ref (h 4), .ref (h 5), .ref (h 6), .int (nI R.2.2.2.2.1), .int R.2.2.2.2.2.1, .long R.2.2.2.2.2.2.1, .long R.2.2.2.2.2.2.2.1, .int (bI R.2.2.2.2.2.2.2.2)])), (h 3, .inl (k 3, 12, .inr (.inl R.1))), (h 4, .inl (k 4, 12, .inr (.inl R.2.1))), (h 5, .inl (k 5, 12, .inl (fun j => bI (R.2.2.1 j)))), (h 6, .inl (k 6, 12, .inl R.2.2.2.1)), (h 7, .inr (0, [.ref (h 8), .ref (h 9), .int (nI M.2.2.1), .long M.2.2.2.1, .long M.2.2.2.2.1, .int (bI M.2.2.2.2.2)])), (h 8, .inl (k 8, 60, .inl M.1)), (h 9, .inl (k 9, 60, .inr (.inl M.2.1)))]
abbrev tyD (k : Nat → ClassId) : List (ClassId × FieldType) := [(k 1, .byte), (k 3, .long), (k 4, .long), (k 5, .boolean), (k 6, .int), (k 8, .int), (k 9, .long)]
/-- whether a set of places holds one -/
def hB (s : Int64) (p : Nat) : Bool := s.toBitVec.getLsbD p
def cnL (a b : Int64) : Nat → Nat → (Nat → Int64) → (Nat → Int64)
  | 0, _, nx => nx
  | n + 1, i, nx => cnL a b n (i + 1) (if hB a i = true then vp_updL nx i (nx i ||| b) else nx)
def nbL (s : Int64) (nx : Nat → Int64) : Nat → Nat → Int64 → Int64
  | 0, _, r => r
  | n + 1, i, r => nbL s nx n (i + 1) (if hB s i = true then r ||| nx i else r)
def pnL (x : Int32) (s : Int64) (nm : Nat → Int32) : Nat → Nat → Int64 → Int64
  | 0, _, r => r
  | n + 1, i, r => pnL x s nm n (i + 1) (if nm i = x ∧ hB s i = true then r ||| ((1 : Int64) <<< ((nI i).toInt64 &&& 63)) else r)
def noL (s : Int64) (nm : Nat → Int32) : Nat → Nat → Int32 → Int32
  | 0, _, r => r
  | n + 1, i, r => noL s nm n (i + 1) (if hB s i = true then r ||| ((1 : Int32) <<< (nm i &&& 31)) else r)
def ntL (s : Int64) (nm : Nat → Int32) : Nat → Nat → Int32 → Int32 → Int32
  | 0, _, _, t => t
  | n + 1, i, o, t => if hB s i = true then ntL s nm n (i + 1) (o ||| ((1 : Int32) <<< (nm i &&& 31))) (t ||| (o &&& ((1 : Int32) <<< (nm i &&& 31)))) else ntL s nm n (i + 1) o t
def ntF (s : Int64) (nm : Nat → Int32) (np : Nat) : Int32 := ntL s nm np 0 0 0
def cpL (nm : Nat → Int32) (nx : Nat → Int64) (np : Nat) : Nat → Nat → Int32 → Int32
  | 0, _, r => r
  | n + 1, i, r => cpL nm nx np n (i + 1) (r ||| ntF (nx i) nm np)
def cpF (nm : Nat → Int32) (nx : Nat → Int64) (np : Nat) (fi : Int64) : Int32 := cpL nm nx np np 0 (ntF fi nm np)
def m_has (np : Nat) (x : Int32) : Bool := if x < 0 then false else if nI np ≤ x then false else true
def m_add : MS → Int32 → MS
  | (nm, nx, np, fi, la, em), x => if 60 ≤ np then (nm, nx, np, fi, la, em) else (upd nm np x, vp_updL nx np 0, np + 1, fi, la, em)
def r_open : RS → RS × Int32
  | (oF, oL, oE, sp, dp, sta, pF, pL, pE) => if 12 ≤ dp then ((oF, oL, oE, sp, dp, sta, pF, pL, pE), 2) else ((oF, oL, oE, upd sp dp 0, dp + 1, 1, pF, pL, pE), 0)
def r_name : RS → MS → Int32 → RS × MS × Int32
  | (oF, oL, oE, sp, dp, sta, pF, pL, pE), (nm, nx, np, fi, la, em), x => if 60 ≤ np then ((oF, oL, oE, sp, dp, sta, pF, pL, pE), (nm, nx, np, fi, la, em), 2)
    else ((oF, oL, oE, sp, dp, 2, (1 : Int64) <<< ((nI np).toInt64 &&& 63), (1 : Int64) <<< ((nI np).toInt64 &&& 63), false), (upd nm np x, vp_updL nx np 0, np + 1, fi, la, em), 0)
def r_sign : RS → MS → Int32 → RS × MS × Int32
  | (oF, oL, oE, sp, dp, sta, pF, pL, pE), (nm, nx, np, fi, la, em), x => if sta = 2 then ((oF, oL, oE, sp, dp, 3, pF, pL, if x = 43 then pE else true), (nm, (if x = 63 then nx else cnL pL pF np 0 nx), np, fi, la, em), 0)
    else ((oF, oL, oE, sp, dp, sta, pF, pL, pE), (nm, nx, np, fi, la, em), 1)
def r_join : RS → MS → Nat → RS × MS
  | (oF, oL, oE, sp, dp, sta, pF, pL, pE), (nm, nx, np, fi, la, em), v => if sp v = 0 then ((vp_updL oF v pF, vp_updL oL v pL, va_up oE v pE, sp, dp, sta, pF, pL, pE), (nm, nx, np, fi, la, em))
    else if sp v = 124 then ((vp_updL oF v (oF v ||| pF), vp_updL oL v (oL v ||| pL), va_up oE v (oE v || pE), sp, dp, sta, pF, pL, pE), (nm, nx, np, fi, la, em))
    else (((if oE v = true then vp_updL oF v (oF v ||| pF) else oF), vp_updL oL v (if pE = true then oL v ||| pL else pL), va_up oE v (oE v && pE), sp, dp, sta, pF, pL, pE), (nm, cnL (oL v) pF np 0 nx, np, fi, la, em))
/-- behind joinPart, at a separator x of the bracket v -/
def r_sepE : RS × MS → Nat → Int32 → RS × MS × Int32
  | ((oF, oL, oE, sp, dp, _, pF, pL, pE), M), v, x => ((oF, oL, oE, upd sp v x, dp, 1, pF, pL, pE), M, 0)
def r_sep (R : RS) (M : MS) (v : Nat) (x : Int32) : RS × MS × Int32 :=
  if R.2.2.2.1 v = 0 then r_sepE (r_join R M v) v x else if R.2.2.2.1 v = x then r_sepE (r_join R M v) v x else (R, M, 1)
def r_closeE : RS × MS → Nat → RS × MS × Int32
  | ((oF, oL, oE, sp, _, _, _, _, _), M), v => ((oF, oL, oE, sp, v, 2, oF v, oL v, oE v), M, 0)
def r_close (R : RS) (M : MS) (v : Nat) : RS × MS × Int32 := r_closeE (r_join R M v) v
def r_isSign (x : Int32) : Bool := if x = 63 then true else if x = 42 then true else if x = 43 then true else false
def r_before (R : RS) (M : MS) (x : Int32) : RS × MS × Int32 :=
  if x = 32 then (R, M, 0) else if x = 40 then ((r_open R).1, M, (r_open R).2) else if x < 97 then (R, M, 1) else if 122 < x then (R, M, 1) else r_name R M (x - 97)
def r_blank : RS → RS
  | (oF, oL, oE, sp, dp, _, pF, pL, pE) => (oF, oL, oE, sp, dp, 3, pF, pL, pE)
def r_take (R : RS) (M : MS) (x : Int32) : RS × MS × Int32 :=
  if R.2.2.2.2.2.1 = 0 then (if x = 40 then ((r_open R).1, M, (r_open R).2) else (R, M, 1))
  else if R.2.2.2.2.2.1 = 1 then r_before R M x
  else if r_isSign x = true then r_sign R M x
  else if R.2.2.2.2.1 = 0 then (R, M, 1)
  else if x = 32 then (r_blank R, M, 0)
  else if x = 41 then r_close R M (R.2.2.2.2.1 - 1)
  else if x = 124 then r_sep R M (R.2.2.2.2.1 - 1) x
  else if x = 44 then r_sep R M (R.2.2.2.2.1 - 1) x else (R, M, 1)
def r_fin : RS → MS → MS × Bool
  | (_, _, _, _, dp, sta, pF, pL, pE), (nm, nx, np, fi, la, em) => if 0 < dp then ((nm, nx, np, fi, la, em), false) else if sta = 0 then ((nm, nx, np, fi, la, em), false) else ((nm, nx, np, pF, pL, pE), true)
def r_begin : RS → RS
  | (oF, oL, oE, sp, _, _, pF, pL, pE) => (oF, oL, oE, sp, 0, 0, pF, pL, pE)
def m_clear : MS → MS
  | (nm, nx, _, _, _, _) => (nm, nx, 0, 0, 0, false)
/-- the byte that put lays for the place j of v, counted from the lowest -/
def byteOf (v : Int64) (j : Nat) : Int32 := (v.toUInt64 >>> ((8 * nI j).toInt64.toUInt64 &&& Int64.toUInt64 63)).toInt64.toInt32.toInt8.toInt32
def ptL (v : Int64) : Nat → Nat → (Nat → Int32) → (Nat → Int32)
  | 0, _, tx => tx
  | j + 1, ln, tx => ptL v j (ln + 1) (upd tx ln (byteOf v j).toInt8.toInt32)
def d_put (tx : Nat → Int32) (ln : Nat) (v : Int64) (n : Int32) : (Nat → Int32) × Nat × Bool :=
  if n < 1 then (tx, ln, false) else if 8 < n then (tx, ln, false) else if 300 < ln + n.toNatClampNeg then (tx, ln, false) else (ptL v n.toNatClampNeg ln tx, ln + n.toNatClampNeg, true)
def rdL (tx : Nat → Int32) (ln : Nat) : Nat → Nat → RS → MS → RS × MS × Int32
  | 0, _, R, M => if (r_fin R M).2 = true then (R, (r_fin R M).1, nI (r_fin R M).1.2.2.1) else (R, (r_fin R M).1, (-1) - nI ln)
  | n + 1, i, R, M => if (r_take R M (tx i)).2.2 = 1 then ((r_take R M (tx i)).1, (r_take R M (tx i)).2.1, (-1) - nI i)
    else if (r_take R M (tx i)).2.2 = 2 then ((r_take R M (tx i)).1, (r_take R M (tx i)).2.1, (-1000) - nI i)
    else rdL tx ln n (i + 1) (r_take R M (tx i)).1 (r_take R M (tx i)).2.1
def d_text (tx : Nat → Int32) (ln : Nat) (R : RS) (M : MS) : RS × MS × Int32 := rdL tx ln ln 0 (r_begin R) (m_clear M)
def d_read (tx : Nat → Int32) (ln : Nat) (R : RS) (M : MS) : RS × MS × Int32 :=
  if 0 ≤ (d_text tx ln R M).2.2 then d_text tx ln R M else ((d_text tx ln R M).1, m_clear (d_text tx ln R M).2.1, (d_text tx ln R M).2.2)
def d_next (nx : Nat → Int64) (np : Nat) (x : Int32) : Int64 := if m_has np x = true then nx x.toNatClampNeg else 0
def d_name (nm : Nat → Int32) (np : Nat) (x : Int32) : Int32 := if m_has np x = true then nm x.toNatClampNeg else -1
def d_reach (M : MS) (rd : Int64) (x : Int32) : Int64 := pnL x rd M.1 M.2.2.1 0 0
theorem bF {b : Bool} (h : b = false) : ¬ b = true := by rw [h]; decide
theorem m_has_nat {np : Nat} {x : Int32} (hnp : np ≤ 60) (h : m_has np x = true) : ∃ j : Nat, j < np ∧ x = nI j := by
  unfold m_has at h
  split at h
  · cases h
  · split at h
    · cases h
    · rename_i h1 h2
      rcases pk_ix x (n := np) (by omega) with q | q | q
      · exact absurd q h1
      · exact absurd q h2
      · exact q
theorem i_m1 (x : Int32) : x + Int32.ofInt (-1) = x - 1 := by rw [Int32.sub_eq_add_neg]; rfl
theorem hB_sh (a : Int64) {i : Nat} (hi : i < 64) : ((a.toUInt64 >>> ((nI i).toInt64.toUInt64 &&& Int64.toUInt64 63)).toInt64 &&& 1) = 0 ↔ hB a i = false := by
  rw [wb_cu i hi]
  exact ts_bit hi (Nat.mod_eq_of_lt (by omega))
theorem hB_of {a : Int64} {i : Nat} (hi : i < 64) (h : ¬ ((a.toUInt64 >>> ((nI i).toInt64.toUInt64 &&& Int64.toUInt64 63)).toInt64 &&& 1) = 0) : hB a i = true := by
  cases hb : hB a i with
  | true => rfl
  | false => exact absurd ((hB_sh a hi).mpr hb) h
theorem hB_not {a : Int64} {i : Nat} (hi : i < 64) (h : ((a.toUInt64 >>> ((nI i).toInt64.toUInt64 &&& Int64.toUInt64 63)).toInt64 &&& 1) = 0) : hB a i = false := (hB_sh a hi).mp h
theorem r_open_dp (R : RS) (h : R.2.2.2.2.1 ≤ 12) : (r_open R).1.2.2.2.2.1 ≤ 12 := by
  obtain ⟨oF, oL, oE, sp, dp, sta, pF, pL, pE⟩ := R
  simp only [r_open]
  split
  · exact h
  · simp only at h ⊢; omega
theorem r_join_dp (R : RS) (M : MS) (v : Nat) : (r_join R M v).1.2.2.2.2.1 = R.2.2.2.2.1 ∧ (r_join R M v).2.2.2.1 = M.2.2.1 := by
  obtain ⟨oF, oL, oE, sp, dp, sta, pF, pL, pE⟩ := R
  obtain ⟨nm, nx, np, fi, la, em⟩ := M
  simp only [r_join]
  repeat' split
  all_goals exact ⟨rfl, rfl⟩
theorem r_name_dp (R : RS) (M : MS) (x : Int32) (h : R.2.2.2.2.1 ≤ 12) (hn : M.2.2.1 ≤ 60) : (r_name R M x).1.2.2.2.2.1 ≤ 12 ∧ (r_name R M x).2.1.2.2.1 ≤ 60 := by
  obtain ⟨oF, oL, oE, sp, dp, sta, pF, pL, pE⟩ := R
  obtain ⟨nm, nx, np, fi, la, em⟩ := M
  simp only [r_name]
  split
  · exact ⟨h, hn⟩
  · simp only at h hn ⊢; omega
theorem r_sign_dp (R : RS) (M : MS) (x : Int32) : (r_sign R M x).1.2.2.2.2.1 = R.2.2.2.2.1 ∧ (r_sign R M x).2.1.2.2.1 = M.2.2.1 := by
  obtain ⟨oF, oL, oE, sp, dp, sta, pF, pL, pE⟩ := R
  obtain ⟨nm, nx, np, fi, la, em⟩ := M
  simp only [r_sign]
  split
  · exact ⟨rfl, rfl⟩
  · exact ⟨rfl, rfl⟩
theorem r_sepE_dp (J : RS × MS) (v : Nat) (x : Int32) : (r_sepE J v x).1.2.2.2.2.1 = J.1.2.2.2.2.1 ∧ (r_sepE J v x).2.1.2.2.1 = J.2.2.2.1 := by
  obtain ⟨⟨oF, oL, oE, sp, dp, sta, pF, pL, pE⟩, M⟩ := J
  exact ⟨rfl, rfl⟩
theorem r_closeE_dp (J : RS × MS) (v : Nat) : (r_closeE J v).1.2.2.2.2.1 = v ∧ (r_closeE J v).2.1.2.2.1 = J.2.2.2.1 := by
  obtain ⟨⟨oF, oL, oE, sp, dp, sta, pF, pL, pE⟩, M⟩ := J
  exact ⟨rfl, rfl⟩
theorem r_take_ok (R : RS) (M : MS) (x : Int32) (h : R.2.2.2.2.1 ≤ 12) (hn : M.2.2.1 ≤ 60) : (r_take R M x).1.2.2.2.2.1 ≤ 12 ∧ (r_take R M x).2.1.2.2.1 ≤ 60 := by
  have hsep : ∀ v, (r_sep R M v x).1.2.2.2.2.1 ≤ 12 ∧ (r_sep R M v x).2.1.2.2.1 ≤ 60 := by
    intro v
    have h1 := r_sepE_dp (r_join R M v) v x
    have h2 := r_join_dp R M v
    unfold r_sep
    repeat' split
    · omega
    · omega
    · exact ⟨h, hn⟩
  have hcl : (r_close R M (R.2.2.2.2.1 - 1)).1.2.2.2.2.1 ≤ 12 ∧ (r_close R M (R.2.2.2.2.1 - 1)).2.1.2.2.1 ≤ 60 := by
    have h1 := r_closeE_dp (r_join R M (R.2.2.2.2.1 - 1)) (R.2.2.2.2.1 - 1)
    have h2 := r_join_dp R M (R.2.2.2.2.1 - 1)
    unfold r_close
    omega
  have hbl : (r_blank R).2.2.2.2.1 = R.2.2.2.2.1 := by
    obtain ⟨oF, oL, oE, sp, dp, sta, pF, pL, pE⟩ := R
    rfl
  have hop := r_open_dp R h
  have hnm := r_name_dp R M (x - 97) h hn
  have hsg := r_sign_dp R M x
  unfold r_take r_before
  repeat' split
  all_goals first | exact ⟨hop, hn⟩ | exact ⟨h, hn⟩ | exact hnm | exact hcl | exact hsep _ | exact ⟨by rw [hsg.1]; exact h, by rw [hsg.2]; exact hn⟩ | exact ⟨by rw [hbl]; exact h, hn⟩
theorem r_begin_ok (R : RS) : (r_begin R).2.2.2.2.1 ≤ 12 := by
  obtain ⟨oF, oL, oE, sp, dp, sta, pF, pL, pE⟩ := R
  exact Nat.zero_le _
theorem m_clear_ok (M : MS) : (m_clear M).2.2.1 ≤ 60 := by
  obtain ⟨nm, nx, np, fi, la, em⟩ := M
  exact Nat.zero_le _
theorem p_count {x : Int32} (h1 : ¬ x < 1) (h8 : ¬ 8 < x) : ∃ q : Nat, 1 ≤ q ∧ q ≤ 8 ∧ x = nI q := by
  have a1 : ¬ x.toInt < 1 := fun z => h1 (Int32.lt_iff_toInt_lt.mpr z)
  have a8 : ¬ 8 < x.toInt := fun z => h8 (Int32.lt_iff_toInt_lt.mpr z)
  refine ⟨x.toInt.toNat, by omega, by omega, ?_⟩
  apply Int32.toInt_inj.mp
  rw [nI_toInt (by omega)]
  omega
theorem r_isSign_k : r_isSign 124 = false ∧ r_isSign 44 = false ∧ r_isSign 41 = false ∧ r_isSign 32 = false := by decide
