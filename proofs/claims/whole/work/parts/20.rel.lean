/-! THE RELATION between a desk and the reference, and that every call keeps it (level 2; read's part comes behind) -/
/-- the models: what the class holds is what the reference would answer -/
def RelM (nb : Nat) (im : Bool) (M : MS) (T : TS) : Prop := match M, T with
  | (nm, nx, np, fi, la, em), (_, kd, pa, be, af, mi, nq, lf, nr, _, _, _, ro) =>
    np = nq ∧ okT nb pa be af nq lf ∧ (im = true → ro < nb) ∧ (∀ q, q < nq → nm q = nr q) ∧ fi = e_first kd pa be mi nq lf im ro ∧ la = laL kd pa af mi lf nq 0 0 ∧ em = (im && mi ro) ∧ (∀ q, q < nq → nx q = nxF kd pa be af mi nq lf q) ∧ (im = false → nq = 0) ∧ (im = true → 0 < nq)
/-- the texts: the class keeps signed bytes, the reference numbers 0 to 255 -/
def RelT (tx : Nat → Int32) (ln : Nat) (ty : Nat → Int32) (sz : Nat) : Prop := ln = sz ∧ sz ≤ 300 ∧ ∀ j, j < sz → ∃ n : Nat, n < 256 ∧ ty j = nI n ∧ tx j = (nI n).toInt8.toInt32
/-- the rows that came -/
def RelR (rd : Int64) (wh : Bool) (cm : Nat) (im : Bool) (nw : Int64) (M : MS) : Prop := match M with
  | (_, nx, np, fi, la, em) => (cm = 0 ∧ rd = fi ∧ wh = em) ∨ (0 < cm ∧ im = true ∧ rd = nbL nw nx np 0 0 ∧ wh = decide (¬ (nw &&& la) = 0))
def Rel (nb : Nat) (tx : Nat → Int32) (ln : Nat) (rd : Int64) (wh : Bool) (cm : Nat) (M : MS) (ty : Nat → Int32) (sz : Nat) (im : Bool) (nw : Int64) (T : TS) : Prop := RelT tx ln ty sz ∧ RelM nb im M T ∧ RelR rd wh cm im nw M
section REL
variable {nb : Nat} {tx ty : Nat → Int32} {ln sz : Nat} {rd nw : Int64} {wh im : Bool} {cm : Nat} {nm : Nat → Int32} {nx : Nat → Int64} {np : Nat} {fi la : Int64} {em : Bool}
variable {nd : Nat} {kd : Nat → Int32} {pa be af : Nat → Option Nat} {mi : Nat → Bool} {nq : Nat} {lf : Nat → Nat} {nr : Nat → Int32} {dq : Nat} {lq : Nat → Option Nat} {so : Nat → Int32} {ro : Nat}
theorem rel_isEmpty (h : Rel nb tx ln rd wh cm (nm, nx, np, fi, la, em) ty sz im nw (nd, kd, pa, be, af, mi, nq, lf, nr, dq, lq, so, ro)) : bI em = bI (im && mi ro) := by rw [h.2.1.2.2.2.2.2.2.1]
theorem rel_first (h : Rel nb tx ln rd wh cm (nm, nx, np, fi, la, em) ty sz im nw (nd, kd, pa, be, af, mi, nq, lf, nr, dq, lq, so, ro)) : fi = e_first kd pa be mi nq lf im ro := h.2.1.2.2.2.2.1
theorem rel_last (h : Rel nb tx ln rd wh cm (nm, nx, np, fi, la, em) ty sz im nw (nd, kd, pa, be, af, mi, nq, lf, nr, dq, lq, so, ro)) : la = laL kd pa af mi lf nq 0 0 := h.2.1.2.2.2.2.2.1
theorem e_next_nat {j : Nat} (hj : j < nq) (hq : nq ≤ 60) : e_next kd pa be af mi nq lf (nI j) = nxF kd pa be af mi nq lf j := by
  rw [e_next, if_neg (nI_pos (by omega)), if_pos (nI_lt hj (by omega)), nI_clamp (by omega)]
theorem rel_next (h : Rel nb tx ln rd wh cm (nm, nx, np, fi, la, em) ty sz im nw (nd, kd, pa, be, af, mi, nq, lf, nr, dq, lq, so, ro)) (x : Int32) : d_next nx np x = e_next kd pa be af mi nq lf x := by
  obtain ⟨-, ⟨rfl, ok, -, -, -, -, -, hnx, -, -⟩, -⟩ := h
  have hnp : np ≤ 60 := ok.2.1
  rcases pk_ix x (n := np) (by omega) with q | q | ⟨j, hj, rfl⟩
  · rw [d_next, e_next, if_pos q, m_has, if_pos q]; rfl
  · by_cases q0 : x < 0
    · rw [d_next, e_next, if_pos q0, m_has, if_pos q0]; rfl
    · rw [d_next, e_next, if_neg q0, if_neg (Int32.not_lt.mpr q), m_has, if_neg q0, if_pos q]; rfl
  · rw [e_next_nat hj hnp, d_next, m_has, if_neg (nI_pos (by omega)), if_neg (nI_ge hj (by omega)), if_pos rfl, nI_clamp (by omega), hnx j hj]
theorem rel_name (h : Rel nb tx ln rd wh cm (nm, nx, np, fi, la, em) ty sz im nw (nd, kd, pa, be, af, mi, nq, lf, nr, dq, lq, so, ro)) (x : Int32) : d_name nm np x = d_name nr nq x := by
  obtain ⟨-, ⟨rfl, ok, -, hnm, -, -, -, -, -, -⟩, -⟩ := h
  have hnp : np ≤ 60 := ok.2.1
  unfold d_name
  by_cases hh : m_has np x = true
  · rw [if_pos hh, if_pos hh]
    obtain ⟨j, hj, rfl⟩ := m_has_nat hnp hh
    rw [nI_clamp (by omega)]
    exact hnm j hj
  · rw [if_neg hh, if_neg hh]
theorem nt_tw (a : Int64) (nm nr : Nat → Int32) : ∀ (n q : Nat) (o t : Int32), (∀ j, q ≤ j → j < q + n → nm j = nr j) → ntL a nm n q o t = twL a nr n q o t
  | 0, _, _, _, _ => rfl
  | n + 1, q, o, t, h => by
    have h1 : nm q = nr q := h q (Nat.le_refl q) (by omega)
    have h2 : ∀ j, q + 1 ≤ j → j < q + 1 + n → nm j = nr j := fun j a b => h j (by omega) (by omega)
    rw [ntL, twL]
    by_cases hb : hB a q = true
    · rw [if_pos hb, if_pos hb, h1]
      exact nt_tw a nm nr n (q + 1) _ _ h2
    · rw [if_neg hb, if_neg hb]
      have e1 : o ||| 0 = o := by simp
      have e2 : t ||| (o &&& 0) = t := by simp
      rw [e1, e2]
      exact nt_tw a nm nr n (q + 1) _ _ h2
theorem cp_cm {nm nr : Nat → Int32} {nx N : Nat → Int64} {np : Nat} (hnm : ∀ j, j < np → nm j = nr j) : ∀ (n q : Nat) (r : Int32), q + n ≤ np → (∀ j, j < np → nx j = N j) → cpL nm nx np n q r = cmL nr np N n q r
  | 0, _, _, _, _ => rfl
  | n + 1, q, r, h, hn => by
    rw [cpL, cmL, hn q (by omega), ntF, twF, nt_tw _ nm nr np 0 0 0 (fun j _ b => hnm j (by omega))]
    exact cp_cm hnm n (q + 1) _ (by omega) hn
theorem rel_competing (h : Rel nb tx ln rd wh cm (nm, nx, np, fi, la, em) ty sz im nw (nd, kd, pa, be, af, mi, nq, lf, nr, dq, lq, so, ro)) :
    cpF nm nx np fi = cmL nr nq (fun q => e_next kd pa be af mi nq lf (nI q)) nq 0 (twF (e_first kd pa be mi nq lf im ro) nr nq) := by
  have hf := rel_first h
  obtain ⟨-, ⟨rfl, ok, -, hnm, -, -, -, hnx, -, -⟩, -⟩ := h
  have hnp : np ≤ 60 := ok.2.1
  rw [cpF, ntF, twF, nt_tw _ nm nr np 0 0 0 (fun j _ b => hnm j (by omega)), hf]
  exact cp_cm hnm np 0 _ (by omega) (fun j hj => by rw [hnx j hj, e_next_nat hj hnp])
theorem rel_isClear (h : Rel nb tx ln rd wh cm (nm, nx, np, fi, la, em) ty sz im nw (nd, kd, pa, be, af, mi, nq, lf, nr, dq, lq, so, ro)) :
    bI (decide (0 < np) && decide (cpF nm nx np fi = 0)) = bI (im && decide (cmL nr nq (fun q => e_next kd pa be af mi nq lf (nI q)) nq 0 (twF (e_first kd pa be mi nq lf im ro) nr nq) = 0)) := by
  rw [rel_competing h]
  obtain ⟨-, ⟨rfl, ok, -, hnm, -, -, -, hnx, h0, h1⟩, -⟩ := h
  cases im with
  | false => rw [h0 rfl]; rfl
  | true => rw [decide_eq_true (h1 rfl)]
theorem rel_isWhole (h : Rel nb tx ln rd wh cm (nm, nx, np, fi, la, em) ty sz im nw (nd, kd, pa, be, af, mi, nq, lf, nr, dq, lq, so, ro)) :
    bI wh = bI (im && (if cm = 0 then mi ro else decide (¬ (nw &&& laL kd pa af mi lf nq 0 0) = 0))) := by
  have hl := rel_last h
  have he : em = (im && mi ro) := h.2.1.2.2.2.2.2.2.1
  rcases h.2.2 with ⟨hc, -, hw⟩ | ⟨hc, hi, -, hw⟩
  · rw [hw, he, if_pos hc]
  · rw [hw, hi, if_neg (by omega), hl, Bool.true_and]
theorem nb_ab {a : Int64} {nx N : Nat → Int64} {np : Nat} : ∀ (n q : Nat) (r : Int64), q + n ≤ np → (∀ j, j < np → nx j = N j) → nbL a nx n q r = abL a N n q r
  | 0, _, _, _, _ => rfl
  | n + 1, q, r, h, hn => by
    rw [nbL, abL, ← hn q (by omega)]
    by_cases hb : hB a q = true
    · rw [if_pos hb, if_pos hb]
      exact nb_ab n (q + 1) _ (by omega) hn
    · rw [if_neg hb, if_neg hb]
      have e1 : r ||| 0 = r := by simp
      rw [e1]
      exact nb_ab n (q + 1) _ (by omega) hn
/-- what can come now: the class keeps it, the reference finds it -/
theorem rel_ready (h : Rel nb tx ln rd wh cm (nm, nx, np, fi, la, em) ty sz im nw (nd, kd, pa, be, af, mi, nq, lf, nr, dq, lq, so, ro)) :
    rd = (if cm = 0 then e_first kd pa be mi nq lf im ro else abL nw (fun q => e_next kd pa be af mi nq lf (nI q)) nq 0 0) := by
  have hf := rel_first h
  obtain ⟨-, ⟨rfl, ok, -, -, -, -, -, hnx, -, -⟩, hr⟩ := h
  have hnp : np ≤ 60 := ok.2.1
  rcases hr with ⟨hc, hw, -⟩ | ⟨hc, hi, hw, -⟩
  · rw [hw, if_pos hc, hf]
  · rw [hw, if_neg (by omega)]
    exact nb_ab (np := np) np 0 0 (by omega) (fun j hj => by rw [hnx j hj, e_next_nat hj hnp])
theorem no_my (a : Int64) (nm nr : Nat → Int32) : ∀ (n q : Nat) (r : Int32), (∀ j, q ≤ j → j < q + n → nm j = nr j) → noL a nm n q r = myL a nr n q r
  | 0, _, _, _ => rfl
  | n + 1, q, r, h => by
    have h1 : nm q = nr q := h q (Nat.le_refl q) (by omega)
    have h2 : ∀ j, q + 1 ≤ j → j < q + 1 + n → nm j = nr j := fun j a b => h j (by omega) (by omega)
    rw [noL, myL]
    by_cases hb : hB a q = true
    · rw [if_pos hb, if_pos hb, h1]
      exact no_my a nm nr n (q + 1) _ h2
    · rw [if_neg hb, if_neg hb]
      have e1 : r ||| 0 = r := by simp
      rw [e1]
      exact no_my a nm nr n (q + 1) _ h2
theorem rel_may (h : Rel nb tx ln rd wh cm (nm, nx, np, fi, la, em) ty sz im nw (nd, kd, pa, be, af, mi, nq, lf, nr, dq, lq, so, ro)) :
    noL rd nm np 0 0 = myL (if cm = 0 then e_first kd pa be mi nq lf im ro else abL nw (fun q => e_next kd pa be af mi nq lf (nI q)) nq 0 0) nr nq 0 0 := by
  rw [← rel_ready h]
  obtain ⟨-, ⟨rfl, ok, -, hnm, -, -, -, -, -, -⟩, -⟩ := h
  exact no_my rd nm nr np 0 0 (fun j _ b => hnm j (by omega))
theorem bit_and {a : Int64} {q : Nat} (hq : q < 64) : a &&& ((1 : Int64) <<< ((nI q).toInt64 &&& 63)) = if hB a q = true then (1 : Int64) <<< ((nI q).toInt64 &&& 63) else 0 := by
  apply hB_ext
  intro p hp
  rw [hB_and, hB_one hq]
  by_cases e : p = q
  · subst e
    by_cases hb : hB a p = true
    · rw [if_pos hb, hB_one hq, hb]; simp
    · rw [if_neg hb, hB_0]; simp [ts_nt hb]
  · rw [decide_eq_false e, Bool.and_false]
    split
    · rw [hB_one hq, decide_eq_false e]
    · rw [hB_0]
theorem pn_wi {x : Int32} {a : Int64} {nm nr : Nat → Int32} : ∀ (n q : Nat) (r : Int64), q + n ≤ 60 → (∀ j, q ≤ j → j < q + n → nm j = nr j) → pnL x a nm n q r = wiL a x nr n q r
  | 0, _, _, _, _ => rfl
  | n + 1, q, r, hq, h => by
    have h1 : nm q = nr q := h q (Nat.le_refl q) (by omega)
    have h2 : ∀ j, q + 1 ≤ j → j < q + 1 + n → nm j = nr j := fun j a b => h j (by omega) (by omega)
    have e1 : r ||| 0 = r := by simp
    rw [pnL, wiL, ← h1]
    by_cases hx : nm q = x
    · rw [if_pos hx, bit_and (by omega)]
      by_cases hb : hB a q = true
      · rw [if_pos ⟨hx, hb⟩, if_pos hb]
        exact pn_wi n (q + 1) _ (by omega) h2
      · rw [if_neg (fun z => hb z.2), if_neg hb, e1]
        exact pn_wi n (q + 1) _ (by omega) h2
    · rw [if_neg (fun z => hx z.1), if_neg hx, e1]
      exact pn_wi n (q + 1) _ (by omega) h2
theorem rel_reach (h : Rel nb tx ln rd wh cm (nm, nx, np, fi, la, em) ty sz im nw (nd, kd, pa, be, af, mi, nq, lf, nr, dq, lq, so, ro)) (x : Int32) :
    pnL x rd nm np 0 0 = wiL (if cm = 0 then e_first kd pa be mi nq lf im ro else abL nw (fun q => e_next kd pa be af mi nq lf (nI q)) nq 0 0) x nr nq 0 0 := by
  rw [← rel_ready h]
  obtain ⟨-, ⟨rfl, ok, -, hnm, -, -, -, -, -, -⟩, -⟩ := h
  exact pn_wi np 0 0 (by have := ok.2.1; omega) (fun j _ b => hnm j (by omega))
theorem rel_again (h : Rel nb tx ln rd wh cm (nm, nx, np, fi, la, em) ty sz im nw (nd, kd, pa, be, af, mi, nq, lf, nr, dq, lq, so, ro)) : Rel nb tx ln fi em 0 (nm, nx, np, fi, la, em) ty sz im 0 (nd, kd, pa, be, af, mi, nq, lf, nr, dq, lq, so, ro) :=
  ⟨h.1, h.2.1, Or.inl ⟨rfl, rfl, rfl⟩⟩
theorem rel_come (h : Rel nb tx ln rd wh cm (nm, nx, np, fi, la, em) ty sz im nw (nd, kd, pa, be, af, mi, nq, lf, nr, dq, lq, so, ro)) (x : Int32) (P : Int64) (hP : pnL x rd nm np 0 0 = P) :
    Rel nb tx ln (if P = 0 then rd else nbL P nx np 0 0) (if P = 0 then wh else decide (¬ (P &&& la) = 0)) (if P = 0 then cm else cm + 1) (nm, nx, np, fi, la, em) ty sz im (if P = 0 then nw else P) (nd, kd, pa, be, af, mi, nq, lf, nr, dq, lq, so, ro) := by
  refine ⟨h.1, h.2.1, ?_⟩
  by_cases e : P = 0
  · rw [if_pos e, if_pos e, if_pos e, if_pos e]
    exact h.2.2
  · rw [if_neg e, if_neg e, if_neg e, if_neg e]
    refine Or.inr ⟨Nat.succ_pos cm, ?_, rfl, rfl⟩
    obtain ⟨-, ⟨e0, -, -, -, -, -, -, -, h0, -⟩, -⟩ := h
    cases im with
    | true => rfl
    | false =>
      rw [e0, h0 rfl] at hP
      exact absurd hP.symm e
theorem rel_bounds (h : Rel nb tx ln rd wh cm (nm, nx, np, fi, la, em) ty sz im nw (nd, kd, pa, be, af, mi, nq, lf, nr, dq, lq, so, ro)) : ln ≤ 300 ∧ np ≤ 60 ∧ sz ≤ 300 ∧ nq ≤ 60 ∧ okT nb pa be af nq lf ∧ (im = true → ro < nb) := by
  obtain ⟨⟨h1, h2, -⟩, ⟨e0, ok, hro, -⟩, -⟩ := h
  exact ⟨by omega, by have := ok.2.1; omega, h2, ok.2.1, ok, hro⟩
end REL
/-- a new desk and a new reference -/
theorem rel_init : Rel 0 (fun _ => 0) 0 0 false 0 ((fun _ => 0), (fun _ => 0), 0, 0, 0, false) (fun _ => 0) 0 false 0 (0, (fun _ => 0), (fun _ => some 0), (fun _ => some 0), (fun _ => some 0), (fun _ => false), 0, (fun _ => 0), (fun _ => 0), 0, (fun _ => some 0), (fun _ => 0), 0) := by
  refine ⟨⟨rfl, Nat.zero_le _, fun j h => absurd h (Nat.not_lt_zero _)⟩, ⟨rfl, ⟨Nat.zero_le _, Nat.zero_le _, fun n p h => absurd h (Nat.not_lt_zero _), fun n p h => absurd h (Nat.not_lt_zero _), fun n p h => absurd h (Nat.not_lt_zero _), fun n h => absurd h (Nat.not_lt_zero _)⟩, fun h => Bool.noConfusion h, fun q h => absurd h (Nat.not_lt_zero _), rfl, rfl, rfl, fun q h => absurd h (Nat.not_lt_zero _), fun _ => rfl, fun h => Bool.noConfusion h⟩, Or.inl ⟨rfl, rfl, rfl⟩⟩
