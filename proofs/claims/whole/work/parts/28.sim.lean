/-! CLASS AND REFERENCE SIDE BY SIDE -/
theorem base_congr {F L C : Nat → Int64} {J J' X X' : Nat → List Nat} {lo : List Nat} {oF oL oF' oL' : Nat → Int64} {oE oE' : Nat → Bool} {sp sp' : Nat → Int32} {dp : Nat} {nx : Nat → Int64} {nd : Nat} {kd : Nat → Int32} {pa be af : Nat → Option Nat} {mi : Nat → Bool} {nq : Nat} {lf : Nat → Nat} {lq lq' : Nat → Option Nat} {so so' : Nat → Int32}
    (h : Base F L C J X lo oF oL oE sp dp nx nd kd pa be af mi nq lf lq so) (e1 : ∀ v, v < dp → J' v = J v) (e2 : ∀ v, v < dp → X' v = X v) (e3 : ∀ v, v < dp → oF' v = oF v) (e4 : ∀ v, v < dp → oL' v = oL v) (e5 : ∀ v, v < dp → oE' v = oE v) (e6 : ∀ v, v < dp → sp' v = sp v) (e7 : ∀ v, v < dp → lq' v = lq v) (e8 : ∀ v, v < dp → so' v = so v) :
    Base F L C J' X' lo oF' oL' oE' sp' dp nx nd kd pa be af mi nq lf lq' so' := by
  obtain ⟨h1, h2, h3, h4, h5, h6, h7, h8⟩ := h
  refine ⟨h1, h2, h3, ?_, ?_, ?_, ?_, ?_⟩
  · intro v hv
    rw [e1 v hv, e3 v hv, e4 v hv, e5 v hv, e6 v hv, e8 v hv]
    exact h4 v hv
  · intro v hv
    rw [e1 v hv, e2 v hv, e7 v hv]
    exact h5 v hv
  · intro v w a b hvw hw ha hb
    rw [e2 v (by omega)] at ha
    rw [e2 w hw] at hb
    exact h6 v w a b hvw hw ha hb
  · intro c hc
    obtain ⟨a1, a2, a3, a4, a5, a6⟩ := h7 c hc
    exact ⟨a1, a2, a3, a4, a5, fun v a hv ha => a6 v a hv (by rw [← e2 v hv]; exact ha)⟩
  · intro n hn hp
    rcases h8 n hn hp with a | ⟨v, hv, a⟩
    · exact Or.inl a
    · exact Or.inr ⟨v, hv, by rw [e2 v hv]; exact a⟩
/-- a part is due -/
def SimT (R : RS) (M : MS) (T : TS) : Prop := match R, M, T with
  | (oF, oL, oE, sp, dp, sta, _, _, _), (nm, nx, np, _, _, _), (nd, kd, pa, be, af, mi, nq, lf, nr, dq, lq, so, _) => sta = 1 ∧ np = nq ∧ dp = dq ∧ (∀ q, q < nq → nm q = nr q) ∧ ∃ (F L C : Nat → Int64) (J : Nat → List Nat), Base F L C J J [] oF oL oE sp dp nx nd kd pa be af mi nq lf lq so
/-- a part n is complete and stands in no bracket yet -/
def SimL (n : Nat) (R : RS) (M : MS) (T : TS) : Prop := match R, M, T with
  | (oF, oL, oE, sp, dp, sta, pF, pL, pE), (nm, nx, np, _, _, _), (nd, kd, pa, be, af, mi, nq, lf, nr, dq, lq, so, _) => (sta = 2 ∨ sta = 3) ∧ np = nq ∧ dp = dq ∧ (∀ q, q < nq → nm q = nr q) ∧ 0 < nq ∧ ∃ (F L C : Nat → Int64) (J : Nat → List Nat), Base F L C J J [n] oF oL oE sp dp nx nd kd pa be af mi nq lf lq so ∧ pF = F n ∧ pL = L n ∧ pE = mi n
/-- a part stands as the last of its bracket -/
def SimP (R : RS) (M : MS) (T : TS) : Prop := match R, M, T with
  | (oF, oL, oE, sp, dp, sta, pF, pL, pE), (nm, nx, np, _, _, _), (nd, kd, pa, be, af, mi, nq, lf, nr, dq, lq, so, _) => (sta = 2 ∨ sta = 3) ∧ np = nq ∧ dp = dq ∧ (∀ q, q < nq → nm q = nr q) ∧ 0 < nq ∧ ∃ (F L C : Nat → Int64) (J X : Nat → List Nat) (n d : Nat), dp = d + 1 ∧ X d = n :: J d ∧ (∀ v, v < d → X v = J v) ∧ C n = 0 ∧ Base F L C J X [] oF oL oE sp dp nx nd kd pa be af mi nq lf lq so ∧ pF = F n ∧ pL = L n ∧ pE = mi n
theorem sim_open {R : RS} {M : MS} {T : TS} (h : SimT R M T) (hd : ¬ 12 ≤ R.2.2.2.2.1) : r_open R = ((r_open R).1, 0) ∧ SimT (r_open R).1 M (t_open T) := by
  obtain ⟨oF, oL, oE, sp, dp, sta, pF, pL, pE⟩ := R
  obtain ⟨nm, nx, np, fi, la, em⟩ := M
  obtain ⟨nd, kd, pa, be, af, mi, nq, lf, nr, dq, lq, so, ro⟩ := T
  obtain ⟨h1, h2, h3, h4, F, L, C, J, hB⟩ := h
  have hd : ¬ 12 ≤ dp := hd
  have e : r_open (oF, oL, oE, sp, dp, sta, pF, pL, pE) = ((oF, oL, oE, upd sp dp 0, dp + 1, 1, pF, pL, pE), 0) := by rw [r_open, if_neg hd]
  rw [e]
  subst h3
  exact ⟨rfl, rfl, h2, rfl, h4, F, L, C, va_up J dp [], base_open hB⟩
theorem sim_name {R : RS} {M : MS} {T : TS} (c : Int32) (h : SimT R M T) (hn : T.1 < 700) (hq : T.2.2.2.2.2.2.1 < 60) : (r_name R M c).2.2 = 0 ∧ (r_name R M c).1.2.2.2.2.2.1 = 2 ∧ SimL T.1 (r_name R M c).1 (r_name R M c).2.1 (t_place (t_node T 0) T.1 c) := by
  obtain ⟨oF, oL, oE, sp, dp, sta, pF, pL, pE⟩ := R
  obtain ⟨nm, nx, np, fi, la, em⟩ := M
  obtain ⟨nd, kd, pa, be, af, mi, nq, lf, nr, dq, lq, so, ro⟩ := T
  obtain ⟨h1, h2, h3, h4, F, L, C, J, hB⟩ := h
  have hn : nd < 700 := hn
  have hq : nq < 60 := hq
  subst h2; subst h3
  rw [r_name, if_neg (by omega)]
  refine ⟨rfl, rfl, Or.inl rfl, rfl, rfl, ?_, Nat.succ_pos _, _, _, _, J, base_name hB hn hq, pk_uLs.symm, pk_uLs.symm, ?_⟩
  · intro q hq'
    by_cases e : q = np
    · subst e; exact pk_us.trans pk_us.symm
    · exact (pk_un e).trans ((h4 q (by omega)).trans (pk_un e).symm)
  · show false = va_up mi nd (nkM 0) nd
    rw [va_up_self, nkM_0]
theorem sim_sign {R : RS} {M : MS} {T : TS} {n : Nat} (c : Int32) (h : SimL n R M T) (hs : R.2.2.2.2.2.1 = 2) (hc : r_isSign c = true) (hn : T.1 < 700) : (r_sign R M c).2.2 = 0 ∧ (r_sign R M c).1.2.2.2.2.2.1 = 3 ∧ SimL T.1 (r_sign R M c).1 (r_sign R M c).2.1 (t_sign T n c) := by
  obtain ⟨oF, oL, oE, sp, dp, sta, pF, pL, pE⟩ := R
  obtain ⟨nm, nx, np, fi, la, em⟩ := M
  obtain ⟨nd, kd, pa, be, af, mi, nq, lf, nr, dq, lq, so, ro⟩ := T
  obtain ⟨h1, h2, h3, h4, h5, F, L, C, J, hB, b1, b2, b3⟩ := h
  have hs : sta = 2 := hs
  have hn : nd < 700 := hn
  have hnn : n < nd := (hB.2.2.2.2.2.2.1 n (by simp)).1
  subst h2; subst h3; subst b1; subst b2; subst b3
  rw [r_sign, if_pos hs]
  refine ⟨rfl, rfl, Or.inr rfl, rfl, rfl, h4, h5, _, _, _, J, base_sign c hB hn, pk_uLs.symm, pk_uLs.symm, ?_⟩
  show (if c = 43 then mi n else true) = sgM (va_up mi nd (nkM (sgK c))) nd n c nd
  unfold sgM
  by_cases e : c = 43
  · rw [if_pos e, if_pos e, va_up_self, va_up_ne _ _ (by omega)]
  · rw [if_neg e, if_neg e, va_up_self]
    have : sgK c = 3 ∨ sgK c = 4 := by
      unfold sgK
      by_cases e1 : c = 63
      · rw [if_pos e1]; exact Or.inl rfl
      · rw [if_neg e1]
        by_cases e2 : c = 42
        · rw [if_pos e2]; exact Or.inr rfl
        · exfalso
          unfold r_isSign at hc
          rw [if_neg e1, if_neg e2, if_neg e] at hc
          cases hc
    rcases this with e2 | e2 <;> rw [e2] <;> rfl
theorem sim_add {R : RS} {M : MS} {T : TS} {n d : Nat} (h : SimL n R M T) (hd : T.2.2.2.2.2.2.2.2.2.1 = d + 1) : SimP R M (t_add T d n) := by
  obtain ⟨oF, oL, oE, sp, dp, sta, pF, pL, pE⟩ := R
  obtain ⟨nm, nx, np, fi, la, em⟩ := M
  obtain ⟨nd, kd, pa, be, af, mi, nq, lf, nr, dq, lq, so, ro⟩ := T
  obtain ⟨h1, h2, h3, h4, h5, F, L, C, J, hB, b1, b2, b3⟩ := h
  have hd : dq = d + 1 := hd
  subst hd; subst h3
  have hC : C n = 0 := (hB.2.2.2.2.2.2.1 n (by simp)).2.2.2.2.1
  exact ⟨h1, h2, rfl, h4, h5, F, L, C, J, va_up J d (n :: J d), n, d, rfl, va_up_self _ _ _, fun v hv => va_up_ne _ _ (by omega), hC, base_add hB, b1, b2, b3⟩
theorem soC_c : soC 0 = -1 ∧ soC 124 = 1 ∧ soC 44 = 2 := by decide
theorem lvl_sep {mi : Nat → Bool} {F L : Nat → Int64} {s : Int32} {J : List Nat} {a b : Int64} {e : Bool} (h : lvl mi F L s J a b e) : s = 0 ∨ s = 124 ∨ s = 44 := by
  rcases h with ⟨h, -⟩ | ⟨h, -⟩ | ⟨h, -⟩
  · exact Or.inl h
  · exact Or.inr (Or.inl h)
  · exact Or.inr (Or.inr h)
theorem sep_or {s x : Int32} (hs : s = 0 ∨ s = 124 ∨ s = 44) (hx : x = 124 ∨ x = 44) : (¬ soC s < 0 ∧ ¬ soC s = soK x) ↔ ¬ (s = 0 ∨ s = x) := by
  rcases hs with rfl | rfl | rfl <;> rcases hx with rfl | rfl <;> decide
theorem soK_c {x : Int32} (hx : x = 124 ∨ x = 44) : soK x = soC x := by
  rcases hx with rfl | rfl <;> decide
/-- what r_join does to the rows of a bracket -/
theorem join_eq {oF oL : Nat → Int64} {oE : Nat → Bool} {sp : Nat → Int32} {dp : Nat} {sta : Int32} {pF pL : Int64} {pE : Bool} {nm : Nat → Int32} {nx : Nat → Int64} {np : Nat} {fi la : Int64} {em : Bool} {d : Nat} (hs : sp d = 0 ∨ sp d = 124 ∨ sp d = 44) :
    ∃ (oF' oL' : Nat → Int64) (oE' : Nat → Bool) (nx' : Nat → Int64), r_join (oF, oL, oE, sp, dp, sta, pF, pL, pE) (nm, nx, np, fi, la, em) d = ((oF', oL', oE', sp, dp, sta, pF, pL, pE), (nm, nx', np, fi, la, em)) ∧ oF' d = jF (sp d) (oF d) (oE d) pF ∧ oL' d = jL (sp d) (oL d) pE pL ∧ oE' d = jE (sp d) (oE d) pE ∧ (∀ v, v ≠ d → oF' v = oF v) ∧ (∀ v, v ≠ d → oL' v = oL v) ∧ (∀ v, v ≠ d → oE' v = oE v) ∧ nx' = if sp d = 44 then cnL (oL d) pF np 0 nx else nx := by
  unfold r_join
  rcases hs with e | e | e
  · dsimp only
    rw [if_pos e, e]
    exact ⟨_, _, _, _, rfl, pk_uLs, pk_uLs, va_up_self _ _ _, fun v hv => pk_uLn hv, fun v hv => pk_uLn hv, fun v hv => va_up_ne _ _ hv, by rw [if_neg (by decide)]⟩
  · dsimp only
    rw [if_neg (by rw [e]; decide), if_pos e, e]
    refine ⟨_, _, _, _, rfl, ?_, ?_, ?_, fun v hv => pk_uLn hv, fun v hv => pk_uLn hv, fun v hv => va_up_ne _ _ hv, by rw [if_neg (by decide)]⟩
    · rw [pk_uLs, jF_c]
    · rw [pk_uLs, jL_c]
    · rw [va_up_self, jE_c]
  · dsimp only
    rw [if_neg (by rw [e]; decide), if_neg (by rw [e]; decide), e]
    refine ⟨_, _, _, _, rfl, ?_, ?_, ?_, ?_, fun v hv => pk_uLn hv, fun v hv => va_up_ne _ _ hv, by rw [if_pos rfl]⟩
    · rw [jF_r]
      by_cases he : oE d = true
      · rw [if_pos he, if_pos he, pk_uLs]
      · rw [if_neg he, if_neg he]
    · rw [pk_uLs, jL_r]
    · rw [va_up_self, jE_r]
    · intro v hv
      split
      · exact pk_uLn hv
      · rfl
theorem sim_sep {R : RS} {M : MS} {T : TS} {d : Nat} {x : Int32} (h : SimP R M T) (hd : T.2.2.2.2.2.2.2.2.2.1 = d + 1) (hx : x = 124 ∨ x = 44) :
    (r_sep R M d x).2.2 = (if ¬ T.2.2.2.2.2.2.2.2.2.2.2.1 d < 0 ∧ ¬ T.2.2.2.2.2.2.2.2.2.2.2.1 d = soK x then 1 else 0) ∧ (¬ (¬ T.2.2.2.2.2.2.2.2.2.2.2.1 d < 0 ∧ ¬ T.2.2.2.2.2.2.2.2.2.2.2.1 d = soK x) → SimT (r_sep R M d x).1 (r_sep R M d x).2.1 (t_sort T d (soK x))) := by
  obtain ⟨oF, oL, oE, sp, dp, sta, pF, pL, pE⟩ := R
  obtain ⟨nm, nx, np, fi, la, em⟩ := M
  obtain ⟨nd, kd, pa, be, af, mi, nq, lf, nr, dq, lq, so, ro⟩ := T
  obtain ⟨h1, h2, h3, h4, h5, F, L, C, J, X, n, d', e1, e2, e3, hC, hB, b1, b2, b3⟩ := h
  have hd : dq = d + 1 := hd
  subst hd; subst h3
  have e4 : d' = d := by omega
  subst e4
  subst b1; subst b2; subst b3; subst h2
  have hlv := hB.2.2.2.1 d' (by omega)
  have hsp := lvl_sep hlv.1
  have hso : so d' = soC (sp d') := hlv.2.1
  show (r_sep (oF, oL, oE, sp, d' + 1, sta, F n, L n, mi n) (nm, nx, np, fi, la, em) d' x).2.2 = (if ¬ so d' < 0 ∧ ¬ so d' = soK x then 1 else 0) ∧ (¬ (¬ so d' < 0 ∧ ¬ so d' = soK x) → _)
  rw [hso]
  have hsep := sep_or (s := sp d') hsp hx
  obtain ⟨oF', oL', oE', nx', ej, j1, j2, j3, q1, q2, q3, jn⟩ := join_eq (oF := oF) (oL := oL) (oE := oE) (sp := sp) (dp := d' + 1) (sta := sta) (pF := F n) (pL := L n) (pE := mi n) (nm := nm) (nx := nx) (np := np) (fi := fi) (la := la) (em := em) (d := d') hsp
  by_cases hok : sp d' = 0 ∨ sp d' = x
  · have er : r_sep (oF, oL, oE, sp, d' + 1, sta, F n, L n, mi n) (nm, nx, np, fi, la, em) d' x = ((oF', oL', oE', upd sp d' x, d' + 1, 1, F n, L n, mi n), (nm, nx', np, fi, la, em), 0) := by
      unfold r_sep
      dsimp only
      rw [ej, r_sepE]
      rcases hok with e | e
      · rw [if_pos e]
      · by_cases e0 : sp d' = 0
        · rw [if_pos e0]
        · rw [if_neg e0, if_pos e]
    rw [er, if_neg (fun z => (hsep.mp z) hok)]
    refine ⟨rfl, fun _ => ⟨rfl, rfl, rfl, h4, F, L, cJ mi F C (sp d') (J d') n, va_up J d' (n :: J d'), ?_⟩⟩
    rw [soK_c hx]
    refine base_congr (base_join hB e2 hC hx hok j1 j2 j3 q1 q2 q3 jn) (fun _ _ => rfl) (fun v hv => ?_) (fun _ _ => rfl) (fun _ _ => rfl) (fun _ _ => rfl) (fun _ _ => rfl) (fun _ _ => rfl) (fun _ _ => rfl)
    by_cases e : v = d'
    · subst e; rw [va_up_self, e2]
    · rw [va_up_ne _ _ e, e3 v (by omega)]
  · have er : (r_sep (oF, oL, oE, sp, d' + 1, sta, F n, L n, mi n) (nm, nx, np, fi, la, em) d' x).2.2 = 1 := by
      unfold r_sep
      dsimp only
      rw [if_neg (fun z => hok (Or.inl z)), if_neg (fun z => hok (Or.inr z))]
    rw [er, if_pos (hsep.mpr hok)]
    exact ⟨rfl, fun z => absurd (hsep.mpr hok) z⟩
theorem sim_close {R : RS} {M : MS} {T : TS} {d : Nat} (h : SimP R M T) (hd : T.2.2.2.2.2.2.2.2.2.1 = d + 1) (hn : T.1 < 700) :
    (r_close R M d).2.2 = 0 ∧ (r_close R M d).1.2.2.2.2.2.1 = 2 ∧ SimL T.1 (r_close R M d).1 (r_close R M d).2.1 (t_close T d) := by
  obtain ⟨oF, oL, oE, sp, dp, sta, pF, pL, pE⟩ := R
  obtain ⟨nm, nx, np, fi, la, em⟩ := M
  obtain ⟨nd, kd, pa, be, af, mi, nq, lf, nr, dq, lq, so, ro⟩ := T
  obtain ⟨h1, h2, h3, h4, h5, F, L, C, J, X, n, d', e1, e2, e3, hC, hB, b1, b2, b3⟩ := h
  have hd : dq = d + 1 := hd
  have hn : nd < 700 := hn
  subst hd; subst h3
  have e4 : d' = d := by omega
  subst e4
  subst b1; subst b2; subst b3; subst h2
  have hlv := hB.2.2.2.1 d' (by omega)
  have hsp := lvl_sep hlv.1
  have hso : so d' = soC (sp d') := hlv.2.1
  obtain ⟨oF', oL', oE', nx', ej, j1, j2, j3, q1, q2, q3, jn⟩ := join_eq (oF := oF) (oL := oL) (oE := oE) (sp := sp) (dp := d' + 1) (sta := sta) (pF := F n) (pL := L n) (pE := mi n) (nm := nm) (nx := nx) (np := np) (fi := fi) (la := la) (em := em) (d := d') hsp
  have er : r_close (oF, oL, oE, sp, d' + 1, sta, F n, L n, mi n) (nm, nx, np, fi, la, em) d' = ((oF', oL', oE', sp, d', 2, oF' d', oL' d', oE' d'), (nm, nx', np, fi, la, em), 0) := by
    rw [r_close, ej, r_closeE]
  -- the separator that the bracket has, a row's where it has none
  obtain ⟨x, hx, hok, hk⟩ : ∃ x : Int32, (x = 124 ∨ x = 44) ∧ (sp d' = 0 ∨ sp d' = x) ∧ ((x = 124 ∧ clK (so d') = 1) ∨ (x = 44 ∧ clK (so d') = 2)) := by
    rw [hso]
    rcases hsp with e | e | e
    · exact ⟨44, Or.inr rfl, Or.inl e, Or.inr ⟨rfl, by rw [e]; decide⟩⟩
    · exact ⟨124, Or.inl rfl, Or.inr e, Or.inl ⟨rfl, by rw [e]; decide⟩⟩
    · exact ⟨44, Or.inr rfl, Or.inr e, Or.inr ⟨rfl, by rw [e]; decide⟩⟩
  have hJ := base_join hB e2 hC hx hok j1 j2 j3 q1 q2 q3 jn
  have hJ0 := hJ
  obtain ⟨d1, d2, d3, d4, d5, d6⟩ := hJ0.2.2.2.2.1 d' (by omega)
  obtain ⟨l1, l2, l3⟩ := hJ0.2.2.2.1 d' (by omega)
  rw [va_up_self, pk_us] at l1
  have hXJ : X d' = va_up J d' (n :: J d') d' := by rw [va_up_self]; exact e2
  -- the reference's walk over the parts
  have hBe : BeCh (va_up be nd none) (X d') := BeCh_congr _ (fun c hc => va_up_ne _ _ (by have := (d5 c hc).1; omega)) d2
  obtain ⟨pa', c1, c2⟩ := clL_eq (be := va_up be nd none) (mi := va_up mi nd (nkM (clK (so d')))) (n := nd) (X d') 701 (va_up pa nd none) true false hBe d4 (fun c hc => by have := (d5 c hc).1; omega)
  rw [← d1, Bool.true_and, Bool.false_or] at c1
  have hmm : ∀ m, m < nd → va_up mi nd (nkM (clK (so d'))) m = mi m := fun m hm => va_up_ne _ _ (by omega)
  have hE1 : rwE (va_up mi nd (nkM (clK (so d')))) (X d') = rwE mi (X d') := rwE_congr _ (fun c hc => hmm c (d5 c hc).1)
  have hE2 : chE (va_up mi nd (nkM (clK (so d')))) (X d') = chE mi (X d') := chE_congr _ (fun c hc => hmm c (d5 c hc).1)
  rw [hE1, hE2] at c1
  have et : t_close (nd, kd, pa, be, af, mi, np, lf, nr, d' + 1, lq, so, ro) d' = (nd + 1, upd kd nd (clK (so d')), pa', va_up be nd none, va_up af nd none, va_up (va_up mi nd (nkM (clK (so d')))) nd (if (upd kd nd (clK (so d'))) nd = 1 then chE mi (X d') else rwE mi (X d')), np, lf, nr, d', lq, so, ro) := by
    rw [t_close, c1]
  rw [er, et]
  have hcl := base_close (k := clK (so d')) (pa' := pa') (mi' := va_up (va_up mi nd (nkM (clK (so d')))) nd (if (upd kd nd (clK (so d'))) nd = 1 then chE mi (X d') else rwE mi (X d'))) hJ hn hXJ (by rw [pk_us]; exact hk)
    (fun m hm => by rw [c2 m, va_up_ne _ _ (by omega)]) (by rw [c2 nd, if_neg (fun z => by have := (d5 nd z).1; omega), va_up_self]) (fun m hm => by rw [va_up_ne _ _ (by omega), va_up_ne _ _ (by omega)])
  refine ⟨rfl, rfl, Or.inl rfl, rfl, rfl, h4, h5, _, _, _, J, base_congr hcl (fun v hv => (va_up_ne _ _ (by omega)).symm) (fun v hv => (e3 v hv).symm) (fun _ _ => rfl) (fun _ _ => rfl) (fun _ _ => rfl) (fun v hv => (pk_un (by omega)).symm) (fun _ _ => rfl) (fun v hv => (pk_un (by omega)).symm), pk_uLs.symm, pk_uLs.symm, ?_⟩
  show oE' d' = va_up (va_up mi nd (nkM (clK (so d')))) nd (if (upd kd nd (clK (so d'))) nd = 1 then chE mi (X d') else rwE mi (X d')) nd
  rw [va_up_self, pk_us]
  rw [← e2] at l1
  rcases hk with ⟨hk1, hk2⟩ | ⟨hk1, hk2⟩
  · rw [hk2, if_pos rfl]
    rcases l1 with ⟨z, -⟩ | ⟨-, -, -, z⟩ | ⟨z, -⟩
    · rw [hk1] at z; exact absurd z (by decide)
    · exact z
    · rw [hk1] at z; exact absurd z (by decide)
  · rw [hk2, if_neg (by decide)]
    rcases l1 with ⟨z, -⟩ | ⟨z, -⟩ | ⟨-, -, -, z⟩
    · rw [hk1] at z; exact absurd z (by decide)
    · rw [hk1] at z; exact absurd z (by decide)
    · exact z
