/-! STATE of the reference: its cells, and what its methods do, as numbers and functions -/
/-- the tree that is built: nodes, kinds, parents, before, after, missing, places, leaf, names, depth, lasts, sorts, root -/
abbrev TS : Type := Nat × (Nat → Int32) × (Nat → Option Nat) × (Nat → Option Nat) × (Nat → Option Nat) × (Nat → Bool) × Nat × (Nat → Nat) × (Nat → Int32) × Nat × (Nat → Option Nat) × (Nat → Int32) × Nat
/-- the cells of the reference: addresses h, array classes k, and what they hold -/
def wM (h : Nat → Nat) (k : Nat → ClassId) (tx : Nat → Int32) (sz : Nat) (im : Bool) (cm : Nat) (nw : Int64) (T : TS) : va_W :=
  [(h 0, .inr (3, [.ref (h 1), .int (nI sz), .int (nI T.1), .ref (h 2), .ref (h 3), .ref (h 4), .ref (h 5), .ref (h 6), .int (nI T.2.2.2.2.2.2.1), .ref (h 7), .ref (h 8), .int (bI im), .int (nI T.2.2.2.2.2.2.2.2.2.1), .ref (h 9), .ref (h 10), .int (nI T.2.2.2.2.2.2.2.2.2.2.2.2), .int (nI cm), .long nw])), (h 1, .inl (k 1, 300, .inl tx)), (h 2, .inl (k 2, 700, .inl T.2.1)), (h 3, .inl (k 3, 700, .inl (fun j => pI (T.2.2.1 j)))), (h 4, .inl (k 4, 700, .inl (fun j => pI (T.2.2.2.1 j)))), (h 5, .inl (k 5, 700, .inl (fun j => pI (T.2.2.2.2.1 j)))), (h 6, .inl (k 6, 700, .inl (fun j => bI (T.2.2.2.2.2.1 j)))), (h 7, .inl (k 7, 60, .inl (fun j => nI (T.2.2.2.2.2.2.2.1 j)))), (h 8, .inl (k 8, 60, .inl T.2.2.2.2.2.2.2.2.1)), (h 9, .inl (k 9, 12, .inl (fun j => pI (T.2.2.2.2.2.2.2.2.2.2.1 j)))), (h 10, .inl (k 10, 12, .inl T.2.2.2.2.2.2.2.2.2.2.2.1))]
abbrev tyM (k : Nat → ClassId) : List (ClassId × FieldType) := [(k 1, .int), (k 2, .int), (k 3, .int), (k 4, .int), (k 5, .int), (k 6, .boolean), (k 7, .int), (k 8, .int), (k 9, .int), (k 10, .int)]
def byteR (v : Int64) (n k : Nat) : Int32 := ((v >>> ((8 * (nI n - 1 - nI k)).toInt64 &&& 63)) &&& 255).toInt32
def ptR (v : Int64) (sz n : Nat) : Nat → Nat → (Nat → Int32) → (Nat → Int32)
  | 0, _, tx => tx
  | j + 1, k, tx => ptR v sz n j (k + 1) (upd tx (sz + k) (byteR v n k))
def e_put (tx : Nat → Int32) (sz : Nat) (v : Int64) (n : Int32) : (Nat → Int32) × Nat × Bool :=
  if n < 1 then (tx, sz, false) else if 8 < n then (tx, sz, false) else if 300 < sz + n.toNatClampNeg then (tx, sz, false) else (ptR v sz n.toNatClampNeg n.toNatClampNeg 0 tx, sz + n.toNatClampNeg, true)
def atF (tx : Nat → Int32) (sz i : Nat) : Int32 := if i < sz then tx i else -1
def nkM (x : Int32) : Bool := if x = 3 then true else if x = 4 then true else false
def t_node : TS → Int32 → TS
  | (nd, kd, pa, be, af, mi, np, lf, nm, dp, la, so, ro), x => (nd + 1, upd kd nd x, va_up pa nd none, va_up be nd none, va_up af nd none, va_up mi nd (nkM x), np, lf, nm, dp, la, so, ro)
def afA (af : Nat → Option Nat) (o : Option Nat) (n : Nat) : Nat → Option Nat := match o with
  | none => af
  | some s => va_up af s (some n)
def t_add : TS → Nat → Nat → TS
  | (nd, kd, pa, be, af, mi, np, lf, nm, dp, la, so, ro), d, n => (nd, kd, pa, va_up be n (la d), afA af (la d) n, mi, np, lf, nm, dp, va_up la d (some n), so, ro)
def sgK (c : Int32) : Int32 := if c = 63 then 3 else if c = 42 then 4 else 5
def sgM (mi : Nat → Bool) (s n : Nat) (c : Int32) : Nat → Bool := if c = 43 then va_up mi s (mi n) else mi
def t_sign : TS → Nat → Int32 → TS
  | (nd, kd, pa, be, af, mi, np, lf, nm, dp, la, so, ro), n, c => (nd + 1, upd kd nd (sgK c), va_up (va_up pa nd none) n (some nd), va_up be nd none, va_up af nd none, sgM (va_up mi nd (nkM (sgK c))) nd n c, np, lf, nm, dp, la, so, ro)
def clL (be : Nat → Option Nat) (mi : Nat → Bool) (n : Nat) : Nat → Option Nat → (Nat → Option Nat) → Bool → Bool → (Nat → Option Nat) × Bool × Bool
  | 0, _, pa, a, b => (pa, a, b)
  | _ + 1, none, pa, a, b => (pa, a, b)
  | f + 1, some p, pa, a, b => clL be mi n f (be p) (va_up pa p (some n)) (a && mi p) (b || mi p)
def clK (x : Int32) : Int32 := if x = 1 then 1 else 2
def t_close : TS → Nat → TS
  | (nd, kd, pa, be, af, mi, np, lf, nm, _, la, so, ro), d => (nd + 1, upd kd nd (clK (so d)), (clL (va_up be nd none) (va_up mi nd (nkM (clK (so d)))) nd 701 (la d) (va_up pa nd none) true false).1, va_up be nd none, va_up af nd none,
      va_up (va_up mi nd (nkM (clK (so d)))) nd (if (upd kd nd (clK (so d))) nd = 1 then (clL (va_up be nd none) (va_up mi nd (nkM (clK (so d)))) nd 701 (la d) (va_up pa nd none) true false).2.2 else (clL (va_up be nd none) (va_up mi nd (nkM (clK (so d)))) nd 701 (la d) (va_up pa nd none) true false).2.1), np, lf, nm, d, la, so, ro)
def t_open : TS → TS
  | (nd, kd, pa, be, af, mi, np, lf, nm, dp, la, so, ro) => (nd, kd, pa, be, af, mi, np, lf, nm, dp + 1, va_up la dp none, upd so dp (-1), ro)
/-- a place more: its leaf is the node n, its name x -/
def t_place : TS → Nat → Int32 → TS
  | (nd, kd, pa, be, af, mi, np, lf, nm, dp, la, so, ro), n, x => (nd, kd, pa, be, af, mi, np + 1, va_up lf np n, upd nm np x, dp, la, so, ro)
def t_sort : TS → Nat → Int32 → TS
  | (nd, kd, pa, be, af, mi, np, lf, nm, dp, la, so, ro), d, x => (nd, kd, pa, be, af, mi, np, lf, nm, dp, la, upd so d x, ro)
def t_root : TS → Nat → TS
  | (nd, kd, pa, be, af, mi, np, lf, nm, dp, la, so, _), n => (nd, kd, pa, be, af, mi, np, lf, nm, dp, la, so, n)
def skL (tx : Nat → Int32) (sz : Nat) : Nat → Nat → Nat
  | 0, i => i
  | f + 1, i => if atF tx sz i = 32 then skL tx sz f (i + 1) else i
def soK (c : Int32) : Int32 := if c = 124 then 1 else 2
/-- a part that is complete, node n, with its sign if one stands at i: the tree, the node, the place behind -/
def t_part (tx : Nat → Int32) (sz : Nat) (T : TS) (n i : Nat) : TS × Nat × Nat :=
  if r_isSign (atF tx sz i) = true then (t_sign T n (atF tx sz i), T.1, i + 1) else (T, n, i)
/-- the name at i: its node, its place, its sign, laid behind what stands in its bracket -/
def t_name (tx : Nat → Int32) (sz : Nat) (T : TS) (d i : Nat) (c : Int32) : TS × Nat :=
  (t_add (t_part tx sz (t_place (t_node T 0) T.1 (c - 97)) T.1 (i + 1)).1 d (t_part tx sz (t_place (t_node T 0) T.1 (c - 97)) T.1 (i + 1)).2.1, (t_part tx sz (t_place (t_node T 0) T.1 (c - 97)) T.1 (i + 1)).2.2)
/-- the bracket that ends at i -/
def t_end (tx : Nat → Int32) (sz : Nat) (T : TS) (d i : Nat) : TS × Nat :=
  (match d with
    | 0 => t_root (t_part tx sz (t_close T d) T.1 (i + 1)).1 (t_part tx sz (t_close T d) T.1 (i + 1)).2.1
    | d1 + 1 => t_add (t_part tx sz (t_close T d) T.1 (i + 1)).1 d1 (t_part tx sz (t_close T d) T.1 (i + 1)).2.1, (t_part tx sz (t_close T d) T.1 (i + 1)).2.2)
/-- one turn of the parser at the byte c (no blank) at i, in a bracket of the depth d + 1: it goes on (tree, place, whether a part is due), or it ends (tree, answer) -/
def t_turn (tx : Nat → Int32) (sz : Nat) (T : TS) (d i : Nat) (part : Bool) (c : Int32) : (TS × Nat × Bool) ⊕ (TS × Int32) :=
  if part = true then
    (if c = 40 then (if d + 1 = 12 then .inr (T, (-1000) - nI i) else .inl (t_open T, i + 1, true))
    else if c < 97 then .inr (T, (-1) - nI i) else if 122 < c then .inr (T, (-1) - nI i) else if T.2.2.2.2.2.2.1 = 60 then .inr (T, (-1000) - nI i)
    else .inl ((t_name tx sz T d i c).1, (t_name tx sz T d i c).2, false))
  else if c = 124 ∨ c = 44 then
    (if ¬ T.2.2.2.2.2.2.2.2.2.2.2.1 d < 0 ∧ ¬ T.2.2.2.2.2.2.2.2.2.2.2.1 d = soK c then .inr (T, (-1) - nI i) else .inl (t_sort T d (soK c), i + 1, true))
  else if c = 41 then .inl ((t_end tx sz T d i).1, (t_end tx sz T d i).2, false)
  else .inr (T, (-1) - nI i)
/-- what the parser does behind a turn -/
def t_go (k : Nat → Bool → TS → TS × Int32) (x : (TS × Nat × Bool) ⊕ (TS × Int32)) : TS × Int32 := match x with
  | .inl r => k r.2.1 r.2.2 r.1
  | .inr r => r
def paL (tx : Nat → Int32) (sz : Nat) : Nat → Nat → Bool → TS → TS × Int32
  | 0, _, _, T => (T, 0)
  | f + 1, i, part, T => if T.2.2.2.2.2.2.2.2.2.1 = 0 then (T, if i < sz then (-1) - nI i else nI T.2.2.2.2.2.2.1)
    else t_go (paL tx sz f) (t_turn tx sz T (T.2.2.2.2.2.2.2.2.2.1 - 1) (skL tx sz 301 i) part (atF tx sz (skL tx sz 301 i)))
def t_clear : TS → TS
  | (_, kd, pa, be, af, mi, _, lf, nm, _, la, so, ro) => (0, kd, pa, be, af, mi, 0, lf, nm, 0, la, so, ro)
def e_parse (tx : Nat → Int32) (sz : Nat) (T : TS) : TS × Int32 := if atF tx sz 0 = 40 then paL tx sz 302 1 true (t_open T) else (T, -1)
def t_none : TS → TS
  | (nd, kd, pa, be, af, mi, _, lf, nm, dp, la, so, ro) => (nd, kd, pa, be, af, mi, 0, lf, nm, dp, la, so, ro)
def e_read (tx : Nat → Int32) (sz : Nat) (T : TS) : TS × Bool × Int32 :=
  if (e_parse tx sz (t_clear T)).2 < 0 then (t_none (e_parse tx sz (t_clear T)).1, false, (e_parse tx sz (t_clear T)).2) else ((e_parse tx sz (t_clear T)).1, true, (e_parse tx sz (t_clear T)).2)
/-- all that stand in a chain are such as may be missing; asked in a row alone -/
def alB (k : Int32) (be : Nat → Option Nat) (mi : Nat → Bool) : Nat → Option Nat → Bool
  | 0, _ => true
  | _ + 1, none => true
  | f + 1, some s => if k = 2 then (if mi s = true then alB k be mi f (be s) else false) else true
def bgC (kd : Nat → Int32) (pa be : Nat → Option Nat) (mi : Nat → Bool) : Nat → Nat → Nat → Bool
  | 0, _, _ => false
  | f + 1, n, x => if n = x then true else match pa n with
    | none => false
    | some p => if alB (kd p) be mi 701 (be n) = true then bgC kd pa be mi f p x else false
def edC (kd : Nat → Int32) (pa af : Nat → Option Nat) (mi : Nat → Bool) : Nat → Nat → Bool
  | 0, _ => true
  | f + 1, n => match pa n with
    | none => true
    | some p => if alB (kd p) af mi 701 (af n) = true then edC kd pa af mi f p else false
def fsL (kd : Nat → Int32) (pa be : Nat → Option Nat) (mi : Nat → Bool) (lf : Nat → Nat) (x : Nat) : Nat → Nat → Int64 → Int64
  | 0, _, r => r
  | n + 1, q, r => fsL kd pa be mi lf x n (q + 1) (r ||| (if bgC kd pa be mi 701 (lf q) x = true then (1 : Int64) <<< ((nI q).toInt64 &&& 63) else 0))
def fsF (kd : Nat → Int32) (pa be : Nat → Option Nat) (mi : Nat → Bool) (np : Nat) (lf : Nat → Nat) (x : Nat) : Int64 := fsL kd pa be mi lf x np 0 0
def laL (kd : Nat → Int32) (pa af : Nat → Option Nat) (mi : Nat → Bool) (lf : Nat → Nat) : Nat → Nat → Int64 → Int64
  | 0, _, r => r
  | n + 1, q, r => laL kd pa af mi lf n (q + 1) (r ||| (if edC kd pa af mi 701 (lf q) = true then (1 : Int64) <<< ((nI q).toInt64 &&& 63) else 0))
def sbL (k : Int32) (af : Nat → Option Nat) (mi : Nat → Bool) (F : Nat → Int64) : Nat → Option Nat → Int64 → Int64 × Bool
  | 0, _, r => (r, false)
  | _ + 1, none, r => (r, false)
  | f + 1, some s, r => if k = 2 then (if mi s = true then sbL k af mi F f (af s) (r ||| F s) else (r ||| F s, true)) else (r, false)
def nxC (kd : Nat → Int32) (pa af : Nat → Option Nat) (mi : Nat → Bool) (F : Nat → Int64) : Nat → Nat → Int64 → Int64
  | 0, _, r => r
  | f + 1, n, r => match pa n with
    | none => r
    | some p => if (sbL (kd p) af mi F 701 (af n) (if kd p = 4 then r ||| F n else if kd p = 5 then r ||| F n else r)).2 = true then (sbL (kd p) af mi F 701 (af n) (if kd p = 4 then r ||| F n else if kd p = 5 then r ||| F n else r)).1
      else nxC kd pa af mi F f p (sbL (kd p) af mi F 701 (af n) (if kd p = 4 then r ||| F n else if kd p = 5 then r ||| F n else r)).1
/-- next of a place that is there -/
def nxF (kd : Nat → Int32) (pa be af : Nat → Option Nat) (mi : Nat → Bool) (np : Nat) (lf : Nat → Nat) (q : Nat) : Int64 := nxC kd pa af mi (fsF kd pa be mi np lf) 701 (lf q) 0
def e_next (kd : Nat → Int32) (pa be af : Nat → Option Nat) (mi : Nat → Bool) (np : Nat) (lf : Nat → Nat) (x : Int32) : Int64 := if x < 0 then 0 else if x < nI np then nxF kd pa be af mi np lf x.toNatClampNeg else 0
def twL (a : Int64) (nm : Nat → Int32) : Nat → Nat → Int32 → Int32 → Int32
  | 0, _, _, t => t
  | n + 1, q, o, t => twL a nm n (q + 1) (o ||| (if hB a q = true then (1 : Int32) <<< (nm q &&& 31) else 0)) (t ||| (o &&& (if hB a q = true then (1 : Int32) <<< (nm q &&& 31) else 0)))
def twF (a : Int64) (nm : Nat → Int32) (np : Nat) : Int32 := twL a nm np 0 0 0
def e_first (kd : Nat → Int32) (pa be : Nat → Option Nat) (mi : Nat → Bool) (np : Nat) (lf : Nat → Nat) (im : Bool) (ro : Nat) : Int64 := if im = true then fsF kd pa be mi np lf ro else 0
def cmL (nm : Nat → Int32) (np : Nat) (N : Nat → Int64) : Nat → Nat → Int32 → Int32
  | 0, _, r => r
  | n + 1, q, r => cmL nm np N n (q + 1) (r ||| twF (N q) nm np)
def abL (a : Int64) (N : Nat → Int64) : Nat → Nat → Int64 → Int64
  | 0, _, r => r
  | n + 1, q, r => abL a N n (q + 1) (r ||| (if hB a q = true then N q else 0))
def wiL (b : Int64) (x : Int32) (nm : Nat → Int32) : Nat → Nat → Int64 → Int64
  | 0, _, r => r
  | n + 1, q, r => wiL b x nm n (q + 1) (r ||| (if nm q = x then b &&& ((1 : Int64) <<< ((nI q).toInt64 &&& 63)) else 0))
def myL (b : Int64) (nm : Nat → Int32) : Nat → Nat → Int32 → Int32
  | 0, _, r => r
  | n + 1, q, r => myL b nm n (q + 1) (r ||| (if hB b q = true then (1 : Int32) <<< (nm q &&& 31) else 0))
/-- what the climbs of the queries need of the tree -/
def okT (nb : Nat) (pa be af : Nat → Option Nat) (np : Nat) (lf : Nat → Nat) : Prop :=
  nb ≤ 700 ∧ np ≤ 60 ∧ (∀ n p, n < nb → pa n = some p → n < p ∧ p < nb) ∧ (∀ n s, n < nb → be n = some s → s < n) ∧ (∀ n s, n < nb → af n = some s → n < s ∧ s < nb) ∧ (∀ q, q < np → lf q < nb)
theorem pI_nn {x : Nat} (h : x < 2 ^ 31) : ¬ pI (some x) < 0 := nI_pos h
theorem p_ix {np : Nat} {x : Int32} (hnp : np < 2 ^ 31) (h0 : ¬ x < 0) (h : x < nI np) : ∃ j : Nat, j < np ∧ x = nI j := by
  rcases pk_ix x (n := np) hnp with q | q | q
  · exact absurd q h0
  · exact absurd h (Int32.not_lt.mpr q)
  · exact q
theorem hB_nr {a : Int64} {i : Nat} (hi : i < 64) (h : ¬ ((a >>> ((nI i).toInt64 &&& 63)) &&& 1) = 1) : hB a i = false := by
  cases hb : hB a i with
  | false => rfl
  | true => exact absurd ((hB_sr a hi).mpr hb) h
theorem at_lt {tx : Nat → Int32} {sz i : Nat} {c : Int32} (h : atF tx sz i = c) (hc : ¬ c = -1) : i < sz := by
  by_cases hi : i < sz
  · exact hi
  · rw [atF, if_neg hi] at h
    exact absurd h.symm hc
theorem sg_lt {tx : Nat → Int32} {sz i : Nat} (h : r_isSign (atF tx sz i) = true) : i < sz := by
  by_cases hi : i < sz
  · exact hi
  · rw [atF, if_neg hi] at h
    exact absurd h (by decide)
theorem at_ge {tx : Nat → Int32} {sz i : Nat} (h : ¬ atF tx sz i < 97) : i < sz := by
  by_cases hi : i < sz
  · exact hi
  · rw [atF, if_neg hi] at h
    exact absurd (by decide) h
/-- what the parser needs of its tree at the place i of the text -/
def okP (T : TS) (i : Nat) : Prop := T.1 ≤ i ∧ T.2.2.2.2.2.2.1 ≤ 60 ∧ T.2.2.2.2.2.2.2.2.2.1 ≤ 12 ∧ (∀ v x, v < T.2.2.2.2.2.2.2.2.2.1 → T.2.2.2.2.2.2.2.2.2.2.1 v = some x → x < T.1) ∧ (∀ x y, x < T.1 → T.2.2.2.1 x = some y → y < x)
theorem okP_mono {T : TS} {i j : Nat} (h : okP T i) (hj : i ≤ j) : okP T j := ⟨Nat.le_trans h.1 hj, h.2⟩
theorem okP_open {T : TS} {i : Nat} (h : okP T i) (hd : ¬ T.2.2.2.2.2.2.2.2.2.1 = 12) : okP (t_open T) i := by
  obtain ⟨nd, kd, pa, be, af, mi, np, lf, nm, dp, la, so, ro⟩ := T
  obtain ⟨h1, h2, h3, h4, h5⟩ := h
  simp only at hd h1 h2 h3 h4 h5
  refine ⟨h1, h2, by show dp + 1 ≤ 12; omega, ?_, h5⟩
  intro v x hv hx
  simp only [t_open] at hv hx
  by_cases e : v = dp
  · subst e; rw [va_up_self] at hx; cases hx
  · rw [va_up_ne _ _ e] at hx; exact h4 v x (by omega) hx
theorem okP_sort {T : TS} {i d : Nat} {x : Int32} (h : okP T i) : okP (t_sort T d x) i := by
  obtain ⟨nd, kd, pa, be, af, mi, np, lf, nm, dp, la, so, ro⟩ := T
  exact h
theorem okP_root {T : TS} {i n : Nat} (h : okP T i) : okP (t_root T n) i := by
  obtain ⟨nd, kd, pa, be, af, mi, np, lf, nm, dp, la, so, ro⟩ := T
  exact h
theorem okP_node {T : TS} {i : Nat} {x : Int32} (h : okP T i) : okP (t_node T x) (i + 1) := by
  obtain ⟨nd, kd, pa, be, af, mi, np, lf, nm, dp, la, so, ro⟩ := T
  obtain ⟨h1, h2, h3, h4, h5⟩ := h
  simp only at h1 h2 h3 h4 h5
  refine ⟨by show nd + 1 ≤ i + 1; omega, h2, h3, fun v y hv hy => Nat.lt_succ_of_lt (h4 v y hv hy), ?_⟩
  intro z y hz hy
  simp only [t_node] at hz hy
  by_cases e : z = nd
  · subst e; rw [va_up_self] at hy; cases hy
  · rw [va_up_ne _ _ e] at hy; exact h5 z y (by omega) hy
theorem okP_place {T : TS} {i n : Nat} {x : Int32} (h : okP T i) (hp : T.2.2.2.2.2.2.1 < 60) : okP (t_place T n x) i := by
  obtain ⟨nd, kd, pa, be, af, mi, np, lf, nm, dp, la, so, ro⟩ := T
  obtain ⟨h1, h2, h3, h4, h5⟩ := h
  exact ⟨h1, hp, h3, h4, h5⟩
theorem okP_sign {T : TS} {i n : Nat} {c : Int32} (h : okP T i) : okP (t_sign T n c) (i + 1) := by
  obtain ⟨nd, kd, pa, be, af, mi, np, lf, nm, dp, la, so, ro⟩ := T
  exact okP_node (x := sgK c) h
theorem okP_part {tx : Nat → Int32} {sz : Nat} {T : TS} {i n : Nat} (h : okP T i) : okP (t_part tx sz T n i).1 (t_part tx sz T n i).2.2 := by
  unfold t_part
  split
  · exact okP_sign h
  · exact h
theorem t_part_lt {tx : Nat → Int32} {sz : Nat} {T : TS} {i n : Nat} (hn : n < T.1) : (t_part tx sz T n i).2.1 < (t_part tx sz T n i).1.1 ∧ i ≤ (t_part tx sz T n i).2.2 ∧ (i ≤ sz → (t_part tx sz T n i).2.2 ≤ sz) := by
  unfold t_part
  split
  · rename_i h
    have := sg_lt h
    obtain ⟨nd, kd, pa, be, af, mi, np, lf, nm, dp, la, so, ro⟩ := T
    exact ⟨Nat.lt_succ_self nd, Nat.le_succ i, fun _ => this⟩
  · exact ⟨hn, Nat.le_refl i, fun h => h⟩
theorem t_part_dp {tx : Nat → Int32} {sz : Nat} {T : TS} {i n : Nat} : (t_part tx sz T n i).1.2.2.2.2.2.2.2.2.2.1 = T.2.2.2.2.2.2.2.2.2.1 := by
  unfold t_part
  split
  · obtain ⟨nd, kd, pa, be, af, mi, np, lf, nm, dp, la, so, ro⟩ := T
    rfl
  · rfl
/-- a node is laid behind those of its bracket: what stands there last comes earlier -/
theorem okP_add {T : TS} {i d n : Nat} (h : okP T i) (hd : d < T.2.2.2.2.2.2.2.2.2.1) (hn : n < T.1) (hl : ∀ x, T.2.2.2.2.2.2.2.2.2.2.1 d = some x → x < n) : okP (t_add T d n) i := by
  obtain ⟨nd, kd, pa, be, af, mi, np, lf, nm, dp, la, so, ro⟩ := T
  obtain ⟨h1, h2, h3, h4, h5⟩ := h
  simp only at h1 h2 h3 h4 h5 hd hn hl
  refine ⟨h1, h2, h3, ?_, ?_⟩
  · intro v x hv hx
    simp only [t_add] at hv hx
    by_cases e : v = d
    · subst e; rw [va_up_self] at hx; cases hx; exact hn
    · rw [va_up_ne _ _ e] at hx; exact h4 v x hv hx
  · intro z y hz hy
    simp only [t_add] at hz hy
    by_cases e : z = n
    · subst e; rw [va_up_self] at hy; exact hl y hy
    · rw [va_up_ne _ _ e] at hy; exact h5 z y hz hy
theorem okP_close {T : TS} {i d : Nat} (h : okP T i) (hd : T.2.2.2.2.2.2.2.2.2.1 = d + 1) : okP (t_close T d) (i + 1) := by
  obtain ⟨nd, kd, pa, be, af, mi, np, lf, nm, dp, la, so, ro⟩ := T
  obtain ⟨h1, h2, h3, h4, h5⟩ := h
  simp only at h1 h2 h3 h4 h5 hd
  refine ⟨by show nd + 1 ≤ i + 1; omega, h2, by show d ≤ 12; omega, fun v y hv hy => Nat.lt_succ_of_lt (h4 v y (by simp only [t_close] at hv; omega) hy), ?_⟩
  intro z y hz hy
  simp only [t_close] at hz hy
  by_cases e : z = nd
  · subst e; rw [va_up_self] at hy; cases hy
  · rw [va_up_ne _ _ e] at hy; exact h5 z y (by omega) hy
