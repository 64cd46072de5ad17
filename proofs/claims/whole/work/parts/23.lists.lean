/-! LISTS of the parts in a bracket, the latest first; what the class folds over them, what the chains of the reference say of them -/
def rwE (mi : Nat → Bool) : List Nat → Bool
  | [] => true
  | c :: l => rwE mi l && mi c
def rwF (mi : Nat → Bool) (F : Nat → Int64) : List Nat → Int64
  | [] => 0
  | c :: l => if rwE mi l = true then rwF mi F l ||| F c else rwF mi F l
def rwL (mi : Nat → Bool) (L : Nat → Int64) : List Nat → Int64
  | [] => 0
  | c :: l => if mi c = true then rwL mi L l ||| L c else L c
def chE (mi : Nat → Bool) : List Nat → Bool
  | [] => false
  | c :: l => chE mi l || mi c
def chF (F : Nat → Int64) : List Nat → Int64
  | [] => 0
  | c :: l => chF F l ||| F c
/-- whether all that came behind n may be missing -/
def lk (mi : Nat → Bool) : List Nat → Nat → Bool
  | [], _ => false
  | c :: l, n => if n = c then true else mi c && lk mi l n
/-- what has come behind n -/
def cS (mi : Nat → Bool) (F : Nat → Int64) : List Nat → Nat → Int64
  | [], _ => 0
  | c :: l, n => if n = c then 0 else if lk mi l n = true then cS mi F l n ||| F c else cS mi F l n
def BeCh (be : Nat → Option Nat) : List Nat → Prop
  | [] => True
  | c :: l => be c = l.head? ∧ BeCh be l
def AfCh (af : Nat → Option Nat) : List Nat → Option Nat → Prop
  | [], _ => True
  | c :: l, o => af c = o ∧ AfCh af l (some c)
theorem z_or (x : Int64) : 0 ||| x = x := by simp
theorem or_z (x : Int64) : x ||| 0 = x := by simp
section LSC
variable {mi mi' : Nat → Bool} {F F' L L' : Nat → Int64} {be be' af af' : Nat → Option Nat}
theorem rwE_congr : ∀ (l : List Nat), (∀ c ∈ l, mi' c = mi c) → rwE mi' l = rwE mi l
  | [], _ => rfl
  | c :: l, h => by rw [rwE, rwE, rwE_congr l (fun x hx => h x (List.mem_cons_of_mem _ hx)), h c List.mem_cons_self]
theorem chE_congr : ∀ (l : List Nat), (∀ c ∈ l, mi' c = mi c) → chE mi' l = chE mi l
  | [], _ => rfl
  | c :: l, h => by rw [chE, chE, chE_congr l (fun x hx => h x (List.mem_cons_of_mem _ hx)), h c List.mem_cons_self]
theorem chF_congr : ∀ (l : List Nat), (∀ c ∈ l, F' c = F c) → chF F' l = chF F l
  | [], _ => rfl
  | c :: l, h => by rw [chF, chF, chF_congr l (fun x hx => h x (List.mem_cons_of_mem _ hx)), h c List.mem_cons_self]
theorem rwF_congr : ∀ (l : List Nat), (∀ c ∈ l, mi' c = mi c) → (∀ c ∈ l, F' c = F c) → rwF mi' F' l = rwF mi F l
  | [], _, _ => rfl
  | c :: l, h, g => by rw [rwF, rwF, rwF_congr l (fun x hx => h x (List.mem_cons_of_mem _ hx)) (fun x hx => g x (List.mem_cons_of_mem _ hx)), g c List.mem_cons_self, rwE_congr l (fun x hx => h x (List.mem_cons_of_mem _ hx))]
theorem rwL_congr : ∀ (l : List Nat), (∀ c ∈ l, mi' c = mi c) → (∀ c ∈ l, L' c = L c) → rwL mi' L' l = rwL mi L l
  | [], _, _ => rfl
  | c :: l, h, g => by rw [rwL, rwL, rwL_congr l (fun x hx => h x (List.mem_cons_of_mem _ hx)) (fun x hx => g x (List.mem_cons_of_mem _ hx)), g c List.mem_cons_self, h c List.mem_cons_self]
theorem lk_congr : ∀ (l : List Nat), (∀ c ∈ l, mi' c = mi c) → ∀ n, lk mi' l n = lk mi l n
  | [], _, _ => rfl
  | c :: l, h, n => by rw [lk, lk, lk_congr l (fun x hx => h x (List.mem_cons_of_mem _ hx)) n, h c List.mem_cons_self]
theorem cS_congr : ∀ (l : List Nat), (∀ c ∈ l, mi' c = mi c) → (∀ c ∈ l, F' c = F c) → ∀ n, cS mi' F' l n = cS mi F l n
  | [], _, _, _ => rfl
  | c :: l, h, g, n => by rw [cS, cS, cS_congr l (fun x hx => h x (List.mem_cons_of_mem _ hx)) (fun x hx => g x (List.mem_cons_of_mem _ hx)) n, lk_congr l (fun x hx => h x (List.mem_cons_of_mem _ hx)) n, g c List.mem_cons_self]
theorem BeCh_congr : ∀ (l : List Nat), (∀ c ∈ l, be' c = be c) → BeCh be l → BeCh be' l
  | [], _, _ => trivial
  | c :: l, h, g => ⟨by rw [h c List.mem_cons_self]; exact g.1, BeCh_congr l (fun x hx => h x (List.mem_cons_of_mem _ hx)) g.2⟩
theorem AfCh_congr : ∀ (l : List Nat) (o : Option Nat), (∀ c ∈ l, af' c = af c) → AfCh af l o → AfCh af' l o
  | [], _, _, _ => trivial
  | c :: l, o, h, g => ⟨by rw [h c List.mem_cons_self]; exact g.1, AfCh_congr l (some c) (fun x hx => h x (List.mem_cons_of_mem _ hx)) g.2⟩
theorem lk_mem : ∀ (l : List Nat) (n : Nat), lk mi l n = true → n ∈ l
  | [], n, h => by simp [lk] at h
  | c :: l, n, h => by
    rw [lk] at h
    by_cases e : n = c
    · rw [e]; exact List.mem_cons_self
    · rw [if_neg e, Bool.and_eq_true] at h
      exact List.mem_cons_of_mem _ (lk_mem l n h.2)
theorem rwL_bit : ∀ (l : List Nat) (q : Nat), hB (rwL mi L l) q = true ↔ ∃ n, lk mi l n = true ∧ hB (L n) q = true
  | [], q => by
    rw [rwL, hB_0]
    constructor
    · intro h; cases h
    · rintro ⟨n, h, -⟩; simp [lk] at h
  | c :: l, q => by
    rw [rwL]
    constructor
    · intro h
      by_cases hm : mi c = true
      · rw [if_pos hm, hB_or, Bool.or_eq_true, rwL_bit l q] at h
        rcases h with ⟨n, h1, h2⟩ | h
        · refine ⟨n, ?_, h2⟩
          rw [lk]
          by_cases e : n = c
          · rw [if_pos e]
          · rw [if_neg e, hm, h1]; rfl
        · exact ⟨c, by rw [lk, if_pos rfl], h⟩
      · rw [if_neg hm] at h
        exact ⟨c, by rw [lk, if_pos rfl], h⟩
    · rintro ⟨n, h1, h2⟩
      rw [lk] at h1
      by_cases e : n = c
      · subst e
        split
        · rw [hB_or, h2, Bool.or_true]
        · exact h2
      · rw [if_neg e, Bool.and_eq_true] at h1
        rw [if_pos h1.1, hB_or, Bool.or_eq_true]
        exact Or.inl ((rwL_bit l q).mpr ⟨n, h1.2, h2⟩)
theorem chF_bit : ∀ (l : List Nat) (q : Nat), hB (chF F l) q = true ↔ ∃ n, n ∈ l ∧ hB (F n) q = true
  | [], q => by
    rw [chF, hB_0]
    constructor
    · intro h; cases h
    · rintro ⟨n, h, -⟩; cases h
  | c :: l, q => by
    rw [chF, hB_or, Bool.or_eq_true, chF_bit l q]
    constructor
    · rintro (⟨n, h1, h2⟩ | h)
      · exact ⟨n, List.mem_cons_of_mem _ h1, h2⟩
      · exact ⟨c, List.mem_cons_self, h⟩
    · rintro ⟨n, h1, h2⟩
      rcases List.mem_cons.mp h1 with rfl | h1
      · exact Or.inr h2
      · exact Or.inl ⟨n, h1, h2⟩
/-- a chain's fuel: more doesn't matter -/
theorem al_down {k : Int32} {ch : Nat → Option Nat} {l0 : Nat} (hch : ∀ n x, n < l0 → ch n = some x → x < n) : ∀ (f g : Nat) (o : Option Nat), (∀ x, o = some x → x < l0 ∧ x < f ∧ x < g) → alB k ch mi f o = alB k ch mi g o
  | 0, 0, o, _ => rfl
  | 0, g + 1, none, _ => by rw [alB, alB]
  | 0, g + 1, some x, h => by have := (h x rfl).2.1; omega
  | f + 1, 0, none, _ => by rw [alB, alB]
  | f + 1, 0, some x, h => by have := (h x rfl).2.2; omega
  | f + 1, g + 1, none, _ => by rw [alB, alB]
  | f + 1, g + 1, some x, h => by
    have hx := h x rfl
    rw [alB, alB, al_down hch f g (ch x) (fun y hy => by have := hch x y hx.1 hy; omega)]
theorem al_up {k : Int32} {ch : Nat → Option Nat} {l0 B : Nat} (hch : ∀ n x, n < l0 → ch n = some x → n < x ∧ x < l0) (hB0 : l0 < B) : ∀ (f g : Nat) (o : Option Nat), (∀ x, o = some x → x < l0 ∧ B ≤ f + x ∧ B ≤ g + x) → alB k ch mi f o = alB k ch mi g o
  | 0, 0, o, _ => rfl
  | 0, g + 1, none, _ => by rw [alB, alB]
  | 0, g + 1, some x, h => by have := h x rfl; omega
  | f + 1, 0, none, _ => by rw [alB, alB]
  | f + 1, 0, some x, h => by have := h x rfl; omega
  | f + 1, g + 1, none, _ => by rw [alB, alB]
  | f + 1, g + 1, some x, h => by
    have hx := h x rfl
    rw [alB, alB, al_up hch hB0 f g (ch x) (fun y hy => by have := hch x y hx.1 hy; omega)]
theorem sb_up {k : Int32} {af : Nat → Option Nat} {l0 B : Nat} (hch : ∀ n x, n < l0 → af n = some x → n < x ∧ x < l0) (hB0 : l0 < B) : ∀ (f g : Nat) (o : Option Nat) (r : Int64), (∀ x, o = some x → x < l0 ∧ B ≤ f + x ∧ B ≤ g + x) → sbL k af mi F f o r = sbL k af mi F g o r
  | 0, 0, o, _, _ => rfl
  | 0, g + 1, none, _, _ => by rw [sbL, sbL]
  | 0, g + 1, some x, _, h => by have := h x rfl; omega
  | f + 1, 0, none, _, _ => by rw [sbL, sbL]
  | f + 1, 0, some x, _, h => by have := h x rfl; omega
  | f + 1, g + 1, none, _, _ => by rw [sbL, sbL]
  | f + 1, g + 1, some x, r, h => by
    have hx := h x rfl
    rw [sbL, sbL, sb_up hch hB0 f g (af x) _ (fun y hy => by have := hch x y hx.1 hy; omega)]
/-- in a bracket's list, the chain of those before n -/
theorem al_be {nd : Nat} (h7 : nd ≤ 700) (hbe : ∀ n x, n < nd → be n = some x → x < n) : ∀ (l : List Nat), (∀ c ∈ l, c < nd) → BeCh be l → alB 2 be mi 701 l.head? = rwE mi l
  | [], _, _ => by rw [List.head?_nil, alB, rwE]
  | c :: l, hl, hc => by
    have hcn := hl c List.mem_cons_self
    rw [List.head?_cons, alB, if_pos rfl, rwE, ← al_be h7 hbe l (fun x hx => hl x (List.mem_cons_of_mem _ hx)) hc.2, hc.1]
    have e : alB 2 be mi 700 l.head? = alB 2 be mi 701 l.head? := al_down hbe 700 701 _ (fun x hx => by
      have := hbe c x hcn (by rw [hc.1]; exact hx)
      omega)
    rw [e]
    cases mi c
    · rw [if_neg (by decide), Bool.and_false]
    · rw [if_pos rfl, Bool.and_true]
theorem rwF_bit {nd : Nat} (h7 : nd ≤ 700) (hbe : ∀ n x, n < nd → be n = some x → x < n) : ∀ (l : List Nat), (∀ c ∈ l, c < nd) → BeCh be l → ∀ q, (hB (rwF mi F l) q = true ↔ ∃ n, n ∈ l ∧ alB 2 be mi 701 (be n) = true ∧ hB (F n) q = true)
  | [], _, _, q => by
    rw [rwF, hB_0]
    constructor
    · intro h; cases h
    · rintro ⟨n, h, -⟩; cases h
  | c :: l, hl, hc, q => by
    have hl' : ∀ x ∈ l, x < nd := fun x hx => hl x (List.mem_cons_of_mem _ hx)
    have ih := rwF_bit h7 hbe l hl' hc.2 q
    have ha : alB 2 be mi 701 (be c) = rwE mi l := by rw [hc.1]; exact al_be h7 hbe l hl' hc.2
    rw [rwF]
    constructor
    · intro h
      by_cases he : rwE mi l = true
      · rw [if_pos he, hB_or, Bool.or_eq_true] at h
        rcases h with h | h
        · obtain ⟨n, h1, h2, h3⟩ := ih.mp h
          exact ⟨n, List.mem_cons_of_mem _ h1, h2, h3⟩
        · exact ⟨c, List.mem_cons_self, by rw [ha]; exact he, h⟩
      · rw [if_neg he] at h
        obtain ⟨n, h1, h2, h3⟩ := ih.mp h
        exact ⟨n, List.mem_cons_of_mem _ h1, h2, h3⟩
    · rintro ⟨n, h1, h2, h3⟩
      rcases List.mem_cons.mp h1 with rfl | h1
      · rw [ha] at h2
        rw [if_pos h2, hB_or, h3, Bool.or_true]
      · have h := ih.mpr ⟨n, h1, h2, h3⟩
        split
        · rw [hB_or, h, Bool.true_or]
        · exact h
/-- the chain of those behind n -/
theorem al_af {nd : Nat} (h7 : nd ≤ 700) (haf : ∀ n x, n < nd → af n = some x → n < x ∧ x < nd) : ∀ (l : List Nat) (o : Option Nat), (∀ c ∈ l, c < nd) → (∀ x, o = some x → x < nd) → AfCh af l o → l.Pairwise (· > ·) → ∀ n, n ∈ l → alB 2 af mi 701 (af n) = (lk mi l n && alB 2 af mi 701 o)
  | [], _, _, _, _, _, n, h => by cases h
  | c :: l, o, hl, ho, hc, hp, n, hn => by
    have hcn := hl c List.mem_cons_self
    rw [lk]
    by_cases e : n = c
    · subst e
      rw [if_pos rfl, Bool.true_and, hc.1]
    · rw [if_neg e]
      have hnl : n ∈ l := (List.mem_cons.mp hn).resolve_left e
      rw [al_af h7 haf l (some c) (fun x hx => hl x (List.mem_cons_of_mem _ hx)) (fun x hx => by cases hx; exact hcn) hc.2 (List.pairwise_cons.mp hp).2 n hnl]
      have e2 : alB 2 af mi 701 (some c) = (mi c && alB 2 af mi 701 o) := by
        rw [alB, if_pos rfl, hc.1]
        have e3 : alB 2 af mi 700 o = alB 2 af mi 701 o := al_up haf (B := 701) (by omega) 700 701 o (fun x hx => by
          have := haf c x hcn (by rw [hc.1]; exact hx)
          omega)
        rw [e3]
        cases mi c
        · rw [if_neg (by decide), Bool.false_and]
        · rw [if_pos rfl, Bool.true_and]
      rw [e2, ← Bool.and_assoc, Bool.and_comm (lk mi l n) (mi c)]
theorem sb_af {nd : Nat} (h7 : nd ≤ 700) (haf : ∀ n x, n < nd → af n = some x → n < x ∧ x < nd) : ∀ (l : List Nat) (o : Option Nat), (∀ c ∈ l, c < nd) → (∀ x, o = some x → x < nd) → AfCh af l o → l.Pairwise (· > ·) → ∀ n, n ∈ l → (sbL 2 af mi F 701 (af n) 0).1 = (cS mi F l n ||| (if lk mi l n = true then (sbL 2 af mi F 701 o 0).1 else 0))
  | [], _, _, _, _, _, n, h => by cases h
  | c :: l, o, hl, ho, hc, hp, n, hn => by
    have hcn := hl c List.mem_cons_self
    rw [lk, cS]
    by_cases e : n = c
    · subst e
      rw [if_pos rfl, if_pos rfl, if_pos rfl, z_or, hc.1]
    · rw [if_neg e, if_neg e]
      have hnl : n ∈ l := (List.mem_cons.mp hn).resolve_left e
      rw [sb_af h7 haf l (some c) (fun x hx => hl x (List.mem_cons_of_mem _ hx)) (fun x hx => by cases hx; exact hcn) hc.2 (List.pairwise_cons.mp hp).2 n hnl]
      have e2 : (sbL 2 af mi F 701 (some c) 0).1 = (F c ||| (if mi c = true then (sbL 2 af mi F 701 o 0).1 else 0)) := by
        rw [sbL, if_pos rfl, hc.1, z_or]
        by_cases hm : mi c = true
        · rw [if_pos hm, if_pos hm, sb_up haf (B := 701) (by omega) 700 701 o (F c) (fun x hx => by
            have := haf c x hcn (by rw [hc.1]; exact hx)
            omega), (sb_r 2 F 701 o (F c)).1]
        · rw [if_neg hm, if_neg hm, or_z]
      by_cases hk : lk mi l n = true
      · rw [if_pos hk, if_pos hk, e2, hk, Bool.and_true]
        apply hB_ext
        intro p hp
        simp only [hB_or]
        cases hB (cS mi F l n) p <;> simp
      · rw [if_neg hk, if_neg hk, ts_nt hk, Bool.and_false, if_neg (by decide)]
end LSC
