/-! TREES: what the reference's climbs find at a tree whose nodes bear their first and last places (F, L) and what comes behind them (C) -/
def TreeS (nd : Nat) (kd : Nat → Int32) (pa be af : Nat → Option Nat) (nq : Nat) (lf : Nat → Nat) : Prop :=
  nd ≤ 700 ∧ nq ≤ 60 ∧ (∀ n p, n < nd → pa n = some p → n < p ∧ p < nd) ∧ (∀ n x, n < nd → be n = some x → x < n ∧ pa x = pa n) ∧ (∀ n x, n < nd → af n = some x → n < x ∧ x < nd ∧ pa x = pa n) ∧ (∀ q, q < nq → lf q < nd ∧ kd (lf q) = 0)
/-- first (or last) places of a node out of its children's; ch: the chain that must be missing -/
def NodeF (nd : Nat) (kd : Nat → Int32) (pa ch : Nat → Option Nat) (mi : Nat → Bool) (nq : Nat) (lf : Nat → Nat) (F : Nat → Int64) (p : Nat) : Prop :=
  (kd p = 0 → ∀ q, hB (F p) q = true ↔ (q < nq ∧ lf q = p)) ∧ (¬ kd p = 0 → ∀ q, hB (F p) q = true ↔ ∃ n, n < nd ∧ pa n = some p ∧ alB (kd p) ch mi 701 (ch n) = true ∧ hB (F n) q = true)
def NodeC (nd : Nat) (kd : Nat → Int32) (pa af : Nat → Option Nat) (mi : Nat → Bool) (F C : Nat → Int64) (p : Nat) : Prop :=
  (kd p = 0 → ∀ n, n < nd → ¬ pa n = some p) ∧ ∀ n, n < nd → pa n = some p → ∀ t, hB (C n) t = true ↔ (((kd p = 4 ∨ kd p = 5) ∧ hB (F n) t = true) ∨ hB (sbL (kd p) af mi F 701 (af n) 0).1 t = true)
section TREE
variable {nd : Nat} {kd : Nat → Int32} {pa be af ch : Nat → Option Nat} {mi : Nat → Bool} {nq : Nat} {lf : Nat → Nat} {F L C : Nat → Int64} {ro : Nat}
/-- a climb that comes to x comes there through a child -/
theorem bg_dec (hpa : ∀ n p, n < nd → pa n = some p → n < p ∧ p < nd) (x : Nat) : ∀ (f n : Nat), n < nd → 701 ≤ f + n → nd ≤ 700 → (bgC kd pa ch mi f n x = true ↔ (n = x ∨ ∃ c, c < nd ∧ pa c = some x ∧ alB (kd x) ch mi 701 (ch c) = true ∧ bgC kd pa ch mi f n c = true))
  | 0, n, hn, hf, h7 => by omega
  | f + 1, n, hn, hf, h7 => by
    by_cases hx : n = x
    · rw [bgC, if_pos hx]
      exact ⟨fun _ => Or.inl hx, fun _ => rfl⟩
    rw [bgC, if_neg hx]
    cases hp : pa n with
    | none =>
      refine ⟨fun h => by simp at h, ?_⟩
      rintro (h | ⟨c, hc, hcx, -, hb⟩)
      · exact absurd h hx
      · rw [bgC] at hb
        by_cases e : n = c
        · subst e; rw [hp] at hcx; cases hcx
        · rw [if_neg e, hp] at hb; simp at hb
    | some p =>
      have hpn := hpa n p hn hp
      dsimp only
      by_cases ha : alB (kd p) ch mi 701 (ch n) = true
      · rw [if_pos ha, bg_dec hpa x f p hpn.2 (by omega) h7]
        constructor
        · rintro (h | ⟨c, hc, hcx, hac, hb⟩)
          · subst h
            exact Or.inr ⟨n, hn, hp, ha, by rw [bgC, if_pos rfl]⟩
          · by_cases e : n = c
            · subst e
              exact Or.inr ⟨n, hn, hcx, hac, by rw [bgC, if_pos rfl]⟩
            · exact Or.inr ⟨c, hc, hcx, hac, by rw [bgC, if_neg e, hp]; dsimp only; rw [if_pos ha]; exact hb⟩
        · rintro (h | ⟨c, hc, hcx, hac, hb⟩)
          · exact absurd h hx
          · by_cases e : n = c
            · subst e
              rw [hp] at hcx
              exact Or.inl (Option.some.inj hcx)
            · rw [bgC, if_neg e, hp] at hb
              dsimp only at hb
              rw [if_pos ha] at hb
              exact Or.inr ⟨c, hc, hcx, hac, hb⟩
      · rw [if_neg ha]
        refine ⟨fun h => by simp at h, ?_⟩
        rintro (h | ⟨c, hc, hcx, hac, hb⟩)
        · exact absurd h hx
        · by_cases e : n = c
          · subst e
            rw [hp] at hcx
            have e2 := Option.some.inj hcx
            subst e2
            exact absurd hac ha
          · rw [bgC, if_neg e, hp] at hb
            dsimp only at hb
            rw [if_neg ha] at hb
            simp at hb
/-- the climbs find the places that the nodes bear -/
theorem bg_F (hS : TreeS nd kd pa be af nq lf) (hF : ∀ p, p < nd → NodeF nd kd pa ch mi nq lf F p) (hC : ∀ p, p < nd → kd p = 0 → ∀ n, n < nd → ¬ pa n = some p) : ∀ (B x : Nat), x < B → x < nd → ∀ q, q < nq → (bgC kd pa ch mi 701 (lf q) x = true ↔ hB (F x) q = true)
  | 0, x, h, _, _, _ => by omega
  | B + 1, x, h, hx, q, hq => by
    obtain ⟨h7, -, hpa, -, -, hlf⟩ := id hS
    rw [bg_dec (ch := ch) hpa x 701 (lf q) (hlf q hq).1 (by omega) h7]
    by_cases hk : kd x = 0
    · rw [(hF x hx).1 hk q]
      constructor
      · rintro (e | ⟨c, hc, hcx, -, -⟩)
        · exact ⟨hq, e⟩
        · exact absurd hcx (hC x hx hk c hc)
      · rintro ⟨-, e⟩
        exact Or.inl e
    · rw [(hF x hx).2 hk q]
      constructor
      · rintro (e | ⟨c, hc, hcx, ha, hb⟩)
        · exact absurd (by rw [← e]; exact (hlf q hq).2) hk
        · have := hpa c x hc hcx
          exact ⟨c, hc, hcx, ha, (bg_F hS hF hC B c (by omega) hc q hq).mp hb⟩
      · rintro ⟨c, hc, hcx, ha, hb⟩
        have := hpa c x hc hcx
        exact Or.inr ⟨c, hc, hcx, ha, (bg_F hS hF hC B c (by omega) hc q hq).mpr hb⟩
theorem hB_F_lt (hS : TreeS nd kd pa be af nq lf) (hF : ∀ p, p < nd → NodeF nd kd pa ch mi nq lf F p) : ∀ (B x : Nat), x < B → x < nd → ∀ q, hB (F x) q = true → q < nq
  | 0, x, h, _, _, _ => by omega
  | B + 1, x, h, hx, q, hq => by
    by_cases hk : kd x = 0
    · exact (((hF x hx).1 hk q).mp hq).1
    · obtain ⟨c, hc, hcx, -, hb⟩ := ((hF x hx).2 hk q).mp hq
      have := hS.2.2.1 c x hc hcx
      exact hB_F_lt hS hF B c (by omega) hc q hb
theorem fsL_bit (kd : Nat → Int32) (pa be : Nat → Option Nat) (mi : Nat → Bool) (lf : Nat → Nat) (x : Nat) : ∀ (n q : Nat) (r : Int64) (t : Nat), q + n ≤ 60 → (hB (fsL kd pa be mi lf x n q r) t = true ↔ (hB r t = true ∨ (q ≤ t ∧ t < q + n ∧ bgC kd pa be mi 701 (lf t) x = true)))
  | 0, q, r, t, _ => by
    rw [fsL]
    constructor
    · exact Or.inl
    · rintro (h | ⟨h1, h2, -⟩)
      · exact h
      · omega
  | n + 1, q, r, t, hq => by
    rw [fsL, fsL_bit kd pa be mi lf x n (q + 1) _ t (by omega), hB_or, Bool.or_eq_true]
    by_cases hb : bgC kd pa be mi 701 (lf q) x = true
    · rw [if_pos hb, hB_one (by omega), decide_eq_true_eq]
      constructor
      · rintro ((h | h) | ⟨h1, h2, h3⟩)
        · exact Or.inl h
        · subst h; exact Or.inr ⟨Nat.le_refl _, by omega, hb⟩
        · exact Or.inr ⟨by omega, by omega, h3⟩
      · rintro (h | ⟨h1, h2, h3⟩)
        · exact Or.inl (Or.inl h)
        · by_cases e : t = q
          · exact Or.inl (Or.inr e)
          · exact Or.inr ⟨by omega, by omega, h3⟩
    · rw [if_neg hb, hB_0]
      constructor
      · rintro ((h | h) | ⟨h1, h2, h3⟩)
        · exact Or.inl h
        · cases h
        · exact Or.inr ⟨by omega, by omega, h3⟩
      · rintro (h | ⟨h1, h2, h3⟩)
        · exact Or.inl (Or.inl h)
        · by_cases e : t = q
          · subst e; exact absurd h3 hb
          · exact Or.inr ⟨by omega, by omega, h3⟩
theorem bool_ext {a b : Bool} (h : a = true ↔ b = true) : a = b := by
  cases a <;> cases b <;> simp_all
theorem fs_F (hS : TreeS nd kd pa be af nq lf) (hF : ∀ p, p < nd → NodeF nd kd pa be mi nq lf F p) (hC : ∀ p, p < nd → kd p = 0 → ∀ n, n < nd → ¬ pa n = some p) {x : Nat} (hx : x < nd) : fsF kd pa be mi nq lf x = F x := by
  apply hB_ext
  intro t ht
  apply bool_ext
  rw [fsF, fsL_bit _ _ _ _ _ _ _ _ _ _ (by have := hS.2.1; omega), hB_0]
  constructor
  · rintro (h | ⟨-, h2, h3⟩)
    · cases h
    · exact (bg_F hS hF hC (x + 1) x (by omega) hx t (by omega)).mp h3
  · intro h
    have h2 := hB_F_lt hS hF (x + 1) x (by omega) hx t h
    exact Or.inr ⟨by omega, by omega, (bg_F hS hF hC (x + 1) x (by omega) hx t h2).mpr h⟩
theorem ed_bg (hpa : ∀ n p, n < nd → pa n = some p → n < p ∧ p < nd) (h7 : nd ≤ 700) (hro : pa ro = none) (hone : ∀ n, n < nd → pa n = none → n = ro) : ∀ (f n : Nat), n < nd → 701 ≤ f + n → edC kd pa af mi f n = bgC kd pa af mi f n ro
  | 0, n, hn, hf => by omega
  | f + 1, n, hn, hf => by
    rw [edC, bgC]
    cases hp : pa n with
    | none => rw [if_pos (hone n hn hp)]
    | some p =>
      have hpn := hpa n p hn hp
      rw [if_neg (fun e => by rw [e, hro] at hp; cases hp)]
      dsimp only
      rw [ed_bg hpa h7 hro hone f p hpn.2 (by omega)]
theorem laL_bit (kd : Nat → Int32) (pa af : Nat → Option Nat) (mi : Nat → Bool) (lf : Nat → Nat) : ∀ (n q : Nat) (r : Int64) (t : Nat), q + n ≤ 60 → (hB (laL kd pa af mi lf n q r) t = true ↔ (hB r t = true ∨ (q ≤ t ∧ t < q + n ∧ edC kd pa af mi 701 (lf t) = true)))
  | 0, q, r, t, _ => by
    rw [laL]
    constructor
    · exact Or.inl
    · rintro (h | ⟨h1, h2, -⟩)
      · exact h
      · omega
  | n + 1, q, r, t, hq => by
    rw [laL, laL_bit kd pa af mi lf n (q + 1) _ t (by omega), hB_or, Bool.or_eq_true]
    by_cases hb : edC kd pa af mi 701 (lf q) = true
    · rw [if_pos hb, hB_one (by omega), decide_eq_true_eq]
      constructor
      · rintro ((h | h) | ⟨h1, h2, h3⟩)
        · exact Or.inl h
        · subst h; exact Or.inr ⟨Nat.le_refl _, by omega, hb⟩
        · exact Or.inr ⟨by omega, by omega, h3⟩
      · rintro (h | ⟨h1, h2, h3⟩)
        · exact Or.inl (Or.inl h)
        · by_cases e : t = q
          · exact Or.inl (Or.inr e)
          · exact Or.inr ⟨by omega, by omega, h3⟩
    · rw [if_neg hb, hB_0]
      constructor
      · rintro ((h | h) | ⟨h1, h2, h3⟩)
        · exact Or.inl h
        · cases h
        · exact Or.inr ⟨by omega, by omega, h3⟩
      · rintro (h | ⟨h1, h2, h3⟩)
        · exact Or.inl (Or.inl h)
        · by_cases e : t = q
          · subst e; exact absurd h3 hb
          · exact Or.inr ⟨by omega, by omega, h3⟩
theorem la_L (hS : TreeS nd kd pa be af nq lf) (hF : ∀ p, p < nd → NodeF nd kd pa af mi nq lf L p) (hC : ∀ p, p < nd → kd p = 0 → ∀ n, n < nd → ¬ pa n = some p) (hrn : ro < nd) (hro : pa ro = none) (hone : ∀ n, n < nd → pa n = none → n = ro) : laL kd pa af mi lf nq 0 0 = L ro := by
  apply hB_ext
  intro t ht
  apply bool_ext
  rw [laL_bit _ _ _ _ _ _ _ _ _ (by have := hS.2.1; omega), hB_0]
  constructor
  · rintro (h | ⟨-, h2, h3⟩)
    · cases h
    · rw [ed_bg hS.2.2.1 hS.1 hro hone 701 (lf t) (hS.2.2.2.2.2 t (by omega)).1 (by omega)] at h3
      exact (bg_F hS hF hC (ro + 1) ro (by omega) hrn t (by omega)).mp h3
  · intro h
    have h2 := hB_F_lt hS hF (ro + 1) ro (by omega) hrn t h
    refine Or.inr ⟨by omega, by omega, ?_⟩
    rw [ed_bg hS.2.2.1 hS.1 hro hone 701 (lf t) (hS.2.2.2.2.2 t (by omega)).1 (by omega)]
    exact (bg_F hS hF hC (ro + 1) ro (by omega) hrn t h2).mpr h
/-- the siblings behind: what was gathered before stays, and it ends early just where one must stand -/
theorem sb_r (k : Int32) (G : Nat → Int64) : ∀ (f : Nat) (o : Option Nat) (r : Int64), (sbL k af mi G f o r).1 = r ||| (sbL k af mi G f o 0).1 ∧ (sbL k af mi G f o r).2 = !(alB k af mi f o)
  | 0, o, r => by rw [sbL, sbL, alB]; simp
  | f + 1, none, r => by rw [sbL, sbL, alB]; simp
  | f + 1, some x, r => by
    rw [sbL, sbL, alB]
    by_cases hk : k = 2
    · rw [if_pos hk, if_pos hk, if_pos hk]
      by_cases hm : mi x = true
      · rw [if_pos hm, if_pos hm, if_pos hm]
        have h1 := sb_r k G f (af x) (r ||| G x)
        have h2 := sb_r k G f (af x) (0 ||| G x)
        refine ⟨?_, h1.2⟩
        rw [h1.1, h2.1]
        apply hB_ext
        intro p hp
        simp only [hB_or, hB_0]
        cases hB r p <;> simp
      · rw [if_neg hm, if_neg hm, if_neg hm]
        simp
    · rw [if_neg hk, if_neg hk, if_neg hk]
      simp
theorem sb_congr {k : Int32} {G : Nat → Int64} (haf : ∀ n x, n < nd → af n = some x → n < x ∧ x < nd ∧ pa x = pa n) (hG : ∀ n, n < nd → G n = F n) : ∀ (f : Nat) (o : Option Nat) (r : Int64), (∀ x, o = some x → x < nd) → sbL k af mi G f o r = sbL k af mi F f o r
  | 0, o, r, _ => by rw [sbL, sbL]
  | f + 1, none, r, _ => by rw [sbL, sbL]
  | f + 1, some x, r, ho => by
    have hx := ho x rfl
    rw [sbL, sbL, hG x hx, sb_congr haf hG f (af x) _ (fun y hy => (haf x y hx hy).2.1)]
/-- what comes behind, by the climb: the C of every node that is reached -/
theorem nx_bit (hS : TreeS nd kd pa be af nq lf) (hC : ∀ p, p < nd → NodeC nd kd pa af mi F C p) {G : Nat → Int64} (hG : ∀ n, n < nd → G n = F n) (t : Nat) : ∀ (f n : Nat) (r : Int64), n < nd → 701 ≤ f + n → (hB (nxC kd pa af mi G f n r) t = true ↔ (hB r t = true ∨ ∃ c, c < nd ∧ bgC kd pa af mi f n c = true ∧ ¬ pa c = none ∧ hB (C c) t = true))
  | 0, n, r, hn, hf => by have := hS.1; omega
  | f + 1, n, r, hn, hf => by
    rw [nxC]
    cases hp : pa n with
    | none =>
      dsimp only
      refine ⟨Or.inl, ?_⟩
      rintro (h | ⟨c, hc, hb, hcn, -⟩)
      · exact h
      · rw [bgC] at hb
        by_cases e : n = c
        · subst e; exact absurd hp hcn
        · rw [if_neg e, hp] at hb; simp at hb
    | some p =>
      have hpn := hS.2.2.1 n p hn hp
      dsimp only
      have hcn := (hC p hpn.2).2 n hn hp t
      have e0 : (if kd p = 4 then r ||| G n else if kd p = 5 then r ||| G n else r) = r ||| (if kd p = 4 ∨ kd p = 5 then F n else 0) := by
        rw [hG n hn]
        by_cases h4 : kd p = 4
        · rw [if_pos h4, if_pos (Or.inl h4)]
        · rw [if_neg h4]
          by_cases h5 : kd p = 5
          · rw [if_pos h5, if_pos (Or.inr h5)]
          · rw [if_neg h5, if_neg (fun z => z.elim h4 h5)]; simp
      rw [e0]
      have hsb := sb_congr (k := kd p) (mi := mi) hS.2.2.2.2.1 hG 701 (af n) (r ||| (if kd p = 4 ∨ kd p = 5 then F n else 0)) (fun x hx => (hS.2.2.2.2.1 n x hn hx).2.1)
      rw [hsb]
      have hs := sb_r (af := af) (mi := mi) (kd p) F 701 (af n) (r ||| (if kd p = 4 ∨ kd p = 5 then F n else 0))
      have hbit : hB (sbL (kd p) af mi F 701 (af n) (r ||| (if kd p = 4 ∨ kd p = 5 then F n else 0))).1 t = true ↔ (hB r t = true ∨ hB (C n) t = true) := by
        rw [hs.1, hB_or, hB_or, hcn, Bool.or_eq_true, Bool.or_eq_true]
        by_cases h45 : kd p = 4 ∨ kd p = 5
        · rw [if_pos h45]
          constructor
          · rintro ((h | h) | h)
            · exact Or.inl h
            · exact Or.inr (Or.inl ⟨h45, h⟩)
            · exact Or.inr (Or.inr h)
          · rintro (h | ⟨-, h⟩ | h)
            · exact Or.inl (Or.inl h)
            · exact Or.inl (Or.inr h)
            · exact Or.inr h
        · rw [if_neg h45, hB_0]
          constructor
          · rintro ((h | h) | h)
            · exact Or.inl h
            · cases h
            · exact Or.inr (Or.inr h)
          · rintro (h | ⟨z, -⟩ | h)
            · exact Or.inl (Or.inl h)
            · exact absurd z h45
            · exact Or.inr h
      rw [hs.2]
      by_cases ha : alB (kd p) af mi 701 (af n) = true
      · rw [ha, if_neg (by decide), nx_bit hS hC hG t f p _ hpn.2 (by omega), hbit]
        constructor
        · rintro ((h | h) | ⟨c, hc, hb, hcp, hct⟩)
          · exact Or.inl h
          · exact Or.inr ⟨n, hn, by rw [bgC, if_pos rfl], by rw [hp]; simp, h⟩
          · by_cases e : n = c
            · subst e
              exact Or.inr ⟨n, hn, by rw [bgC, if_pos rfl], hcp, hct⟩
            · exact Or.inr ⟨c, hc, by rw [bgC, if_neg e, hp]; dsimp only; rw [if_pos ha]; exact hb, hcp, hct⟩
        · rintro (h | ⟨c, hc, hb, hcp, hct⟩)
          · exact Or.inl (Or.inl h)
          · by_cases e : n = c
            · subst e; exact Or.inl (Or.inr hct)
            · rw [bgC, if_neg e, hp] at hb
              dsimp only at hb
              rw [if_pos ha] at hb
              exact Or.inr ⟨c, hc, hb, hcp, hct⟩
      · rw [ts_nt ha, if_pos (by decide), hbit]
        constructor
        · rintro (h | h)
          · exact Or.inl h
          · exact Or.inr ⟨n, hn, by rw [bgC, if_pos rfl], by rw [hp]; simp, h⟩
        · rintro (h | ⟨c, hc, hb, hcp, hct⟩)
          · exact Or.inl h
          · by_cases e : n = c
            · subst e; exact Or.inr hct
            · rw [bgC, if_neg e, hp] at hb
              dsimp only at hb
              rw [if_neg ha] at hb
              simp at hb
/-- A COMPLETE TREE: the reference's answers are what the root and the nodes bear -/
theorem nx_N (hS : TreeS nd kd pa be af nq lf) (hF : ∀ p, p < nd → NodeF nd kd pa be mi nq lf F p) (hL : ∀ p, p < nd → NodeF nd kd pa af mi nq lf L p) (hC : ∀ p, p < nd → NodeC nd kd pa af mi F C p) (hro : ∀ n, n < nd → pa n = none → C n = 0) {nx : Nat → Int64} (hN : ∀ q, q < nq → ∀ t, hB (nx q) t = true ↔ ∃ n, n < nd ∧ hB (L n) q = true ∧ hB (C n) t = true) {q : Nat} (hq : q < nq) : nx q = nxF kd pa be af mi nq lf q := by
  apply hB_ext
  intro t ht
  apply bool_ext
  have hC0 : ∀ p, p < nd → kd p = 0 → ∀ n, n < nd → ¬ pa n = some p := fun p hp => (hC p hp).1
  rw [hN q hq t, nxF, nx_bit hS hC (fun n hn => fs_F hS hF hC0 hn) t 701 (lf q) 0 (hS.2.2.2.2.2 q hq).1 (by omega), hB_0]
  constructor
  · rintro ⟨n, hn, hl, hc⟩
    refine Or.inr ⟨n, hn, (bg_F hS hL hC0 (n + 1) n (by omega) hn q hq).mpr hl, ?_, hc⟩
    intro e
    rw [hro n hn e, hB_0] at hc
    cases hc
  · rintro (h | ⟨n, hn, hb, -, hc⟩)
    · cases h
    · exact ⟨n, hn, (bg_F hS hL hC0 (n + 1) n (by omega) hn q hq).mp hb, hc⟩
end TREE
