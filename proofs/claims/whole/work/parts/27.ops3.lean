/-! joining, closing -/
def jF (x : Int32) (a : Int64) (e : Bool) (f : Int64) : Int64 := if x = 0 then f else if x = 124 then a ||| f else if e = true then a ||| f else a
def jL (x : Int32) (b : Int64) (m : Bool) (l : Int64) : Int64 := if x = 0 then l else if x = 124 then b ||| l else if m = true then b ||| l else l
def jE (x : Int32) (e m : Bool) : Bool := if x = 0 then m else if x = 124 then e || m else e && m
theorem jF_c (a : Int64) (e : Bool) (f : Int64) : jF 124 a e f = a ||| f := by
  unfold jF; rw [if_neg (by decide), if_pos rfl]
theorem jF_r (a : Int64) (e : Bool) (f : Int64) : jF 44 a e f = if e = true then a ||| f else a := by
  unfold jF; rw [if_neg (by decide), if_neg (by decide)]
theorem jL_c (b : Int64) (m : Bool) (l : Int64) : jL 124 b m l = b ||| l := by
  unfold jL; rw [if_neg (by decide), if_pos rfl]
theorem jL_r (b : Int64) (m : Bool) (l : Int64) : jL 44 b m l = if m = true then b ||| l else l := by
  unfold jL; rw [if_neg (by decide), if_neg (by decide)]
theorem jE_c (e m : Bool) : jE 124 e m = (e || m) := by
  unfold jE; rw [if_neg (by decide), if_pos rfl]
theorem jE_r (e m : Bool) : jE 44 e m = (e && m) := by
  unfold jE; rw [if_neg (by decide), if_neg (by decide)]
theorem lvl_join {mi : Nat → Bool} {F L : Nat → Int64} {s x : Int32} {J : List Nat} {a b : Int64} {e : Bool} {c : Nat} (h : lvl mi F L s J a b e) (hx : x = 124 ∨ x = 44) (hs : s = 0 ∨ s = x) : lvl mi F L x (c :: J) (jF s a e (F c)) (jL s b (mi c) (L c)) (jE s e (mi c)) := by
  rcases h with ⟨h1, h2⟩ | ⟨h1, h2, h3, h4⟩ | ⟨h1, h2, h3, h4⟩
  · subst h1; subst h2
    rw [jF, jL, jE, if_pos rfl, if_pos rfl, if_pos rfl]
    rcases hx with rfl | rfl
    · exact Or.inr (Or.inl ⟨rfl, by rw [chF, chF, z_or], by rw [chF, chF, z_or], by rw [chE, chE, Bool.false_or]⟩)
    · refine Or.inr (Or.inr ⟨rfl, by rw [rwF, rwE, if_pos rfl, rwF, z_or], ?_, by rw [rwE, rwE, Bool.true_and]⟩)
      rw [rwL, rwL, z_or]
      split <;> rfl
  · subst h1
    have e2 : x = 124 := by rcases hs with z | z
                            · exact absurd z (by decide)
                            · exact z.symm
    subst e2
    rw [jF_c, jL_c, jE_c]
    exact Or.inr (Or.inl ⟨rfl, by rw [chF, h2], by rw [chF, h3], by rw [chE, h4]⟩)
  · subst h1
    have e2 : x = 44 := by rcases hs with z | z
                           · exact absurd z (by decide)
                           · exact z.symm
    subst e2
    rw [jF_r, jL_r, jE_r]
    exact Or.inr (Or.inr ⟨rfl, by rw [rwF, h2, h4], by rw [rwL, h3], by rw [rwE, h4]⟩)
/-- what has come behind the parts of a bracket, with one part more -/
def cJ (mi : Nat → Bool) (F C : Nat → Int64) (s : Int32) (J : List Nat) (c : Nat) : Nat → Int64 := fun n => if s = 44 ∧ lk mi J n = true then C n ||| F c else C n
theorem cJ_out {mi : Nat → Bool} {F C : Nat → Int64} {s : Int32} {J : List Nat} {c n : Nat} (h : n ∉ J) : cJ mi F C s J c n = C n := by
  unfold cJ
  rw [if_neg (fun z => h (lk_mem J n z.2))]
theorem cit_join {mi : Nat → Bool} {F C : Nat → Int64} {s x : Int32} {J : List Nat} {c : Nat} (h : cit mi F C s J) (hJ0 : s = 0 → J = []) (hc : C c = 0) (hn : c ∉ J) (hx : x = 124 ∨ x = 44) (hs : s = 0 ∨ s = x) : cit mi F (cJ mi F C s J c) x (c :: J) := by
  intro n hm
  rcases List.mem_cons.mp hm with rfl | hm
  · rw [cJ_out hn, hc, cS, if_pos rfl]
    split <;> rfl
  · have hnc : n ≠ c := fun e => hn (e ▸ hm)
    rcases hs with hs | hs
    · rw [hJ0 hs] at hm; exact absurd hm List.not_mem_nil
    · subst hs
      rw [cJ, h n hm, cS, if_neg hnc]
      rcases hx with rfl | rfl
      · rw [if_neg (fun z => absurd z.1 (by decide)), if_neg (by decide), if_neg (by decide)]
      · rw [if_pos rfl, if_pos rfl]
        by_cases hk : lk mi J n = true
        · rw [if_pos ⟨rfl, hk⟩, if_pos hk]
        · rw [if_neg (fun z => hk z.2), if_neg hk]
section OPS3
variable {F L C : Nat → Int64} {J X : Nat → List Nat} {lo : List Nat} {oF oL oF' oL' : Nat → Int64} {oE oE' : Nat → Bool} {sp : Nat → Int32} {dp d : Nat} {nx nx' : Nat → Int64} {nd : Nat} {kd : Nat → Int32} {pa be af : Nat → Option Nat} {mi : Nat → Bool} {nq : Nat} {lf : Nat → Nat} {lq : Nat → Option Nat} {so : Nat → Int32}
theorem base_join {c : Nat} {x : Int32} (h : Base F L C J X [] oF oL oE sp (d + 1) nx nd kd pa be af mi nq lf lq so) (hX : X d = c :: J d) (hc : C c = 0) (hx : x = 124 ∨ x = 44) (hs : sp d = 0 ∨ sp d = x)
    (o1 : oF' d = jF (sp d) (oF d) (oE d) (F c)) (o2 : oL' d = jL (sp d) (oL d) (mi c) (L c)) (o3 : oE' d = jE (sp d) (oE d) (mi c)) (q1 : ∀ v, v ≠ d → oF' v = oF v) (q2 : ∀ v, v ≠ d → oL' v = oL v) (q3 : ∀ v, v ≠ d → oE' v = oE v) (hnx : nx' = if sp d = 44 then cnL (oL d) (F c) nq 0 nx else nx) :
    Base F L (cJ mi F C (sp d) (J d) c) (va_up J d (c :: J d)) X [] oF' oL' oE' (upd sp d x) (d + 1) nx' nd kd pa be af mi nq lf lq (upd so d (soC x)) := by
  obtain ⟨h1, h2, h3, h4, h5, h6, h7, h8⟩ := h
  obtain ⟨d1, d2, d3, d4, d5, d6⟩ := h5 d (by omega)
  obtain ⟨l1, l2, l3⟩ := h4 d (by omega)
  have hcJ : c ∉ J d := by
    rw [hX] at d4
    intro hm
    have := (List.pairwise_cons.mp d4).1 c hm
    omega
  have hJr : ∀ n, n ∈ J d → n < nd ∧ pa n = none := fun n hn => d5 n (d6 n hn)
  have hJ0 : sp d = 0 → J d = [] := by
    intro e
    rcases l1 with ⟨-, z⟩ | ⟨z, -⟩ | ⟨z, -⟩
    · exact z
    · rw [e] at z; exact absurd z (by decide)
    · rw [e] at z; exact absurd z (by decide)
  have t := tree_ch (be' := be) (af' := af) (C' := cJ mi F C (sp d) (J d) c) h1 h2 (fun _ _ _ _ => rfl) (fun _ _ _ _ => rfl) (fun n p hn hp => cJ_out (fun hm => by rw [(hJr n hm).2] at hp; cases hp)) h1.2.2.2.1 h1.2.2.2.2.1
  refine ⟨t.1, t.2, ?_, ?_, ?_, h6, fun c hc => absurd hc List.not_mem_nil, h8⟩
  · intro q hq t
    subst hnx
    by_cases e : sp d = 44
    · rw [if_pos e, cnL_eq]
      have hb : oL d = rwL mi L (J d) := by
        rcases l1 with ⟨z, -⟩ | ⟨z, -⟩ | ⟨-, -, z, -⟩
        · rw [e] at z; exact absurd z (by decide)
        · rw [e] at z; exact absurd z (by decide)
        · exact z
      have hR : (∃ n, n < nd ∧ hB (L n) q = true ∧ hB (cJ mi F C (sp d) (J d) c n) t = true) ↔ ((∃ n, n < nd ∧ hB (L n) q = true ∧ hB (C n) t = true) ∨ (hB (oL d) q = true ∧ hB (F c) t = true)) := by
        rw [hb, rwL_bit]
        constructor
        · rintro ⟨n, a1, a2, a3⟩
          unfold cJ at a3
          by_cases hk : lk mi (J d) n = true
          · rw [if_pos ⟨e, hk⟩, hB_or, Bool.or_eq_true] at a3
            rcases a3 with a3 | a3
            · exact Or.inl ⟨n, a1, a2, a3⟩
            · exact Or.inr ⟨⟨n, hk, a2⟩, a3⟩
          · rw [if_neg (fun z => hk z.2)] at a3
            exact Or.inl ⟨n, a1, a2, a3⟩
        · rintro (⟨n, a1, a2, a3⟩ | ⟨⟨n, hk, a2⟩, a3⟩)
          · refine ⟨n, a1, a2, ?_⟩
            unfold cJ
            split
            · rw [hB_or, a3, Bool.true_or]
            · exact a3
          · refine ⟨n, (hJr n (lk_mem _ n hk)).1, a2, ?_⟩
            unfold cJ
            rw [if_pos ⟨e, hk⟩, hB_or, a3, Bool.or_true]
      rw [hR]
      by_cases hl : hB (oL d) q = true
      · rw [if_pos ⟨by omega, by omega, hl⟩, hB_or, Bool.or_eq_true, h3 q hq t]
        exact ⟨fun z => z.elim Or.inl (fun y => Or.inr ⟨hl, y⟩), fun z => z.elim Or.inl (fun y => Or.inr y.2)⟩
      · rw [if_neg (fun z => hl z.2.2), h3 q hq t]
        exact ⟨Or.inl, fun z => z.elim id (fun y => absurd y.1 hl)⟩
    · rw [if_neg e, h3 q hq t]
      have : ∀ n, cJ mi F C (sp d) (J d) c n = C n := fun n => by
        unfold cJ; rw [if_neg (fun z => e z.1)]
      simp only [this]
  · intro v hv
    by_cases e : v = d
    · subst e
      rw [va_up_self, pk_us, pk_us, o1, o2, o3]
      exact ⟨lvl_join l1 hx hs, rfl, cit_join l3 hJ0 hc hcJ hx hs⟩
    · obtain ⟨a1, a2, a3⟩ := h4 v hv
      rw [va_up_ne _ _ e, pk_un e, pk_un e, q1 v e, q2 v e, q3 v e]
      refine ⟨a1, a2, cit_congr (fun _ _ => rfl) (fun _ _ => rfl) (fun n hn => cJ_out (fun hm => ?_)) a3⟩
      have := h6 v d n n (by omega) (by omega) ((h5 v hv).2.2.2.2.2 n hn) (d6 n hm)
      omega
  · intro v hv
    by_cases e : v = d
    · subst e
      rw [va_up_self]
      exact ⟨d1, d2, d3, d4, d5, fun a ha => by rw [hX]; exact ha⟩
    · rw [va_up_ne _ _ e]
      exact h5 v hv
/-- the end of a bracket: a node over its parts -/
theorem base_close {k : Int32} {pa' : Nat → Option Nat} {mi' : Nat → Bool} (h : Base F L C J X [] oF oL oE sp (d + 1) nx nd kd pa be af mi nq lf lq so) (h7' : nd < 700) (hX : X d = J d) (hk : (sp d = 124 ∧ k = 1) ∨ (sp d = 44 ∧ k = 2))
    (hpm : ∀ m, m < nd → pa' m = if m ∈ X d then some nd else pa m) (hpn : pa' nd = none) (hmm : ∀ m, m < nd → mi' m = mi m) :
    Base (vp_updL F nd (oF d)) (vp_updL L nd (oL d)) (vp_updL C nd 0) J X [nd] oF oL oE sp d nx (nd + 1) (upd kd nd k) pa' (va_up be nd none) (va_up af nd none) mi' nq lf lq so := by
  have h0 := h
  obtain ⟨h1, h2, h3, h4, h5, h6, h7, h8⟩ := h
  obtain ⟨d1, d2, d3, d4, d5, d6⟩ := h5 d (by omega)
  obtain ⟨l1, l2, l3⟩ := h4 d (by omega)
  have hne : ∀ m, m < nd → m ≠ nd := fun m hm => by omega
  have hsib : ∀ m x, m < nd → pa m = none → (∃ v, v < d + 1 ∧ m ∈ X v ∧ x ∈ X v) → (x ∈ X d ↔ m ∈ X d) := by
    rintro m x hm hp ⟨v, hv, a, b⟩
    by_cases e : v = d
    · subst e; exact ⟨fun _ => a, fun _ => b⟩
    · refine ⟨fun z => ?_, fun z => ?_⟩
      · have := h6 v d x x (by omega) (by omega) b z; omega
      · have := h6 v d m m (by omega) (by omega) a z; omega
  obtain ⟨t1, t2⟩ := tree_up (ks := X d) (kd' := upd kd nd k) (pa' := pa') (be' := va_up be nd none) (af' := va_up af nd none) (mi' := mi') (nq' := nq) (lf' := lf) (F' := vp_updL F nd (oF d)) (L' := vp_updL L nd (oL d)) (C' := vp_updL C nd 0) h1 h2 h7' h1.2.1
    (fun m hm => pk_un (hne m hm)) hpm hpn (fun m hm => va_up_ne _ _ (hne m hm)) (va_up_self _ _ _) (fun m hm => va_up_ne _ _ (hne m hm)) (va_up_self _ _ _) hmm (fun m hm => pk_uLn (hne m hm)) (fun m hm => pk_uLn (hne m hm)) (fun m p hm hp => pk_uLn (hne m hm))
    (fun x hx => d5 x hx)
    (fun m x hm hx => by
      have hpx := (h1.2.2.2.1 m x hm hx).2
      by_cases hp : pa m = none
      · rcases base_beX h0 hm hp hx with a | a
        · exact absurd a List.not_mem_nil
        · exact hsib m x hm hp a
      · exact ⟨fun z => absurd (by rw [← hpx]; exact (d5 x z).2) hp, fun z => absurd (d5 m z).2 hp⟩)
    (fun m x hm hx => by
      have hpx := (h1.2.2.2.2.1 m x hm hx).2.2
      by_cases hp : pa m = none
      · rcases base_afX h0 hm hp hx with a | a
        · exact absurd a List.not_mem_nil
        · exact hsib m x hm hp a
      · exact ⟨fun z => absurd (by rw [← hpx]; exact (d5 x z).2) hp, fun z => absurd (d5 m z).2 hp⟩)
    (fun q hq => by have := h1.2.2.2.2.2 q hq; exact ⟨by omega, by rw [pk_un (by omega)]; exact this.2⟩) (fun p hp q => Iff.rfl)
  have hchild : ∀ m, (m < nd + 1 ∧ pa' m = some nd) ↔ m ∈ X d := by
    intro m
    constructor
    · rintro ⟨a1, a2⟩
      by_cases e : m = nd
      · subst e; rw [hpn] at a2; cases a2
      · rw [hpm m (by omega)] at a2
        by_cases hm : m ∈ X d
        · exact hm
        · rw [if_neg hm] at a2
          have := h1.2.2.1 m nd (by omega) a2
          omega
    · intro hm
      have := (d5 m hm).1
      exact ⟨by omega, by rw [hpm m this, if_pos hm]⟩
  have hlm : ∀ m, m ∈ X d → mi' m = mi m := fun m hm => hmm m (d5 m hm).1
  have hlF : ∀ m, m ∈ X d → vp_updL F nd (oF d) m = F m := fun m hm => pk_uLn (hne m (d5 m hm).1)
  have hlL : ∀ m, m ∈ X d → vp_updL L nd (oL d) m = L m := fun m hm => pk_uLn (hne m (d5 m hm).1)
  have hlt : ∀ m, m ∈ X d → m < nd + 1 := fun m hm => by have := (d5 m hm).1; omega
  have hbe' : ∀ n x, n < nd + 1 → va_up be nd none n = some x → x < n := fun n x a b => (t1.2.2.2.1 n x a b).1
  have haf' : ∀ n x, n < nd + 1 → va_up af nd none n = some x → n < x ∧ x < nd + 1 := fun n x a b => ⟨(t1.2.2.2.2.1 n x a b).1, (t1.2.2.2.2.1 n x a b).2.1⟩
  have hBe : BeCh (va_up be nd none) (X d) := BeCh_congr _ (fun x hx => va_up_ne _ _ (hne x (d5 x hx).1)) d2
  have hAf : AfCh (va_up af nd none) (X d) none := AfCh_congr _ _ (fun x hx => va_up_ne _ _ (hne x (d5 x hx).1)) d3
  have hal : ∀ m, m ∈ X d → alB 2 (va_up af nd none) mi' 701 (va_up af nd none m) = lk mi' (X d) m := by
    intro m hm
    rw [al_af (by omega) haf' (X d) none hlt (fun x hx => by cases hx) hAf d4 m hm, alB, Bool.and_true]
  have hkd : ¬ k = 0 := by rcases hk with ⟨-, e⟩ | ⟨-, e⟩ <;> subst e <;> decide
  refine ⟨t1, ?_, ?_, fun v hv => ?_, fun v hv => ?_, fun v w a b hvw hw => h6 v w a b hvw (by omega), ?_, ?_⟩
  · intro p hp
    by_cases e : p = nd
    · rw [e]
      rcases hk with ⟨hs, hk⟩ | ⟨hs, hk⟩
      · rcases l1 with ⟨z, -⟩ | ⟨-, b1, b2, b3⟩ | ⟨z, -⟩
        · rw [hs] at z; exact absurd z (by decide)
        · have hk2 : ¬ k = 2 := by subst hk; decide
          have key1 : ∀ q, hB (oF d) q = true ↔ ∃ m, m ∈ X d ∧ hB (F m) q = true := fun q => by rw [b1, ← hX, chF_bit]
          have key2 : ∀ q, hB (oL d) q = true ↔ ∃ m, m ∈ X d ∧ hB (L m) q = true := fun q => by rw [b2, ← hX, chF_bit]
          refine ⟨⟨fun z => absurd (by rw [pk_us] at z; exact z) hkd, fun _ q => ?_⟩, ⟨fun z => absurd (by rw [pk_us] at z; exact z) hkd, fun _ q => ?_⟩, fun z => absurd (by rw [pk_us] at z; exact z) hkd, fun m a1 a2 t => ?_⟩
          · rw [pk_uLs, pk_us, key1 q]
            constructor
            · rintro ⟨m, a1, a2⟩
              exact ⟨m, ((hchild m).mpr a1).1, ((hchild m).mpr a1).2, al_no2 hk2 _ _, by rw [hlF m a1]; exact a2⟩
            · rintro ⟨m, a1, a2, -, a4⟩
              have hm := (hchild m).mp ⟨a1, a2⟩
              exact ⟨m, hm, by rw [← hlF m hm]; exact a4⟩
          · rw [pk_uLs, pk_us, key2 q]
            constructor
            · rintro ⟨m, a1, a2⟩
              exact ⟨m, ((hchild m).mpr a1).1, ((hchild m).mpr a1).2, al_no2 hk2 _ _, by rw [hlL m a1]; exact a2⟩
            · rintro ⟨m, a1, a2, -, a4⟩
              have hm := (hchild m).mp ⟨a1, a2⟩
              exact ⟨m, hm, by rw [← hlL m hm]; exact a4⟩
          · have hm := (hchild m).mp ⟨a1, a2⟩
            rw [pk_uLn (hne m (d5 m hm).1), l3 m (hX ▸ hm), hs, if_neg (by decide), pk_us, sb_no2 hk2, hB_0]
            subst hk
            constructor
            · intro z; cases z
            · rintro (⟨z | z, -⟩ | z)
              · exact absurd z (by decide)
              · exact absurd z (by decide)
              · cases z
        · rw [hs] at z; exact absurd z (by decide)
      · rcases l1 with ⟨z, -⟩ | ⟨z, -⟩ | ⟨-, b1, b2, b3⟩
        · rw [hs] at z; exact absurd z (by decide)
        · rw [hs] at z; exact absurd z (by decide)
        · subst hk
          have b1' : oF d = rwF mi F (X d) := by rw [hX]; exact b1
          have b2' : oL d = rwL mi L (X d) := by rw [hX]; exact b2
          have key1 : ∀ q, hB (oF d) q = true ↔ ∃ n, n ∈ X d ∧ alB 2 (va_up be nd none) mi' 701 (va_up be nd none n) = true ∧ hB (vp_updL F nd (oF d) n) q = true := fun q => by
            have b := rwF_bit (mi := mi') (F := vp_updL F nd (oF d)) (by omega) hbe' (X d) hlt hBe q
            rw [rwF_congr (X d) hlm hlF, ← b1'] at b
            exact b
          have key2 : ∀ q, hB (oL d) q = true ↔ ∃ n, lk mi' (X d) n = true ∧ hB (vp_updL L nd (oL d) n) q = true := fun q => by
            have b := rwL_bit (mi := mi') (L := vp_updL L nd (oL d)) (X d) q
            rw [rwL_congr (X d) hlm hlL, ← b2'] at b
            exact b
          refine ⟨⟨fun z => absurd (by rw [pk_us] at z; exact z) hkd, fun _ q => ?_⟩, ⟨fun z => absurd (by rw [pk_us] at z; exact z) hkd, fun _ q => ?_⟩, fun z => absurd (by rw [pk_us] at z; exact z) hkd, fun m a1 a2 t => ?_⟩
          · rw [pk_uLs, pk_us, key1 q]
            constructor
            · rintro ⟨m, a1, a2, a3⟩
              exact ⟨m, ((hchild m).mpr a1).1, ((hchild m).mpr a1).2, a2, a3⟩
            · rintro ⟨m, a1, a2, a3, a4⟩
              exact ⟨m, (hchild m).mp ⟨a1, a2⟩, a3, a4⟩
          · rw [pk_uLs, pk_us, key2 q]
            constructor
            · rintro ⟨m, a1, a2⟩
              have hm := lk_mem _ m a1
              exact ⟨m, ((hchild m).mpr hm).1, ((hchild m).mpr hm).2, by rw [hal m hm]; exact a1, a2⟩
            · rintro ⟨m, a1, a2, a3, a4⟩
              have hm := (hchild m).mp ⟨a1, a2⟩
              rw [hal m hm] at a3
              exact ⟨m, a3, a4⟩
          · have hm := (hchild m).mp ⟨a1, a2⟩
            have e0 : (sbL 2 (va_up af nd none) mi' (vp_updL F nd (oF d)) 701 (va_up af nd none m) 0).1 = cS mi F (X d) m := by
              rw [sb_af (by omega) haf' (X d) none hlt (fun x hx => by cases hx) hAf d4 m hm, cS_congr (X d) hlm hlF m]
              have e1 : (if lk mi' (X d) m = true then (sbL 2 (va_up af nd none) mi' (vp_updL F nd (oF d)) 701 none 0).1 else 0) = 0 := by
                rw [sbL]
                split <;> rfl
              rw [e1, or_z]
            rw [pk_uLn (hne m (d5 m hm).1), l3 m (hX ▸ hm), hs, if_pos rfl, pk_us, e0, hX]
            constructor
            · intro z; exact Or.inr z
            · rintro (⟨z | z, -⟩ | z)
              · exact absurd z (by decide)
              · exact absurd z (by decide)
              · exact z
    · exact t2 p (by omega)
  · intro q hq t
    rw [h3 q hq t]
    constructor
    · rintro ⟨n, a1, a2, a3⟩
      exact ⟨n, by omega, by rw [pk_uLn (hne n a1)]; exact a2, by rw [pk_uLn (hne n a1)]; exact a3⟩
    · rintro ⟨n, a1, a2, a3⟩
      by_cases e : n = nd
      · subst e; rw [pk_uLs, hB_0] at a3; cases a3
      · rw [pk_uLn e] at a2 a3
        exact ⟨n, by omega, a2, a3⟩
  · obtain ⟨a1, a2, a3⟩ := h4 v (by omega)
    have hJ : ∀ x, x ∈ J v → x < nd := fun x hx => ((h5 v (by omega)).2.2.2.2.1 x ((h5 v (by omega)).2.2.2.2.2 x hx)).1
    exact ⟨lvl_congr (fun x hx => hmm x (hJ x hx)) (fun x hx => pk_uLn (hne x (hJ x hx))) (fun x hx => pk_uLn (hne x (hJ x hx))) a1, a2, cit_congr (fun x hx => hmm x (hJ x hx)) (fun x hx => pk_uLn (hne x (hJ x hx))) (fun x hx => pk_uLn (hne x (hJ x hx))) a3⟩
  · obtain ⟨a1, a2, a3, a4, a5, a6⟩ := h5 v (by omega)
    exact ⟨a1, BeCh_congr _ (fun x hx => va_up_ne _ _ (hne x (a5 x hx).1)) a2, AfCh_congr _ _ (fun x hx => va_up_ne _ _ (hne x (a5 x hx).1)) a3, a4, fun x hx => ⟨by have := (a5 x hx).1; omega, by
      rw [hpm x (a5 x hx).1, if_neg (fun z => by have := h6 v d x x hv (by omega) hx z; omega)]; exact (a5 x hx).2⟩, a6⟩
  · intro x hx
    have e : x = nd := by simpa using hx
    subst e
    exact ⟨by omega, hpn, va_up_self _ _ _, va_up_self _ _ _, pk_uLs, fun v a hv ha => ((h5 v (by omega)).2.2.2.2.1 a ha).1⟩
  · intro m hm hp
    by_cases e : m = nd
    · exact Or.inl (by simp [e])
    · rw [hpm m (by omega)] at hp
      by_cases hm2 : m ∈ X d
      · rw [if_pos hm2] at hp; cases hp
      · rw [if_neg hm2] at hp
        rcases h8 m (by omega) hp with a | ⟨v, hv, a⟩
        · exact absurd a List.not_mem_nil
        · refine Or.inr ⟨v, ?_, a⟩
          by_cases e2 : v = d
          · subst e2; exact absurd a hm2
          · omega
end OPS3
/-- the reference's walk over the parts of a bracket -/
theorem clL_eq {be : Nat → Option Nat} {mi : Nat → Bool} {n : Nat} : ∀ (l : List Nat) (f : Nat) (pa : Nat → Option Nat) (a b : Bool), BeCh be l → l.Pairwise (· > ·) → (∀ x, x ∈ l → x < f) → ∃ pa', clL be mi n f l.head? pa a b = (pa', (a && rwE mi l), (b || chE mi l)) ∧ ∀ m, pa' m = if m ∈ l then some n else pa m
  | [], 0, pa, a, b, _, _, _ => ⟨pa, by rw [List.head?_nil, clL, rwE, chE, Bool.and_true, Bool.or_false], fun m => by rw [if_neg List.not_mem_nil]⟩
  | [], f + 1, pa, a, b, _, _, _ => ⟨pa, by rw [List.head?_nil, clL, rwE, chE, Bool.and_true, Bool.or_false], fun m => by rw [if_neg List.not_mem_nil]⟩
  | c :: l, 0, pa, a, b, _, _, h => absurd (h c List.mem_cons_self) (Nat.not_lt_zero _)
  | c :: l, f + 1, pa, a, b, hc, hp, h => by
    have hp2 := List.pairwise_cons.mp hp
    have hcf := h c List.mem_cons_self
    obtain ⟨pa', e1, e2⟩ := clL_eq l f (va_up pa c (some n)) (a && mi c) (b || mi c) hc.2 hp2.2 (fun x hx => by have := hp2.1 x hx; omega)
    refine ⟨pa', ?_, fun m => ?_⟩
    · rw [List.head?_cons, clL, hc.1, e1, rwE, chE]
      congr 2
      · cases a <;> cases mi c <;> cases rwE mi l <;> rfl
      · cases b <;> cases mi c <;> cases chE mi l <;> rfl
    · rw [e2 m]
      by_cases hm : m ∈ l
      · rw [if_pos hm, if_pos (List.mem_cons_of_mem _ hm)]
      · rw [if_neg hm]
        by_cases e : m = c
        · subst e; rw [va_up_self, if_pos List.mem_cons_self]
        · rw [va_up_ne _ _ e, if_neg (fun z => (List.mem_cons.mp z).elim e hm)]
