/-! THE STEPS OF A PARSE keep the state: a sign, a part that joins its bracket, the end of a bracket -/
theorem BeCh_mem {be : Nat → Option Nat} : ∀ (l : List Nat), BeCh be l → ∀ m x, m ∈ l → be m = some x → x ∈ l
  | [], _, m, x, hm, _ => absurd hm List.not_mem_nil
  | c :: l, h, m, x, hm, hx => by
    rcases List.mem_cons.mp hm with rfl | hm
    · rw [h.1] at hx
      exact List.mem_cons_of_mem _ (List.mem_of_mem_head? (by rw [hx]; rfl))
    · exact List.mem_cons_of_mem _ (BeCh_mem l h.2 m x hm hx)
theorem AfCh_mem {af : Nat → Option Nat} : ∀ (l : List Nat) (o : Option Nat), AfCh af l o → ∀ m x, m ∈ l → af m = some x → x ∈ l ∨ o = some x
  | [], _, _, m, x, hm, _ => absurd hm List.not_mem_nil
  | c :: l, o, h, m, x, hm, hx => by
    rcases List.mem_cons.mp hm with rfl | hm
    · rw [h.1] at hx; exact Or.inr hx
    · rcases AfCh_mem l (some c) h.2 m x hm hx with a | a
      · exact Or.inl (List.mem_cons_of_mem _ a)
      · exact Or.inl (by rw [← Option.some.inj a]; exact List.mem_cons_self)
theorem sgK_ne0 (c : Int32) : ¬ sgK c = 0 ∧ ¬ sgK c = 2 := by
  unfold sgK
  split
  · decide
  · split <;> decide
theorem sgK_c (c : Int32) : (sgK c = 4 ∨ sgK c = 5) ↔ ¬ c = 63 := by
  unfold sgK
  by_cases h : c = 63
  · rw [if_pos h]
    constructor
    · rintro (z | z) <;> exact absurd z (by decide)
    · intro z; exact absurd h z
  · rw [if_neg h]
    refine ⟨fun _ => h, fun _ => ?_⟩
    split
    · exact Or.inl rfl
    · exact Or.inr rfl
theorem al_no2 {k : Int32} {ch : Nat → Option Nat} {mi : Nat → Bool} (hk : ¬ k = 2) : ∀ (f : Nat) (o : Option Nat), alB k ch mi f o = true
  | 0, _ => by rw [alB]
  | f + 1, none => by rw [alB]
  | f + 1, some x => by rw [alB, if_neg hk]
theorem sb_no2 {k : Int32} {ch : Nat → Option Nat} {mi : Nat → Bool} {G : Nat → Int64} {r : Int64} (hk : ¬ k = 2) : ∀ (f : Nat) (o : Option Nat), sbL k ch mi G f o r = (r, false)
  | 0, _ => by rw [sbL]
  | f + 1, none => by rw [sbL]
  | f + 1, some x => by rw [sbL, if_neg hk]
section OPS2
variable {F L C : Nat → Int64} {J X : Nat → List Nat} {lo : List Nat} {oF oL oF' oL' : Nat → Int64} {oE oE' : Nat → Bool} {sp : Nat → Int32} {dp d : Nat} {nx : Nat → Int64} {nd : Nat} {kd : Nat → Int32} {pa be af : Nat → Option Nat} {mi : Nat → Bool} {nq : Nat} {lf : Nat → Nat} {lq : Nat → Option Nat} {so : Nat → Int32}
/-- which roots stand in a bracket's chain -/
theorem base_beX (h : Base F L C J X lo oF oL oE sp dp nx nd kd pa be af mi nq lf lq so) {m x : Nat} (hm : m < nd) (hp : pa m = none) (hx : be m = some x) : m ∈ lo ∨ ∃ v, v < dp ∧ m ∈ X v ∧ x ∈ X v := by
  obtain ⟨h1, h2, h3, h4, h5, h6, h7, h8⟩ := h
  rcases h8 m hm hp with a | ⟨v, hv, a⟩
  · exact Or.inl a
  · exact Or.inr ⟨v, hv, a, BeCh_mem _ (h5 v hv).2.1 m x a hx⟩
theorem base_afX (h : Base F L C J X lo oF oL oE sp dp nx nd kd pa be af mi nq lf lq so) {m x : Nat} (hm : m < nd) (hp : pa m = none) (hx : af m = some x) : m ∈ lo ∨ ∃ v, v < dp ∧ m ∈ X v ∧ x ∈ X v := by
  obtain ⟨h1, h2, h3, h4, h5, h6, h7, h8⟩ := h
  rcases h8 m hm hp with a | ⟨v, hv, a⟩
  · exact Or.inl a
  · refine Or.inr ⟨v, hv, a, ?_⟩
    rcases AfCh_mem _ _ (h5 v hv).2.2.1 m x a hx with b | b
    · exact b
    · cases b
theorem base_sign {n : Nat} (c : Int32) (h : Base F L C J X [n] oF oL oE sp dp nx nd kd pa be af mi nq lf lq so) (h7' : nd < 700) :
    Base (vp_updL F nd (F n)) (vp_updL L nd (L n)) (vp_updL (vp_updL C n (if c = 63 then 0 else F n)) nd 0) J X [nd] oF oL oE sp dp (if c = 63 then nx else cnL (L n) (F n) nq 0 nx) (nd + 1) (upd kd nd (sgK c)) (va_up (va_up pa nd none) n (some nd)) (va_up be nd none) (va_up af nd none) (sgM (va_up mi nd (nkM (sgK c))) nd n c) nq lf lq so := by
  have h0 := h
  obtain ⟨h1, h2, h3, h4, h5, h6, h7, h8⟩ := h
  obtain ⟨n1, n2, n3, n4, n5, n6⟩ := h7 n (by simp)
  have hne : ∀ m, m < nd → m ≠ nd := fun m hm => by omega
  have hXn : ∀ v, v < dp → ∀ a, a ∈ X v → a < n := fun v hv a ha => n6 v a hv ha
  have hJn : ∀ v, v < dp → ∀ a, a ∈ J v → a < n := fun v hv a ha => hXn v hv a ((h5 v hv).2.2.2.2.2 a ha)
  have hmi : ∀ m, m < nd → sgM (va_up mi nd (nkM (sgK c))) nd n c m = mi m := by
    intro m hm
    unfold sgM
    split
    · rw [va_up_ne _ _ (hne m hm), va_up_ne _ _ (hne m hm)]
    · rw [va_up_ne _ _ (hne m hm)]
  have hpm : ∀ m, m < nd → va_up (va_up pa nd none) n (some nd) m = if m ∈ [n] then some nd else pa m := by
    intro m hm
    by_cases e : m = n
    · subst e; rw [va_up_self, if_pos (by simp)]
    · rw [va_up_ne _ _ e, va_up_ne _ _ (hne m hm), if_neg (by simpa using e)]
  have hpn : va_up (va_up pa nd none) n (some nd) nd = none := by rw [va_up_ne _ _ (by omega), va_up_self]
  have hC1 : ∀ m, m < nd → m ≠ n → vp_updL (vp_updL C n (if c = 63 then 0 else F n)) nd 0 m = C m := fun m hm e => by rw [pk_uLn (hne m hm), pk_uLn e]
  have hCn : vp_updL (vp_updL C n (if c = 63 then 0 else F n)) nd 0 n = if c = 63 then 0 else F n := by rw [pk_uLn (hne n n1), pk_uLs]
  obtain ⟨t1, t2⟩ := tree_up (ks := [n]) (kd' := upd kd nd (sgK c)) (pa' := va_up (va_up pa nd none) n (some nd)) (be' := va_up be nd none) (af' := va_up af nd none) (mi' := sgM (va_up mi nd (nkM (sgK c))) nd n c) (nq' := nq) (lf' := lf) (F' := vp_updL F nd (F n)) (L' := vp_updL L nd (L n)) (C' := vp_updL (vp_updL C n (if c = 63 then 0 else F n)) nd 0) h1 h2 h7' h1.2.1
    (fun m hm => pk_un (hne m hm)) hpm hpn (fun m hm => va_up_ne _ _ (hne m hm)) (va_up_self _ _ _) (fun m hm => va_up_ne _ _ (hne m hm)) (va_up_self _ _ _) hmi (fun m hm => pk_uLn (hne m hm)) (fun m hm => pk_uLn (hne m hm)) (fun m p hm hp => hC1 m hm (fun e => by rw [e, n2] at hp; cases hp))
    (fun x hx => by have e : x = n := by simpa using hx
                    subst e; exact ⟨n1, n2⟩)
    (fun m x hm hx => by
      have hpx := (h1.2.2.2.1 m x hm hx).2
      constructor
      · intro e
        have e : x = n := by simpa using e
        subst e
        rcases base_beX h0 hm (by rw [← hpx]; exact n2) hx with a | ⟨v, hv, -, b⟩
        · exact a
        · have := hXn v hv x b; omega
      · intro e
        have e : m = n := by simpa using e
        subst e
        rw [n3] at hx; cases hx)
    (fun m x hm hx => by
      have hpx := (h1.2.2.2.2.1 m x hm hx).2.2
      constructor
      · intro e
        have e : x = n := by simpa using e
        subst e
        rcases base_afX h0 hm (by rw [← hpx]; exact n2) hx with a | ⟨v, hv, -, b⟩
        · exact a
        · have := hXn v hv x b; omega
      · intro e
        have e : m = n := by simpa using e
        subst e
        rw [n4] at hx; cases hx)
    (fun q hq => by have := h1.2.2.2.2.2 q hq; exact ⟨by omega, by rw [pk_un (by omega)]; exact this.2⟩) (fun p hp q => Iff.rfl)
  have hchild : ∀ m, m < nd + 1 → (va_up (va_up pa nd none) n (some nd) m = some nd ↔ m = n) := by
    intro m hm
    by_cases e : m = nd
    · subst e; rw [hpn]; exact ⟨(fun z => by cases z), fun z => by omega⟩
    · rw [hpm m (by omega)]
      by_cases e2 : m = n
      · subst e2; simp
      · rw [if_neg (by simpa using e2)]
        refine ⟨fun z => ?_, fun z => absurd z e2⟩
        have := h1.2.2.1 m nd (by omega) z
        omega
  have hlast : ∀ (G : Nat → Int64) (ch : Nat → Option Nat), ch n = none → NodeF (nd + 1) (upd kd nd (sgK c)) (va_up (va_up pa nd none) n (some nd)) (va_up ch nd none) (sgM (va_up mi nd (nkM (sgK c))) nd n c) nq lf (vp_updL G nd (G n)) nd := by
    intro G ch hch
    refine ⟨fun hk => absurd (by rw [pk_us] at hk; exact hk) (sgK_ne0 c).1, fun _ q => ?_⟩
    rw [pk_uLs, pk_us]
    constructor
    · intro hq
      exact ⟨n, by omega, (hchild n (by omega)).mpr rfl, al_no2 (sgK_ne0 c).2 _ _, by rw [pk_uLn (hne n n1)]; exact hq⟩
    · rintro ⟨m, a1, a2, -, a4⟩
      have e := (hchild m a1).mp a2
      subst e
      rw [pk_uLn (hne m n1)] at a4
      exact a4
  refine ⟨t1, ?_, ?_, ?_, ?_, h6, ?_, ?_⟩
  · intro p hp
    by_cases e : p = nd
    · subst e
      refine ⟨hlast F be n3, hlast L af n4, fun hk => absurd (by rw [pk_us] at hk; exact hk) (sgK_ne0 c).1, fun m a1 a2 t => ?_⟩
      have e := (hchild m a1).mp a2
      subst e
      rw [hCn, pk_us, sgK_c c, sb_no2 (sgK_ne0 c).2, hB_0, pk_uLn (hne m n1)]
      by_cases e3 : c = 63
      · rw [if_pos e3, hB_0]
        constructor
        · intro z; cases z
        · rintro (⟨z, -⟩ | z)
          · exact absurd e3 z
          · cases z
      · rw [if_neg e3]
        constructor
        · intro z; exact Or.inl ⟨e3, z⟩
        · rintro (⟨-, z⟩ | z)
          · exact z
          · cases z
    · exact t2 p (by omega)
  · intro q hq t
    have hR : (∃ m, m < nd + 1 ∧ hB (vp_updL L nd (L n) m) q = true ∧ hB (vp_updL (vp_updL C n (if c = 63 then 0 else F n)) nd 0 m) t = true) ↔ ((∃ m, m < nd ∧ hB (L m) q = true ∧ hB (C m) t = true) ∨ (hB (L n) q = true ∧ hB (if c = 63 then (0 : Int64) else F n) t = true)) := by
      constructor
      · rintro ⟨m, a1, a2, a3⟩
        by_cases e : m = nd
        · subst e; rw [pk_uLs, hB_0] at a3; cases a3
        · by_cases e2 : m = n
          · subst e2
            rw [hCn] at a3
            rw [pk_uLn (hne m n1)] at a2
            exact Or.inr ⟨a2, a3⟩
          · rw [hC1 m (by omega) e2] at a3
            rw [pk_uLn e] at a2
            exact Or.inl ⟨m, by omega, a2, a3⟩
      · rintro (⟨m, a1, a2, a3⟩ | ⟨a2, a3⟩)
        · have e2 : m ≠ n := fun e => by rw [e, n5, hB_0] at a3; cases a3
          exact ⟨m, by omega, by rw [pk_uLn (hne m a1)]; exact a2, by rw [hC1 m a1 e2]; exact a3⟩
        · exact ⟨n, by omega, by rw [pk_uLn (hne n n1)]; exact a2, by rw [hCn]; exact a3⟩
    rw [hR]
    by_cases e3 : c = 63
    · rw [if_pos e3, if_pos e3, hB_0, h3 q hq t]
      exact ⟨Or.inl, fun z => z.elim id (fun y => by cases y.2)⟩
    · rw [if_neg e3, if_neg e3, cnL_eq]
      by_cases hl : hB (L n) q = true
      · rw [if_pos ⟨by omega, by omega, hl⟩, hB_or, Bool.or_eq_true, h3 q hq t]
        exact ⟨fun z => z.elim Or.inl (fun y => Or.inr ⟨hl, y⟩), fun z => z.elim Or.inl (fun y => Or.inr y.2)⟩
      · rw [if_neg (fun z => hl z.2.2), h3 q hq t]
        exact ⟨Or.inl, fun z => z.elim id (fun y => absurd y.1 hl)⟩
  · intro v hv
    obtain ⟨a1, a2, a3⟩ := h4 v hv
    have hJ : ∀ x, x ∈ J v → x < nd ∧ x ≠ n := fun x hx => by have := hJn v hv x hx; omega
    exact ⟨lvl_congr (fun x hx => hmi x (hJ x hx).1) (fun x hx => pk_uLn (hne x (hJ x hx).1)) (fun x hx => pk_uLn (hne x (hJ x hx).1)) a1, a2, cit_congr (fun x hx => hmi x (hJ x hx).1) (fun x hx => pk_uLn (hne x (hJ x hx).1)) (fun x hx => hC1 x (hJ x hx).1 (hJ x hx).2) a3⟩
  · intro v hv
    obtain ⟨a1, a2, a3, a4, a5, a6⟩ := h5 v hv
    have hX : ∀ x, x ∈ X v → x < nd ∧ x ≠ n := fun x hx => by have := hXn v hv x hx; omega
    exact ⟨a1, BeCh_congr _ (fun x hx => va_up_ne _ _ (hne x (hX x hx).1)) a2, AfCh_congr _ _ (fun x hx => va_up_ne _ _ (hne x (hX x hx).1)) a3, a4, fun x hx => ⟨by have := (hX x hx).1; omega, by rw [va_up_ne _ _ (hX x hx).2, va_up_ne _ _ (hne x (hX x hx).1)]; exact (a5 x hx).2⟩, a6⟩
  · intro x hx
    have e : x = nd := by simpa using hx
    subst e
    exact ⟨by omega, hpn, va_up_self _ _ _, va_up_self _ _ _, pk_uLs, fun v a hv ha => by have := hXn v hv a ha; omega⟩
  · intro m hm hp
    by_cases e : m = nd
    · exact Or.inl (by simp [e])
    · by_cases e2 : m = n
      · subst e2; rw [va_up_self] at hp; cases hp
      · rw [va_up_ne _ _ e2, va_up_ne _ _ e] at hp
        rcases h8 m (by omega) hp with a | a
        · exact absurd (by simpa using a) e2
        · exact Or.inr a
end OPS2
