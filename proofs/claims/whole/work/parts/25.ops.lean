/-! THE STEPS OF A PARSE keep the state -/
section OPS
variable {F L C : Nat → Int64} {J X : Nat → List Nat} {lo : List Nat} {oF oL oF' oL' : Nat → Int64} {oE oE' : Nat → Bool} {sp : Nat → Int32} {dp d : Nat} {nx : Nat → Int64} {nd : Nat} {kd : Nat → Int32} {pa be af : Nat → Option Nat} {mi : Nat → Bool} {nq : Nat} {lf : Nat → Nat} {lq : Nat → Option Nat} {so : Nat → Int32}
theorem base_open (h : Base F L C J X [] oF oL oE sp dp nx nd kd pa be af mi nq lf lq so) : Base F L C (va_up J dp []) (va_up X dp []) [] oF oL oE (upd sp dp 0) (dp + 1) nx nd kd pa be af mi nq lf (va_up lq dp none) (upd so dp (-1)) := by
  obtain ⟨h1, h2, h3, h4, h5, h6, h7, h8⟩ := h
  refine ⟨h1, h2, h3, ?_, ?_, ?_, fun c hc => absurd hc List.not_mem_nil, ?_⟩
  · intro v hv
    by_cases e : v = dp
    · subst e
      rw [va_up_self, pk_us, pk_us]
      exact ⟨Or.inl ⟨rfl, rfl⟩, by decide, fun n hn => absurd hn List.not_mem_nil⟩
    · rw [va_up_ne _ _ e, pk_un e, pk_un e]
      exact h4 v (by omega)
  · intro v hv
    by_cases e : v = dp
    · subst e
      rw [va_up_self, va_up_self, va_up_self]
      exact ⟨rfl, trivial, trivial, List.Pairwise.nil, fun c hc => absurd hc List.not_mem_nil, fun c hc => absurd hc List.not_mem_nil⟩
    · rw [va_up_ne _ _ e, va_up_ne _ _ e, va_up_ne _ _ e]
      exact h5 v (by omega)
  · intro v w a b hvw hw ha hb
    by_cases e : w = dp
    · subst e; rw [va_up_self] at hb; cases hb
    · rw [va_up_ne _ _ e] at hb
      rw [va_up_ne _ _ (by omega)] at ha
      exact h6 v w a b hvw (by omega) ha hb
  · intro n hn hp
    rcases h8 n hn hp with hc | ⟨v, hv, hx⟩
    · cases hc
    · exact Or.inr ⟨v, by omega, by rw [va_up_ne _ _ (by omega)]; exact hx⟩
theorem nkM_0 : nkM 0 = false := by decide
theorem base_name (h : Base F L C J X [] oF oL oE sp dp nx nd kd pa be af mi nq lf lq so) (h7' : nd < 700) (hq : nq < 60) :
    Base (vp_updL F nd ((1 : Int64) <<< ((nI nq).toInt64 &&& 63))) (vp_updL L nd ((1 : Int64) <<< ((nI nq).toInt64 &&& 63))) (vp_updL C nd 0) J X [nd] oF oL oE sp dp (vp_updL nx nq 0) (nd + 1) (upd kd nd 0) (va_up pa nd none) (va_up be nd none) (va_up af nd none) (va_up mi nd (nkM 0)) (nq + 1) (va_up lf nq nd) lq so := by
  obtain ⟨h1, h2, h3, h4, h5, h6, h7, h8⟩ := h
  have hne : ∀ n, n < nd → n ≠ nd := fun n hn => by omega
  have hXn : ∀ v, v < dp → ∀ c, c ∈ X v → c < nd := fun v hv c hc => ((h5 v hv).2.2.2.2.1 c hc).1
  have hJn : ∀ v, v < dp → ∀ c, c ∈ J v → c < nd := fun v hv c hc => hXn v hv c ((h5 v hv).2.2.2.2.2 c hc)
  obtain ⟨t1, t2⟩ := tree_up (ks := []) (kd' := upd kd nd 0) (pa' := va_up pa nd none) (be' := va_up be nd none) (af' := va_up af nd none) (mi' := va_up mi nd (nkM 0)) (nq' := nq + 1) (lf' := va_up lf nq nd) (F' := vp_updL F nd ((1 : Int64) <<< ((nI nq).toInt64 &&& 63))) (L' := vp_updL L nd ((1 : Int64) <<< ((nI nq).toInt64 &&& 63))) (C' := vp_updL C nd 0) h1 h2 h7' (by omega)
    (fun n hn => pk_un (hne n hn)) (fun n hn => by rw [va_up_ne _ _ (hne n hn), if_neg (by simp)]) (va_up_self _ _ _) (fun n hn => va_up_ne _ _ (hne n hn)) (va_up_self _ _ _) (fun n hn => va_up_ne _ _ (hne n hn)) (va_up_self _ _ _) (fun n hn => va_up_ne _ _ (hne n hn)) (fun n hn => pk_uLn (hne n hn)) (fun n hn => pk_uLn (hne n hn)) (fun n p hn _ => pk_uLn (hne n hn))
    (fun c hc => absurd hc List.not_mem_nil) (fun n x _ _ => by simp) (fun n x _ _ => by simp)
    (fun q hq' => by
      by_cases e : q = nq
      · subst e; rw [va_up_self]; exact ⟨by omega, pk_us⟩
      · rw [va_up_ne _ _ e]
        have := h1.2.2.2.2.2 q (by omega)
        exact ⟨by omega, by rw [pk_un (by omega)]; exact this.2⟩)
    (fun p hp q => by
      constructor
      · rintro ⟨a1, a2⟩
        by_cases e : q = nq
        · subst e; rw [va_up_self] at a2; omega
        · rw [va_up_ne _ _ e] at a2; exact ⟨by omega, a2⟩
      · rintro ⟨a1, a2⟩
        exact ⟨by omega, by rw [va_up_ne _ _ (by omega)]; exact a2⟩)
  have hlast : ∀ (G : Nat → Int64) (ch : Nat → Option Nat), NodeF (nd + 1) (upd kd nd 0) (va_up pa nd none) ch (va_up mi nd (nkM 0)) (nq + 1) (va_up lf nq nd) (vp_updL G nd ((1 : Int64) <<< ((nI nq).toInt64 &&& 63))) nd := by
    intro G ch
    refine ⟨fun _ q => ?_, fun hk => absurd pk_us hk⟩
    rw [pk_uLs, hB_one (by omega), decide_eq_true_eq]
    constructor
    · intro e; subst e; exact ⟨by omega, va_up_self _ _ _⟩
    · rintro ⟨a1, a2⟩
      by_cases e : q = nq
      · exact e
      · rw [va_up_ne _ _ e] at a2
        have := h1.2.2.2.2.2 q (by omega)
        omega
  have hpn : ∀ n, n < nd + 1 → ¬ va_up pa nd none n = some nd := by
    intro n hn e
    by_cases e2 : n = nd
    · subst e2; rw [va_up_self] at e; cases e
    · rw [va_up_ne _ _ e2] at e
      have := h1.2.2.1 n nd (by omega) e
      omega
  refine ⟨t1, ?_, ?_, ?_, ?_, h6, ?_, ?_⟩
  · intro p hp
    by_cases e : p = nd
    · subst e
      exact ⟨hlast F _, hlast L _, fun _ n hn e => hpn n hn e, fun n hn e => absurd e (hpn n hn)⟩
    · exact t2 p (by omega)
  · intro q hq' t
    have hL2 : ∀ n, n < nd + 1 → (hB (vp_updL L nd ((1 : Int64) <<< ((nI nq).toInt64 &&& 63)) n) q = true ∧ hB (vp_updL C nd 0 n) t = true ↔ (n < nd ∧ hB (L n) q = true ∧ hB (C n) t = true)) := by
      intro n hn
      by_cases e : n = nd
      · subst e
        rw [pk_uLs, pk_uLs, hB_0]
        constructor
        · rintro ⟨-, z⟩; cases z
        · rintro ⟨z, -⟩; omega
      · rw [pk_uLn e, pk_uLn e]
        exact ⟨fun z => ⟨by omega, z.1, z.2⟩, fun z => ⟨z.2.1, z.2.2⟩⟩
    have e2 : (∃ n, n < nd + 1 ∧ hB (vp_updL L nd ((1 : Int64) <<< ((nI nq).toInt64 &&& 63)) n) q = true ∧ hB (vp_updL C nd 0 n) t = true) ↔ ∃ n, n < nd ∧ hB (L n) q = true ∧ hB (C n) t = true := by
      constructor
      · rintro ⟨n, a1, a2⟩
        exact ⟨n, (hL2 n a1).mp a2⟩
      · rintro ⟨n, a1, a2⟩
        exact ⟨n, by omega, (hL2 n (by omega)).mpr ⟨a1, a2⟩⟩
    rw [e2]
    by_cases e : q = nq
    · subst e
      rw [pk_uLs, hB_0]
      constructor
      · intro z; cases z
      · rintro ⟨n, a1, a2, -⟩
        have := hB_F_lt h1 (fun p hp => (h2 p hp).2.1) (n + 1) n (by omega) a1 q a2
        omega
    · rw [pk_uLn e]
      exact h3 q (by omega) t
  · intro v hv
    obtain ⟨a1, a2, a3⟩ := h4 v hv
    exact ⟨lvl_congr (fun c hc => va_up_ne _ _ (hne c (hJn v hv c hc))) (fun c hc => pk_uLn (hne c (hJn v hv c hc))) (fun c hc => pk_uLn (hne c (hJn v hv c hc))) a1, a2, cit_congr (fun c hc => va_up_ne _ _ (hne c (hJn v hv c hc))) (fun c hc => pk_uLn (hne c (hJn v hv c hc))) (fun c hc => pk_uLn (hne c (hJn v hv c hc))) a3⟩
  · intro v hv
    obtain ⟨a1, a2, a3, a4, a5, a6⟩ := h5 v hv
    exact ⟨a1, BeCh_congr _ (fun c hc => va_up_ne _ _ (hne c (hXn v hv c hc))) a2, AfCh_congr _ _ (fun c hc => va_up_ne _ _ (hne c (hXn v hv c hc))) a3, a4, fun c hc => ⟨by have := hXn v hv c hc; omega, by rw [va_up_ne _ _ (hne c (hXn v hv c hc))]; exact (a5 c hc).2⟩, a6⟩
  · intro c hc
    have e : c = nd := by simpa using hc
    subst e
    exact ⟨by omega, va_up_self _ _ _, va_up_self _ _ _, va_up_self _ _ _, pk_uLs, fun v a hv ha => hXn v hv a ha⟩
  · intro n hn hp
    by_cases e : n = nd
    · exact Or.inl (by simp [e])
    · rw [va_up_ne _ _ e] at hp
      rcases h8 n (by omega) hp with hc | hx
      · cases hc
      · exact Or.inr hx
/-- a node is laid behind those of its bracket -/
theorem base_add {n : Nat} (h : Base F L C J X [n] oF oL oE sp (d + 1) nx nd kd pa be af mi nq lf lq so) :
    Base F L C J (va_up X d (n :: X d)) [] oF oL oE sp (d + 1) nx nd kd pa (va_up be n (lq d)) (afA af (lq d) n) mi nq lf (va_up lq d (some n)) so := by
  obtain ⟨h1, h2, h3, h4, h5, h6, h7, h8⟩ := h
  obtain ⟨n1, n2, n3, n4, n5, n6⟩ := h7 n (by simp)
  obtain ⟨d1, d2, d3, d4, d5, d6⟩ := h5 d (by omega)
  have hlast : ∀ x, lq d = some x → x ∈ X d := fun x hx => by
    rw [d1] at hx
    exact List.mem_of_mem_head? (by rw [hx]; rfl)
  have hafN : ∀ c, (∀ x, lq d = some x → c ≠ x) → afA af (lq d) n c = af c := by
    intro c hc
    unfold afA
    cases e : lq d with
    | none => rfl
    | some x => exact va_up_ne _ _ (hc x e)
  have hroot : ∀ x, lq d = some x → pa x = none ∧ x < n ∧ x < nd := fun x hx => ⟨(d5 x (hlast x hx)).2, n6 d x (by omega) (hlast x hx), (d5 x (hlast x hx)).1⟩
  have t := tree_ch (be' := va_up be n (lq d)) (af' := afA af (lq d) n) (C' := C) h1 h2
    (fun m p hm hp => va_up_ne _ _ (fun e => by rw [e, n2] at hp; cases hp))
    (fun m p hm hp => hafN m (fun x hx e => by rw [e, (hroot x hx).1] at hp; cases hp)) (fun _ _ _ _ => rfl)
    (fun m x hm hx => by
      by_cases e : m = n
      · subst e
        rw [va_up_self] at hx
        have := hroot x hx
        exact ⟨this.2.1, by rw [this.1, n2]⟩
      · rw [va_up_ne _ _ e] at hx
        exact h1.2.2.2.1 m x hm hx)
    (fun m x hm hx => by
      unfold afA at hx
      cases e : lq d with
      | none => rw [e] at hx; exact h1.2.2.2.2.1 m x hm hx
      | some y =>
        rw [e] at hx
        dsimp only at hx
        by_cases e2 : m = y
        · subst e2
          rw [va_up_self] at hx
          have e3 := Option.some.inj hx
          subst e3
          have := hroot m e
          exact ⟨this.2.1, n1, by rw [this.1, n2]⟩
        · rw [va_up_ne _ _ e2] at hx
          exact h1.2.2.2.2.1 m x hm hx)
  refine ⟨t.1, t.2, h3, h4, ?_, ?_, fun c hc => absurd hc List.not_mem_nil, ?_⟩
  · intro v hv
    by_cases e : v = d
    · subst e
      rw [va_up_self, va_up_self]
      refine ⟨rfl, ⟨by rw [va_up_self]; exact d1, BeCh_congr _ (fun c hc => va_up_ne _ _ (fun e => by have := n6 v c (by omega) hc; omega)) d2⟩, ⟨?_, ?_⟩, List.pairwise_cons.mpr ⟨fun a ha => n6 v a (by omega) ha, d4⟩, ?_, ?_⟩
      · rw [hafN n (fun x hx e => by have := (hroot x hx).2.1; omega)]; exact n4
      · cases e : X v with
        | nil => trivial
        | cons y l =>
          rw [e] at d1 d3 d4
          have hy : lq v = some y := d1
          refine ⟨by unfold afA; rw [hy]; exact va_up_self _ _ _, AfCh_congr _ _ (fun c hc => hafN c (fun x hx e2 => ?_)) d3.2⟩
          rw [hy] at hx
          have e3 := Option.some.inj hx
          have := (List.pairwise_cons.mp d4).1 c hc
          omega
      · intro c hc
        rcases List.mem_cons.mp hc with rfl | hc
        · exact ⟨n1, n2⟩
        · exact d5 c hc
      · intro c hc; exact List.mem_cons_of_mem _ (d6 c hc)
    · obtain ⟨a1, a2, a3, a4, a5, a6⟩ := h5 v hv
      rw [va_up_ne _ _ e, va_up_ne _ _ e]
      refine ⟨a1, BeCh_congr _ (fun c hc => va_up_ne _ _ (fun e => by have := n6 v c hv hc; omega)) a2, AfCh_congr _ _ (fun c hc => hafN c (fun x hx e2 => ?_)) a3, a4, a5, a6⟩
      have := h6 v d c x (by omega) (by omega) hc (hlast x hx)
      omega
  · intro v w a b hvw hw ha hb
    rw [va_up_ne _ _ (by omega)] at ha
    by_cases e : w = d
    · subst e
      rw [va_up_self] at hb
      rcases List.mem_cons.mp hb with rfl | hb
      · exact n6 v a (by omega) ha
      · exact h6 v w a b hvw hw ha hb
    · rw [va_up_ne _ _ e] at hb
      exact h6 v w a b hvw hw ha hb
  · intro m hm hp
    rcases h8 m hm hp with hc | ⟨v, hv, hx⟩
    · have e : m = n := by simpa using hc
      subst e
      exact Or.inr ⟨d, by omega, by rw [va_up_self]; exact List.mem_cons_self⟩
    · by_cases e : v = d
      · subst e
        exact Or.inr ⟨v, hv, by rw [va_up_self]; exact List.mem_cons_of_mem _ hx⟩
      · exact Or.inr ⟨v, hv, by rw [va_up_ne _ _ e]; exact hx⟩
end OPS
