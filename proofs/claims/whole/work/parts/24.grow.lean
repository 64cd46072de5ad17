/-! A TREE GROWS: a node more, over roots that become its children; what the nodes bear stays -/
section GROW
variable {nd : Nat} {kd kd' : Nat → Int32} {pa pa' be be' af af' ch ch' : Nat → Option Nat} {mi mi' : Nat → Bool} {nq nq' : Nat} {lf lf' : Nat → Nat} {F F' L L' C C' : Nat → Int64} {ks : List Nat}
theorem al_ext {k : Int32} {p : Nat} (hch : ∀ n, n < nd → pa n = some p → ch' n = ch n ∧ mi' n = mi n) (hcl : ∀ n x, n < nd → pa n = some p → ch n = some x → x < nd ∧ pa x = some p) : ∀ (f : Nat) (o : Option Nat), (∀ x, o = some x → x < nd ∧ pa x = some p) → alB k ch' mi' f o = alB k ch mi f o
  | 0, o, _ => by rw [alB, alB]
  | f + 1, none, _ => by rw [alB, alB]
  | f + 1, some x, h => by
    have hx := h x rfl
    have hy := hch x hx.1 hx.2
    rw [alB, alB, hy.1, hy.2, al_ext hch hcl f (ch x) (fun y e => hcl x y hx.1 hx.2 e)]
theorem sb_ext {k : Int32} {p : Nat} (hch : ∀ n, n < nd → pa n = some p → af' n = af n ∧ mi' n = mi n) (hF : ∀ n, n < nd → F' n = F n) (hcl : ∀ n x, n < nd → pa n = some p → af n = some x → x < nd ∧ pa x = some p) : ∀ (f : Nat) (o : Option Nat) (r : Int64), (∀ x, o = some x → x < nd ∧ pa x = some p) → sbL k af' mi' F' f o r = sbL k af mi F f o r
  | 0, o, _, _ => by rw [sbL, sbL]
  | f + 1, none, _, _ => by rw [sbL, sbL]
  | f + 1, some x, r, h => by
    have hx := h x rfl
    have hy := hch x hx.1 hx.2
    rw [sbL, sbL, hy.1, hy.2, hF x hx.1, sb_ext hch hF hcl f (af x) _ (fun y e => hcl x y hx.1 hx.2 e)]
/-- what stays of a node that is complete -/
theorem NodeF_ext {nd2 p : Nat} (hp : p < nd) (h : NodeF nd kd pa ch mi nq lf F p) (hkd : kd' p = kd p) (hF : ∀ n, n < nd → F' n = F n) (hq : ∀ q, (q < nq' ∧ lf' q = p) ↔ (q < nq ∧ lf q = p)) (hpa : ∀ n, (n < nd2 ∧ pa' n = some p) ↔ (n < nd ∧ pa n = some p))
    (hch : ∀ n, n < nd → pa n = some p → ch' n = ch n ∧ mi' n = mi n) (hcl : ∀ n x, n < nd → pa n = some p → ch n = some x → x < nd ∧ pa x = some p) : NodeF nd2 kd' pa' ch' mi' nq' lf' F' p := by
  refine ⟨fun hk q => ?_, fun hk q => ?_⟩
  · rw [hF p hp, h.1 (by rw [← hkd]; exact hk) q]; exact (hq q).symm
  · rw [hF p hp, h.2 (by rw [← hkd]; exact hk) q, hkd]
    constructor
    · rintro ⟨n, h1, h2, h3, h4⟩
      have h5 := (hpa n).mpr ⟨h1, h2⟩
      refine ⟨n, h5.1, h5.2, ?_, by rw [hF n h1]; exact h4⟩
      rw [(hch n h1 h2).1, al_ext hch hcl 701 (ch n) (fun x e => hcl n x h1 h2 e)]
      exact h3
    · rintro ⟨n, h1, h2, h3, h4⟩
      have h5 := (hpa n).mp ⟨h1, h2⟩
      refine ⟨n, h5.1, h5.2, ?_, by rw [← hF n h5.1]; exact h4⟩
      rw [(hch n h5.1 h5.2).1, al_ext hch hcl 701 (ch n) (fun x e => hcl n x h5.1 h5.2 e)] at h3
      exact h3
theorem NodeC_ext {nd2 p : Nat} (h : NodeC nd kd pa af mi F C p) (hkd : kd' p = kd p) (hF : ∀ n, n < nd → F' n = F n) (hC : ∀ n, n < nd → pa n = some p → C' n = C n) (hpa : ∀ n, (n < nd2 ∧ pa' n = some p) ↔ (n < nd ∧ pa n = some p))
    (hch : ∀ n, n < nd → pa n = some p → af' n = af n ∧ mi' n = mi n) (hcl : ∀ n x, n < nd → pa n = some p → af n = some x → x < nd ∧ pa x = some p) : NodeC nd2 kd' pa' af' mi' F' C' p := by
  refine ⟨fun hk n h1 h2 => ?_, fun n h1 h2 t => ?_⟩
  · have h5 := (hpa n).mp ⟨h1, h2⟩
    exact h.1 (by rw [← hkd]; exact hk) n h5.1 h5.2
  · have h5 := (hpa n).mp ⟨h1, h2⟩
    rw [hC n h5.1 h5.2, h.2 n h5.1 h5.2 t, hkd, hF n h5.1, (hch n h5.1 h5.2).1, sb_ext hch hF hcl 701 (af n) 0 (fun x e => hcl n x h5.1 h5.2 e)]
/-- a node more, over the roots ks -/
theorem tree_up (hS : TreeS nd kd pa be af nq lf) (hN : ∀ p, p < nd → NodeF nd kd pa be mi nq lf F p ∧ NodeF nd kd pa af mi nq lf L p ∧ NodeC nd kd pa af mi F C p)
    (h7 : nd < 700) (hq60 : nq' ≤ 60) (hkd : ∀ n, n < nd → kd' n = kd n) (hpa : ∀ n, n < nd → pa' n = if n ∈ ks then some nd else pa n) (hpn : pa' nd = none) (hbe : ∀ n, n < nd → be' n = be n) (hbn : be' nd = none) (haf : ∀ n, n < nd → af' n = af n) (han : af' nd = none) (hmi : ∀ n, n < nd → mi' n = mi n) (hF : ∀ n, n < nd → F' n = F n) (hL : ∀ n, n < nd → L' n = L n) (hC : ∀ n p, n < nd → pa n = some p → C' n = C n)
    (hks : ∀ c, c ∈ ks → c < nd ∧ pa c = none) (hkb : ∀ n x, n < nd → be n = some x → (x ∈ ks ↔ n ∈ ks)) (hka : ∀ n x, n < nd → af n = some x → (x ∈ ks ↔ n ∈ ks))
    (hlq : ∀ q, q < nq' → lf' q < nd + 1 ∧ kd' (lf' q) = 0) (hlo : ∀ p, p < nd → ∀ q, (q < nq' ∧ lf' q = p) ↔ (q < nq ∧ lf q = p)) :
    TreeS (nd + 1) kd' pa' be' af' nq' lf' ∧ ∀ p, p < nd → NodeF (nd + 1) kd' pa' be' mi' nq' lf' F' p ∧ NodeF (nd + 1) kd' pa' af' mi' nq' lf' L' p ∧ NodeC (nd + 1) kd' pa' af' mi' F' C' p := by
  obtain ⟨-, -, s3, s4, s5, -⟩ := id hS
  have hnk : ∀ n p, n < nd → pa n = some p → n ∉ ks := fun n p _ h hk => by rw [(hks n hk).2] at h; cases h
  have hpaS : ∀ p, p < nd → ∀ n, (n < nd + 1 ∧ pa' n = some p) ↔ (n < nd ∧ pa n = some p) := by
    intro p hp n
    constructor
    · rintro ⟨h1, h2⟩
      by_cases e : n = nd
      · subst e; rw [hpn] at h2; cases h2
      · have hn : n < nd := by omega
        rw [hpa n hn] at h2
        by_cases hk : n ∈ ks
        · rw [if_pos hk] at h2
          have := Option.some.inj h2
          omega
        · rw [if_neg hk] at h2; exact ⟨hn, h2⟩
    · rintro ⟨h1, h2⟩
      exact ⟨by omega, by rw [hpa n h1, if_neg (hnk n p h1 h2)]; exact h2⟩
  refine ⟨⟨by omega, hq60, ?_, ?_, ?_, hlq⟩, ?_⟩
  · intro n p hn h
    by_cases e : n = nd
    · subst e; rw [hpn] at h; cases h
    · have hn : n < nd := by omega
      rw [hpa n hn] at h
      by_cases hk : n ∈ ks
      · rw [if_pos hk] at h
        have := Option.some.inj h
        omega
      · rw [if_neg hk] at h
        have := s3 n p hn h
        omega
  · intro n x hn h
    by_cases e : n = nd
    · subst e; rw [hbn] at h; cases h
    · have hn : n < nd := by omega
      rw [hbe n hn] at h
      have h1 := s4 n x hn h
      refine ⟨h1.1, ?_⟩
      rw [hpa n hn, hpa x (by omega)]
      by_cases hk : n ∈ ks
      · rw [if_pos hk, if_pos ((hkb n x hn h).mpr hk)]
      · rw [if_neg hk, if_neg (fun z => hk ((hkb n x hn h).mp z)), h1.2]
  · intro n x hn h
    by_cases e : n = nd
    · subst e; rw [han] at h; cases h
    · have hn : n < nd := by omega
      rw [haf n hn] at h
      have h1 := s5 n x hn h
      refine ⟨h1.1, by omega, ?_⟩
      rw [hpa n hn, hpa x h1.2.1]
      by_cases hk : n ∈ ks
      · rw [if_pos hk, if_pos ((hka n x hn h).mpr hk)]
      · rw [if_neg hk, if_neg (fun z => hk ((hka n x hn h).mp z)), h1.2.2]
  · intro p hp
    have hcb : ∀ n x, n < nd → pa n = some p → be n = some x → x < nd ∧ pa x = some p := fun n x h1 h2 h3 => by have := s4 n x h1 h3; exact ⟨by omega, by rw [this.2]; exact h2⟩
    have hca : ∀ n x, n < nd → pa n = some p → af n = some x → x < nd ∧ pa x = some p := fun n x h1 h2 h3 => by have := s5 n x h1 h3; exact ⟨this.2.1, by rw [this.2.2]; exact h2⟩
    exact ⟨NodeF_ext hp (hN p hp).1 (hkd p hp) hF (hlo p hp) (hpaS p hp) (fun n h1 _ => ⟨hbe n h1, hmi n h1⟩) hcb, NodeF_ext hp (hN p hp).2.1 (hkd p hp) hL (hlo p hp) (hpaS p hp) (fun n h1 _ => ⟨haf n h1, hmi n h1⟩) hca, NodeC_ext (hN p hp).2.2 (hkd p hp) hF (fun n h1 h2 => hC n p h1 h2) (hpaS p hp) (fun n h1 _ => ⟨haf n h1, hmi n h1⟩) hca⟩
/-- chains of roots change: what is complete stays -/
theorem tree_ch (hS : TreeS nd kd pa be af nq lf) (hN : ∀ p, p < nd → NodeF nd kd pa be mi nq lf F p ∧ NodeF nd kd pa af mi nq lf L p ∧ NodeC nd kd pa af mi F C p)
    (hbe : ∀ n p, n < nd → pa n = some p → be' n = be n) (haf : ∀ n p, n < nd → pa n = some p → af' n = af n) (hC : ∀ n p, n < nd → pa n = some p → C' n = C n)
    (sb' : ∀ n x, n < nd → be' n = some x → x < n ∧ pa x = pa n) (sa' : ∀ n x, n < nd → af' n = some x → n < x ∧ x < nd ∧ pa x = pa n) :
    TreeS nd kd pa be' af' nq lf ∧ ∀ p, p < nd → NodeF nd kd pa be' mi nq lf F p ∧ NodeF nd kd pa af' mi nq lf L p ∧ NodeC nd kd pa af' mi F C' p := by
  obtain ⟨s1, s2, s3, s4, s5, s6⟩ := id hS
  refine ⟨⟨s1, s2, s3, sb', sa', s6⟩, ?_⟩
  intro p hp
  have hcb : ∀ n x, n < nd → pa n = some p → be n = some x → x < nd ∧ pa x = some p := fun n x h1 h2 h3 => by have := s4 n x h1 h3; exact ⟨by omega, by rw [this.2]; exact h2⟩
  have hca : ∀ n x, n < nd → pa n = some p → af n = some x → x < nd ∧ pa x = some p := fun n x h1 h2 h3 => by have := s5 n x h1 h3; exact ⟨this.2.1, by rw [this.2.2]; exact h2⟩
  exact ⟨NodeF_ext hp (hN p hp).1 rfl (fun _ _ => rfl) (fun _ => Iff.rfl) (fun _ => Iff.rfl) (fun n h1 h2 => ⟨hbe n p h1 h2, rfl⟩) hcb, NodeF_ext hp (hN p hp).2.1 rfl (fun _ _ => rfl) (fun _ => Iff.rfl) (fun _ => Iff.rfl) (fun n h1 h2 => ⟨haf n p h1 h2, rfl⟩) hca, NodeC_ext (hN p hp).2.2 rfl (fun _ _ => rfl) (fun n h1 h2 => hC n p h1 h2) (fun _ => Iff.rfl) (fun n h1 h2 => ⟨haf n p h1 h2, rfl⟩) hca⟩
end GROW
/-! THE STATE OF A PARSE, class and reference side by side -/
def lvl (mi : Nat → Bool) (F L : Nat → Int64) (sep : Int32) (J : List Nat) (oF oL : Int64) (oE : Bool) : Prop :=
  (sep = 0 ∧ J = []) ∨ (sep = 124 ∧ oF = chF F J ∧ oL = chF L J ∧ oE = chE mi J) ∨ (sep = 44 ∧ oF = rwF mi F J ∧ oL = rwL mi L J ∧ oE = rwE mi J)
def soC (x : Int32) : Int32 := if x = 0 then -1 else if x = 124 then 1 else 2
def cit (mi : Nat → Bool) (F C : Nat → Int64) (sep : Int32) (J : List Nat) : Prop := ∀ n, n ∈ J → C n = if sep = 44 then cS mi F J n else 0
def Base (F L C : Nat → Int64) (J X : Nat → List Nat) (lo : List Nat) (oF oL : Nat → Int64) (oE : Nat → Bool) (sp : Nat → Int32) (dp : Nat) (nx : Nat → Int64) (nd : Nat) (kd : Nat → Int32) (pa be af : Nat → Option Nat) (mi : Nat → Bool) (nq : Nat) (lf : Nat → Nat) (lq : Nat → Option Nat) (so : Nat → Int32) : Prop :=
  TreeS nd kd pa be af nq lf ∧
  (∀ p, p < nd → NodeF nd kd pa be mi nq lf F p ∧ NodeF nd kd pa af mi nq lf L p ∧ NodeC nd kd pa af mi F C p) ∧
  (∀ q, q < nq → ∀ t, hB (nx q) t = true ↔ ∃ n, n < nd ∧ hB (L n) q = true ∧ hB (C n) t = true) ∧
  (∀ v, v < dp → lvl mi F L (sp v) (J v) (oF v) (oL v) (oE v) ∧ so v = soC (sp v) ∧ cit mi F C (sp v) (J v)) ∧
  (∀ v, v < dp → lq v = (X v).head? ∧ BeCh be (X v) ∧ AfCh af (X v) none ∧ (X v).Pairwise (· > ·) ∧ (∀ c, c ∈ X v → c < nd ∧ pa c = none) ∧ (∀ c, c ∈ J v → c ∈ X v)) ∧
  (∀ v w a b, v < w → w < dp → a ∈ X v → b ∈ X w → a < b) ∧
  (∀ c, c ∈ lo → c < nd ∧ pa c = none ∧ be c = none ∧ af c = none ∧ C c = 0 ∧ ∀ v a, v < dp → a ∈ X v → a < c) ∧
  (∀ n, n < nd → pa n = none → n ∈ lo ∨ ∃ v, v < dp ∧ n ∈ X v)
section BASE
variable {mi mi' : Nat → Bool} {F F' L L' C C' : Nat → Int64}
theorem lvl_congr {sep : Int32} {J : List Nat} {oF oL : Int64} {oE : Bool} (hm : ∀ c, c ∈ J → mi' c = mi c) (hF : ∀ c, c ∈ J → F' c = F c) (hL : ∀ c, c ∈ J → L' c = L c) (h : lvl mi F L sep J oF oL oE) : lvl mi' F' L' sep J oF oL oE := by
  rcases h with h | ⟨h1, h2, h3, h4⟩ | ⟨h1, h2, h3, h4⟩
  · exact Or.inl h
  · exact Or.inr (Or.inl ⟨h1, by rw [h2, chF_congr J hF], by rw [h3, chF_congr J hL], by rw [h4, chE_congr J hm]⟩)
  · exact Or.inr (Or.inr ⟨h1, by rw [h2, rwF_congr J hm hF], by rw [h3, rwL_congr J hm hL], by rw [h4, rwE_congr J hm]⟩)
theorem cit_congr {sep : Int32} {J : List Nat} (hm : ∀ c, c ∈ J → mi' c = mi c) (hF : ∀ c, c ∈ J → F' c = F c) (hC : ∀ c, c ∈ J → C' c = C c) (h : cit mi F C sep J) : cit mi' F' C' sep J := by
  intro n hn
  rw [hC n hn, h n hn, cS_congr J hm hF n]
end BASE
