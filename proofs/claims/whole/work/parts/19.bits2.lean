/-! BITS: sets of places as bits of a long, sets of names as bits of an int -/
theorem hB_or (a b : Int64) (p : Nat) : hB (a ||| b) p = (hB a p || hB b p) := by simp [hB]
theorem hB_and (a b : Int64) (p : Nat) : hB (a &&& b) p = (hB a p && hB b p) := by simp [hB]
theorem hB_0 (p : Nat) : hB 0 p = false := by simp [hB]
theorem hB_big {a : Int64} {p : Nat} (h : 64 ≤ p) : hB a p = false := by
  unfold hB
  exact BitVec.getLsbD_of_ge _ _ h
theorem hB_ext {a b : Int64} (h : ∀ p, p < 64 → hB a p = hB b p) : a = b := by
  apply Int64.toBitVec_inj.mp
  apply BitVec.eq_of_getLsbD_eq
  intro i hi
  exact h i hi
theorem hB_one {i : Nat} (hi : i < 64) (p : Nat) : hB ((1 : Int64) <<< ((nI i).toInt64 &&& 63)) p = decide (p = i) := by
  have e : (1 : Int64) <<< ((nI i).toInt64 &&& 63) = lN (2 ^ i) := by
    have h := wb_shl 1 hi
    rw [Nat.one_mul] at h
    exact h
  rw [e]
  unfold hB
  rw [wb_tb, BitVec.getLsbD_ofNat, Nat.testBit_two_pow]
  by_cases hp : p < 64
  · rw [decide_eq_true hp, Bool.true_and, decide_eq_decide]
    exact eq_comm
  · rw [decide_eq_false hp, Bool.false_and]
    exact (decide_eq_false (by omega)).symm
theorem cnL_eq (a b : Int64) : ∀ (n i : Nat) (nx : Nat → Int64) (p : Nat), cnL a b n i nx p = if i ≤ p ∧ p < i + n ∧ hB a p = true then nx p ||| b else nx p
  | 0, i, nx, p => by
    rw [cnL, if_neg (by omega)]
  | n + 1, i, nx, p => by
    rw [cnL, cnL_eq a b n (i + 1)]
    by_cases hip : p = i
    · subst hip
      rw [if_neg (by omega)]
      by_cases ha : hB a p = true
      · rw [if_pos ha, if_pos ⟨Nat.le_refl _, by omega, ha⟩]
        simp [vp_updL]
      · rw [if_neg ha, if_neg (fun z => ha z.2.2)]
    · have e : (if hB a i = true then vp_updL nx i (nx i ||| b) else nx) p = nx p := by
        split
        · simp [vp_updL, hip]
        · rfl
      rw [e]
      by_cases hc : i + 1 ≤ p ∧ p < i + 1 + n ∧ hB a p = true
      · rw [if_pos hc, if_pos ⟨by omega, by omega, hc.2.2⟩]
      · rw [if_neg hc, if_neg (fun z => hc ⟨by omega, by omega, z.2.2⟩)]
