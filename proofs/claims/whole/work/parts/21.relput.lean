/-! put: the class's bytes and the reference's numbers -/
theorem sar_bit {a : Int64} {i p : Nat} (h : i + p < 64) : hB (a >>> ((nI i).toInt64 &&& 63)) p = hB a (i + p) := by
  have e1 : (a >>> ((nI i).toInt64 &&& 63)).toBitVec = a.toBitVec.sshiftRight i := by
    rw [wb_c i (by omega), Int64.toBitVec_shiftRight, wb_tb]
    rw [BitVec.sshiftRight_eq', wb_sm i (by omega)]
    rw [BitVec.toNat_ofNat, Nat.mod_eq_of_lt (by omega)]
  unfold hB
  rw [e1, BitVec.getLsbD_sshiftRight, if_pos h]
  have : ¬ 64 ≤ p := by omega
  simp [this]
theorem hB_lN {n p : Nat} (hp : p < 64) : hB (lN n) p = n.testBit p := by
  unfold hB
  rw [wb_tb, BitVec.getLsbD_ofNat, decide_eq_true hp, Bool.true_and]
theorem byte_nI (W : Nat) : (nI W).toInt8 = (nI (W % 256)).toInt8 := by
  apply Int8.toBitVec_inj.mp
  show (BitVec.ofNat 32 W).signExtend 8 = (BitVec.ofNat 32 (W % 256)).signExtend 8
  rw [BitVec.signExtend_eq_setWidth_of_le _ (by decide), BitVec.signExtend_eq_setWidth_of_le _ (by decide)]
  apply BitVec.eq_of_toNat_eq
  rw [BitVec.toNat_setWidth, BitVec.toNat_setWidth, BitVec.toNat_ofNat, BitVec.toNat_ofNat]
  omega
theorem byteR_eq {V n k : Nat} (hk : k < n) (hn : n ≤ 8) : byteR (lN V) n k = nI (V / 2 ^ (8 * (n - 1 - k)) % 256) := by
  have e1 : nI n - 1 - nI k = nI (n - 1 - k) := by
    have h1 : nI n - 1 = nI (n - 1) := pk_sub (a := n) (b := 1) (by omega)
    rw [h1, pk_sub (by omega)]
  have e2 : (8 : Int32) * nI (n - 1 - k) = nI (8 * (n - 1 - k)) := pk_mul 8 (n - 1 - k)
  generalize hj : n - 1 - k = j at e1 e2 ⊢
  have hj7 : j ≤ 7 := by omega
  have e3 : (lN V >>> ((nI (8 * j)).toInt64 &&& 63)) &&& 255 = lN (V / 2 ^ (8 * j) % 256) := by
    apply hB_ext
    intro p hp
    have h255 : hB 255 p = decide (p < 8) := by
      have : (255 : Int64) = lN (2 ^ 8 - 1) := rfl
      rw [this, hB_lN hp, Nat.testBit_two_pow_sub_one]
    have e256 : (256 : Nat) = 2 ^ 8 := rfl
    rw [hB_and, h255, hB_lN hp, e256, Nat.testBit_mod_two_pow]
    by_cases h8 : p < 8
    · rw [sar_bit (by omega), hB_lN (by omega), decide_eq_true h8, Bool.and_true, Bool.true_and, Nat.testBit_div_two_pow, Nat.add_comm]
    · rw [decide_eq_false h8, Bool.and_false, Bool.false_and]
  rw [byteR, e1, e2, e3, lN_i]
theorem byteOf_eq {V j : Nat} (hV : V < 2 ^ 64) (hj : j < 8) : (byteOf (lN V) j).toInt8.toInt32 = (nI (V / 2 ^ (8 * j) % 256)).toInt8.toInt32 := by
  have e2 : (8 : Int32) * nI j = nI (8 * j) := pk_mul 8 j
  have e3 : (nI (V / 2 ^ (8 * j))).toInt8.toInt32.toInt8.toInt32 = (nI (V / 2 ^ (8 * j))).toInt8.toInt32 := by
    have := pk_vb (nI (V / 2 ^ (8 * j)))
    rw [vp_nar_byte] at this
    exact this
  rw [byteOf, e2, wb_shr hV (by omega), lN_i, e3, byte_nI]
theorem ptL_at (v : Int64) : ∀ (n ln : Nat) (tx : Nat → Int32) (m : Nat), ptL v n ln tx m = if ln ≤ m ∧ m < ln + n then (byteOf v (n - 1 - (m - ln))).toInt8.toInt32 else tx m
  | 0, ln, tx, m => by rw [ptL, if_neg (by omega)]
  | n + 1, ln, tx, m => by
    rw [ptL, ptL_at v n (ln + 1)]
    by_cases h1 : ln + 1 ≤ m ∧ m < ln + 1 + n
    · rw [if_pos h1, if_pos (by omega)]
      have : n - 1 - (m - (ln + 1)) = n + 1 - 1 - (m - ln) := by omega
      rw [this]
    · rw [if_neg h1]
      by_cases h2 : m = ln
      · subst h2
        rw [if_pos (by omega), pk_us]
        have : n + 1 - 1 - (m - m) = n := by omega
        rw [this]
      · rw [if_neg (by omega), pk_un h2]
theorem ptR_at (v : Int64) (sz n : Nat) : ∀ (j k : Nat) (tx : Nat → Int32) (m : Nat), ptR v sz n j k tx m = if sz + k ≤ m ∧ m < sz + k + j then byteR v n (m - sz) else tx m
  | 0, k, tx, m => by rw [ptR, if_neg (by omega)]
  | j + 1, k, tx, m => by
    rw [ptR, ptR_at v sz n j (k + 1)]
    by_cases h1 : sz + (k + 1) ≤ m ∧ m < sz + (k + 1) + j
    · rw [if_pos h1, if_pos (by omega)]
    · rw [if_neg h1]
      by_cases h2 : m = sz + k
      · subst h2
        rw [if_pos (by omega), pk_us]
        have : sz + k - sz = k := by omega
        rw [this]
      · rw [if_neg (by omega), pk_un h2]
theorem rel_put {nb : Nat} {tx ty : Nat → Int32} {ln sz : Nat} {rd nw : Int64} {wh im : Bool} {cm : Nat} {M : MS} {T : TS} (h : Rel nb tx ln rd wh cm M ty sz im nw T) (v : Int64) (x : Int32) : (d_put tx ln v x).2.2 = (e_put ty sz v x).2.2 ∧ Rel nb (d_put tx ln v x).1 (d_put tx ln v x).2.1 rd wh cm M (e_put ty sz v x).1 (e_put ty sz v x).2.1 im nw T := by
  have h0 := h
  obtain ⟨⟨rfl, h300, ht⟩, hM, hR⟩ := h
  unfold d_put e_put
  by_cases c1 : x < 1
  · rw [if_pos c1, if_pos c1]; exact ⟨rfl, h0⟩
  rw [if_neg c1, if_neg c1]
  by_cases c2 : 8 < x
  · rw [if_pos c2, if_pos c2]; exact ⟨rfl, h0⟩
  rw [if_neg c2, if_neg c2]
  obtain ⟨n, hn1, hn8, rfl⟩ := p_count c1 c2
  rw [nI_clamp (by omega)]
  by_cases c3 : 300 < ln + n
  · rw [if_pos c3, if_pos c3]; exact ⟨rfl, h0⟩
  rw [if_neg c3, if_neg c3]
  refine ⟨rfl, ⟨rfl, by show ln + n ≤ 300; omega, ?_⟩, hM, hR⟩
  intro m hm
  have hm : m < ln + n := hm
  show ∃ c : Nat, c < 256 ∧ ptR v ln n n 0 ty m = nI c ∧ ptL v n ln tx m = (nI c).toInt8.toInt32
  rw [ptR_at, ptL_at]
  by_cases hl : ln ≤ m
  · rw [if_pos (by omega), if_pos (by omega)]
    obtain ⟨V, hV, rfl⟩ := wb_of v
    refine ⟨V / 2 ^ (8 * (n - 1 - (m - ln))) % 256, Nat.mod_lt _ (by decide), byteR_eq (by omega) hn8, byteOf_eq hV (by omega)⟩
  · rw [if_neg (by omega), if_neg (by omega)]
    exact ht m (by omega)
