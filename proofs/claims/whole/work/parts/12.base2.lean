/-! BASE 2: arrays of pointers (-1 is none) and of counted numbers; bits by >> -/
/-- a pointer as the machine has it -/
def pI (o : Option Nat) : Int32 := match o with
  | none => -1
  | some n => nI n
theorem hB_sr (a : Int64) {i : Nat} (hi : i < 64) : ((a >>> ((nI i).toInt64 &&& 63)) &&& 1) = 1 ↔ hB a i = true := by
  have e1 : (a >>> ((nI i).toInt64 &&& 63)).toBitVec = a.toBitVec.sshiftRight i := by
    rw [wb_c i hi, Int64.toBitVec_shiftRight, wb_tb]
    rw [BitVec.sshiftRight_eq', wb_sm i hi]
    rw [BitVec.toNat_ofNat, Nat.mod_eq_of_lt (by omega)]
  have e2 : ((a >>> ((nI i).toInt64 &&& 63)) &&& 1).toBitVec = a.toBitVec.sshiftRight i &&& 1#64 := by
    rw [Int64.toBitVec_and, e1]; rfl
  have e3 : (a.toBitVec.sshiftRight i).getLsbD 0 = hB a i := by
    rw [BitVec.getLsbD_sshiftRight]
    simp [hB, hi]
  constructor
  · intro h
    have h1 := congrArg (fun z => z.toBitVec.getLsbD 0) h
    simp only [e2, BitVec.getLsbD_and, e3] at h1
    simpa using h1
  · intro h
    apply Int64.toBitVec_inj.mp
    rw [e2]
    apply BitVec.eq_of_getLsbD_eq
    intro j hj
    rw [BitVec.getLsbD_and]
    by_cases h0 : j = 0
    · subst h0
      rw [e3, h]
      rfl
    · have : (1#64).getLsbD j = false := by
        rw [BitVec.getLsbD_one]; simp [h0]
      have e4 : (1 : Int64).toBitVec = 1#64 := rfl
      rw [this, e4, this]
      simp
section CTP
variable {p : Program} {l : Launch} {e : Env} {R : Room} {s : State} {m : MethodId} {args : Array Value} {below : List Frame} {meth : Method} {c : Code} {H : Heap} {locs : List Loc} {cells slots : Nat} {Q : State → Prop}
variable {cc : ByteArray} {pc : Nat} {ls : Array Slot} {rest : List Value} {D : va_G} {cl : List vw_C} {A : Nat → Prop} {tys : List (ClassId × FieldType)} {H0 : Heap}
theorem pI_up (g : Nat → Option Nat) (i : Nat) (x : Option Nat) : upd (fun j => pI (g j)) i (pI x) = fun j => pI (va_up g i x j) := by
  funext j
  unfold upd va_up
  by_cases h : j = i <;> simp [h]
theorem nI_up (g : Nat → Nat) (i x : Nat) : upd (fun j => nI (g j)) i (nI x) = fun j => nI (va_up g i x j) := by
  funext j
  unfold upd va_up
  by_cases h : j = i <;> simp [h]
theorem wx_pald {ws : va_W} {a : Nat} (hexec : p.tables.exec = Jvm.exec) (hb : c.code = cc) (hK : va_K D cl tys s) (hP : va_P D cl ws H) (q0 t0 : Nat) {cA : ClassId} {n : Nat} {g : Nat → Option Nat} (ha : ws[q0]? = some (a, .inl (cA, n, .inl (fun j => pI (g j))))) (ht : tys[t0]? = some (cA, .int)) {i : Nat} (hi : i < n) (hn : n < 2 ^ 31) (hdg : decode cc pc = .ok (.iaload, 1))
    (kk : W p l e R s m args below meth c H locs cells slots Q (F0 m (pc + 1) ls (.int (pI (g i)) :: rest))) : W p l e R s m args below meth c H locs cells slots Q (F0 m pc ls (.int (nI i) :: .ref a :: rest)) :=
  wx_iald hexec hb hK hP q0 t0 ha ht hi hn hdg kk
theorem wx_past {ws : va_W} {a : Nat} (hexec : p.tables.exec = Jvm.exec) (hb : c.code = cc) (hK : va_K D cl tys s) (hP : va_P D cl ws H) (hD : va_D A ws) (hS : va_S A H0 H locs) (q0 t0 : Nat) {cA : ClassId} {n : Nat} {g : Nat → Option Nat} (ha : ws[q0]? = some (a, .inl (cA, n, .inl (fun j => pI (g j))))) (ht : tys[t0]? = some (cA, .int)) {i : Nat} {x : Option Nat} (hi : i < n) (hn : n < 2 ^ 31) (hdg : decode cc pc = .ok (.iastore, 1))
    (kk : ∀ (H1 : Heap) (locs1 : List Loc), va_P D cl (ws.set q0 (a, .inl (cA, n, .inl (fun j => pI (va_up g i x j))))) H1 → va_D A (ws.set q0 (a, .inl (cA, n, .inl (fun j => pI (va_up g i x j))))) → va_S A H0 H1 locs1 → W p l e R s m args below meth c H1 locs1 cells slots Q (F0 m (pc + 1) ls rest)) : W p l e R s m args below meth c H locs cells slots Q (F0 m pc ls (.int (pI x) :: .int (nI i) :: .ref a :: rest)) :=
  wx_iast hexec hb hK hP hD hS q0 t0 ha ht hi hn hdg (by rw [pI_up]; exact kk)
theorem wx_nald {ws : va_W} {a : Nat} (hexec : p.tables.exec = Jvm.exec) (hb : c.code = cc) (hK : va_K D cl tys s) (hP : va_P D cl ws H) (q0 t0 : Nat) {cA : ClassId} {n : Nat} {g : Nat → Nat} (ha : ws[q0]? = some (a, .inl (cA, n, .inl (fun j => nI (g j))))) (ht : tys[t0]? = some (cA, .int)) {i : Nat} (hi : i < n) (hn : n < 2 ^ 31) (hdg : decode cc pc = .ok (.iaload, 1))
    (kk : W p l e R s m args below meth c H locs cells slots Q (F0 m (pc + 1) ls (.int (nI (g i)) :: rest))) : W p l e R s m args below meth c H locs cells slots Q (F0 m pc ls (.int (nI i) :: .ref a :: rest)) :=
  wx_iald hexec hb hK hP q0 t0 ha ht hi hn hdg kk
theorem wx_nast {ws : va_W} {a : Nat} (hexec : p.tables.exec = Jvm.exec) (hb : c.code = cc) (hK : va_K D cl tys s) (hP : va_P D cl ws H) (hD : va_D A ws) (hS : va_S A H0 H locs) (q0 t0 : Nat) {cA : ClassId} {n : Nat} {g : Nat → Nat} (ha : ws[q0]? = some (a, .inl (cA, n, .inl (fun j => nI (g j))))) (ht : tys[t0]? = some (cA, .int)) {i x : Nat} (hi : i < n) (hn : n < 2 ^ 31) (hdg : decode cc pc = .ok (.iastore, 1))
    (kk : ∀ (H1 : Heap) (locs1 : List Loc), va_P D cl (ws.set q0 (a, .inl (cA, n, .inl (fun j => nI (va_up g i x j))))) H1 → va_D A (ws.set q0 (a, .inl (cA, n, .inl (fun j => nI (va_up g i x j))))) → va_S A H0 H1 locs1 → W p l e R s m args below meth c H1 locs1 cells slots Q (F0 m (pc + 1) ls rest)) : W p l e R s m args below meth c H locs cells slots Q (F0 m pc ls (.int (nI x) :: .int (nI i) :: .ref a :: rest)) :=
  wx_iast hexec hb hK hP hD hS q0 t0 ha ht hi hn hdg (by rw [nI_up]; exact kk)
end CTP
