/-! THE LAW -/
theorem law_le {L i : Nat} (hL : L < 2 ^ 30) (hi : i < 2 ^ 30) (h : ¬ nI L - 4 < nI i) : i + 4 ≤ L := by
  have h1 : ¬ (nI L - nI 4).toInt < (nI i).toInt := fun z => h (Int32.lt_iff_toInt_lt.mpr z)
  rw [pk_sub_toInt hL (by omega), nI_toInt (by omega)] at h1
  omega
section LWX
variable {p : Program} {l : Launch} {e : Env} {R : Room} {s : State} {m : MethodId} {args : Array Value} {below : List Frame} {meth : Method} {c : Code} {H : Heap} {locs : List Loc} {cells slots : Nat} {Q : State → Prop}
variable {cc : ByteArray} {pc : Nat} {ls : Array Slot} {rest : List Value} {A : Nat → Prop} {H0 : Heap}
theorem wx_sld (hexec : p.tables.exec = Jvm.exec) (hb : c.code = cc) {b L : Nat} {xs : Nat → Int32} (hX : va_X b L xs s H0) (hbl : b < H0.size) (hbA : ¬ A b) (hS : va_S A H0 H locs) {j : Nat} (hj : j < L) (hL : L < 2 ^ 31) (hdg : decode cc pc = .ok (.iaload, 1))
    (kk : W p l e R s m args below meth c H locs cells slots Q (F0 m (pc + 1) ls (.int (xs j) :: rest))) : W p l e R s m args below meth c H locs cells slots Q (F0 m pc ls (.int (nI j) :: .ref b :: rest)) :=
  va_sld hexec hb hX hbl hbA hS (vp_in_nI hj hL) hdg (by rw [nI_clamp (Nat.lt_trans hj hL)]; exact kk)
end LWX
set_option maxHeartbeats 8000000 in
set_option maxRecDepth 100000 in
/-- THE LAW'S LOOP: at its head the desk and the reference are related -/
theorem law_loop {p : Program} {l : Launch} {e : Env} {s : State} {m : MethodId} {below : List Frame} {meth : Method} {c : Code} {D : va_G} {b L : Nat} {xs : Nat → Int32} {h h2 : Nat → Nat} {k k2 : Nat → ClassId} (hL : L ≤ 2048) (C0 : lw_At p s m meth c b L xs) (hK : va_K D vwCl (tyD k ++ tyM k2) s) :
    ∀ (n i nb : Nat) (tx : Nat → Int32) (ln : Nat) (rd : Int64) (wh : Bool) (cm : Nat) (R : RS) (nm : Nat → Int32) (nx : Nat → Int64) (np : Nat) (fi : Int64) (la : Int64) (em : Bool) (ty : Nat → Int32) (sz : Nat) (im : Bool) (nw : Int64) (nd : Nat) (kd : Nat → Int32) (pa : Nat → Option Nat) (be : Nat → Option Nat) (af : Nat → Option Nat) (mi : Nat → Bool) (nq : Nat) (lf : Nat → Nat) (nr : Nat → Int32) (dq : Nat) (lq : Nat → Option Nat) (so : Nat → Int32) (ro : Nat), L ≤ i + 4 * n → i ≤ L + 4 → Rel nb tx ln rd wh cm (nm, nx, np, fi, la, em) ty sz im nw (nd, kd, pa, be, af, mi, nq, lf, nr, dq, lq, so, ro) → 4 * cm ≤ i → ∀ (H : Heap) (locs : List Loc), va_P D vwCl (wD h k tx ln rd wh cm R (nm, nx, np, fi, la, em) ++ wM h2 k2 ty sz im cm nw (nd, kd, pa, be, af, mi, nq, lf, nr, dq, lq, so, ro)) H → va_D (fun q : Nat => s.heap.size ≤ q) (wD h k tx ln rd wh cm R (nm, nx, np, fi, la, em) ++ wM h2 k2 ty sz im cm nw (nd, kd, pa, be, af, mi, nq, lf, nr, dq, lq, so, ro)) → va_S (fun q : Nat => s.heap.size ≤ q) s.heap H locs → ∀ ls : Array Slot, lv_has ls 4 [(3, .int (nI i)), (2, .ref (h2 0)), (1, .ref (h 0)), (0, .ref b)] →
      W p l e room_1 s m #[Value.ref b] below meth c H locs 21 4453 (lw_Z below #[Value.ref b] s) (F0 m 18 ls []) := by
  obtain ⟨hx, hb, hr, hml, hown, hts, hX, hbl, hlocks, hgv⟩ := C0
  have htg : ∀ w ∈ tbG, w.before #[Value.ref b] s = true := fun w hw => hts w (lw_sub w hw)
  have hA : ∀ q : Nat, s.heap.size ≤ q → (fun q : Nat => s.heap.size ≤ q) q := fun _ h => h
  have hbA : ¬ (fun q : Nat => s.heap.size ≤ q) b := Nat.not_le.mpr hbl
  generalize hAe : (fun q : Nat => s.heap.size ≤ q) = A at hA hbA ⊢
  intro n
  induction n with
  | zero =>
    intro i nb tx ln rd wh cm R nm nx np fi la em ty sz im nw nd kd pa be af mi nq lf nr dq lq so ro hn hi hR hc H locs hP hD hS ls hl
    refine lv_iload_n hx hb dL_law_18 rfl (lv_at hl 0 rfl) ?_
    refine lv_aload_n hx hb dL_law_19 rfl (lv_at hl 3 rfl) ?_
    refine va_slen hx hb hX hbl hbA hS dL_law_20 ?_
    refine lv_iconst (v := 4) hx hb dL_law_21 (by decide) ?_
    refine lv_isub hx hb dL_law_22 ?_
    refine lv_icmp_gt (tgt := 358) hx hb dL_law_23 (by decide) (fun c_23 => ?_) (fun c_23 => ?_)
    · refine lv_iconst (v := 1) hx hb dL_law_358 (by decide) ?_
      refine va_forget (fun q hq => by have := hS.2.2 q hq; rw [← hAe] at this; exact this) ?_
      exact lw_ret hx hb hr hlocks dL_law_359
    · exact absurd (law_le (by omega) (by omega) c_23) (by omega)
  | succ n ih =>
    intro i nb tx ln rd wh cm R nm nx np fi la em ty sz im nw nd kd pa be af mi nq lf nr dq lq so ro hn hi hR hc H locs hP hD hS ls hl
    refine lv_iload_n hx hb dL_law_18 rfl (lv_at hl 0 rfl) ?_
    refine lv_aload_n hx hb dL_law_19 rfl (lv_at hl 3 rfl) ?_
    refine va_slen hx hb hX hbl hbA hS dL_law_20 ?_
    refine lv_iconst (v := 4) hx hb dL_law_21 (by decide) ?_
    refine lv_isub hx hb dL_law_22 ?_
    refine lv_icmp_gt (tgt := 358) hx hb dL_law_23 (by decide) (fun c_23 => ?_) (fun c_23 => ?_)
    · refine lv_iconst (v := 1) hx hb dL_law_358 (by decide) ?_
      refine va_forget (fun q hq => by have := hS.2.2 q hq; rw [← hAe] at this; exact this) ?_
      exact lw_ret hx hb hr hlocks dL_law_359
    · have hi4 := law_le (by omega) (by omega) c_23
      obtain ⟨hln, hnp, hsz, hnq, hok, hro⟩ := rel_bounds hR
      have hcm : cm ≤ 600 := by omega
      refine lv_aload_n hx hb dL_law_26 rfl (lv_at hl 3 rfl) ?_
      refine lv_iload_n hx hb dL_law_27 rfl (lv_at hl 0 rfl) ?_
      refine wx_sld hx hb hX hbl hbA hS (j := i) (by omega) (by omega) dL_law_28 ?_
      refine lv_bipush (v := 15) hx hb dL_law_29 (by decide) ?_
      refine lv_iand hx hb dL_law_31 ?_
      obtain ⟨j, hj, ej⟩ := pk_andE (xs i) (m := 15) 4 (by decide)
      refine lv_eqi ej ?_
      rcases (show j = 0 ∨ j = 1 ∨ j = 2 ∨ j = 3 ∨ j = 4 ∨ j = 5 ∨ j = 6 ∨ j = 7 ∨ j = 8 ∨ j = 9 ∨ j = 10 ∨ j = 11 ∨ j = 12 ∨ j = 13 ∨ j = 14 ∨ j = 15 by omega) with rfl | rfl | rfl | rfl | rfl | rfl | rfl | rfl | rfl | rfl | rfl | rfl | rfl | rfl | rfl | rfl
      · refine lv_tableIn (off := 68) (tgt := 100) hx hb dL_law_32 (by decide) (by decide) (by decide) (by decide) ?_
        refine lv_aload_n hx hb dL_law_100 rfl (lv_at hl 2 rfl) ?_
        refine lv_aload_n hx hb dL_law_101 rfl (lv_at hl 3 rfl) ?_
        refine lv_iload_n hx hb dL_law_102 rfl (lv_at hl 0 rfl) ?_
        refine lv_iconst (v := 1) hx hb dL_law_103 (by decide) ?_
        refine lv_iadd hx hb dL_law_104 ?_
        refine lv_eqi (show nI i + nI 1 = nI (i + 1) from nI_add _ _) ?_
        refine wx_sld hx hb hX hbl hbA hS (j := (i + 1)) (by omega) (by omega) dL_law_105 ?_
        refine lv_i2l (v := (xs (i + 1)).toInt64) hx hb dL_law_106 rfl ?_
        refine lv_bipush (v := 32) hx hb dL_law_107 (by decide) ?_
        refine lv_lshl (v := ((xs (i + 1)).toInt64 <<< ((32 : Int32).toInt64 &&& 63))) hx hb dL_law_109 rfl ?_
        refine lv_aload_n hx hb dL_law_110 rfl (lv_at hl 3 rfl) ?_
        refine lv_iload_n hx hb dL_law_111 rfl (lv_at hl 0 rfl) ?_
        refine lv_iconst (v := 2) hx hb dL_law_112 (by decide) ?_
        refine lv_iadd hx hb dL_law_113 ?_
        refine lv_eqi (show nI i + nI 2 = nI (i + 2) from nI_add _ _) ?_
        refine wx_sld hx hb hX hbl hbA hS (j := (i + 2)) (by omega) (by omega) dL_law_114 ?_
        refine lv_i2l (v := (xs (i + 2)).toInt64) hx hb dL_law_115 rfl ?_
        refine lv_ldc2 (v := 4294967295) hx hb hown (htg _ t_451) dL_law_116 ?_
        refine lv_land hx hb dL_law_119 ?_
        refine lv_lor hx hb dL_law_120 ?_
        refine lv_aload_n hx hb dL_law_121 rfl (lv_at hl 3 rfl) ?_
        refine lv_iload_n hx hb dL_law_122 rfl (lv_at hl 0 rfl) ?_
        refine lv_iconst (v := 3) hx hb dL_law_123 (by decide) ?_
        refine lv_iadd hx hb dL_law_124 ?_
        refine lv_eqi (show nI i + nI 3 = nI (i + 3) from nI_add _ _) ?_
        refine wx_sld hx hb hX hbl hbA hS (j := (i + 3)) (by omega) (by omega) dL_law_125 ?_
        refine ct_callVs (As := [.long (((xs (i + 1)).toInt64 <<< ((32 : Int32).toInt64 &&& 63)) ||| ((xs (i + 2)).toInt64 &&& 4294967295)), .int (xs (i + 3))]) (rest := []) (wr := wM h2 k2 ty sz im cm nw (nd, kd, pa, be, af, mi, nq, lf, nr, dq, lq, so, ro)) ⟨hx, hb, hml, hown, htg⟩ (k_D_put l D h k tx ln rd wh cm R (nm, nx, np, fi, la, em) (((xs (i + 1)).toInt64 <<< ((32 : Int32).toInt64 &&& 63)) ||| ((xs (i + 2)).toInt64 &&& 4294967295)) (xs (i + 3)) hln) (cwV 2 htg (gV (fun _ z9 => z9) t_134 t_135 t_136 t_23 t_137) rfl rfl rfl (by decide +kernel) ⟨Nat.le_of_ble_eq_true rfl, Nat.le_of_ble_eq_true rfl⟩) 0 rfl rfl hK hP hD hS hA [0, 1, 2, 3, 4, 5, 6, 7, 8, 9] [10, 11, 12, 13, 14, 15, 16, 17, 18, 19, 20] [0, 1, 2, 3, 4, 5, 6] rfl rfl (by decide) (by decide) (by decide) rfl rfl hl.1 rfl (Nat.le_of_ble_eq_true rfl) dL_law_126 ⟨Nat.le_of_ble_eq_true rfl, Nat.le_of_ble_eq_true rfl⟩ (fun H locs hP hD hS => ?_)
        refine W.eq (g2 := F0 m 129 ls [.int (bI (d_put tx ln (((xs (i + 1)).toInt64 <<< ((32 : Int32).toInt64 &&& 63)) ||| ((xs (i + 2)).toInt64 &&& 4294967295)) (xs (i + 3))).2.2)]) rfl ?_
        have hP : va_P D vwCl (wM h2 k2 ty sz im cm nw (nd, kd, pa, be, af, mi, nq, lf, nr, dq, lq, so, ro) ++ wD h k ((d_put tx ln (((xs (i + 1)).toInt64 <<< ((32 : Int32).toInt64 &&& 63)) ||| ((xs (i + 2)).toInt64 &&& 4294967295)) (xs (i + 3))).1) ((d_put tx ln (((xs (i + 1)).toInt64 <<< ((32 : Int32).toInt64 &&& 63)) ||| ((xs (i + 2)).toInt64 &&& 4294967295)) (xs (i + 3))).2.1) rd wh cm R (nm, nx, np, fi, la, em)) H := hP
        have hD : va_D A (wM h2 k2 ty sz im cm nw (nd, kd, pa, be, af, mi, nq, lf, nr, dq, lq, so, ro) ++ wD h k ((d_put tx ln (((xs (i + 1)).toInt64 <<< ((32 : Int32).toInt64 &&& 63)) ||| ((xs (i + 2)).toInt64 &&& 4294967295)) (xs (i + 3))).1) ((d_put tx ln (((xs (i + 1)).toInt64 <<< ((32 : Int32).toInt64 &&& 63)) ||| ((xs (i + 2)).toInt64 &&& 4294967295)) (xs (i + 3))).2.1) rd wh cm R (nm, nx, np, fi, la, em)) := hD
        refine lv_aload_n hx hb dL_law_129 rfl (lv_at hl 1 rfl) ?_
        refine lv_aload_n hx hb dL_law_130 rfl (lv_at hl 3 rfl) ?_
        refine lv_iload_n hx hb dL_law_131 rfl (lv_at hl 0 rfl) ?_
        refine lv_iconst (v := 1) hx hb dL_law_132 (by decide) ?_
        refine lv_iadd hx hb dL_law_133 ?_
        refine lv_eqi (show nI i + nI 1 = nI (i + 1) from nI_add _ _) ?_
        refine wx_sld hx hb hX hbl hbA hS (j := (i + 1)) (by omega) (by omega) dL_law_134 ?_
        refine lv_i2l (v := (xs (i + 1)).toInt64) hx hb dL_law_135 rfl ?_
        refine lv_bipush (v := 32) hx hb dL_law_136 (by decide) ?_
        refine lv_lshl (v := ((xs (i + 1)).toInt64 <<< ((32 : Int32).toInt64 &&& 63))) hx hb dL_law_138 rfl ?_
        refine lv_aload_n hx hb dL_law_139 rfl (lv_at hl 3 rfl) ?_
        refine lv_iload_n hx hb dL_law_140 rfl (lv_at hl 0 rfl) ?_
        refine lv_iconst (v := 2) hx hb dL_law_141 (by decide) ?_
        refine lv_iadd hx hb dL_law_142 ?_
        refine lv_eqi (show nI i + nI 2 = nI (i + 2) from nI_add _ _) ?_
        refine wx_sld hx hb hX hbl hbA hS (j := (i + 2)) (by omega) (by omega) dL_law_143 ?_
        refine lv_i2l (v := (xs (i + 2)).toInt64) hx hb dL_law_144 rfl ?_
        refine lv_ldc2 (v := 4294967295) hx hb hown (htg _ t_451) dL_law_145 ?_
        refine lv_land hx hb dL_law_148 ?_
        refine lv_lor hx hb dL_law_149 ?_
        refine lv_aload_n hx hb dL_law_150 rfl (lv_at hl 3 rfl) ?_
        refine lv_iload_n hx hb dL_law_151 rfl (lv_at hl 0 rfl) ?_
        refine lv_iconst (v := 3) hx hb dL_law_152 (by decide) ?_
        refine lv_iadd hx hb dL_law_153 ?_
        refine lv_eqi (show nI i + nI 3 = nI (i + 3) from nI_add _ _) ?_
        refine wx_sld hx hb hX hbl hbA hS (j := (i + 3)) (by omega) (by omega) dL_law_154 ?_
        refine ct_callVs (As := [.long (((xs (i + 1)).toInt64 <<< ((32 : Int32).toInt64 &&& 63)) ||| ((xs (i + 2)).toInt64 &&& 4294967295)), .int (xs (i + 3))]) (rest := [.int (bI (d_put tx ln (((xs (i + 1)).toInt64 <<< ((32 : Int32).toInt64 &&& 63)) ||| ((xs (i + 2)).toInt64 &&& 4294967295)) (xs (i + 3))).2.2)]) (wr := wD h k ((d_put tx ln (((xs (i + 1)).toInt64 <<< ((32 : Int32).toInt64 &&& 63)) ||| ((xs (i + 2)).toInt64 &&& 4294967295)) (xs (i + 3))).1) ((d_put tx ln (((xs (i + 1)).toInt64 <<< ((32 : Int32).toInt64 &&& 63)) ||| ((xs (i + 2)).toInt64 &&& 4294967295)) (xs (i + 3))).2.1) rd wh cm R (nm, nx, np, fi, la, em)) ⟨hx, hb, hml, hown, htg⟩ (k_E_put l D h2 k2 ty sz im cm nw (nd, kd, pa, be, af, mi, nq, lf, nr, dq, lq, so, ro) (((xs (i + 1)).toInt64 <<< ((32 : Int32).toInt64 &&& 63)) ||| ((xs (i + 2)).toInt64 &&& 4294967295)) (xs (i + 3)) hsz) (cwV 2 htg (gV (fun _ z9 => z9) t_343 t_344 t_345 t_26 t_346) rfl rfl rfl (by decide +kernel) ⟨Nat.le_of_ble_eq_true rfl, Nat.le_of_ble_eq_true rfl⟩) 0 rfl rfl hK hP hD hS hA [0, 1, 2, 3, 4, 5, 6, 7, 8, 9, 10] [11, 12, 13, 14, 15, 16, 17, 18, 19, 20] [7, 8, 9, 10, 11, 12, 13, 14, 15, 16] rfl rfl (by decide) (by decide) (by decide) rfl rfl hl.1 rfl (Nat.le_of_ble_eq_true rfl) dL_law_155 ⟨Nat.le_of_ble_eq_true rfl, Nat.le_of_ble_eq_true rfl⟩ (fun H locs hP hD hS => ?_)
        refine W.eq (g2 := F0 m 158 ls [.int (bI (e_put ty sz (((xs (i + 1)).toInt64 <<< ((32 : Int32).toInt64 &&& 63)) ||| ((xs (i + 2)).toInt64 &&& 4294967295)) (xs (i + 3))).2.2), .int (bI (d_put tx ln (((xs (i + 1)).toInt64 <<< ((32 : Int32).toInt64 &&& 63)) ||| ((xs (i + 2)).toInt64 &&& 4294967295)) (xs (i + 3))).2.2)]) rfl ?_
        have hP : va_P D vwCl (wD h k ((d_put tx ln (((xs (i + 1)).toInt64 <<< ((32 : Int32).toInt64 &&& 63)) ||| ((xs (i + 2)).toInt64 &&& 4294967295)) (xs (i + 3))).1) ((d_put tx ln (((xs (i + 1)).toInt64 <<< ((32 : Int32).toInt64 &&& 63)) ||| ((xs (i + 2)).toInt64 &&& 4294967295)) (xs (i + 3))).2.1) rd wh cm R (nm, nx, np, fi, la, em) ++ wM h2 k2 ((e_put ty sz (((xs (i + 1)).toInt64 <<< ((32 : Int32).toInt64 &&& 63)) ||| ((xs (i + 2)).toInt64 &&& 4294967295)) (xs (i + 3))).1) ((e_put ty sz (((xs (i + 1)).toInt64 <<< ((32 : Int32).toInt64 &&& 63)) ||| ((xs (i + 2)).toInt64 &&& 4294967295)) (xs (i + 3))).2.1) im cm nw (nd, kd, pa, be, af, mi, nq, lf, nr, dq, lq, so, ro)) H := hP
        have hD : va_D A (wD h k ((d_put tx ln (((xs (i + 1)).toInt64 <<< ((32 : Int32).toInt64 &&& 63)) ||| ((xs (i + 2)).toInt64 &&& 4294967295)) (xs (i + 3))).1) ((d_put tx ln (((xs (i + 1)).toInt64 <<< ((32 : Int32).toInt64 &&& 63)) ||| ((xs (i + 2)).toInt64 &&& 4294967295)) (xs (i + 3))).2.1) rd wh cm R (nm, nx, np, fi, la, em) ++ wM h2 k2 ((e_put ty sz (((xs (i + 1)).toInt64 <<< ((32 : Int32).toInt64 &&& 63)) ||| ((xs (i + 2)).toInt64 &&& 4294967295)) (xs (i + 3))).1) ((e_put ty sz (((xs (i + 1)).toInt64 <<< ((32 : Int32).toInt64 &&& 63)) ||| ((xs (i + 2)).toInt64 &&& 4294967295)) (xs (i + 3))).2.1) im cm nw (nd, kd, pa, be, af, mi, nq, lf, nr, dq, lq, so, ro)) := hD
        refine lv_icmp_eq (tgt := 352) hx hb dL_law_158 (by decide) (fun c_9 => ?_) (fun c_9 => ?_)
        · have hr := (rel_put hR (((xs (i + 1)).toInt64 <<< ((32 : Int32).toInt64 &&& 63)) ||| ((xs (i + 2)).toInt64 &&& 4294967295)) (xs (i + 3))).2
          generalize hd1 : d_put tx ln (((xs (i + 1)).toInt64 <<< ((32 : Int32).toInt64 &&& 63)) ||| ((xs (i + 2)).toInt64 &&& 4294967295)) (xs (i + 3)) = X1 at hP hD hr
          generalize he1 : e_put ty sz (((xs (i + 1)).toInt64 <<< ((32 : Int32).toInt64 &&& 63)) ||| ((xs (i + 2)).toInt64 &&& 4294967295)) (xs (i + 3)) = X2 at hP hD hr
          obtain ⟨tx1, ln1, b1⟩ := X1
          obtain ⟨ty1, sz1, b2⟩ := X2
          have hP : va_P D vwCl (wD h k tx1 ln1 rd wh cm R (nm, nx, np, fi, la, em) ++ wM h2 k2 ty1 sz1 im cm nw (nd, kd, pa, be, af, mi, nq, lf, nr, dq, lq, so, ro)) H := hP
          have hD : va_D A (wD h k tx1 ln1 rd wh cm R (nm, nx, np, fi, la, em) ++ wM h2 k2 ty1 sz1 im cm nw (nd, kd, pa, be, af, mi, nq, lf, nr, dq, lq, so, ro)) := hD
          refine lv_iinc (v := nI (i + 4)) (lv' := [(3, .int (nI (i + 4))), (2, .ref (h2 0)), (1, .ref (h 0)), (0, .ref b)]) hx hb dL_law_352 hl (k := 0) rfl (nI_add i 4) (by decide) rfl (fun ls hl => ?_)
          refine lv_goto (tgt := 18) hx hb dL_law_355 (by decide) ?_
          exact ih (i + 4) nb tx1 ln1 rd wh cm R nm nx np fi la em ty1 sz1 im nw nd kd pa be af mi nq lf nr dq lq so ro (by omega) (by omega) hr (by omega) H locs hP hD hS ls (lv_sub hl [0, 1, 2, 3] rfl)
        · exact absurd (congrArg bI (rel_put hR (((xs (i + 1)).toInt64 <<< ((32 : Int32).toInt64 &&& 63)) ||| ((xs (i + 2)).toInt64 &&& 4294967295)) (xs (i + 3))).1) c_9
      · refine lv_tableIn (off := 131) (tgt := 163) hx hb dL_law_32 (by decide) (by decide) (by decide) (by decide) ?_
        refine lv_aload_n hx hb dL_law_163 rfl (lv_at hl 2 rfl) ?_
        refine ct_callVs (As := []) (rest := []) (wr := wM h2 k2 ty sz im cm nw (nd, kd, pa, be, af, mi, nq, lf, nr, dq, lq, so, ro)) ⟨hx, hb, hml, hown, htg⟩ (k_D_read l D h k tx ln rd wh cm R (nm, nx, np, fi, la, em) hln hnp) (cwV 0 htg (gV (fun _ z9 => z9) t_138 t_139 t_140 t_23 t_141) rfl rfl rfl (by decide +kernel) ⟨Nat.le_of_ble_eq_true rfl, Nat.le_of_ble_eq_true rfl⟩) 0 rfl rfl hK hP hD hS hA [0, 1, 2, 3, 4, 5, 6, 7, 8, 9] [10, 11, 12, 13, 14, 15, 16, 17, 18, 19, 20] [0, 1, 2, 3, 4, 5, 6] rfl rfl (by decide) (by decide) (by decide) rfl rfl hl.1 rfl (Nat.le_of_ble_eq_true rfl) dL_law_164 ⟨Nat.le_of_ble_eq_true rfl, Nat.le_of_ble_eq_true rfl⟩ (fun H locs hP hD hS => ?_)
        refine W.eq (g2 := F0 m 167 ls [.int ((d_read tx ln R (nm, nx, np, fi, la, em)).2.2)]) rfl ?_
        have hP : va_P D vwCl (wM h2 k2 ty sz im cm nw (nd, kd, pa, be, af, mi, nq, lf, nr, dq, lq, so, ro) ++ wD h k tx 0 ((d_read tx ln R (nm, nx, np, fi, la, em)).2.1.2.2.2.1) ((d_read tx ln R (nm, nx, np, fi, la, em)).2.1.2.2.2.2.2) 0 ((d_read tx ln R (nm, nx, np, fi, la, em)).1) ((d_read tx ln R (nm, nx, np, fi, la, em)).2.1)) H := hP
        have hD : va_D A (wM h2 k2 ty sz im cm nw (nd, kd, pa, be, af, mi, nq, lf, nr, dq, lq, so, ro) ++ wD h k tx 0 ((d_read tx ln R (nm, nx, np, fi, la, em)).2.1.2.2.2.1) ((d_read tx ln R (nm, nx, np, fi, la, em)).2.1.2.2.2.2.2) 0 ((d_read tx ln R (nm, nx, np, fi, la, em)).1) ((d_read tx ln R (nm, nx, np, fi, la, em)).2.1)) := hD
        refine lv_aload_n hx hb dL_law_167 rfl (lv_at hl 1 rfl) ?_
        refine ct_callVs (As := []) (rest := [.int ((d_read tx ln R (nm, nx, np, fi, la, em)).2.2)]) (wr := wD h k tx 0 ((d_read tx ln R (nm, nx, np, fi, la, em)).2.1.2.2.2.1) ((d_read tx ln R (nm, nx, np, fi, la, em)).2.1.2.2.2.2.2) 0 ((d_read tx ln R (nm, nx, np, fi, la, em)).1) ((d_read tx ln R (nm, nx, np, fi, la, em)).2.1)) ⟨hx, hb, hml, hown, htg⟩ (k_E_read l D h2 k2 ty sz im cm nw nd kd pa be af mi nq lf nr dq lq so ro hsz) (cwV 0 htg (gV (fun _ z9 => z9) t_348 t_349 t_350 t_26 t_351) rfl rfl rfl (by decide +kernel) ⟨Nat.le_of_ble_eq_true rfl, Nat.le_of_ble_eq_true rfl⟩) 0 rfl rfl hK hP hD hS hA [0, 1, 2, 3, 4, 5, 6, 7, 8, 9, 10] [11, 12, 13, 14, 15, 16, 17, 18, 19, 20] [7, 8, 9, 10, 11, 12, 13, 14, 15, 16] rfl rfl (by decide) (by decide) (by decide) rfl rfl hl.1 rfl (Nat.le_of_ble_eq_true rfl) dL_law_168 ⟨Nat.le_of_ble_eq_true rfl, Nat.le_of_ble_eq_true rfl⟩ (fun H locs hP hD hS => ?_)
        refine W.eq (g2 := F0 m 171 ls [.int ((e_read ty sz (nd, kd, pa, be, af, mi, nq, lf, nr, dq, lq, so, ro)).2.2), .int ((d_read tx ln R (nm, nx, np, fi, la, em)).2.2)]) rfl ?_
        have hP : va_P D vwCl (wD h k tx 0 ((d_read tx ln R (nm, nx, np, fi, la, em)).2.1.2.2.2.1) ((d_read tx ln R (nm, nx, np, fi, la, em)).2.1.2.2.2.2.2) 0 ((d_read tx ln R (nm, nx, np, fi, la, em)).1) ((d_read tx ln R (nm, nx, np, fi, la, em)).2.1) ++ wM h2 k2 ty 0 ((e_read ty sz (nd, kd, pa, be, af, mi, nq, lf, nr, dq, lq, so, ro)).2.1) 0 0 ((e_read ty sz (nd, kd, pa, be, af, mi, nq, lf, nr, dq, lq, so, ro)).1)) H := hP
        have hD : va_D A (wD h k tx 0 ((d_read tx ln R (nm, nx, np, fi, la, em)).2.1.2.2.2.1) ((d_read tx ln R (nm, nx, np, fi, la, em)).2.1.2.2.2.2.2) 0 ((d_read tx ln R (nm, nx, np, fi, la, em)).1) ((d_read tx ln R (nm, nx, np, fi, la, em)).2.1) ++ wM h2 k2 ty 0 ((e_read ty sz (nd, kd, pa, be, af, mi, nq, lf, nr, dq, lq, so, ro)).2.1) 0 0 ((e_read ty sz (nd, kd, pa, be, af, mi, nq, lf, nr, dq, lq, so, ro)).1)) := hD
        refine lv_icmp_eq (tgt := 352) hx hb dL_law_171 (by decide) (fun c_9 => ?_) (fun c_9 => ?_)
        · obtain ⟨-, nb3, hr⟩ := rel_read hR R
          generalize hd1 : d_read tx ln R (nm, nx, np, fi, la, em) = X1 at hP hD hr
          generalize he1 : e_read ty sz (nd, kd, pa, be, af, mi, nq, lf, nr, dq, lq, so, ro) = X2 at hP hD hr
          obtain ⟨R3, ⟨nm3, nx3, np3, fi3, la3, em3⟩, v3⟩ := X1
          obtain ⟨⟨nd3, kd3, pa3, be3, af3, mi3, nq3, lf3, nr3, dq3, lq3, so3, ro3⟩, im3, w3⟩ := X2
          have hP : va_P D vwCl (wD h k tx 0 fi3 em3 0 R3 (nm3, nx3, np3, fi3, la3, em3) ++ wM h2 k2 ty 0 im3 0 0 (nd3, kd3, pa3, be3, af3, mi3, nq3, lf3, nr3, dq3, lq3, so3, ro3)) H := hP
          have hD : va_D A (wD h k tx 0 fi3 em3 0 R3 (nm3, nx3, np3, fi3, la3, em3) ++ wM h2 k2 ty 0 im3 0 0 (nd3, kd3, pa3, be3, af3, mi3, nq3, lf3, nr3, dq3, lq3, so3, ro3)) := hD
          refine lv_iinc (v := nI (i + 4)) (lv' := [(3, .int (nI (i + 4))), (2, .ref (h2 0)), (1, .ref (h 0)), (0, .ref b)]) hx hb dL_law_352 hl (k := 0) rfl (nI_add i 4) (by decide) rfl (fun ls hl => ?_)
          refine lv_goto (tgt := 18) hx hb dL_law_355 (by decide) ?_
          exact ih (i + 4) nb3 tx 0 fi3 em3 0 R3 nm3 nx3 np3 fi3 la3 em3 ty 0 im3 0 nd3 kd3 pa3 be3 af3 mi3 nq3 lf3 nr3 dq3 lq3 so3 ro3 (by omega) (by omega) hr (by omega) H locs hP hD hS ls (lv_sub hl [0, 1, 2, 3] rfl)
        · exact absurd (rel_read hR R).1 c_9
      · refine lv_tableIn (off := 144) (tgt := 176) hx hb dL_law_32 (by decide) (by decide) (by decide) (by decide) ?_
        refine lv_aload_n hx hb dL_law_176 rfl (lv_at hl 2 rfl) ?_
        refine ct_callVs (As := []) (rest := []) (wr := wM h2 k2 ty sz im cm nw (nd, kd, pa, be, af, mi, nq, lf, nr, dq, lq, so, ro)) ⟨hx, hb, hml, hown, htg⟩ (k_D_isClear l D h k tx ln rd wh cm R nm nx np fi la em hnp) (cwV 0 htg (gV (fun _ z9 => z9) t_214 t_215 t_216 t_23 t_217) rfl rfl rfl (by decide +kernel) ⟨Nat.le_of_ble_eq_true rfl, Nat.le_of_ble_eq_true rfl⟩) 0 rfl rfl hK hP hD hS hA [0, 1, 2, 3, 4, 5, 6, 7, 8, 9] [10, 11, 12, 13, 14, 15, 16, 17, 18, 19, 20] [0, 1, 2, 3, 4, 5, 6] rfl rfl (by decide) (by decide) (by decide) rfl rfl hl.1 rfl (Nat.le_of_ble_eq_true rfl) dL_law_177 ⟨Nat.le_of_ble_eq_true rfl, Nat.le_of_ble_eq_true rfl⟩ (fun H locs hP hD hS => ?_)
        refine W.eq (g2 := F0 m 180 ls [.int (bI (decide (0 < np) && decide (cpF nm nx np fi = 0)))]) rfl ?_
        have hP : va_P D vwCl (wM h2 k2 ty sz im cm nw (nd, kd, pa, be, af, mi, nq, lf, nr, dq, lq, so, ro) ++ wD h k tx ln rd wh cm R (nm, nx, np, fi, la, em)) H := hP
        have hD : va_D A (wM h2 k2 ty sz im cm nw (nd, kd, pa, be, af, mi, nq, lf, nr, dq, lq, so, ro) ++ wD h k tx ln rd wh cm R (nm, nx, np, fi, la, em)) := hD
        refine lv_aload_n hx hb dL_law_180 rfl (lv_at hl 1 rfl) ?_
        refine ct_callVs (As := []) (rest := [.int (bI (decide (0 < np) && decide (cpF nm nx np fi = 0)))]) (wr := wD h k tx ln rd wh cm R (nm, nx, np, fi, la, em)) ⟨hx, hb, hml, hown, htg⟩ (k_E_isClear l D h2 k2 ty sz im cm nw nd kd pa be af mi nq lf nr dq lq so ro  nb hok hro) (cwV 0 htg (gV (fun _ z9 => z9) t_417 t_418 t_419 t_26 t_420) rfl rfl rfl (by decide +kernel) ⟨Nat.le_of_ble_eq_true rfl, Nat.le_of_ble_eq_true rfl⟩) 0 rfl rfl hK hP hD hS hA [0, 1, 2, 3, 4, 5, 6, 7, 8, 9, 10] [11, 12, 13, 14, 15, 16, 17, 18, 19, 20] [7, 8, 9, 10, 11, 12, 13, 14, 15, 16] rfl rfl (by decide) (by decide) (by decide) rfl rfl hl.1 rfl (Nat.le_of_ble_eq_true rfl) dL_law_181 ⟨Nat.le_of_ble_eq_true rfl, Nat.le_of_ble_eq_true rfl⟩ (fun H locs hP hD hS => ?_)
        refine W.eq (g2 := F0 m 184 ls [.int (bI (im && decide (cmL nr nq (fun q => e_next kd pa be af mi nq lf (nI q)) nq 0 (twF (e_first kd pa be mi nq lf im ro) nr nq) = 0))), .int (bI (decide (0 < np) && decide (cpF nm nx np fi = 0)))]) rfl ?_
        have hP : va_P D vwCl (wD h k tx ln rd wh cm R (nm, nx, np, fi, la, em) ++ wM h2 k2 ty sz im cm nw (nd, kd, pa, be, af, mi, nq, lf, nr, dq, lq, so, ro)) H := hP
        have hD : va_D A (wD h k tx ln rd wh cm R (nm, nx, np, fi, la, em) ++ wM h2 k2 ty sz im cm nw (nd, kd, pa, be, af, mi, nq, lf, nr, dq, lq, so, ro)) := hD
        refine lv_icmp_eq (tgt := 352) hx hb dL_law_184 (by decide) (fun c_9 => ?_) (fun c_9 => ?_)
        · refine lv_iinc (v := nI (i + 4)) (lv' := [(3, .int (nI (i + 4))), (2, .ref (h2 0)), (1, .ref (h 0)), (0, .ref b)]) hx hb dL_law_352 hl (k := 0) rfl (nI_add i 4) (by decide) rfl (fun ls hl => ?_)
          refine lv_goto (tgt := 18) hx hb dL_law_355 (by decide) ?_
          exact ih (i + 4) nb tx ln rd wh cm R nm nx np fi la em ty sz im nw nd kd pa be af mi nq lf nr dq lq so ro (by omega) (by omega) hR (by omega) H locs hP hD hS ls (lv_sub hl [0, 1, 2, 3] rfl)
        · exact absurd (rel_isClear hR) c_9
      · refine lv_tableIn (off := 157) (tgt := 189) hx hb dL_law_32 (by decide) (by decide) (by decide) (by decide) ?_
        refine lv_aload_n hx hb dL_law_189 rfl (lv_at hl 2 rfl) ?_
        refine ct_callVs (As := []) (rest := []) (wr := wM h2 k2 ty sz im cm nw (nd, kd, pa, be, af, mi, nq, lf, nr, dq, lq, so, ro)) ⟨hx, hb, hml, hown, htg⟩ (k_D_competing l D h k tx ln rd wh cm R nm nx np fi la em hnp) (cwV 0 htg (gV (fun _ z9 => z9) t_226 t_227 t_228 t_23 t_229) rfl rfl rfl (by decide +kernel) ⟨Nat.le_of_ble_eq_true rfl, Nat.le_of_ble_eq_true rfl⟩) 0 rfl rfl hK hP hD hS hA [0, 1, 2, 3, 4, 5, 6, 7, 8, 9] [10, 11, 12, 13, 14, 15, 16, 17, 18, 19, 20] [0, 1, 2, 3, 4, 5, 6] rfl rfl (by decide) (by decide) (by decide) rfl rfl hl.1 rfl (Nat.le_of_ble_eq_true rfl) dL_law_190 ⟨Nat.le_of_ble_eq_true rfl, Nat.le_of_ble_eq_true rfl⟩ (fun H locs hP hD hS => ?_)
        refine W.eq (g2 := F0 m 193 ls [.int (cpF nm nx np fi)]) rfl ?_
        have hP : va_P D vwCl (wM h2 k2 ty sz im cm nw (nd, kd, pa, be, af, mi, nq, lf, nr, dq, lq, so, ro) ++ wD h k tx ln rd wh cm R (nm, nx, np, fi, la, em)) H := hP
        have hD : va_D A (wM h2 k2 ty sz im cm nw (nd, kd, pa, be, af, mi, nq, lf, nr, dq, lq, so, ro) ++ wD h k tx ln rd wh cm R (nm, nx, np, fi, la, em)) := hD
        refine lv_aload_n hx hb dL_law_193 rfl (lv_at hl 1 rfl) ?_
        refine ct_callVs (As := []) (rest := [.int (cpF nm nx np fi)]) (wr := wD h k tx ln rd wh cm R (nm, nx, np, fi, la, em)) ⟨hx, hb, hml, hown, htg⟩ (k_E_competing l D h2 k2 ty sz im cm nw nd kd pa be af mi nq lf nr dq lq so ro  nb hok hro) (cwV 0 htg (gV (fun _ z9 => z9) t_407 t_408 t_409 t_26 t_410) rfl rfl rfl (by decide +kernel) ⟨Nat.le_of_ble_eq_true rfl, Nat.le_of_ble_eq_true rfl⟩) 0 rfl rfl hK hP hD hS hA [0, 1, 2, 3, 4, 5, 6, 7, 8, 9, 10] [11, 12, 13, 14, 15, 16, 17, 18, 19, 20] [7, 8, 9, 10, 11, 12, 13, 14, 15, 16] rfl rfl (by decide) (by decide) (by decide) rfl rfl hl.1 rfl (Nat.le_of_ble_eq_true rfl) dL_law_194 ⟨Nat.le_of_ble_eq_true rfl, Nat.le_of_ble_eq_true rfl⟩ (fun H locs hP hD hS => ?_)
        refine W.eq (g2 := F0 m 197 ls [.int (cmL nr nq (fun q => e_next kd pa be af mi nq lf (nI q)) nq 0 (twF (e_first kd pa be mi nq lf im ro) nr nq)), .int (cpF nm nx np fi)]) rfl ?_
        have hP : va_P D vwCl (wD h k tx ln rd wh cm R (nm, nx, np, fi, la, em) ++ wM h2 k2 ty sz im cm nw (nd, kd, pa, be, af, mi, nq, lf, nr, dq, lq, so, ro)) H := hP
        have hD : va_D A (wD h k tx ln rd wh cm R (nm, nx, np, fi, la, em) ++ wM h2 k2 ty sz im cm nw (nd, kd, pa, be, af, mi, nq, lf, nr, dq, lq, so, ro)) := hD
        refine lv_icmp_eq (tgt := 352) hx hb dL_law_197 (by decide) (fun c_9 => ?_) (fun c_9 => ?_)
        · refine lv_iinc (v := nI (i + 4)) (lv' := [(3, .int (nI (i + 4))), (2, .ref (h2 0)), (1, .ref (h 0)), (0, .ref b)]) hx hb dL_law_352 hl (k := 0) rfl (nI_add i 4) (by decide) rfl (fun ls hl => ?_)
          refine lv_goto (tgt := 18) hx hb dL_law_355 (by decide) ?_
          exact ih (i + 4) nb tx ln rd wh cm R nm nx np fi la em ty sz im nw nd kd pa be af mi nq lf nr dq lq so ro (by omega) (by omega) hR (by omega) H locs hP hD hS ls (lv_sub hl [0, 1, 2, 3] rfl)
        · exact absurd (rel_competing hR) c_9
      · refine lv_tableIn (off := 170) (tgt := 202) hx hb dL_law_32 (by decide) (by decide) (by decide) (by decide) ?_
        refine lv_aload_n hx hb dL_law_202 rfl (lv_at hl 2 rfl) ?_
        refine ct_callVs (As := []) (rest := []) (wr := wM h2 k2 ty sz im cm nw (nd, kd, pa, be, af, mi, nq, lf, nr, dq, lq, so, ro)) ⟨hx, hb, hml, hown, htg⟩ (k_D_isEmpty l D h k tx ln rd wh cm R nm nx np fi la em ) (cwV 0 htg (gV (fun _ z9 => z9) t_230 t_231 t_232 t_23 t_233) rfl rfl rfl (by decide +kernel) ⟨Nat.le_of_ble_eq_true rfl, Nat.le_of_ble_eq_true rfl⟩) 0 rfl rfl hK hP hD hS hA [0, 1, 2, 3, 4, 5, 6, 7, 8, 9] [10, 11, 12, 13, 14, 15, 16, 17, 18, 19, 20] [0, 1, 2, 3, 4, 5, 6] rfl rfl (by decide) (by decide) (by decide) rfl rfl hl.1 rfl (Nat.le_of_ble_eq_true rfl) dL_law_203 ⟨Nat.le_of_ble_eq_true rfl, Nat.le_of_ble_eq_true rfl⟩ (fun H locs hP hD hS => ?_)
        refine W.eq (g2 := F0 m 206 ls [.int (bI em)]) rfl ?_
        have hP : va_P D vwCl (wM h2 k2 ty sz im cm nw (nd, kd, pa, be, af, mi, nq, lf, nr, dq, lq, so, ro) ++ wD h k tx ln rd wh cm R (nm, nx, np, fi, la, em)) H := hP
        have hD : va_D A (wM h2 k2 ty sz im cm nw (nd, kd, pa, be, af, mi, nq, lf, nr, dq, lq, so, ro) ++ wD h k tx ln rd wh cm R (nm, nx, np, fi, la, em)) := hD
        refine lv_aload_n hx hb dL_law_206 rfl (lv_at hl 1 rfl) ?_
        refine ct_callVs (As := []) (rest := [.int (bI em)]) (wr := wD h k tx ln rd wh cm R (nm, nx, np, fi, la, em)) ⟨hx, hb, hml, hown, htg⟩ (k_E_isEmpty l D h2 k2 ty sz im cm nw nd kd pa be af mi nq lf nr dq lq so ro  nb hok hro) (cwV 0 htg (gV (fun _ z9 => z9) t_422 t_423 t_424 t_26 t_425) rfl rfl rfl (by decide +kernel) ⟨Nat.le_of_ble_eq_true rfl, Nat.le_of_ble_eq_true rfl⟩) 0 rfl rfl hK hP hD hS hA [0, 1, 2, 3, 4, 5, 6, 7, 8, 9, 10] [11, 12, 13, 14, 15, 16, 17, 18, 19, 20] [7, 8, 9, 10, 11, 12, 13, 14, 15, 16] rfl rfl (by decide) (by decide) (by decide) rfl rfl hl.1 rfl (Nat.le_of_ble_eq_true rfl) dL_law_207 ⟨Nat.le_of_ble_eq_true rfl, Nat.le_of_ble_eq_true rfl⟩ (fun H locs hP hD hS => ?_)
        refine W.eq (g2 := F0 m 210 ls [.int (bI (im && mi ro)), .int (bI em)]) rfl ?_
        have hP : va_P D vwCl (wD h k tx ln rd wh cm R (nm, nx, np, fi, la, em) ++ wM h2 k2 ty sz im cm nw (nd, kd, pa, be, af, mi, nq, lf, nr, dq, lq, so, ro)) H := hP
        have hD : va_D A (wD h k tx ln rd wh cm R (nm, nx, np, fi, la, em) ++ wM h2 k2 ty sz im cm nw (nd, kd, pa, be, af, mi, nq, lf, nr, dq, lq, so, ro)) := hD
        refine lv_icmp_eq (tgt := 352) hx hb dL_law_210 (by decide) (fun c_9 => ?_) (fun c_9 => ?_)
        · refine lv_iinc (v := nI (i + 4)) (lv' := [(3, .int (nI (i + 4))), (2, .ref (h2 0)), (1, .ref (h 0)), (0, .ref b)]) hx hb dL_law_352 hl (k := 0) rfl (nI_add i 4) (by decide) rfl (fun ls hl => ?_)
          refine lv_goto (tgt := 18) hx hb dL_law_355 (by decide) ?_
          exact ih (i + 4) nb tx ln rd wh cm R nm nx np fi la em ty sz im nw nd kd pa be af mi nq lf nr dq lq so ro (by omega) (by omega) hR (by omega) H locs hP hD hS ls (lv_sub hl [0, 1, 2, 3] rfl)
        · exact absurd (rel_isEmpty hR) c_9
      · refine lv_tableIn (off := 183) (tgt := 215) hx hb dL_law_32 (by decide) (by decide) (by decide) (by decide) ?_
        refine lv_aload_n hx hb dL_law_215 rfl (lv_at hl 2 rfl) ?_
        refine ct_callVs (As := []) (rest := []) (wr := wM h2 k2 ty sz im cm nw (nd, kd, pa, be, af, mi, nq, lf, nr, dq, lq, so, ro)) ⟨hx, hb, hml, hown, htg⟩ (k_D_first l D h k tx ln rd wh cm R nm nx np fi la em ) (cwV 0 htg (gV (fun _ z9 => z9) t_234 t_235 t_236 t_23 t_237) rfl rfl rfl (by decide +kernel) ⟨Nat.le_of_ble_eq_true rfl, Nat.le_of_ble_eq_true rfl⟩) 0 rfl rfl hK hP hD hS hA [0, 1, 2, 3, 4, 5, 6, 7, 8, 9] [10, 11, 12, 13, 14, 15, 16, 17, 18, 19, 20] [0, 1, 2, 3, 4, 5, 6] rfl rfl (by decide) (by decide) (by decide) rfl rfl hl.1 rfl (Nat.le_of_ble_eq_true rfl) dL_law_216 ⟨Nat.le_of_ble_eq_true rfl, Nat.le_of_ble_eq_true rfl⟩ (fun H locs hP hD hS => ?_)
        refine W.eq (g2 := F0 m 219 ls [.long (fi)]) rfl ?_
        have hP : va_P D vwCl (wM h2 k2 ty sz im cm nw (nd, kd, pa, be, af, mi, nq, lf, nr, dq, lq, so, ro) ++ wD h k tx ln rd wh cm R (nm, nx, np, fi, la, em)) H := hP
        have hD : va_D A (wM h2 k2 ty sz im cm nw (nd, kd, pa, be, af, mi, nq, lf, nr, dq, lq, so, ro) ++ wD h k tx ln rd wh cm R (nm, nx, np, fi, la, em)) := hD
        refine lv_aload_n hx hb dL_law_219 rfl (lv_at hl 1 rfl) ?_
        refine ct_callVs (As := []) (rest := [.long (fi)]) (wr := wD h k tx ln rd wh cm R (nm, nx, np, fi, la, em)) ⟨hx, hb, hml, hown, htg⟩ (k_E_first l D h2 k2 ty sz im cm nw nd kd pa be af mi nq lf nr dq lq so ro  nb hok hro) (cwV 0 htg (gV (fun _ z9 => z9) t_383 t_384 t_385 t_26 t_386) rfl rfl rfl (by decide +kernel) ⟨Nat.le_of_ble_eq_true rfl, Nat.le_of_ble_eq_true rfl⟩) 0 rfl rfl hK hP hD hS hA [0, 1, 2, 3, 4, 5, 6, 7, 8, 9, 10] [11, 12, 13, 14, 15, 16, 17, 18, 19, 20] [7, 8, 9, 10, 11, 12, 13, 14, 15, 16] rfl rfl (by decide) (by decide) (by decide) rfl rfl hl.1 rfl (Nat.le_of_ble_eq_true rfl) dL_law_220 ⟨Nat.le_of_ble_eq_true rfl, Nat.le_of_ble_eq_true rfl⟩ (fun H locs hP hD hS => ?_)
        refine W.eq (g2 := F0 m 223 ls [.long (e_first kd pa be mi nq lf im ro), .long (fi)]) rfl ?_
        have hP : va_P D vwCl (wD h k tx ln rd wh cm R (nm, nx, np, fi, la, em) ++ wM h2 k2 ty sz im cm nw (nd, kd, pa, be, af, mi, nq, lf, nr, dq, lq, so, ro)) H := hP
        have hD : va_D A (wD h k tx ln rd wh cm R (nm, nx, np, fi, la, em) ++ wM h2 k2 ty sz im cm nw (nd, kd, pa, be, af, mi, nq, lf, nr, dq, lq, so, ro)) := hD
        refine W.lcmp hx hb dL_law_223 ?_
        refine lv_if_eq (tgt := 352) hx hb dL_law_224 (by decide) (fun c_9 => ?_) (fun c_9 => ?_)
        · refine lv_iinc (v := nI (i + 4)) (lv' := [(3, .int (nI (i + 4))), (2, .ref (h2 0)), (1, .ref (h 0)), (0, .ref b)]) hx hb dL_law_352 hl (k := 0) rfl (nI_add i 4) (by decide) rfl (fun ls hl => ?_)
          refine lv_goto (tgt := 18) hx hb dL_law_355 (by decide) ?_
          exact ih (i + 4) nb tx ln rd wh cm R nm nx np fi la em ty sz im nw nd kd pa be af mi nq lf nr dq lq so ro (by omega) (by omega) hR (by omega) H locs hP hD hS ls (lv_sub hl [0, 1, 2, 3] rfl)
        · exact absurd ((lg_cmp_eq _ _).mpr (rel_first hR)) c_9
      · refine lv_tableIn (off := 197) (tgt := 229) hx hb dL_law_32 (by decide) (by decide) (by decide) (by decide) ?_
        refine lv_aload_n hx hb dL_law_229 rfl (lv_at hl 2 rfl) ?_
        refine lv_aload_n hx hb dL_law_230 rfl (lv_at hl 3 rfl) ?_
        refine lv_iload_n hx hb dL_law_231 rfl (lv_at hl 0 rfl) ?_
        refine lv_iconst (v := 1) hx hb dL_law_232 (by decide) ?_
        refine lv_iadd hx hb dL_law_233 ?_
        refine lv_eqi (show nI i + nI 1 = nI (i + 1) from nI_add _ _) ?_
        refine wx_sld hx hb hX hbl hbA hS (j := (i + 1)) (by omega) (by omega) dL_law_234 ?_
        refine ct_callVs (As := [.int (xs (i + 1))]) (rest := []) (wr := wM h2 k2 ty sz im cm nw (nd, kd, pa, be, af, mi, nq, lf, nr, dq, lq, so, ro)) ⟨hx, hb, hml, hown, htg⟩ (k_D_next l D h k tx ln rd wh cm R nm nx np fi la em (xs (i + 1)) hnp) (cwV 1 htg (gV (fun _ z9 => z9) t_238 t_239 t_240 t_23 t_241) rfl rfl rfl (by decide +kernel) ⟨Nat.le_of_ble_eq_true rfl, Nat.le_of_ble_eq_true rfl⟩) 0 rfl rfl hK hP hD hS hA [0, 1, 2, 3, 4, 5, 6, 7, 8, 9] [10, 11, 12, 13, 14, 15, 16, 17, 18, 19, 20] [0, 1, 2, 3, 4, 5, 6] rfl rfl (by decide) (by decide) (by decide) rfl rfl hl.1 rfl (Nat.le_of_ble_eq_true rfl) dL_law_235 ⟨Nat.le_of_ble_eq_true rfl, Nat.le_of_ble_eq_true rfl⟩ (fun H locs hP hD hS => ?_)
        refine W.eq (g2 := F0 m 238 ls [.long (d_next nx np (xs (i + 1)))]) rfl ?_
        have hP : va_P D vwCl (wM h2 k2 ty sz im cm nw (nd, kd, pa, be, af, mi, nq, lf, nr, dq, lq, so, ro) ++ wD h k tx ln rd wh cm R (nm, nx, np, fi, la, em)) H := hP
        have hD : va_D A (wM h2 k2 ty sz im cm nw (nd, kd, pa, be, af, mi, nq, lf, nr, dq, lq, so, ro) ++ wD h k tx ln rd wh cm R (nm, nx, np, fi, la, em)) := hD
        refine lv_aload_n hx hb dL_law_238 rfl (lv_at hl 1 rfl) ?_
        refine lv_aload_n hx hb dL_law_239 rfl (lv_at hl 3 rfl) ?_
        refine lv_iload_n hx hb dL_law_240 rfl (lv_at hl 0 rfl) ?_
        refine lv_iconst (v := 1) hx hb dL_law_241 (by decide) ?_
        refine lv_iadd hx hb dL_law_242 ?_
        refine lv_eqi (show nI i + nI 1 = nI (i + 1) from nI_add _ _) ?_
        refine wx_sld hx hb hX hbl hbA hS (j := (i + 1)) (by omega) (by omega) dL_law_243 ?_
        refine ct_callVs (As := [.int (xs (i + 1))]) (rest := [.long (d_next nx np (xs (i + 1)))]) (wr := wD h k tx ln rd wh cm R (nm, nx, np, fi, la, em)) ⟨hx, hb, hml, hown, htg⟩ (k_E_next l D h2 k2 ty sz im cm nw nd kd pa be af mi nq lf nr dq lq so ro (xs (i + 1)) nb hok) (cwV 1 htg (gV (fun _ z9 => z9) t_395 t_396 t_397 t_26 t_398) rfl rfl rfl (by decide +kernel) ⟨Nat.le_of_ble_eq_true rfl, Nat.le_of_ble_eq_true rfl⟩) 0 rfl rfl hK hP hD hS hA [0, 1, 2, 3, 4, 5, 6, 7, 8, 9, 10] [11, 12, 13, 14, 15, 16, 17, 18, 19, 20] [7, 8, 9, 10, 11, 12, 13, 14, 15, 16] rfl rfl (by decide) (by decide) (by decide) rfl rfl hl.1 rfl (Nat.le_of_ble_eq_true rfl) dL_law_244 ⟨Nat.le_of_ble_eq_true rfl, Nat.le_of_ble_eq_true rfl⟩ (fun H locs hP hD hS => ?_)
        refine W.eq (g2 := F0 m 247 ls [.long (e_next kd pa be af mi nq lf (xs (i + 1))), .long (d_next nx np (xs (i + 1)))]) rfl ?_
        have hP : va_P D vwCl (wD h k tx ln rd wh cm R (nm, nx, np, fi, la, em) ++ wM h2 k2 ty sz im cm nw (nd, kd, pa, be, af, mi, nq, lf, nr, dq, lq, so, ro)) H := hP
        have hD : va_D A (wD h k tx ln rd wh cm R (nm, nx, np, fi, la, em) ++ wM h2 k2 ty sz im cm nw (nd, kd, pa, be, af, mi, nq, lf, nr, dq, lq, so, ro)) := hD
        refine W.lcmp hx hb dL_law_247 ?_
        refine lv_if_eq (tgt := 352) hx hb dL_law_248 (by decide) (fun c_9 => ?_) (fun c_9 => ?_)
        · refine lv_iinc (v := nI (i + 4)) (lv' := [(3, .int (nI (i + 4))), (2, .ref (h2 0)), (1, .ref (h 0)), (0, .ref b)]) hx hb dL_law_352 hl (k := 0) rfl (nI_add i 4) (by decide) rfl (fun ls hl => ?_)
          refine lv_goto (tgt := 18) hx hb dL_law_355 (by decide) ?_
          exact ih (i + 4) nb tx ln rd wh cm R nm nx np fi la em ty sz im nw nd kd pa be af mi nq lf nr dq lq so ro (by omega) (by omega) hR (by omega) H locs hP hD hS ls (lv_sub hl [0, 1, 2, 3] rfl)
        · exact absurd ((lg_cmp_eq _ _).mpr (rel_next hR _)) c_9
      · refine lv_tableIn (off := 221) (tgt := 253) hx hb dL_law_32 (by decide) (by decide) (by decide) (by decide) ?_
        refine lv_aload_n hx hb dL_law_253 rfl (lv_at hl 2 rfl) ?_
        refine ct_callVs (As := []) (rest := []) (wr := wM h2 k2 ty sz im cm nw (nd, kd, pa, be, af, mi, nq, lf, nr, dq, lq, so, ro)) ⟨hx, hb, hml, hown, htg⟩ (k_D_last l D h k tx ln rd wh cm R nm nx np fi la em ) (cwV 0 htg (gV (fun _ z9 => z9) t_246 t_247 t_248 t_23 t_249) rfl rfl rfl (by decide +kernel) ⟨Nat.le_of_ble_eq_true rfl, Nat.le_of_ble_eq_true rfl⟩) 0 rfl rfl hK hP hD hS hA [0, 1, 2, 3, 4, 5, 6, 7, 8, 9] [10, 11, 12, 13, 14, 15, 16, 17, 18, 19, 20] [0, 1, 2, 3, 4, 5, 6] rfl rfl (by decide) (by decide) (by decide) rfl rfl hl.1 rfl (Nat.le_of_ble_eq_true rfl) dL_law_254 ⟨Nat.le_of_ble_eq_true rfl, Nat.le_of_ble_eq_true rfl⟩ (fun H locs hP hD hS => ?_)
        refine W.eq (g2 := F0 m 257 ls [.long (la)]) rfl ?_
        have hP : va_P D vwCl (wM h2 k2 ty sz im cm nw (nd, kd, pa, be, af, mi, nq, lf, nr, dq, lq, so, ro) ++ wD h k tx ln rd wh cm R (nm, nx, np, fi, la, em)) H := hP
        have hD : va_D A (wM h2 k2 ty sz im cm nw (nd, kd, pa, be, af, mi, nq, lf, nr, dq, lq, so, ro) ++ wD h k tx ln rd wh cm R (nm, nx, np, fi, la, em)) := hD
        refine lv_aload_n hx hb dL_law_257 rfl (lv_at hl 1 rfl) ?_
        refine ct_callVs (As := []) (rest := [.long (la)]) (wr := wD h k tx ln rd wh cm R (nm, nx, np, fi, la, em)) ⟨hx, hb, hml, hown, htg⟩ (k_E_last l D h2 k2 ty sz im cm nw nd kd pa be af mi nq lf nr dq lq so ro  nb hok) (cwV 0 htg (gV (fun _ z9 => z9) t_399 t_400 t_401 t_26 t_402) rfl rfl rfl (by decide +kernel) ⟨Nat.le_of_ble_eq_true rfl, Nat.le_of_ble_eq_true rfl⟩) 0 rfl rfl hK hP hD hS hA [0, 1, 2, 3, 4, 5, 6, 7, 8, 9, 10] [11, 12, 13, 14, 15, 16, 17, 18, 19, 20] [7, 8, 9, 10, 11, 12, 13, 14, 15, 16] rfl rfl (by decide) (by decide) (by decide) rfl rfl hl.1 rfl (Nat.le_of_ble_eq_true rfl) dL_law_258 ⟨Nat.le_of_ble_eq_true rfl, Nat.le_of_ble_eq_true rfl⟩ (fun H locs hP hD hS => ?_)
        refine W.eq (g2 := F0 m 261 ls [.long (laL kd pa af mi lf nq 0 0), .long (la)]) rfl ?_
        have hP : va_P D vwCl (wD h k tx ln rd wh cm R (nm, nx, np, fi, la, em) ++ wM h2 k2 ty sz im cm nw (nd, kd, pa, be, af, mi, nq, lf, nr, dq, lq, so, ro)) H := hP
        have hD : va_D A (wD h k tx ln rd wh cm R (nm, nx, np, fi, la, em) ++ wM h2 k2 ty sz im cm nw (nd, kd, pa, be, af, mi, nq, lf, nr, dq, lq, so, ro)) := hD
        refine W.lcmp hx hb dL_law_261 ?_
        refine lv_if_eq (tgt := 352) hx hb dL_law_262 (by decide) (fun c_9 => ?_) (fun c_9 => ?_)
        · refine lv_iinc (v := nI (i + 4)) (lv' := [(3, .int (nI (i + 4))), (2, .ref (h2 0)), (1, .ref (h 0)), (0, .ref b)]) hx hb dL_law_352 hl (k := 0) rfl (nI_add i 4) (by decide) rfl (fun ls hl => ?_)
          refine lv_goto (tgt := 18) hx hb dL_law_355 (by decide) ?_
          exact ih (i + 4) nb tx ln rd wh cm R nm nx np fi la em ty sz im nw nd kd pa be af mi nq lf nr dq lq so ro (by omega) (by omega) hR (by omega) H locs hP hD hS ls (lv_sub hl [0, 1, 2, 3] rfl)
        · exact absurd ((lg_cmp_eq _ _).mpr (rel_last hR)) c_9
      · refine lv_tableIn (off := 235) (tgt := 267) hx hb dL_law_32 (by decide) (by decide) (by decide) (by decide) ?_
        refine lv_aload_n hx hb dL_law_267 rfl (lv_at hl 2 rfl) ?_
        refine lv_aload_n hx hb dL_law_268 rfl (lv_at hl 3 rfl) ?_
        refine lv_iload_n hx hb dL_law_269 rfl (lv_at hl 0 rfl) ?_
        refine lv_iconst (v := 1) hx hb dL_law_270 (by decide) ?_
        refine lv_iadd hx hb dL_law_271 ?_
        refine lv_eqi (show nI i + nI 1 = nI (i + 1) from nI_add _ _) ?_
        refine wx_sld hx hb hX hbl hbA hS (j := (i + 1)) (by omega) (by omega) dL_law_272 ?_
        refine ct_callVs (As := [.int (xs (i + 1))]) (rest := []) (wr := wM h2 k2 ty sz im cm nw (nd, kd, pa, be, af, mi, nq, lf, nr, dq, lq, so, ro)) ⟨hx, hb, hml, hown, htg⟩ (k_D_name l D h k tx ln rd wh cm R nm nx np fi la em (xs (i + 1)) hnp) (cwV 1 htg (gV (fun _ z9 => z9) t_250 t_251 t_252 t_23 t_253) rfl rfl rfl (by decide +kernel) ⟨Nat.le_of_ble_eq_true rfl, Nat.le_of_ble_eq_true rfl⟩) 0 rfl rfl hK hP hD hS hA [0, 1, 2, 3, 4, 5, 6, 7, 8, 9] [10, 11, 12, 13, 14, 15, 16, 17, 18, 19, 20] [0, 1, 2, 3, 4, 5, 6] rfl rfl (by decide) (by decide) (by decide) rfl rfl hl.1 rfl (Nat.le_of_ble_eq_true rfl) dL_law_273 ⟨Nat.le_of_ble_eq_true rfl, Nat.le_of_ble_eq_true rfl⟩ (fun H locs hP hD hS => ?_)
        refine W.eq (g2 := F0 m 276 ls [.int (d_name nm np (xs (i + 1)))]) rfl ?_
        have hP : va_P D vwCl (wM h2 k2 ty sz im cm nw (nd, kd, pa, be, af, mi, nq, lf, nr, dq, lq, so, ro) ++ wD h k tx ln rd wh cm R (nm, nx, np, fi, la, em)) H := hP
        have hD : va_D A (wM h2 k2 ty sz im cm nw (nd, kd, pa, be, af, mi, nq, lf, nr, dq, lq, so, ro) ++ wD h k tx ln rd wh cm R (nm, nx, np, fi, la, em)) := hD
        refine lv_aload_n hx hb dL_law_276 rfl (lv_at hl 1 rfl) ?_
        refine lv_aload_n hx hb dL_law_277 rfl (lv_at hl 3 rfl) ?_
        refine lv_iload_n hx hb dL_law_278 rfl (lv_at hl 0 rfl) ?_
        refine lv_iconst (v := 1) hx hb dL_law_279 (by decide) ?_
        refine lv_iadd hx hb dL_law_280 ?_
        refine lv_eqi (show nI i + nI 1 = nI (i + 1) from nI_add _ _) ?_
        refine wx_sld hx hb hX hbl hbA hS (j := (i + 1)) (by omega) (by omega) dL_law_281 ?_
        refine ct_callVs (As := [.int (xs (i + 1))]) (rest := [.int (d_name nm np (xs (i + 1)))]) (wr := wD h k tx ln rd wh cm R (nm, nx, np, fi, la, em)) ⟨hx, hb, hml, hown, htg⟩ (k_E_name l D h2 k2 ty sz im cm nw nd kd pa be af mi nq lf nr dq lq so ro (xs (i + 1)) hnq) (cwV 1 htg (gV (fun _ z9 => z9) t_426 t_427 t_428 t_26 t_429) rfl rfl rfl (by decide +kernel) ⟨Nat.le_of_ble_eq_true rfl, Nat.le_of_ble_eq_true rfl⟩) 0 rfl rfl hK hP hD hS hA [0, 1, 2, 3, 4, 5, 6, 7, 8, 9, 10] [11, 12, 13, 14, 15, 16, 17, 18, 19, 20] [7, 8, 9, 10, 11, 12, 13, 14, 15, 16] rfl rfl (by decide) (by decide) (by decide) rfl rfl hl.1 rfl (Nat.le_of_ble_eq_true rfl) dL_law_282 ⟨Nat.le_of_ble_eq_true rfl, Nat.le_of_ble_eq_true rfl⟩ (fun H locs hP hD hS => ?_)
        refine W.eq (g2 := F0 m 285 ls [.int (d_name nr nq (xs (i + 1))), .int (d_name nm np (xs (i + 1)))]) rfl ?_
        have hP : va_P D vwCl (wD h k tx ln rd wh cm R (nm, nx, np, fi, la, em) ++ wM h2 k2 ty sz im cm nw (nd, kd, pa, be, af, mi, nq, lf, nr, dq, lq, so, ro)) H := hP
        have hD : va_D A (wD h k tx ln rd wh cm R (nm, nx, np, fi, la, em) ++ wM h2 k2 ty sz im cm nw (nd, kd, pa, be, af, mi, nq, lf, nr, dq, lq, so, ro)) := hD
        refine lv_icmp_eq (tgt := 352) hx hb dL_law_285 (by decide) (fun c_9 => ?_) (fun c_9 => ?_)
        · refine lv_iinc (v := nI (i + 4)) (lv' := [(3, .int (nI (i + 4))), (2, .ref (h2 0)), (1, .ref (h 0)), (0, .ref b)]) hx hb dL_law_352 hl (k := 0) rfl (nI_add i 4) (by decide) rfl (fun ls hl => ?_)
          refine lv_goto (tgt := 18) hx hb dL_law_355 (by decide) ?_
          exact ih (i + 4) nb tx ln rd wh cm R nm nx np fi la em ty sz im nw nd kd pa be af mi nq lf nr dq lq so ro (by omega) (by omega) hR (by omega) H locs hP hD hS ls (lv_sub hl [0, 1, 2, 3] rfl)
        · exact absurd (rel_name hR _) c_9
      · refine lv_tableIn (off := 258) (tgt := 290) hx hb dL_law_32 (by decide) (by decide) (by decide) (by decide) ?_
        refine lv_aload_n hx hb dL_law_290 rfl (lv_at hl 2 rfl) ?_
        refine lv_aload_n hx hb dL_law_291 rfl (lv_at hl 3 rfl) ?_
        refine lv_iload_n hx hb dL_law_292 rfl (lv_at hl 0 rfl) ?_
        refine lv_iconst (v := 1) hx hb dL_law_293 (by decide) ?_
        refine lv_iadd hx hb dL_law_294 ?_
        refine lv_eqi (show nI i + nI 1 = nI (i + 1) from nI_add _ _) ?_
        refine wx_sld hx hb hX hbl hbA hS (j := (i + 1)) (by omega) (by omega) dL_law_295 ?_
        refine ct_callVs (As := [.int (xs (i + 1))]) (rest := []) (wr := wM h2 k2 ty sz im cm nw (nd, kd, pa, be, af, mi, nq, lf, nr, dq, lq, so, ro)) ⟨hx, hb, hml, hown, htg⟩ (k_D_come l D h k tx ln rd wh cm R nm nx np fi la em (xs (i + 1)) hnp) (cwV 1 htg (gV (fun _ z9 => z9) t_254 t_255 t_256 t_23 t_257) rfl rfl rfl (by decide +kernel) ⟨Nat.le_of_ble_eq_true rfl, Nat.le_of_ble_eq_true rfl⟩) 0 rfl rfl hK hP hD hS hA [0, 1, 2, 3, 4, 5, 6, 7, 8, 9] [10, 11, 12, 13, 14, 15, 16, 17, 18, 19, 20] [0, 1, 2, 3, 4, 5, 6] rfl rfl (by decide) (by decide) (by decide) rfl rfl hl.1 rfl (Nat.le_of_ble_eq_true rfl) dL_law_296 ⟨Nat.le_of_ble_eq_true rfl, Nat.le_of_ble_eq_true rfl⟩ (fun H locs hP hD hS => ?_)
        refine W.eq (g2 := F0 m 299 ls [.int (bI (decide (¬ pnL (xs (i + 1)) rd nm np 0 0 = 0)))]) rfl ?_
        have hP : va_P D vwCl (wM h2 k2 ty sz im cm nw (nd, kd, pa, be, af, mi, nq, lf, nr, dq, lq, so, ro) ++ wD h k tx ln (if pnL (xs (i + 1)) rd nm np 0 0 = 0 then rd else nbL (pnL (xs (i + 1)) rd nm np 0 0) nx np 0 0) (if pnL (xs (i + 1)) rd nm np 0 0 = 0 then wh else decide (¬ (pnL (xs (i + 1)) rd nm np 0 0 &&& la) = 0)) (if pnL (xs (i + 1)) rd nm np 0 0 = 0 then cm else cm + 1) R (nm, nx, np, fi, la, em)) H := hP
        have hD : va_D A (wM h2 k2 ty sz im cm nw (nd, kd, pa, be, af, mi, nq, lf, nr, dq, lq, so, ro) ++ wD h k tx ln (if pnL (xs (i + 1)) rd nm np 0 0 = 0 then rd else nbL (pnL (xs (i + 1)) rd nm np 0 0) nx np 0 0) (if pnL (xs (i + 1)) rd nm np 0 0 = 0 then wh else decide (¬ (pnL (xs (i + 1)) rd nm np 0 0 &&& la) = 0)) (if pnL (xs (i + 1)) rd nm np 0 0 = 0 then cm else cm + 1) R (nm, nx, np, fi, la, em)) := hD
        refine lv_aload_n hx hb dL_law_299 rfl (lv_at hl 1 rfl) ?_
        refine lv_aload_n hx hb dL_law_300 rfl (lv_at hl 3 rfl) ?_
        refine lv_iload_n hx hb dL_law_301 rfl (lv_at hl 0 rfl) ?_
        refine lv_iconst (v := 1) hx hb dL_law_302 (by decide) ?_
        refine lv_iadd hx hb dL_law_303 ?_
        refine lv_eqi (show nI i + nI 1 = nI (i + 1) from nI_add _ _) ?_
        refine wx_sld hx hb hX hbl hbA hS (j := (i + 1)) (by omega) (by omega) dL_law_304 ?_
        refine ct_callVs (As := [.int (xs (i + 1))]) (rest := [.int (bI (decide (¬ pnL (xs (i + 1)) rd nm np 0 0 = 0)))]) (wr := wD h k tx ln (if pnL (xs (i + 1)) rd nm np 0 0 = 0 then rd else nbL (pnL (xs (i + 1)) rd nm np 0 0) nx np 0 0) (if pnL (xs (i + 1)) rd nm np 0 0 = 0 then wh else decide (¬ (pnL (xs (i + 1)) rd nm np 0 0 &&& la) = 0)) (if pnL (xs (i + 1)) rd nm np 0 0 = 0 then cm else cm + 1) R (nm, nx, np, fi, la, em)) ⟨hx, hb, hml, hown, htg⟩ (k_E_come l D h2 k2 ty sz im cm nw nd kd pa be af mi nq lf nr dq lq so ro (xs (i + 1)) nb hok hro hcm) (cwV 1 htg (gV (fun _ z9 => z9) t_430 t_431 t_432 t_26 t_433) rfl rfl rfl (by decide +kernel) ⟨Nat.le_of_ble_eq_true rfl, Nat.le_of_ble_eq_true rfl⟩) 0 rfl rfl hK hP hD hS hA [0, 1, 2, 3, 4, 5, 6, 7, 8, 9, 10] [11, 12, 13, 14, 15, 16, 17, 18, 19, 20] [7, 8, 9, 10, 11, 12, 13, 14, 15, 16] rfl rfl (by decide) (by decide) (by decide) rfl rfl hl.1 rfl (Nat.le_of_ble_eq_true rfl) dL_law_305 ⟨Nat.le_of_ble_eq_true rfl, Nat.le_of_ble_eq_true rfl⟩ (fun H locs hP hD hS => ?_)
        refine W.eq (g2 := F0 m 308 ls [.int (bI (decide (¬ wiL (if cm = 0 then e_first kd pa be mi nq lf im ro else abL nw (fun q => e_next kd pa be af mi nq lf (nI q)) nq 0 0) (xs (i + 1)) nr nq 0 0 = 0))), .int (bI (decide (¬ pnL (xs (i + 1)) rd nm np 0 0 = 0)))]) rfl ?_
        have hP : va_P D vwCl (wD h k tx ln (if pnL (xs (i + 1)) rd nm np 0 0 = 0 then rd else nbL (pnL (xs (i + 1)) rd nm np 0 0) nx np 0 0) (if pnL (xs (i + 1)) rd nm np 0 0 = 0 then wh else decide (¬ (pnL (xs (i + 1)) rd nm np 0 0 &&& la) = 0)) (if pnL (xs (i + 1)) rd nm np 0 0 = 0 then cm else cm + 1) R (nm, nx, np, fi, la, em) ++ wM h2 k2 ty sz im (if wiL (if cm = 0 then e_first kd pa be mi nq lf im ro else abL nw (fun q => e_next kd pa be af mi nq lf (nI q)) nq 0 0) (xs (i + 1)) nr nq 0 0 = 0 then cm else cm + 1) (if wiL (if cm = 0 then e_first kd pa be mi nq lf im ro else abL nw (fun q => e_next kd pa be af mi nq lf (nI q)) nq 0 0) (xs (i + 1)) nr nq 0 0 = 0 then nw else wiL (if cm = 0 then e_first kd pa be mi nq lf im ro else abL nw (fun q => e_next kd pa be af mi nq lf (nI q)) nq 0 0) (xs (i + 1)) nr nq 0 0) (nd, kd, pa, be, af, mi, nq, lf, nr, dq, lq, so, ro)) H := hP
        have hD : va_D A (wD h k tx ln (if pnL (xs (i + 1)) rd nm np 0 0 = 0 then rd else nbL (pnL (xs (i + 1)) rd nm np 0 0) nx np 0 0) (if pnL (xs (i + 1)) rd nm np 0 0 = 0 then wh else decide (¬ (pnL (xs (i + 1)) rd nm np 0 0 &&& la) = 0)) (if pnL (xs (i + 1)) rd nm np 0 0 = 0 then cm else cm + 1) R (nm, nx, np, fi, la, em) ++ wM h2 k2 ty sz im (if wiL (if cm = 0 then e_first kd pa be mi nq lf im ro else abL nw (fun q => e_next kd pa be af mi nq lf (nI q)) nq 0 0) (xs (i + 1)) nr nq 0 0 = 0 then cm else cm + 1) (if wiL (if cm = 0 then e_first kd pa be mi nq lf im ro else abL nw (fun q => e_next kd pa be af mi nq lf (nI q)) nq 0 0) (xs (i + 1)) nr nq 0 0 = 0 then nw else wiL (if cm = 0 then e_first kd pa be mi nq lf im ro else abL nw (fun q => e_next kd pa be af mi nq lf (nI q)) nq 0 0) (xs (i + 1)) nr nq 0 0) (nd, kd, pa, be, af, mi, nq, lf, nr, dq, lq, so, ro)) := hD
        refine lv_icmp_eq (tgt := 352) hx hb dL_law_308 (by decide) (fun c_9 => ?_) (fun c_9 => ?_)
        · have e9 := rel_reach hR (xs (i + 1))
          rw [← e9] at hP hD
          generalize hP9 : pnL (xs (i + 1)) rd nm np 0 0 = P9 at hP hD
          have hr := rel_come hR (xs (i + 1)) P9 hP9
          refine lv_iinc (v := nI (i + 4)) (lv' := [(3, .int (nI (i + 4))), (2, .ref (h2 0)), (1, .ref (h 0)), (0, .ref b)]) hx hb dL_law_352 hl (k := 0) rfl (nI_add i 4) (by decide) rfl (fun ls hl => ?_)
          refine lv_goto (tgt := 18) hx hb dL_law_355 (by decide) ?_
          exact ih (i + 4) nb tx ln (if P9 = 0 then rd else nbL P9 nx np 0 0) (if P9 = 0 then wh else decide (¬ (P9 &&& la) = 0)) (if P9 = 0 then cm else cm + 1) R nm nx np fi la em ty sz im (if P9 = 0 then nw else P9) nd kd pa be af mi nq lf nr dq lq so ro (by omega) (by omega) hr (by split <;> omega) H locs hP hD hS ls (lv_sub hl [0, 1, 2, 3] rfl)
        · exact absurd (congrArg (fun z9 => bI (decide (¬ z9 = 0))) (rel_reach hR (xs (i + 1)))) c_9
      · refine lv_tableIn (off := 281) (tgt := 313) hx hb dL_law_32 (by decide) (by decide) (by decide) (by decide) ?_
        refine lv_aload_n hx hb dL_law_313 rfl (lv_at hl 2 rfl) ?_
        refine ct_callVs (As := []) (rest := []) (wr := wM h2 k2 ty sz im cm nw (nd, kd, pa, be, af, mi, nq, lf, nr, dq, lq, so, ro)) ⟨hx, hb, hml, hown, htg⟩ (k_D_isWhole l D h k tx ln rd wh cm R (nm, nx, np, fi, la, em)) (cwV 0 htg (gV (fun _ z9 => z9) t_266 t_267 t_268 t_23 t_269) rfl rfl rfl (by decide +kernel) ⟨Nat.le_of_ble_eq_true rfl, Nat.le_of_ble_eq_true rfl⟩) 0 rfl rfl hK hP hD hS hA [0, 1, 2, 3, 4, 5, 6, 7, 8, 9] [10, 11, 12, 13, 14, 15, 16, 17, 18, 19, 20] [0, 1, 2, 3, 4, 5, 6] rfl rfl (by decide) (by decide) (by decide) rfl rfl hl.1 rfl (Nat.le_of_ble_eq_true rfl) dL_law_314 ⟨Nat.le_of_ble_eq_true rfl, Nat.le_of_ble_eq_true rfl⟩ (fun H locs hP hD hS => ?_)
        refine W.eq (g2 := F0 m 317 ls [.int (bI wh)]) rfl ?_
        have hP : va_P D vwCl (wM h2 k2 ty sz im cm nw (nd, kd, pa, be, af, mi, nq, lf, nr, dq, lq, so, ro) ++ wD h k tx ln rd wh cm R (nm, nx, np, fi, la, em)) H := hP
        have hD : va_D A (wM h2 k2 ty sz im cm nw (nd, kd, pa, be, af, mi, nq, lf, nr, dq, lq, so, ro) ++ wD h k tx ln rd wh cm R (nm, nx, np, fi, la, em)) := hD
        refine lv_aload_n hx hb dL_law_317 rfl (lv_at hl 1 rfl) ?_
        refine ct_callVs (As := []) (rest := [.int (bI wh)]) (wr := wD h k tx ln rd wh cm R (nm, nx, np, fi, la, em)) ⟨hx, hb, hml, hown, htg⟩ (k_E_isWhole l D h2 k2 ty sz im cm nw nd kd pa be af mi nq lf nr dq lq so ro  nb hok hro hcm) (cwV 0 htg (gV (fun _ z9 => z9) t_438 t_439 t_440 t_26 t_441) rfl rfl rfl (by decide +kernel) ⟨Nat.le_of_ble_eq_true rfl, Nat.le_of_ble_eq_true rfl⟩) 0 rfl rfl hK hP hD hS hA [0, 1, 2, 3, 4, 5, 6, 7, 8, 9, 10] [11, 12, 13, 14, 15, 16, 17, 18, 19, 20] [7, 8, 9, 10, 11, 12, 13, 14, 15, 16] rfl rfl (by decide) (by decide) (by decide) rfl rfl hl.1 rfl (Nat.le_of_ble_eq_true rfl) dL_law_318 ⟨Nat.le_of_ble_eq_true rfl, Nat.le_of_ble_eq_true rfl⟩ (fun H locs hP hD hS => ?_)
        refine W.eq (g2 := F0 m 321 ls [.int (bI (im && (if cm = 0 then mi ro else decide (¬ (nw &&& laL kd pa af mi lf nq 0 0) = 0)))), .int (bI wh)]) rfl ?_
        have hP : va_P D vwCl (wD h k tx ln rd wh cm R (nm, nx, np, fi, la, em) ++ wM h2 k2 ty sz im cm nw (nd, kd, pa, be, af, mi, nq, lf, nr, dq, lq, so, ro)) H := hP
        have hD : va_D A (wD h k tx ln rd wh cm R (nm, nx, np, fi, la, em) ++ wM h2 k2 ty sz im cm nw (nd, kd, pa, be, af, mi, nq, lf, nr, dq, lq, so, ro)) := hD
        refine lv_icmp_eq (tgt := 352) hx hb dL_law_321 (by decide) (fun c_9 => ?_) (fun c_9 => ?_)
        · refine lv_iinc (v := nI (i + 4)) (lv' := [(3, .int (nI (i + 4))), (2, .ref (h2 0)), (1, .ref (h 0)), (0, .ref b)]) hx hb dL_law_352 hl (k := 0) rfl (nI_add i 4) (by decide) rfl (fun ls hl => ?_)
          refine lv_goto (tgt := 18) hx hb dL_law_355 (by decide) ?_
          exact ih (i + 4) nb tx ln rd wh cm R nm nx np fi la em ty sz im nw nd kd pa be af mi nq lf nr dq lq so ro (by omega) (by omega) hR (by omega) H locs hP hD hS ls (lv_sub hl [0, 1, 2, 3] rfl)
        · exact absurd (rel_isWhole hR) c_9
      · refine lv_tableIn (off := 294) (tgt := 326) hx hb dL_law_32 (by decide) (by decide) (by decide) (by decide) ?_
        refine lv_aload_n hx hb dL_law_326 rfl (lv_at hl 2 rfl) ?_
        refine ct_callVs (As := []) (rest := []) (wr := wM h2 k2 ty sz im cm nw (nd, kd, pa, be, af, mi, nq, lf, nr, dq, lq, so, ro)) ⟨hx, hb, hml, hown, htg⟩ (k_D_may l D h k tx ln rd wh cm R nm nx np fi la em hnp) (cwV 0 htg (gV (fun _ z9 => z9) t_270 t_271 t_272 t_23 t_273) rfl rfl rfl (by decide +kernel) ⟨Nat.le_of_ble_eq_true rfl, Nat.le_of_ble_eq_true rfl⟩) 0 rfl rfl hK hP hD hS hA [0, 1, 2, 3, 4, 5, 6, 7, 8, 9] [10, 11, 12, 13, 14, 15, 16, 17, 18, 19, 20] [0, 1, 2, 3, 4, 5, 6] rfl rfl (by decide) (by decide) (by decide) rfl rfl hl.1 rfl (Nat.le_of_ble_eq_true rfl) dL_law_327 ⟨Nat.le_of_ble_eq_true rfl, Nat.le_of_ble_eq_true rfl⟩ (fun H locs hP hD hS => ?_)
        refine W.eq (g2 := F0 m 330 ls [.int (noL rd nm np 0 0)]) rfl ?_
        have hP : va_P D vwCl (wM h2 k2 ty sz im cm nw (nd, kd, pa, be, af, mi, nq, lf, nr, dq, lq, so, ro) ++ wD h k tx ln rd wh cm R (nm, nx, np, fi, la, em)) H := hP
        have hD : va_D A (wM h2 k2 ty sz im cm nw (nd, kd, pa, be, af, mi, nq, lf, nr, dq, lq, so, ro) ++ wD h k tx ln rd wh cm R (nm, nx, np, fi, la, em)) := hD
        refine lv_aload_n hx hb dL_law_330 rfl (lv_at hl 1 rfl) ?_
        refine ct_callVs (As := []) (rest := [.int (noL rd nm np 0 0)]) (wr := wD h k tx ln rd wh cm R (nm, nx, np, fi, la, em)) ⟨hx, hb, hml, hown, htg⟩ (k_E_may l D h2 k2 ty sz im cm nw nd kd pa be af mi nq lf nr dq lq so ro  nb hok hro hcm) (cwV 0 htg (gV (fun _ z9 => z9) t_443 t_444 t_445 t_26 t_446) rfl rfl rfl (by decide +kernel) ⟨Nat.le_of_ble_eq_true rfl, Nat.le_of_ble_eq_true rfl⟩) 0 rfl rfl hK hP hD hS hA [0, 1, 2, 3, 4, 5, 6, 7, 8, 9, 10] [11, 12, 13, 14, 15, 16, 17, 18, 19, 20] [7, 8, 9, 10, 11, 12, 13, 14, 15, 16] rfl rfl (by decide) (by decide) (by decide) rfl rfl hl.1 rfl (Nat.le_of_ble_eq_true rfl) dL_law_331 ⟨Nat.le_of_ble_eq_true rfl, Nat.le_of_ble_eq_true rfl⟩ (fun H locs hP hD hS => ?_)
        refine W.eq (g2 := F0 m 334 ls [.int (myL (if cm = 0 then e_first kd pa be mi nq lf im ro else abL nw (fun q => e_next kd pa be af mi nq lf (nI q)) nq 0 0) nr nq 0 0), .int (noL rd nm np 0 0)]) rfl ?_
        have hP : va_P D vwCl (wD h k tx ln rd wh cm R (nm, nx, np, fi, la, em) ++ wM h2 k2 ty sz im cm nw (nd, kd, pa, be, af, mi, nq, lf, nr, dq, lq, so, ro)) H := hP
        have hD : va_D A (wD h k tx ln rd wh cm R (nm, nx, np, fi, la, em) ++ wM h2 k2 ty sz im cm nw (nd, kd, pa, be, af, mi, nq, lf, nr, dq, lq, so, ro)) := hD
        refine lv_icmp_eq (tgt := 352) hx hb dL_law_334 (by decide) (fun c_9 => ?_) (fun c_9 => ?_)
        · refine lv_iinc (v := nI (i + 4)) (lv' := [(3, .int (nI (i + 4))), (2, .ref (h2 0)), (1, .ref (h 0)), (0, .ref b)]) hx hb dL_law_352 hl (k := 0) rfl (nI_add i 4) (by decide) rfl (fun ls hl => ?_)
          refine lv_goto (tgt := 18) hx hb dL_law_355 (by decide) ?_
          exact ih (i + 4) nb tx ln rd wh cm R nm nx np fi la em ty sz im nw nd kd pa be af mi nq lf nr dq lq so ro (by omega) (by omega) hR (by omega) H locs hP hD hS ls (lv_sub hl [0, 1, 2, 3] rfl)
        · exact absurd (rel_may hR) c_9
      · refine lv_tableIn (off := 307) (tgt := 339) hx hb dL_law_32 (by decide) (by decide) (by decide) (by decide) ?_
        refine lv_aload_n hx hb dL_law_339 rfl (lv_at hl 2 rfl) ?_
        refine ct_callVs (As := []) (rest := []) (wr := wM h2 k2 ty sz im cm nw (nd, kd, pa, be, af, mi, nq, lf, nr, dq, lq, so, ro)) ⟨hx, hb, hml, hown, htg⟩ (k_D_again l D h k tx ln rd wh cm R nm nx np fi la em ) (cwV 0 htg (gV (fun _ z9 => z9) t_278 t_279 t_280 t_23 t_281) rfl rfl rfl (by decide +kernel) ⟨Nat.le_of_ble_eq_true rfl, Nat.le_of_ble_eq_true rfl⟩) 0 rfl rfl hK hP hD hS hA [0, 1, 2, 3, 4, 5, 6, 7, 8, 9] [10, 11, 12, 13, 14, 15, 16, 17, 18, 19, 20] [0, 1, 2, 3, 4, 5, 6] rfl rfl (by decide) (by decide) (by decide) rfl rfl hl.1 rfl (Nat.le_of_ble_eq_true rfl) dL_law_340 ⟨Nat.le_of_ble_eq_true rfl, Nat.le_of_ble_eq_true rfl⟩ (fun H locs hP hD hS => ?_)
        refine W.eq (g2 := F0 m 343 ls [.int (nI cm)]) rfl ?_
        have hP : va_P D vwCl (wM h2 k2 ty sz im cm nw (nd, kd, pa, be, af, mi, nq, lf, nr, dq, lq, so, ro) ++ wD h k tx ln fi em 0 R (nm, nx, np, fi, la, em)) H := hP
        have hD : va_D A (wM h2 k2 ty sz im cm nw (nd, kd, pa, be, af, mi, nq, lf, nr, dq, lq, so, ro) ++ wD h k tx ln fi em 0 R (nm, nx, np, fi, la, em)) := hD
        refine lv_aload_n hx hb dL_law_343 rfl (lv_at hl 1 rfl) ?_
        refine ct_callVs (As := []) (rest := [.int (nI cm)]) (wr := wD h k tx ln fi em 0 R (nm, nx, np, fi, la, em)) ⟨hx, hb, hml, hown, htg⟩ (k_E_again l D h2 k2 ty sz im cm nw (nd, kd, pa, be, af, mi, nq, lf, nr, dq, lq, so, ro)) (cwV 0 htg (gV (fun _ z9 => z9) t_447 t_448 t_449 t_26 t_450) rfl rfl rfl (by decide +kernel) ⟨Nat.le_of_ble_eq_true rfl, Nat.le_of_ble_eq_true rfl⟩) 0 rfl rfl hK hP hD hS hA [0, 1, 2, 3, 4, 5, 6, 7, 8, 9, 10] [11, 12, 13, 14, 15, 16, 17, 18, 19, 20] [7, 8, 9, 10, 11, 12, 13, 14, 15, 16] rfl rfl (by decide) (by decide) (by decide) rfl rfl hl.1 rfl (Nat.le_of_ble_eq_true rfl) dL_law_344 ⟨Nat.le_of_ble_eq_true rfl, Nat.le_of_ble_eq_true rfl⟩ (fun H locs hP hD hS => ?_)
        refine W.eq (g2 := F0 m 347 ls [.int (nI cm), .int (nI cm)]) rfl ?_
        have hP : va_P D vwCl (wD h k tx ln fi em 0 R (nm, nx, np, fi, la, em) ++ wM h2 k2 ty sz im 0 0 (nd, kd, pa, be, af, mi, nq, lf, nr, dq, lq, so, ro)) H := hP
        have hD : va_D A (wD h k tx ln fi em 0 R (nm, nx, np, fi, la, em) ++ wM h2 k2 ty sz im 0 0 (nd, kd, pa, be, af, mi, nq, lf, nr, dq, lq, so, ro)) := hD
        refine lv_icmp_eq (tgt := 352) hx hb dL_law_347 (by decide) (fun c_9 => ?_) (fun c_9 => ?_)
        · refine lv_iinc (v := nI (i + 4)) (lv' := [(3, .int (nI (i + 4))), (2, .ref (h2 0)), (1, .ref (h 0)), (0, .ref b)]) hx hb dL_law_352 hl (k := 0) rfl (nI_add i 4) (by decide) rfl (fun ls hl => ?_)
          refine lv_goto (tgt := 18) hx hb dL_law_355 (by decide) ?_
          exact ih (i + 4) nb tx ln fi em 0 R nm nx np fi la em ty sz im 0 nd kd pa be af mi nq lf nr dq lq so ro (by omega) (by omega) (rel_again hR) (by omega) H locs hP hD hS ls (lv_sub hl [0, 1, 2, 3] rfl)
        · exact absurd rfl c_9
      · refine lv_tableOut (tgt := 352) hx hb dL_law_32 (by decide) (by decide) ?_
        refine lv_iinc (v := nI (i + 4)) (lv' := [(3, .int (nI (i + 4))), (2, .ref (h2 0)), (1, .ref (h 0)), (0, .ref b)]) hx hb dL_law_352 hl (k := 0) rfl (nI_add i 4) (by decide) rfl (fun ls hl => ?_)
        refine lv_goto (tgt := 18) hx hb dL_law_355 (by decide) ?_
        exact ih (i + 4) nb tx ln rd wh cm R nm nx np fi la em ty sz im nw nd kd pa be af mi nq lf nr dq lq so ro (by omega) (by omega) hR (by omega) H locs hP hD hS ls (lv_sub hl [0, 1, 2, 3] rfl)
      · refine lv_tableOut (tgt := 352) hx hb dL_law_32 (by decide) (by decide) ?_
        refine lv_iinc (v := nI (i + 4)) (lv' := [(3, .int (nI (i + 4))), (2, .ref (h2 0)), (1, .ref (h 0)), (0, .ref b)]) hx hb dL_law_352 hl (k := 0) rfl (nI_add i 4) (by decide) rfl (fun ls hl => ?_)
        refine lv_goto (tgt := 18) hx hb dL_law_355 (by decide) ?_
        exact ih (i + 4) nb tx ln rd wh cm R nm nx np fi la em ty sz im nw nd kd pa be af mi nq lf nr dq lq so ro (by omega) (by omega) hR (by omega) H locs hP hD hS ls (lv_sub hl [0, 1, 2, 3] rfl)
      · refine lv_tableOut (tgt := 352) hx hb dL_law_32 (by decide) (by decide) ?_
        refine lv_iinc (v := nI (i + 4)) (lv' := [(3, .int (nI (i + 4))), (2, .ref (h2 0)), (1, .ref (h 0)), (0, .ref b)]) hx hb dL_law_352 hl (k := 0) rfl (nI_add i 4) (by decide) rfl (fun ls hl => ?_)
        refine lv_goto (tgt := 18) hx hb dL_law_355 (by decide) ?_
        exact ih (i + 4) nb tx ln rd wh cm R nm nx np fi la em ty sz im nw nd kd pa be af mi nq lf nr dq lq so ro (by omega) (by omega) hR (by omega) H locs hP hD hS ls (lv_sub hl [0, 1, 2, 3] rfl)
