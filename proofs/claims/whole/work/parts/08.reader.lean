/-! The methods of the class: reader (laid by program) -/
set_option maxHeartbeats 4000000 in
set_option maxRecDepth 100000 in
theorem k_R_begin (l : Launch) (D : va_G) (h : Nat → Nat) (k : Nat → ClassId) (tx : Nat → Int32) (ln : Nat) (rd : Int64) (wh : Bool) (cm : Nat) (oF : Nat → Int64) (oL : Nat → Int64) (oE : Nat → Bool) (sp : Nat → Int32) (dp : Nat) (sta : Int32) (pF : Int64) (pL : Int64) (pE : Bool) (nm : Nat → Int32) (nx : Nat → Int64) (np : Nat) (fi : Int64) (la : Int64) (em : Bool)  (hnp : np ≤ 60) :
    Ct l yX1_begin wsX1_begin (rmN 1) D vwCl (tyD k) [.ref (h 2)] (wD h k tx ln rd wh cm (oF, oL, oE, sp, dp, sta, pF, pL, pE) (nm, nx, np, fi, la, em)) (wD h k tx ln rd wh cm (r_begin (oF, oL, oE, sp, dp, sta, pF, pL, pE)) (m_clear (nm, nx, np, fi, la, em))) none := by
  refine Ct.of (cc := cX1_begin) (maxL := 1) (ret := none) (lv := [(0, .ref (h 2))]) (by decide) rfl (Nat.le_of_ble_eq_true rfl) rfl ?_
  intro p e s m below meth c A ls hx hb hr hml hts hown hlocks hK hP hD hS hA hl
  refine lv_aload_n hx hb dX1_begin_0 rfl (lv_at hl 0 rfl) ?_
  refine va_get (D := D) (ci := 1) (v := .ref (h 7)) (C := RX1) (T := TX1) (N := 10) hx hb hts (fun w h => lw_in w (inX1 w h)) hown hK hP 2 rfl rfl 0 (by decide) (hts _ (lw_in _ t_79)) (fun _ h9 => h9) rfl dX1_begin_1 ?_
  refine ct_callV (As := []) (rest := []) ⟨hx, hb, hml, hown, hts⟩ (k_M_clear l D h k tx ln rd wh cm (oF, oL, oE, sp, dp, sta, pF, pL, pE) nm nx np fi la em) (cwV 0 hts (gV lw_in t_150 t_151 t_152 t_25 t_153) rfl rfl rfl (by decide +kernel) ⟨Nat.le_of_ble_eq_true rfl, Nat.le_of_ble_eq_true rfl⟩) 7 rfl rfl hK hP hD hS hA rfl hl.1 rfl (Nat.le_of_ble_eq_true rfl) dX1_begin_4 ⟨Nat.zero_le _, Nat.zero_le _⟩ (fun H locs hP hD hS => ?_)
  refine W.eq (g2 := F0 m 7 ls []) rfl ?_
  have hP : va_P D vwCl (wD h k tx ln rd wh cm (oF, oL, oE, sp, dp, sta, pF, pL, pE) (nm, nx, 0, 0, 0, false)) H := hP
  have hD : va_D A (wD h k tx ln rd wh cm (oF, oL, oE, sp, dp, sta, pF, pL, pE) (nm, nx, 0, 0, 0, false)) := hD
  refine lv_aload_n hx hb dX1_begin_7 rfl (lv_at hl 0 rfl) ?_
  refine lv_iconst (v := 0) hx hb dX1_begin_8 (by decide) ?_
  refine lv_eqi (show 0 = nI 0 from rfl) ?_
  refine va_put (D := D) (ci := 1) (v := .int (nI 0)) (ty := .int) (C := RX1) (T := TX1) (N := 10) hx hb hts (fun w h => lw_in w (inX1 w h)) tyX1 tyX1_ok nmX1 hown hK hP hD hS 2 rfl rfl 5 (by decide) (hts _ (lw_in _ t_85)) (fun _ h9 => h9) rfl (by decide +kernel) rfl rfl (Nat.le_of_ble_eq_true rfl) dX1_begin_9 (fun H locs hP hD hS => ?_)
  have hP : va_P D vwCl (wD h k tx ln rd wh cm (oF, oL, oE, sp, 0, sta, pF, pL, pE) (nm, nx, 0, 0, 0, false)) H := hP
  have hD : va_D A (wD h k tx ln rd wh cm (oF, oL, oE, sp, 0, sta, pF, pL, pE) (nm, nx, 0, 0, 0, false)) := hD
  refine lv_aload_n hx hb dX1_begin_12 rfl (lv_at hl 0 rfl) ?_
  refine lv_iconst (v := 0) hx hb dX1_begin_13 (by decide) ?_
  refine va_put (D := D) (ci := 1) (v := .int 0) (ty := .int) (C := RX1) (T := TX1) (N := 10) hx hb hts (fun w h => lw_in w (inX1 w h)) tyX1 tyX1_ok nmX1 hown hK hP hD hS 2 rfl rfl 6 (by decide) (hts _ (lw_in _ t_86)) (fun _ h9 => h9) rfl (by decide +kernel) rfl rfl (Nat.le_of_ble_eq_true rfl) dX1_begin_14 (fun H locs hP hD hS => ?_)
  have hP : va_P D vwCl (wD h k tx ln rd wh cm (oF, oL, oE, sp, 0, 0, pF, pL, pE) (nm, nx, 0, 0, 0, false)) H := hP
  have hD : va_D A (wD h k tx ln rd wh cm (oF, oL, oE, sp, 0, 0, pF, pL, pE) (nm, nx, 0, 0, 0, false)) := hD
  exact ct_endv hx hb hr hlocks hP hD hS rfl rfl dX1_begin_17

set_option maxHeartbeats 4000000 in
set_option maxRecDepth 100000 in
theorem k_R_open (l : Launch) (D : va_G) (h : Nat → Nat) (k : Nat → ClassId) (tx : Nat → Int32) (ln : Nat) (rd : Int64) (wh : Bool) (cm : Nat) (oF : Nat → Int64) (oL : Nat → Int64) (oE : Nat → Bool) (sp : Nat → Int32) (dp : Nat) (sta : Int32) (pF : Int64) (pL : Int64) (pE : Bool) (M : MS)  (hdp : dp ≤ 12) :
    Ct l yX1_open wsX1_open (rmN 0) D vwCl (tyD k) [.ref (h 2)] (wD h k tx ln rd wh cm (oF, oL, oE, sp, dp, sta, pF, pL, pE) M) (wD h k tx ln rd wh cm (r_open (oF, oL, oE, sp, dp, sta, pF, pL, pE)).1 M) (some (.int ((r_open (oF, oL, oE, sp, dp, sta, pF, pL, pE)).2))) := by
  refine Ct.of (cc := cX1_open) (maxL := 1) (ret := (some .int)) (lv := [(0, .ref (h 2))]) (by decide) rfl (Nat.le_of_ble_eq_true rfl) rfl ?_
  intro p e s m below meth c A ls hx hb hr hml hts hown hlocks hK hP hD hS hA hl
  refine lv_aload_n hx hb dX1_open_0 rfl (lv_at hl 0 rfl) ?_
  refine va_get (D := D) (ci := 1) (v := .int (nI dp)) (C := RX1) (T := TX1) (N := 10) hx hb hts (fun w h => lw_in w (inX1 w h)) hown hK hP 2 rfl rfl 5 (by decide) (hts _ (lw_in _ t_85)) (fun _ h9 => h9) rfl dX1_open_1 ?_
  refine lv_bipush (v := 12) hx hb dX1_open_4 (by decide) ?_
  refine lv_icmp_lt (tgt := 11) hx hb dX1_open_6 (by decide) (fun c_6 => ?_) (fun c_6 => ?_)
  · have c_6 : dp < 12 := (nI_ltI (a := dp) (b := 12) (by omega) (by omega)).mp c_6
    refine lv_aload_n hx hb dX1_open_11 rfl (lv_at hl 0 rfl) ?_
    refine va_get (D := D) (ci := 1) (v := .ref (h 6)) (C := RX1) (T := TX1) (N := 10) hx hb hts (fun w h => lw_in w (inX1 w h)) hown hK hP 2 rfl rfl 4 (by decide) (hts _ (lw_in _ t_84)) (fun _ h9 => h9) rfl dX1_open_12 ?_
    refine lv_aload_n hx hb dX1_open_15 rfl (lv_at hl 0 rfl) ?_
    refine va_get (D := D) (ci := 1) (v := .int (nI dp)) (C := RX1) (T := TX1) (N := 10) hx hb hts (fun w h => lw_in w (inX1 w h)) hown hK hP 2 rfl rfl 5 (by decide) (hts _ (lw_in _ t_85)) (fun _ h9 => h9) rfl dX1_open_16 ?_
    refine lv_iconst (v := 0) hx hb dX1_open_19 (by decide) ?_
    refine wx_iast hx hb hK hP hD hS 6 4 rfl rfl (i := dp) (by omega) (by decide) dX1_open_20 (fun H locs hP hD hS => ?_)
    have hP : va_P D vwCl (wD h k tx ln rd wh cm (oF, oL, oE, (upd sp dp 0), dp, sta, pF, pL, pE) M) H := hP
    have hD : va_D A (wD h k tx ln rd wh cm (oF, oL, oE, (upd sp dp 0), dp, sta, pF, pL, pE) M) := hD
    refine lv_aload_n hx hb dX1_open_21 rfl (lv_at hl 0 rfl) ?_
    refine lv_dup hx hb dX1_open_22 rfl ?_
    refine va_get (D := D) (ci := 1) (v := .int (nI dp)) (C := RX1) (T := TX1) (N := 10) hx hb hts (fun w h => lw_in w (inX1 w h)) hown hK hP 2 rfl rfl 5 (by decide) (hts _ (lw_in _ t_85)) (fun _ h9 => h9) rfl dX1_open_23 ?_
    refine lv_iconst (v := 1) hx hb dX1_open_26 (by decide) ?_
    refine lv_iadd hx hb dX1_open_27 ?_
    refine lv_eqi (show (nI dp + 1) = nI (dp + 1) from nI_1 _) ?_
    refine va_put (D := D) (ci := 1) (v := .int (nI (dp + 1))) (ty := .int) (C := RX1) (T := TX1) (N := 10) hx hb hts (fun w h => lw_in w (inX1 w h)) tyX1 tyX1_ok nmX1 hown hK hP hD hS 2 rfl rfl 5 (by decide) (hts _ (lw_in _ t_85)) (fun _ h9 => h9) rfl (by decide +kernel) rfl rfl (Nat.le_of_ble_eq_true rfl) dX1_open_28 (fun H locs hP hD hS => ?_)
    have hP : va_P D vwCl (wD h k tx ln rd wh cm (oF, oL, oE, (upd sp dp 0), (dp + 1), sta, pF, pL, pE) M) H := hP
    have hD : va_D A (wD h k tx ln rd wh cm (oF, oL, oE, (upd sp dp 0), (dp + 1), sta, pF, pL, pE) M) := hD
    refine lv_aload_n hx hb dX1_open_31 rfl (lv_at hl 0 rfl) ?_
    refine lv_iconst (v := 1) hx hb dX1_open_32 (by decide) ?_
    refine va_put (D := D) (ci := 1) (v := .int 1) (ty := .int) (C := RX1) (T := TX1) (N := 10) hx hb hts (fun w h => lw_in w (inX1 w h)) tyX1 tyX1_ok nmX1 hown hK hP hD hS 2 rfl rfl 6 (by decide) (hts _ (lw_in _ t_86)) (fun _ h9 => h9) rfl (by decide +kernel) rfl rfl (Nat.le_of_ble_eq_true rfl) dX1_open_33 (fun H locs hP hD hS => ?_)
    have hP : va_P D vwCl (wD h k tx ln rd wh cm (oF, oL, oE, (upd sp dp 0), (dp + 1), 1, pF, pL, pE) M) H := hP
    have hD : va_D A (wD h k tx ln rd wh cm (oF, oL, oE, (upd sp dp 0), (dp + 1), 1, pF, pL, pE) M) := hD
    refine lv_iconst (v := 0) hx hb dX1_open_36 (by decide) ?_
    have e_37 : r_open (oF, oL, oE, sp, dp, sta, pF, pL, pE) = ((oF, oL, oE, (upd sp dp 0), (dp + 1), 1, pF, pL, pE), 0) := by simp [r_open, c_6, Nat.not_le.mpr c_6]
    exact ct_endi hx hb hr hlocks rfl hP hD hS (by rw [e_37]) (by rw [e_37]) dX1_open_37
  · have c_6 : 12 ≤ dp := Nat.le_of_not_lt (fun z => c_6 ((nI_ltI (a := dp) (b := 12) (by omega) (by omega)).mpr z))
    refine lv_iconst (v := 2) hx hb dX1_open_9 (by decide) ?_
    have e_10 : r_open (oF, oL, oE, sp, dp, sta, pF, pL, pE) = ((oF, oL, oE, sp, dp, sta, pF, pL, pE), 2) := by simp [r_open, c_6, Nat.not_lt.mpr c_6]
    exact ct_endi hx hb hr hlocks rfl hP hD hS (by rw [e_10]) (by rw [e_10]) dX1_open_10

set_option maxHeartbeats 4000000 in
set_option maxRecDepth 100000 in
theorem k_R_takeName (l : Launch) (D : va_G) (h : Nat → Nat) (k : Nat → ClassId) (tx : Nat → Int32) (ln : Nat) (rd : Int64) (wh : Bool) (cm : Nat) (oF : Nat → Int64) (oL : Nat → Int64) (oE : Nat → Bool) (sp : Nat → Int32) (dp : Nat) (sta : Int32) (pF : Int64) (pL : Int64) (pE : Bool) (nm : Nat → Int32) (nx : Nat → Int64) (np : Nat) (fi : Int64) (la : Int64) (em : Bool) (x : Int32) (hnp : np ≤ 60) :
    Ct l yX1_takeName wsX1_takeName (rmN 2) D vwCl (tyD k) [.ref (h 2), .int x] (wD h k tx ln rd wh cm (oF, oL, oE, sp, dp, sta, pF, pL, pE) (nm, nx, np, fi, la, em)) (wD h k tx ln rd wh cm ((r_name (oF, oL, oE, sp, dp, sta, pF, pL, pE) (nm, nx, np, fi, la, em) x).1) ((r_name (oF, oL, oE, sp, dp, sta, pF, pL, pE) (nm, nx, np, fi, la, em) x).2.1)) (some (.int ((r_name (oF, oL, oE, sp, dp, sta, pF, pL, pE) (nm, nx, np, fi, la, em) x).2.2))) := by
  refine Ct.of (cc := cX1_takeName) (maxL := 2) (ret := (some .int)) (lv := [(0, .ref (h 2)), (1, .int x)]) (by decide) rfl (Nat.le_of_ble_eq_true rfl) rfl ?_
  intro p e s m below meth c A ls hx hb hr hml hts hown hlocks hK hP hD hS hA hl
  refine lv_aload_n hx hb dX1_takeName_0 rfl (lv_at hl 0 rfl) ?_
  refine va_get (D := D) (ci := 1) (v := .ref (h 7)) (C := RX1) (T := TX1) (N := 10) hx hb hts (fun w h => lw_in w (inX1 w h)) hown hK hP 2 rfl rfl 0 (by decide) (hts _ (lw_in _ t_79)) (fun _ h9 => h9) rfl dX1_takeName_1 ?_
  refine ct_callV (As := []) (rest := []) ⟨hx, hb, hml, hown, hts⟩ (k_M_isFull l D h k tx ln rd wh cm (oF, oL, oE, sp, dp, sta, pF, pL, pE) nm nx np fi la em  (by omega)) (cwV 0 hts (gV lw_in t_170 t_171 t_172 t_25 t_173) rfl rfl rfl (by decide +kernel) ⟨Nat.le_of_ble_eq_true rfl, Nat.le_of_ble_eq_true rfl⟩) 7 rfl rfl hK hP hD hS hA rfl hl.1 rfl (Nat.le_of_ble_eq_true rfl) dX1_takeName_4 ⟨Nat.zero_le _, Nat.zero_le _⟩ (fun H locs hP hD hS => ?_)
  refine W.eq (g2 := F0 m 7 ls [.int (bI (decide (60 ≤ np)))]) rfl ?_
  refine lv_if_eq (tgt := 12) hx hb dX1_takeName_7 (by decide) (fun c_7 => ?_) (fun c_7 => ?_)
  · have c_7 : (decide (60 ≤ np)) = false := (bI_eq0 _).mp c_7
    have c_7 : ¬ 60 ≤ np := of_decide_eq_false c_7
    refine lv_aload_n hx hb dX1_takeName_12 rfl (lv_at hl 0 rfl) ?_
    refine lv_lconst (v := 1) hx hb dX1_takeName_13 (by decide) ?_
    refine lv_aload_n hx hb dX1_takeName_14 rfl (lv_at hl 0 rfl) ?_
    refine va_get (D := D) (ci := 1) (v := .ref (h 7)) (C := RX1) (T := TX1) (N := 10) hx hb hts (fun w h => lw_in w (inX1 w h)) hown hK hP 2 rfl rfl 0 (by decide) (hts _ (lw_in _ t_79)) (fun _ h9 => h9) rfl dX1_takeName_15 ?_
    refine va_get (D := D) (ci := 0) (v := .int (nI np)) (C := RX0) (T := TX0) (N := 6) hx hb hts (fun w h => lw_in w (inX0 w h)) hown hK hP 7 rfl rfl 2 (by decide) (hts _ (lw_in _ t_53)) (fun _ h9 => h9) rfl dX1_takeName_18 ?_
    refine lv_lshl (v := ((1 : Int64) <<< ((nI np).toInt64 &&& 63))) hx hb dX1_takeName_21 rfl ?_
    refine va_put (D := D) (ci := 1) (v := .long ((1 : Int64) <<< ((nI np).toInt64 &&& 63))) (ty := .long) (C := RX1) (T := TX1) (N := 10) hx hb hts (fun w h => lw_in w (inX1 w h)) tyX1 tyX1_ok nmX1 hown hK hP hD hS 2 rfl rfl 7 (by decide) (hts _ (lw_in _ t_87)) (fun _ h9 => h9) rfl (by decide +kernel) rfl rfl (Nat.le_of_ble_eq_true rfl) dX1_takeName_22 (fun H locs hP hD hS => ?_)
    have hP : va_P D vwCl (wD h k tx ln rd wh cm (oF, oL, oE, sp, dp, sta, ((1 : Int64) <<< ((nI np).toInt64 &&& 63)), pL, pE) (nm, nx, np, fi, la, em)) H := hP
    have hD : va_D A (wD h k tx ln rd wh cm (oF, oL, oE, sp, dp, sta, ((1 : Int64) <<< ((nI np).toInt64 &&& 63)), pL, pE) (nm, nx, np, fi, la, em)) := hD
    refine lv_aload_n hx hb dX1_takeName_25 rfl (lv_at hl 0 rfl) ?_
    refine lv_aload_n hx hb dX1_takeName_26 rfl (lv_at hl 0 rfl) ?_
    refine va_get (D := D) (ci := 1) (v := .long ((1 : Int64) <<< ((nI np).toInt64 &&& 63))) (C := RX1) (T := TX1) (N := 10) hx hb hts (fun w h => lw_in w (inX1 w h)) hown hK hP 2 rfl rfl 7 (by decide) (hts _ (lw_in _ t_87)) (fun _ h9 => h9) rfl dX1_takeName_27 ?_
    refine va_put (D := D) (ci := 1) (v := .long ((1 : Int64) <<< ((nI np).toInt64 &&& 63))) (ty := .long) (C := RX1) (T := TX1) (N := 10) hx hb hts (fun w h => lw_in w (inX1 w h)) tyX1 tyX1_ok nmX1 hown hK hP hD hS 2 rfl rfl 8 (by decide) (hts _ (lw_in _ t_88)) (fun _ h9 => h9) rfl (by decide +kernel) rfl rfl (Nat.le_of_ble_eq_true rfl) dX1_takeName_30 (fun H locs hP hD hS => ?_)
    have hP : va_P D vwCl (wD h k tx ln rd wh cm (oF, oL, oE, sp, dp, sta, ((1 : Int64) <<< ((nI np).toInt64 &&& 63)), ((1 : Int64) <<< ((nI np).toInt64 &&& 63)), pE) (nm, nx, np, fi, la, em)) H := hP
    have hD : va_D A (wD h k tx ln rd wh cm (oF, oL, oE, sp, dp, sta, ((1 : Int64) <<< ((nI np).toInt64 &&& 63)), ((1 : Int64) <<< ((nI np).toInt64 &&& 63)), pE) (nm, nx, np, fi, la, em)) := hD
    refine lv_aload_n hx hb dX1_takeName_33 rfl (lv_at hl 0 rfl) ?_
    refine lv_iconst (v := 0) hx hb dX1_takeName_34 (by decide) ?_
    refine lv_eqi (show 0 = bI false from rfl) ?_
    refine va_put (D := D) (ci := 1) (v := .int (bI false)) (ty := .boolean) (C := RX1) (T := TX1) (N := 10) hx hb hts (fun w h => lw_in w (inX1 w h)) tyX1 tyX1_ok nmX1 hown hK hP hD hS 2 rfl rfl 9 (by decide) (hts _ (lw_in _ t_89)) (fun _ h9 => h9) rfl (by decide +kernel) (bI_narrow _) (bI_fits _) (Nat.le_of_ble_eq_true rfl) dX1_takeName_35 (fun H locs hP hD hS => ?_)
    have hP : va_P D vwCl (wD h k tx ln rd wh cm (oF, oL, oE, sp, dp, sta, ((1 : Int64) <<< ((nI np).toInt64 &&& 63)), ((1 : Int64) <<< ((nI np).toInt64 &&& 63)), false) (nm, nx, np, fi, la, em)) H := hP
    have hD : va_D A (wD h k tx ln rd wh cm (oF, oL, oE, sp, dp, sta, ((1 : Int64) <<< ((nI np).toInt64 &&& 63)), ((1 : Int64) <<< ((nI np).toInt64 &&& 63)), false) (nm, nx, np, fi, la, em)) := hD
    refine lv_aload_n hx hb dX1_takeName_38 rfl (lv_at hl 0 rfl) ?_
    refine va_get (D := D) (ci := 1) (v := .ref (h 7)) (C := RX1) (T := TX1) (N := 10) hx hb hts (fun w h => lw_in w (inX1 w h)) hown hK hP 2 rfl rfl 0 (by decide) (hts _ (lw_in _ t_79)) (fun _ h9 => h9) rfl dX1_takeName_39 ?_
    refine lv_iload_n hx hb dX1_takeName_42 rfl (lv_at hl 1 rfl) ?_
    refine ct_callV (As := [.int x]) (rest := []) ⟨hx, hb, hml, hown, hts⟩ (k_M_addPlace l D h k tx ln rd wh cm (oF, oL, oE, sp, dp, sta, ((1 : Int64) <<< ((nI np).toInt64 &&& 63)), ((1 : Int64) <<< ((nI np).toInt64 &&& 63)), false) nm nx np fi la em x (by omega)) (cwV 1 hts (gV lw_in t_174 t_175 t_176 t_25 t_177) rfl rfl rfl (by decide +kernel) ⟨Nat.le_of_ble_eq_true rfl, Nat.le_of_ble_eq_true rfl⟩) 7 rfl rfl hK hP hD hS hA rfl hl.1 rfl (Nat.le_of_ble_eq_true rfl) dX1_takeName_43 ⟨Nat.zero_le _, Nat.zero_le _⟩ (fun H locs hP hD hS => ?_)
    refine W.eq (g2 := F0 m 46 ls []) rfl ?_
    have hP : va_P D vwCl (wD h k tx ln rd wh cm (oF, oL, oE, sp, dp, sta, ((1 : Int64) <<< ((nI np).toInt64 &&& 63)), ((1 : Int64) <<< ((nI np).toInt64 &&& 63)), false) (m_add (nm, nx, np, fi, la, em) x)) H := hP
    have hD : va_D A (wD h k tx ln rd wh cm (oF, oL, oE, sp, dp, sta, ((1 : Int64) <<< ((nI np).toInt64 &&& 63)), ((1 : Int64) <<< ((nI np).toInt64 &&& 63)), false) (m_add (nm, nx, np, fi, la, em) x)) := hD
    have e_a : m_add (nm, nx, np, fi, la, em) x = (upd nm np x, vp_updL nx np 0, np + 1, fi, la, em) := by simp [m_add, c_7]
    rw [e_a] at hP hD
    refine lv_aload_n hx hb dX1_takeName_46 rfl (lv_at hl 0 rfl) ?_
    refine lv_iconst (v := 2) hx hb dX1_takeName_47 (by decide) ?_
    refine va_put (D := D) (ci := 1) (v := .int 2) (ty := .int) (C := RX1) (T := TX1) (N := 10) hx hb hts (fun w h => lw_in w (inX1 w h)) tyX1 tyX1_ok nmX1 hown hK hP hD hS 2 rfl rfl 6 (by decide) (hts _ (lw_in _ t_86)) (fun _ h9 => h9) rfl (by decide +kernel) rfl rfl (Nat.le_of_ble_eq_true rfl) dX1_takeName_48 (fun H locs hP hD hS => ?_)
    have hP : va_P D vwCl (wD h k tx ln rd wh cm (oF, oL, oE, sp, dp, 2, ((1 : Int64) <<< ((nI np).toInt64 &&& 63)), ((1 : Int64) <<< ((nI np).toInt64 &&& 63)), false) ((upd nm np x), (vp_updL nx np 0), (np + 1), fi, la, em)) H := hP
    have hD : va_D A (wD h k tx ln rd wh cm (oF, oL, oE, sp, dp, 2, ((1 : Int64) <<< ((nI np).toInt64 &&& 63)), ((1 : Int64) <<< ((nI np).toInt64 &&& 63)), false) ((upd nm np x), (vp_updL nx np 0), (np + 1), fi, la, em)) := hD
    refine lv_iconst (v := 0) hx hb dX1_takeName_51 (by decide) ?_
    have e_52 : r_name (oF, oL, oE, sp, dp, sta, pF, pL, pE) (nm, nx, np, fi, la, em) x = ((oF, oL, oE, sp, dp, 2, ((1 : Int64) <<< ((nI np).toInt64 &&& 63)), ((1 : Int64) <<< ((nI np).toInt64 &&& 63)), false), ((upd nm np x), (vp_updL nx np 0), (np + 1), fi, la, em), 0) := by simp [r_name, c_7]
    exact ct_endi hx hb hr hlocks rfl hP hD hS (by rw [e_52]) (by rw [e_52]) dX1_takeName_52
  · have c_7 : (decide (60 ≤ np)) = true := (bI_ne0 _).mp c_7
    have c_7 : 60 ≤ np := of_decide_eq_true c_7
    refine lv_iconst (v := 2) hx hb dX1_takeName_10 (by decide) ?_
    have e_11 : r_name (oF, oL, oE, sp, dp, sta, pF, pL, pE) (nm, nx, np, fi, la, em) x = ((oF, oL, oE, sp, dp, sta, pF, pL, pE), (nm, nx, np, fi, la, em), 2) := by simp [r_name, c_7]
    exact ct_endi hx hb hr hlocks rfl hP hD hS (by rw [e_11]) (by rw [e_11]) dX1_takeName_11

set_option maxHeartbeats 4000000 in
set_option maxRecDepth 100000 in
theorem k_R_takeSign (l : Launch) (D : va_G) (h : Nat → Nat) (k : Nat → ClassId) (tx : Nat → Int32) (ln : Nat) (rd : Int64) (wh : Bool) (cm : Nat) (oF : Nat → Int64) (oL : Nat → Int64) (oE : Nat → Bool) (sp : Nat → Int32) (dp : Nat) (sta : Int32) (pF : Int64) (pL : Int64) (pE : Bool) (nm : Nat → Int32) (nx : Nat → Int64) (np : Nat) (fi : Int64) (la : Int64) (em : Bool) (x : Int32) (hnp : np ≤ 60) :
    Ct l yX1_takeSign wsX1_takeSign (rmN 2) D vwCl (tyD k) [.ref (h 2), .int x] (wD h k tx ln rd wh cm (oF, oL, oE, sp, dp, sta, pF, pL, pE) (nm, nx, np, fi, la, em)) (wD h k tx ln rd wh cm ((r_sign (oF, oL, oE, sp, dp, sta, pF, pL, pE) (nm, nx, np, fi, la, em) x).1) ((r_sign (oF, oL, oE, sp, dp, sta, pF, pL, pE) (nm, nx, np, fi, la, em) x).2.1)) (some (.int ((r_sign (oF, oL, oE, sp, dp, sta, pF, pL, pE) (nm, nx, np, fi, la, em) x).2.2))) := by
  refine Ct.of (cc := cX1_takeSign) (maxL := 2) (ret := (some .int)) (lv := [(0, .ref (h 2)), (1, .int x)]) (by decide) rfl (Nat.le_of_ble_eq_true rfl) rfl ?_
  intro p e s m below meth c A ls hx hb hr hml hts hown hlocks hK hP hD hS hA hl
  refine lv_aload_n hx hb dX1_takeSign_0 rfl (lv_at hl 0 rfl) ?_
  refine va_get (D := D) (ci := 1) (v := .int sta) (C := RX1) (T := TX1) (N := 10) hx hb hts (fun w h => lw_in w (inX1 w h)) hown hK hP 2 rfl rfl 6 (by decide) (hts _ (lw_in _ t_86)) (fun _ h9 => h9) rfl dX1_takeSign_1 ?_
  refine lv_iconst (v := 2) hx hb dX1_takeSign_4 (by decide) ?_
  refine lv_icmp_eq (tgt := 10) hx hb dX1_takeSign_5 (by decide) (fun c_5 => ?_) (fun c_5 => ?_)
  · have c_5 : sta = 2 := c_5
    refine lv_iload_n hx hb dX1_takeSign_10 rfl (lv_at hl 1 rfl) ?_
    refine lv_bipush (v := 63) hx hb dX1_takeSign_11 (by decide) ?_
    refine lv_icmp_eq (tgt := 31) hx hb dX1_takeSign_13 (by decide) (fun c_13 => ?_) (fun c_13 => ?_)
    · have c_13 : x = 63 := c_13
      refine lv_iload_n hx hb dX1_takeSign_31 rfl (lv_at hl 1 rfl) ?_
      refine lv_bipush (v := 43) hx hb dX1_takeSign_32 (by decide) ?_
      refine lv_icmp_eq (tgt := 42) hx hb dX1_takeSign_34 (by decide) (fun c_34 => ?_) (fun c_34 => ?_)
      · have c_34 : x = 43 := c_34
        exact absurd (c_13.symm.trans c_34) (by decide)
      · have c_34 : ¬ x = 43 := c_34
        refine lv_aload_n hx hb dX1_takeSign_37 rfl (lv_at hl 0 rfl) ?_
        refine lv_iconst (v := 1) hx hb dX1_takeSign_38 (by decide) ?_
        refine lv_eqi (show 1 = bI true from rfl) ?_
        refine va_put (D := D) (ci := 1) (v := .int (bI true)) (ty := .boolean) (C := RX1) (T := TX1) (N := 10) hx hb hts (fun w h => lw_in w (inX1 w h)) tyX1 tyX1_ok nmX1 hown hK hP hD hS 2 rfl rfl 9 (by decide) (hts _ (lw_in _ t_89)) (fun _ h9 => h9) rfl (by decide +kernel) (bI_narrow _) (bI_fits _) (Nat.le_of_ble_eq_true rfl) dX1_takeSign_39 (fun H locs hP hD hS => ?_)
        have hP : va_P D vwCl (wD h k tx ln rd wh cm (oF, oL, oE, sp, dp, sta, pF, pL, true) (nm, nx, np, fi, la, em)) H := hP
        have hD : va_D A (wD h k tx ln rd wh cm (oF, oL, oE, sp, dp, sta, pF, pL, true) (nm, nx, np, fi, la, em)) := hD
        refine lv_aload_n hx hb dX1_takeSign_42 rfl (lv_at hl 0 rfl) ?_
        refine lv_iconst (v := 3) hx hb dX1_takeSign_43 (by decide) ?_
        refine va_put (D := D) (ci := 1) (v := .int 3) (ty := .int) (C := RX1) (T := TX1) (N := 10) hx hb hts (fun w h => lw_in w (inX1 w h)) tyX1 tyX1_ok nmX1 hown hK hP hD hS 2 rfl rfl 6 (by decide) (hts _ (lw_in _ t_86)) (fun _ h9 => h9) rfl (by decide +kernel) rfl rfl (Nat.le_of_ble_eq_true rfl) dX1_takeSign_44 (fun H locs hP hD hS => ?_)
        have hP : va_P D vwCl (wD h k tx ln rd wh cm (oF, oL, oE, sp, dp, 3, pF, pL, true) (nm, nx, np, fi, la, em)) H := hP
        have hD : va_D A (wD h k tx ln rd wh cm (oF, oL, oE, sp, dp, 3, pF, pL, true) (nm, nx, np, fi, la, em)) := hD
        refine lv_iconst (v := 0) hx hb dX1_takeSign_47 (by decide) ?_
        have e_48 : r_sign (oF, oL, oE, sp, dp, sta, pF, pL, pE) (nm, nx, np, fi, la, em) x = ((oF, oL, oE, sp, dp, 3, pF, pL, true), (nm, nx, np, fi, la, em), 0) := by simp [r_sign, c_5, c_13, c_34]
        exact ct_endi hx hb hr hlocks rfl hP hD hS (by rw [e_48]) (by rw [e_48]) dX1_takeSign_48
    · have c_13 : ¬ x = 63 := c_13
      refine lv_aload_n hx hb dX1_takeSign_16 rfl (lv_at hl 0 rfl) ?_
      refine va_get (D := D) (ci := 1) (v := .ref (h 7)) (C := RX1) (T := TX1) (N := 10) hx hb hts (fun w h => lw_in w (inX1 w h)) hown hK hP 2 rfl rfl 0 (by decide) (hts _ (lw_in _ t_79)) (fun _ h9 => h9) rfl dX1_takeSign_17 ?_
      refine lv_aload_n hx hb dX1_takeSign_20 rfl (lv_at hl 0 rfl) ?_
      refine va_get (D := D) (ci := 1) (v := .long pL) (C := RX1) (T := TX1) (N := 10) hx hb hts (fun w h => lw_in w (inX1 w h)) hown hK hP 2 rfl rfl 8 (by decide) (hts _ (lw_in _ t_88)) (fun _ h9 => h9) rfl dX1_takeSign_21 ?_
      refine lv_aload_n hx hb dX1_takeSign_24 rfl (lv_at hl 0 rfl) ?_
      refine va_get (D := D) (ci := 1) (v := .long pF) (C := RX1) (T := TX1) (N := 10) hx hb hts (fun w h => lw_in w (inX1 w h)) hown hK hP 2 rfl rfl 7 (by decide) (hts _ (lw_in _ t_87)) (fun _ h9 => h9) rfl dX1_takeSign_25 ?_
      refine ct_callV (As := [.long pL, .long pF]) (rest := []) ⟨hx, hb, hml, hown, hts⟩ (k_M_connect l D h k tx ln rd wh cm (oF, oL, oE, sp, dp, sta, pF, pL, pE) nm nx np fi la em pL pF (by omega)) (cwV 2 hts (gV lw_in t_186 t_187 t_188 t_25 t_189) rfl rfl rfl (by decide +kernel) ⟨Nat.le_of_ble_eq_true rfl, Nat.le_of_ble_eq_true rfl⟩) 7 rfl rfl hK hP hD hS hA rfl hl.1 rfl (Nat.le_of_ble_eq_true rfl) dX1_takeSign_28 ⟨Nat.zero_le _, Nat.zero_le _⟩ (fun H locs hP hD hS => ?_)
      refine W.eq (g2 := F0 m 31 ls []) rfl ?_
      have hP : va_P D vwCl (wD h k tx ln rd wh cm (oF, oL, oE, sp, dp, sta, pF, pL, pE) (nm, (cnL pL pF np 0 nx), np, fi, la, em)) H := hP
      have hD : va_D A (wD h k tx ln rd wh cm (oF, oL, oE, sp, dp, sta, pF, pL, pE) (nm, (cnL pL pF np 0 nx), np, fi, la, em)) := hD
      refine lv_iload_n hx hb dX1_takeSign_31 rfl (lv_at hl 1 rfl) ?_
      refine lv_bipush (v := 43) hx hb dX1_takeSign_32 (by decide) ?_
      refine lv_icmp_eq (tgt := 42) hx hb dX1_takeSign_34 (by decide) (fun c_34 => ?_) (fun c_34 => ?_)
      · have c_34 : x = 43 := c_34
        refine lv_aload_n hx hb dX1_takeSign_42 rfl (lv_at hl 0 rfl) ?_
        refine lv_iconst (v := 3) hx hb dX1_takeSign_43 (by decide) ?_
        refine va_put (D := D) (ci := 1) (v := .int 3) (ty := .int) (C := RX1) (T := TX1) (N := 10) hx hb hts (fun w h => lw_in w (inX1 w h)) tyX1 tyX1_ok nmX1 hown hK hP hD hS 2 rfl rfl 6 (by decide) (hts _ (lw_in _ t_86)) (fun _ h9 => h9) rfl (by decide +kernel) rfl rfl (Nat.le_of_ble_eq_true rfl) dX1_takeSign_44 (fun H locs hP hD hS => ?_)
        have hP : va_P D vwCl (wD h k tx ln rd wh cm (oF, oL, oE, sp, dp, 3, pF, pL, pE) (nm, (cnL pL pF np 0 nx), np, fi, la, em)) H := hP
        have hD : va_D A (wD h k tx ln rd wh cm (oF, oL, oE, sp, dp, 3, pF, pL, pE) (nm, (cnL pL pF np 0 nx), np, fi, la, em)) := hD
        refine lv_iconst (v := 0) hx hb dX1_takeSign_47 (by decide) ?_
        have e_48 : r_sign (oF, oL, oE, sp, dp, sta, pF, pL, pE) (nm, nx, np, fi, la, em) x = ((oF, oL, oE, sp, dp, 3, pF, pL, pE), (nm, (cnL pL pF np 0 nx), np, fi, la, em), 0) := by simp [r_sign, c_5, c_13, c_34]
        exact ct_endi hx hb hr hlocks rfl hP hD hS (by rw [e_48]) (by rw [e_48]) dX1_takeSign_48
      · have c_34 : ¬ x = 43 := c_34
        refine lv_aload_n hx hb dX1_takeSign_37 rfl (lv_at hl 0 rfl) ?_
        refine lv_iconst (v := 1) hx hb dX1_takeSign_38 (by decide) ?_
        refine lv_eqi (show 1 = bI true from rfl) ?_
        refine va_put (D := D) (ci := 1) (v := .int (bI true)) (ty := .boolean) (C := RX1) (T := TX1) (N := 10) hx hb hts (fun w h => lw_in w (inX1 w h)) tyX1 tyX1_ok nmX1 hown hK hP hD hS 2 rfl rfl 9 (by decide) (hts _ (lw_in _ t_89)) (fun _ h9 => h9) rfl (by decide +kernel) (bI_narrow _) (bI_fits _) (Nat.le_of_ble_eq_true rfl) dX1_takeSign_39 (fun H locs hP hD hS => ?_)
        have hP : va_P D vwCl (wD h k tx ln rd wh cm (oF, oL, oE, sp, dp, sta, pF, pL, true) (nm, (cnL pL pF np 0 nx), np, fi, la, em)) H := hP
        have hD : va_D A (wD h k tx ln rd wh cm (oF, oL, oE, sp, dp, sta, pF, pL, true) (nm, (cnL pL pF np 0 nx), np, fi, la, em)) := hD
        refine lv_aload_n hx hb dX1_takeSign_42 rfl (lv_at hl 0 rfl) ?_
        refine lv_iconst (v := 3) hx hb dX1_takeSign_43 (by decide) ?_
        refine va_put (D := D) (ci := 1) (v := .int 3) (ty := .int) (C := RX1) (T := TX1) (N := 10) hx hb hts (fun w h => lw_in w (inX1 w h)) tyX1 tyX1_ok nmX1 hown hK hP hD hS 2 rfl rfl 6 (by decide) (hts _ (lw_in _ t_86)) (fun _ h9 => h9) rfl (by decide +kernel) rfl rfl (Nat.le_of_ble_eq_true rfl) dX1_takeSign_44 (fun H locs hP hD hS => ?_)
        have hP : va_P D vwCl (wD h k tx ln rd wh cm (oF, oL, oE, sp, dp, 3, pF, pL, true) (nm, (cnL pL pF np 0 nx), np, fi, la, em)) H := hP
        have hD : va_D A (wD h k tx ln rd wh cm (oF, oL, oE, sp, dp, 3, pF, pL, true) (nm, (cnL pL pF np 0 nx), np, fi, la, em)) := hD
        refine lv_iconst (v := 0) hx hb dX1_takeSign_47 (by decide) ?_
        have e_48 : r_sign (oF, oL, oE, sp, dp, sta, pF, pL, pE) (nm, nx, np, fi, la, em) x = ((oF, oL, oE, sp, dp, 3, pF, pL, true), (nm, (cnL pL pF np 0 nx), np, fi, la, em), 0) := by simp [r_sign, c_5, c_13, c_34]
        exact ct_endi hx hb hr hlocks rfl hP hD hS (by rw [e_48]) (by rw [e_48]) dX1_takeSign_48
  · have c_5 : ¬ sta = 2 := c_5
    refine lv_iconst (v := 1) hx hb dX1_takeSign_8 (by decide) ?_
    have e_9 : r_sign (oF, oL, oE, sp, dp, sta, pF, pL, pE) (nm, nx, np, fi, la, em) x = ((oF, oL, oE, sp, dp, sta, pF, pL, pE), (nm, nx, np, fi, la, em), 1) := by simp [r_sign, c_5]
    exact ct_endi hx hb hr hlocks rfl hP hD hS (by rw [e_9]) (by rw [e_9]) dX1_takeSign_9

set_option maxHeartbeats 4000000 in
set_option maxRecDepth 100000 in
theorem k_R_joinPart (l : Launch) (D : va_G) (h : Nat → Nat) (k : Nat → ClassId) (tx : Nat → Int32) (ln : Nat) (rd : Int64) (wh : Bool) (cm : Nat) (oF : Nat → Int64) (oL : Nat → Int64) (oE : Nat → Bool) (sp : Nat → Int32) (dp : Nat) (sta : Int32) (pF : Int64) (pL : Int64) (pE : Bool) (nm : Nat → Int32) (nx : Nat → Int64) (np : Nat) (fi : Int64) (la : Int64) (em : Bool) (v : Nat) (hnp : np ≤ 60) (hv : v < 12) :
    Ct l yX1_joinPart wsX1_joinPart (rmN 2) D vwCl (tyD k) [.ref (h 2), .int (nI v)] (wD h k tx ln rd wh cm (oF, oL, oE, sp, dp, sta, pF, pL, pE) (nm, nx, np, fi, la, em)) (wD h k tx ln rd wh cm ((r_join (oF, oL, oE, sp, dp, sta, pF, pL, pE) (nm, nx, np, fi, la, em) v).1) ((r_join (oF, oL, oE, sp, dp, sta, pF, pL, pE) (nm, nx, np, fi, la, em) v).2)) none := by
  refine Ct.of (cc := cX1_joinPart) (maxL := 2) (ret := none) (lv := [(0, .ref (h 2)), (1, .int (nI v))]) (by decide) rfl (Nat.le_of_ble_eq_true rfl) rfl ?_
  intro p e s m below meth c A ls hx hb hr hml hts hown hlocks hK hP hD hS hA hl
  refine lv_aload_n hx hb dX1_joinPart_0 rfl (lv_at hl 0 rfl) ?_
  refine va_get (D := D) (ci := 1) (v := .ref (h 6)) (C := RX1) (T := TX1) (N := 10) hx hb hts (fun w h => lw_in w (inX1 w h)) hown hK hP 2 rfl rfl 4 (by decide) (hts _ (lw_in _ t_84)) (fun _ h9 => h9) rfl dX1_joinPart_1 ?_
  refine lv_iload_n hx hb dX1_joinPart_4 rfl (lv_at hl 1 rfl) ?_
  refine wx_iald hx hb hK hP 6 4 rfl rfl (i := v) hv (by decide) dX1_joinPart_5 ?_
  refine lv_if_ne (tgt := 42) hx hb dX1_joinPart_6 (by decide) (fun c_6 => ?_) (fun c_6 => ?_)
  · have c_6 : ¬ (sp v) = 0 := c_6
    refine lv_aload_n hx hb dX1_joinPart_42 rfl (lv_at hl 0 rfl) ?_
    refine va_get (D := D) (ci := 1) (v := .ref (h 6)) (C := RX1) (T := TX1) (N := 10) hx hb hts (fun w h => lw_in w (inX1 w h)) hown hK hP 2 rfl rfl 4 (by decide) (hts _ (lw_in _ t_84)) (fun _ h9 => h9) rfl dX1_joinPart_43 ?_
    refine lv_iload_n hx hb dX1_joinPart_46 rfl (lv_at hl 1 rfl) ?_
    refine wx_iald hx hb hK hP 6 4 rfl rfl (i := v) hv (by decide) dX1_joinPart_47 ?_
    refine lv_bipush (v := 124) hx hb dX1_joinPart_48 (by decide) ?_
    refine lv_icmp_ne (tgt := 109) hx hb dX1_joinPart_50 (by decide) (fun c_50 => ?_) (fun c_50 => ?_)
    · have c_50 : ¬ (sp v) = 124 := c_50
      refine lv_aload_n hx hb dX1_joinPart_109 rfl (lv_at hl 0 rfl) ?_
      refine va_get (D := D) (ci := 1) (v := .ref (h 7)) (C := RX1) (T := TX1) (N := 10) hx hb hts (fun w h => lw_in w (inX1 w h)) hown hK hP 2 rfl rfl 0 (by decide) (hts _ (lw_in _ t_79)) (fun _ h9 => h9) rfl dX1_joinPart_110 ?_
      refine lv_aload_n hx hb dX1_joinPart_113 rfl (lv_at hl 0 rfl) ?_
      refine va_get (D := D) (ci := 1) (v := .ref (h 4)) (C := RX1) (T := TX1) (N := 10) hx hb hts (fun w h => lw_in w (inX1 w h)) hown hK hP 2 rfl rfl 2 (by decide) (hts _ (lw_in _ t_82)) (fun _ h9 => h9) rfl dX1_joinPart_114 ?_
      refine lv_iload_n hx hb dX1_joinPart_117 rfl (lv_at hl 1 rfl) ?_
      refine wx_lald hx hb hK hP 4 2 rfl rfl (i := v) hv (by decide) dX1_joinPart_118 ?_
      refine lv_aload_n hx hb dX1_joinPart_119 rfl (lv_at hl 0 rfl) ?_
      refine va_get (D := D) (ci := 1) (v := .long pF) (C := RX1) (T := TX1) (N := 10) hx hb hts (fun w h => lw_in w (inX1 w h)) hown hK hP 2 rfl rfl 7 (by decide) (hts _ (lw_in _ t_87)) (fun _ h9 => h9) rfl dX1_joinPart_120 ?_
      refine ct_callV (As := [.long (oL v), .long pF]) (rest := []) ⟨hx, hb, hml, hown, hts⟩ (k_M_connect l D h k tx ln rd wh cm (oF, oL, oE, sp, dp, sta, pF, pL, pE) nm nx np fi la em (oL v) pF (by omega)) (cwV 2 hts (gV lw_in t_186 t_187 t_188 t_25 t_189) rfl rfl rfl (by decide +kernel) ⟨Nat.le_of_ble_eq_true rfl, Nat.le_of_ble_eq_true rfl⟩) 7 rfl rfl hK hP hD hS hA rfl hl.1 rfl (Nat.le_of_ble_eq_true rfl) dX1_joinPart_123 ⟨Nat.zero_le _, Nat.zero_le _⟩ (fun H locs hP hD hS => ?_)
      refine W.eq (g2 := F0 m 126 ls []) rfl ?_
      have hP : va_P D vwCl (wD h k tx ln rd wh cm (oF, oL, oE, sp, dp, sta, pF, pL, pE) (nm, (cnL (oL v) pF np 0 nx), np, fi, la, em)) H := hP
      have hD : va_D A (wD h k tx ln rd wh cm (oF, oL, oE, sp, dp, sta, pF, pL, pE) (nm, (cnL (oL v) pF np 0 nx), np, fi, la, em)) := hD
      refine lv_aload_n hx hb dX1_joinPart_126 rfl (lv_at hl 0 rfl) ?_
      refine va_get (D := D) (ci := 1) (v := .ref (h 5)) (C := RX1) (T := TX1) (N := 10) hx hb hts (fun w h => lw_in w (inX1 w h)) hown hK hP 2 rfl rfl 3 (by decide) (hts _ (lw_in _ t_83)) (fun _ h9 => h9) rfl dX1_joinPart_127 ?_
      refine lv_iload_n hx hb dX1_joinPart_130 rfl (lv_at hl 1 rfl) ?_
      refine wx_zald hx hb hK hP 5 3 rfl rfl (i := v) hv (by decide) dX1_joinPart_131 ?_
      refine lv_if_eq (tgt := 148) hx hb dX1_joinPart_132 (by decide) (fun c_132 => ?_) (fun c_132 => ?_)
      · have c_132 : (oE v) = false := (bI_eq0 _).mp c_132
        refine lv_aload_n hx hb dX1_joinPart_148 rfl (lv_at hl 0 rfl) ?_
        refine va_get (D := D) (ci := 1) (v := .ref (h 4)) (C := RX1) (T := TX1) (N := 10) hx hb hts (fun w h => lw_in w (inX1 w h)) hown hK hP 2 rfl rfl 2 (by decide) (hts _ (lw_in _ t_82)) (fun _ h9 => h9) rfl dX1_joinPart_149 ?_
        refine lv_iload_n hx hb dX1_joinPart_152 rfl (lv_at hl 1 rfl) ?_
        refine lv_aload_n hx hb dX1_joinPart_153 rfl (lv_at hl 0 rfl) ?_
        refine va_get (D := D) (ci := 1) (v := .int (bI pE)) (C := RX1) (T := TX1) (N := 10) hx hb hts (fun w h => lw_in w (inX1 w h)) hown hK hP 2 rfl rfl 9 (by decide) (hts _ (lw_in _ t_89)) (fun _ h9 => h9) rfl dX1_joinPart_154 ?_
        refine lv_if_eq (tgt := 174) hx hb dX1_joinPart_157 (by decide) (fun c_157 => ?_) (fun c_157 => ?_)
        · have c_157 : pE = false := (bI_eq0 _).mp c_157
          refine lv_aload_n hx hb dX1_joinPart_174 rfl (lv_at hl 0 rfl) ?_
          refine va_get (D := D) (ci := 1) (v := .long pL) (C := RX1) (T := TX1) (N := 10) hx hb hts (fun w h => lw_in w (inX1 w h)) hown hK hP 2 rfl rfl 8 (by decide) (hts _ (lw_in _ t_88)) (fun _ h9 => h9) rfl dX1_joinPart_175 ?_
          refine wx_last hx hb hK hP hD hS 4 2 rfl rfl (i := v) hv (by decide) dX1_joinPart_178 (fun H locs hP hD hS => ?_)
          have hP : va_P D vwCl (wD h k tx ln rd wh cm (oF, (vp_updL oL v pL), oE, sp, dp, sta, pF, pL, pE) (nm, (cnL (oL v) pF np 0 nx), np, fi, la, em)) H := hP
          have hD : va_D A (wD h k tx ln rd wh cm (oF, (vp_updL oL v pL), oE, sp, dp, sta, pF, pL, pE) (nm, (cnL (oL v) pF np 0 nx), np, fi, la, em)) := hD
          refine lv_aload_n hx hb dX1_joinPart_179 rfl (lv_at hl 0 rfl) ?_
          refine va_get (D := D) (ci := 1) (v := .ref (h 5)) (C := RX1) (T := TX1) (N := 10) hx hb hts (fun w h => lw_in w (inX1 w h)) hown hK hP 2 rfl rfl 3 (by decide) (hts _ (lw_in _ t_83)) (fun _ h9 => h9) rfl dX1_joinPart_180 ?_
          refine lv_iload_n hx hb dX1_joinPart_183 rfl (lv_at hl 1 rfl) ?_
          refine lv_aload_n hx hb dX1_joinPart_184 rfl (lv_at hl 0 rfl) ?_
          refine va_get (D := D) (ci := 1) (v := .ref (h 5)) (C := RX1) (T := TX1) (N := 10) hx hb hts (fun w h => lw_in w (inX1 w h)) hown hK hP 2 rfl rfl 3 (by decide) (hts _ (lw_in _ t_83)) (fun _ h9 => h9) rfl dX1_joinPart_185 ?_
          refine lv_iload_n hx hb dX1_joinPart_188 rfl (lv_at hl 1 rfl) ?_
          refine wx_zald hx hb hK hP 5 3 rfl rfl (i := v) hv (by decide) dX1_joinPart_189 ?_
          refine lv_if_eq (tgt := 204) hx hb dX1_joinPart_190 (by decide) (fun c_190 => ?_) (fun c_190 => ?_)
          · have c_190 : (oE v) = false := (bI_eq0 _).mp c_190
            refine lv_iconst (v := 0) hx hb dX1_joinPart_204 (by decide) ?_
            refine wx_zastB (x := false) (g := oE) hx hb hK hP hD hS 5 3 rfl rfl (i := v) hv (by decide) dX1_joinPart_205 (fun H locs hP hD hS => ?_)
            have hP : va_P D vwCl (wD h k tx ln rd wh cm (oF, (vp_updL oL v pL), (va_up oE v false), sp, dp, sta, pF, pL, pE) (nm, (cnL (oL v) pF np 0 nx), np, fi, la, em)) H := hP
            have hD : va_D A (wD h k tx ln rd wh cm (oF, (vp_updL oL v pL), (va_up oE v false), sp, dp, sta, pF, pL, pE) (nm, (cnL (oL v) pF np 0 nx), np, fi, la, em)) := hD
            have e_206 : r_join (oF, oL, oE, sp, dp, sta, pF, pL, pE) (nm, nx, np, fi, la, em) v = ((oF, (vp_updL oL v pL), (va_up oE v false), sp, dp, sta, pF, pL, pE), (nm, (cnL (oL v) pF np 0 nx), np, fi, la, em)) := by simp [r_join, c_6, c_50, c_132, c_157, c_190]
            exact ct_endv hx hb hr hlocks hP hD hS (by rw [e_206]) rfl dX1_joinPart_206
          · have c_190 : (oE v) = true := (bI_ne0 _).mp c_190
            exact absurd (c_132.symm.trans c_190) (by decide)
        · have c_157 : pE = true := (bI_ne0 _).mp c_157
          refine lv_aload_n hx hb dX1_joinPart_160 rfl (lv_at hl 0 rfl) ?_
          refine va_get (D := D) (ci := 1) (v := .ref (h 4)) (C := RX1) (T := TX1) (N := 10) hx hb hts (fun w h => lw_in w (inX1 w h)) hown hK hP 2 rfl rfl 2 (by decide) (hts _ (lw_in _ t_82)) (fun _ h9 => h9) rfl dX1_joinPart_161 ?_
          refine lv_iload_n hx hb dX1_joinPart_164 rfl (lv_at hl 1 rfl) ?_
          refine wx_lald hx hb hK hP 4 2 rfl rfl (i := v) hv (by decide) dX1_joinPart_165 ?_
          refine lv_aload_n hx hb dX1_joinPart_166 rfl (lv_at hl 0 rfl) ?_
          refine va_get (D := D) (ci := 1) (v := .long pL) (C := RX1) (T := TX1) (N := 10) hx hb hts (fun w h => lw_in w (inX1 w h)) hown hK hP 2 rfl rfl 8 (by decide) (hts _ (lw_in _ t_88)) (fun _ h9 => h9) rfl dX1_joinPart_167 ?_
          refine lv_lor hx hb dX1_joinPart_170 ?_
          refine lv_goto (tgt := 178) hx hb dX1_joinPart_171 (by decide) ?_
          refine wx_last hx hb hK hP hD hS 4 2 rfl rfl (i := v) hv (by decide) dX1_joinPart_178 (fun H locs hP hD hS => ?_)
          have hP : va_P D vwCl (wD h k tx ln rd wh cm (oF, (vp_updL oL v ((oL v) ||| pL)), oE, sp, dp, sta, pF, pL, pE) (nm, (cnL (oL v) pF np 0 nx), np, fi, la, em)) H := hP
          have hD : va_D A (wD h k tx ln rd wh cm (oF, (vp_updL oL v ((oL v) ||| pL)), oE, sp, dp, sta, pF, pL, pE) (nm, (cnL (oL v) pF np 0 nx), np, fi, la, em)) := hD
          refine lv_aload_n hx hb dX1_joinPart_179 rfl (lv_at hl 0 rfl) ?_
          refine va_get (D := D) (ci := 1) (v := .ref (h 5)) (C := RX1) (T := TX1) (N := 10) hx hb hts (fun w h => lw_in w (inX1 w h)) hown hK hP 2 rfl rfl 3 (by decide) (hts _ (lw_in _ t_83)) (fun _ h9 => h9) rfl dX1_joinPart_180 ?_
          refine lv_iload_n hx hb dX1_joinPart_183 rfl (lv_at hl 1 rfl) ?_
          refine lv_aload_n hx hb dX1_joinPart_184 rfl (lv_at hl 0 rfl) ?_
          refine va_get (D := D) (ci := 1) (v := .ref (h 5)) (C := RX1) (T := TX1) (N := 10) hx hb hts (fun w h => lw_in w (inX1 w h)) hown hK hP 2 rfl rfl 3 (by decide) (hts _ (lw_in _ t_83)) (fun _ h9 => h9) rfl dX1_joinPart_185 ?_
          refine lv_iload_n hx hb dX1_joinPart_188 rfl (lv_at hl 1 rfl) ?_
          refine wx_zald hx hb hK hP 5 3 rfl rfl (i := v) hv (by decide) dX1_joinPart_189 ?_
          refine lv_if_eq (tgt := 204) hx hb dX1_joinPart_190 (by decide) (fun c_190 => ?_) (fun c_190 => ?_)
          · have c_190 : (oE v) = false := (bI_eq0 _).mp c_190
            refine lv_iconst (v := 0) hx hb dX1_joinPart_204 (by decide) ?_
            refine wx_zastB (x := false) (g := oE) hx hb hK hP hD hS 5 3 rfl rfl (i := v) hv (by decide) dX1_joinPart_205 (fun H locs hP hD hS => ?_)
            have hP : va_P D vwCl (wD h k tx ln rd wh cm (oF, (vp_updL oL v ((oL v) ||| pL)), (va_up oE v false), sp, dp, sta, pF, pL, pE) (nm, (cnL (oL v) pF np 0 nx), np, fi, la, em)) H := hP
            have hD : va_D A (wD h k tx ln rd wh cm (oF, (vp_updL oL v ((oL v) ||| pL)), (va_up oE v false), sp, dp, sta, pF, pL, pE) (nm, (cnL (oL v) pF np 0 nx), np, fi, la, em)) := hD
            have e_206 : r_join (oF, oL, oE, sp, dp, sta, pF, pL, pE) (nm, nx, np, fi, la, em) v = ((oF, (vp_updL oL v ((oL v) ||| pL)), (va_up oE v false), sp, dp, sta, pF, pL, pE), (nm, (cnL (oL v) pF np 0 nx), np, fi, la, em)) := by simp [r_join, c_6, c_50, c_132, c_157, c_190]
            exact ct_endv hx hb hr hlocks hP hD hS (by rw [e_206]) rfl dX1_joinPart_206
          · have c_190 : (oE v) = true := (bI_ne0 _).mp c_190
            exact absurd (c_132.symm.trans c_190) (by decide)
      · have c_132 : (oE v) = true := (bI_ne0 _).mp c_132
        refine lv_aload_n hx hb dX1_joinPart_135 rfl (lv_at hl 0 rfl) ?_
        refine va_get (D := D) (ci := 1) (v := .ref (h 3)) (C := RX1) (T := TX1) (N := 10) hx hb hts (fun w h => lw_in w (inX1 w h)) hown hK hP 2 rfl rfl 1 (by decide) (hts _ (lw_in _ t_81)) (fun _ h9 => h9) rfl dX1_joinPart_136 ?_
        refine lv_iload_n hx hb dX1_joinPart_139 rfl (lv_at hl 1 rfl) ?_
        refine lv_dup2_11 hx hb dX1_joinPart_140 rfl rfl ?_
        refine wx_lald hx hb hK hP 3 1 rfl rfl (i := v) hv (by decide) dX1_joinPart_141 ?_
        refine lv_aload_n hx hb dX1_joinPart_142 rfl (lv_at hl 0 rfl) ?_
        refine va_get (D := D) (ci := 1) (v := .long pF) (C := RX1) (T := TX1) (N := 10) hx hb hts (fun w h => lw_in w (inX1 w h)) hown hK hP 2 rfl rfl 7 (by decide) (hts _ (lw_in _ t_87)) (fun _ h9 => h9) rfl dX1_joinPart_143 ?_
        refine lv_lor hx hb dX1_joinPart_146 ?_
        refine wx_last hx hb hK hP hD hS 3 1 rfl rfl (i := v) hv (by decide) dX1_joinPart_147 (fun H locs hP hD hS => ?_)
        have hP : va_P D vwCl (wD h k tx ln rd wh cm ((vp_updL oF v ((oF v) ||| pF)), oL, oE, sp, dp, sta, pF, pL, pE) (nm, (cnL (oL v) pF np 0 nx), np, fi, la, em)) H := hP
        have hD : va_D A (wD h k tx ln rd wh cm ((vp_updL oF v ((oF v) ||| pF)), oL, oE, sp, dp, sta, pF, pL, pE) (nm, (cnL (oL v) pF np 0 nx), np, fi, la, em)) := hD
        refine lv_aload_n hx hb dX1_joinPart_148 rfl (lv_at hl 0 rfl) ?_
        refine va_get (D := D) (ci := 1) (v := .ref (h 4)) (C := RX1) (T := TX1) (N := 10) hx hb hts (fun w h => lw_in w (inX1 w h)) hown hK hP 2 rfl rfl 2 (by decide) (hts _ (lw_in _ t_82)) (fun _ h9 => h9) rfl dX1_joinPart_149 ?_
        refine lv_iload_n hx hb dX1_joinPart_152 rfl (lv_at hl 1 rfl) ?_
        refine lv_aload_n hx hb dX1_joinPart_153 rfl (lv_at hl 0 rfl) ?_
        refine va_get (D := D) (ci := 1) (v := .int (bI pE)) (C := RX1) (T := TX1) (N := 10) hx hb hts (fun w h => lw_in w (inX1 w h)) hown hK hP 2 rfl rfl 9 (by decide) (hts _ (lw_in _ t_89)) (fun _ h9 => h9) rfl dX1_joinPart_154 ?_
        refine lv_if_eq (tgt := 174) hx hb dX1_joinPart_157 (by decide) (fun c_157 => ?_) (fun c_157 => ?_)
        · have c_157 : pE = false := (bI_eq0 _).mp c_157
          refine lv_aload_n hx hb dX1_joinPart_174 rfl (lv_at hl 0 rfl) ?_
          refine va_get (D := D) (ci := 1) (v := .long pL) (C := RX1) (T := TX1) (N := 10) hx hb hts (fun w h => lw_in w (inX1 w h)) hown hK hP 2 rfl rfl 8 (by decide) (hts _ (lw_in _ t_88)) (fun _ h9 => h9) rfl dX1_joinPart_175 ?_
          refine wx_last hx hb hK hP hD hS 4 2 rfl rfl (i := v) hv (by decide) dX1_joinPart_178 (fun H locs hP hD hS => ?_)
          have hP : va_P D vwCl (wD h k tx ln rd wh cm ((vp_updL oF v ((oF v) ||| pF)), (vp_updL oL v pL), oE, sp, dp, sta, pF, pL, pE) (nm, (cnL (oL v) pF np 0 nx), np, fi, la, em)) H := hP
          have hD : va_D A (wD h k tx ln rd wh cm ((vp_updL oF v ((oF v) ||| pF)), (vp_updL oL v pL), oE, sp, dp, sta, pF, pL, pE) (nm, (cnL (oL v) pF np 0 nx), np, fi, la, em)) := hD
          refine lv_aload_n hx hb dX1_joinPart_179 rfl (lv_at hl 0 rfl) ?_
          refine va_get (D := D) (ci := 1) (v := .ref (h 5)) (C := RX1) (T := TX1) (N := 10) hx hb hts (fun w h => lw_in w (inX1 w h)) hown hK hP 2 rfl rfl 3 (by decide) (hts _ (lw_in _ t_83)) (fun _ h9 => h9) rfl dX1_joinPart_180 ?_
          refine lv_iload_n hx hb dX1_joinPart_183 rfl (lv_at hl 1 rfl) ?_
          refine lv_aload_n hx hb dX1_joinPart_184 rfl (lv_at hl 0 rfl) ?_
          refine va_get (D := D) (ci := 1) (v := .ref (h 5)) (C := RX1) (T := TX1) (N := 10) hx hb hts (fun w h => lw_in w (inX1 w h)) hown hK hP 2 rfl rfl 3 (by decide) (hts _ (lw_in _ t_83)) (fun _ h9 => h9) rfl dX1_joinPart_185 ?_
          refine lv_iload_n hx hb dX1_joinPart_188 rfl (lv_at hl 1 rfl) ?_
          refine wx_zald hx hb hK hP 5 3 rfl rfl (i := v) hv (by decide) dX1_joinPart_189 ?_
          refine lv_if_eq (tgt := 204) hx hb dX1_joinPart_190 (by decide) (fun c_190 => ?_) (fun c_190 => ?_)
          · have c_190 : (oE v) = false := (bI_eq0 _).mp c_190
            exact absurd (c_132.symm.trans c_190) (by decide)
          · have c_190 : (oE v) = true := (bI_ne0 _).mp c_190
            refine lv_aload_n hx hb dX1_joinPart_193 rfl (lv_at hl 0 rfl) ?_
            refine va_get (D := D) (ci := 1) (v := .int (bI pE)) (C := RX1) (T := TX1) (N := 10) hx hb hts (fun w h => lw_in w (inX1 w h)) hown hK hP 2 rfl rfl 9 (by decide) (hts _ (lw_in _ t_89)) (fun _ h9 => h9) rfl dX1_joinPart_194 ?_
            refine lv_if_eq (tgt := 204) hx hb dX1_joinPart_197 (by decide) (fun c_197 => ?_) (fun c_197 => ?_)
            · have c_197 : pE = false := (bI_eq0 _).mp c_197
              refine lv_iconst (v := 0) hx hb dX1_joinPart_204 (by decide) ?_
              refine wx_zastB (x := false) (g := oE) hx hb hK hP hD hS 5 3 rfl rfl (i := v) hv (by decide) dX1_joinPart_205 (fun H locs hP hD hS => ?_)
              have hP : va_P D vwCl (wD h k tx ln rd wh cm ((vp_updL oF v ((oF v) ||| pF)), (vp_updL oL v pL), (va_up oE v false), sp, dp, sta, pF, pL, pE) (nm, (cnL (oL v) pF np 0 nx), np, fi, la, em)) H := hP
              have hD : va_D A (wD h k tx ln rd wh cm ((vp_updL oF v ((oF v) ||| pF)), (vp_updL oL v pL), (va_up oE v false), sp, dp, sta, pF, pL, pE) (nm, (cnL (oL v) pF np 0 nx), np, fi, la, em)) := hD
              have e_206 : r_join (oF, oL, oE, sp, dp, sta, pF, pL, pE) (nm, nx, np, fi, la, em) v = (((vp_updL oF v ((oF v) ||| pF)), (vp_updL oL v pL), (va_up oE v false), sp, dp, sta, pF, pL, pE), (nm, (cnL (oL v) pF np 0 nx), np, fi, la, em)) := by simp [r_join, c_6, c_50, c_132, c_157, c_190, c_197]
              exact ct_endv hx hb hr hlocks hP hD hS (by rw [e_206]) rfl dX1_joinPart_206
            · have c_197 : pE = true := (bI_ne0 _).mp c_197
              exact absurd (c_157.symm.trans c_197) (by decide)
        · have c_157 : pE = true := (bI_ne0 _).mp c_157
          refine lv_aload_n hx hb dX1_joinPart_160 rfl (lv_at hl 0 rfl) ?_
          refine va_get (D := D) (ci := 1) (v := .ref (h 4)) (C := RX1) (T := TX1) (N := 10) hx hb hts (fun w h => lw_in w (inX1 w h)) hown hK hP 2 rfl rfl 2 (by decide) (hts _ (lw_in _ t_82)) (fun _ h9 => h9) rfl dX1_joinPart_161 ?_
          refine lv_iload_n hx hb dX1_joinPart_164 rfl (lv_at hl 1 rfl) ?_
          refine wx_lald hx hb hK hP 4 2 rfl rfl (i := v) hv (by decide) dX1_joinPart_165 ?_
          refine lv_aload_n hx hb dX1_joinPart_166 rfl (lv_at hl 0 rfl) ?_
          refine va_get (D := D) (ci := 1) (v := .long pL) (C := RX1) (T := TX1) (N := 10) hx hb hts (fun w h => lw_in w (inX1 w h)) hown hK hP 2 rfl rfl 8 (by decide) (hts _ (lw_in _ t_88)) (fun _ h9 => h9) rfl dX1_joinPart_167 ?_
          refine lv_lor hx hb dX1_joinPart_170 ?_
          refine lv_goto (tgt := 178) hx hb dX1_joinPart_171 (by decide) ?_
          refine wx_last hx hb hK hP hD hS 4 2 rfl rfl (i := v) hv (by decide) dX1_joinPart_178 (fun H locs hP hD hS => ?_)
          have hP : va_P D vwCl (wD h k tx ln rd wh cm ((vp_updL oF v ((oF v) ||| pF)), (vp_updL oL v ((oL v) ||| pL)), oE, sp, dp, sta, pF, pL, pE) (nm, (cnL (oL v) pF np 0 nx), np, fi, la, em)) H := hP
          have hD : va_D A (wD h k tx ln rd wh cm ((vp_updL oF v ((oF v) ||| pF)), (vp_updL oL v ((oL v) ||| pL)), oE, sp, dp, sta, pF, pL, pE) (nm, (cnL (oL v) pF np 0 nx), np, fi, la, em)) := hD
          refine lv_aload_n hx hb dX1_joinPart_179 rfl (lv_at hl 0 rfl) ?_
          refine va_get (D := D) (ci := 1) (v := .ref (h 5)) (C := RX1) (T := TX1) (N := 10) hx hb hts (fun w h => lw_in w (inX1 w h)) hown hK hP 2 rfl rfl 3 (by decide) (hts _ (lw_in _ t_83)) (fun _ h9 => h9) rfl dX1_joinPart_180 ?_
          refine lv_iload_n hx hb dX1_joinPart_183 rfl (lv_at hl 1 rfl) ?_
          refine lv_aload_n hx hb dX1_joinPart_184 rfl (lv_at hl 0 rfl) ?_
          refine va_get (D := D) (ci := 1) (v := .ref (h 5)) (C := RX1) (T := TX1) (N := 10) hx hb hts (fun w h => lw_in w (inX1 w h)) hown hK hP 2 rfl rfl 3 (by decide) (hts _ (lw_in _ t_83)) (fun _ h9 => h9) rfl dX1_joinPart_185 ?_
          refine lv_iload_n hx hb dX1_joinPart_188 rfl (lv_at hl 1 rfl) ?_
          refine wx_zald hx hb hK hP 5 3 rfl rfl (i := v) hv (by decide) dX1_joinPart_189 ?_
          refine lv_if_eq (tgt := 204) hx hb dX1_joinPart_190 (by decide) (fun c_190 => ?_) (fun c_190 => ?_)
          · have c_190 : (oE v) = false := (bI_eq0 _).mp c_190
            exact absurd (c_132.symm.trans c_190) (by decide)
          · have c_190 : (oE v) = true := (bI_ne0 _).mp c_190
            refine lv_aload_n hx hb dX1_joinPart_193 rfl (lv_at hl 0 rfl) ?_
            refine va_get (D := D) (ci := 1) (v := .int (bI pE)) (C := RX1) (T := TX1) (N := 10) hx hb hts (fun w h => lw_in w (inX1 w h)) hown hK hP 2 rfl rfl 9 (by decide) (hts _ (lw_in _ t_89)) (fun _ h9 => h9) rfl dX1_joinPart_194 ?_
            refine lv_if_eq (tgt := 204) hx hb dX1_joinPart_197 (by decide) (fun c_197 => ?_) (fun c_197 => ?_)
            · have c_197 : pE = false := (bI_eq0 _).mp c_197
              exact absurd (c_157.symm.trans c_197) (by decide)
            · have c_197 : pE = true := (bI_ne0 _).mp c_197
              refine lv_iconst (v := 1) hx hb dX1_joinPart_200 (by decide) ?_
              refine lv_goto (tgt := 205) hx hb dX1_joinPart_201 (by decide) ?_
              refine wx_zastB (x := true) (g := oE) hx hb hK hP hD hS 5 3 rfl rfl (i := v) hv (by decide) dX1_joinPart_205 (fun H locs hP hD hS => ?_)
              have hP : va_P D vwCl (wD h k tx ln rd wh cm ((vp_updL oF v ((oF v) ||| pF)), (vp_updL oL v ((oL v) ||| pL)), (va_up oE v true), sp, dp, sta, pF, pL, pE) (nm, (cnL (oL v) pF np 0 nx), np, fi, la, em)) H := hP
              have hD : va_D A (wD h k tx ln rd wh cm ((vp_updL oF v ((oF v) ||| pF)), (vp_updL oL v ((oL v) ||| pL)), (va_up oE v true), sp, dp, sta, pF, pL, pE) (nm, (cnL (oL v) pF np 0 nx), np, fi, la, em)) := hD
              have e_206 : r_join (oF, oL, oE, sp, dp, sta, pF, pL, pE) (nm, nx, np, fi, la, em) v = (((vp_updL oF v ((oF v) ||| pF)), (vp_updL oL v ((oL v) ||| pL)), (va_up oE v true), sp, dp, sta, pF, pL, pE), (nm, (cnL (oL v) pF np 0 nx), np, fi, la, em)) := by simp [r_join, c_6, c_50, c_132, c_157, c_190, c_197]
              exact ct_endv hx hb hr hlocks hP hD hS (by rw [e_206]) rfl dX1_joinPart_206
    · have c_50 : (sp v) = 124 := c_50
      refine lv_aload_n hx hb dX1_joinPart_53 rfl (lv_at hl 0 rfl) ?_
      refine va_get (D := D) (ci := 1) (v := .ref (h 3)) (C := RX1) (T := TX1) (N := 10) hx hb hts (fun w h => lw_in w (inX1 w h)) hown hK hP 2 rfl rfl 1 (by decide) (hts _ (lw_in _ t_81)) (fun _ h9 => h9) rfl dX1_joinPart_54 ?_
      refine lv_iload_n hx hb dX1_joinPart_57 rfl (lv_at hl 1 rfl) ?_
      refine lv_dup2_11 hx hb dX1_joinPart_58 rfl rfl ?_
      refine wx_lald hx hb hK hP 3 1 rfl rfl (i := v) hv (by decide) dX1_joinPart_59 ?_
      refine lv_aload_n hx hb dX1_joinPart_60 rfl (lv_at hl 0 rfl) ?_
      refine va_get (D := D) (ci := 1) (v := .long pF) (C := RX1) (T := TX1) (N := 10) hx hb hts (fun w h => lw_in w (inX1 w h)) hown hK hP 2 rfl rfl 7 (by decide) (hts _ (lw_in _ t_87)) (fun _ h9 => h9) rfl dX1_joinPart_61 ?_
      refine lv_lor hx hb dX1_joinPart_64 ?_
      refine wx_last hx hb hK hP hD hS 3 1 rfl rfl (i := v) hv (by decide) dX1_joinPart_65 (fun H locs hP hD hS => ?_)
      have hP : va_P D vwCl (wD h k tx ln rd wh cm ((vp_updL oF v ((oF v) ||| pF)), oL, oE, sp, dp, sta, pF, pL, pE) (nm, nx, np, fi, la, em)) H := hP
      have hD : va_D A (wD h k tx ln rd wh cm ((vp_updL oF v ((oF v) ||| pF)), oL, oE, sp, dp, sta, pF, pL, pE) (nm, nx, np, fi, la, em)) := hD
      refine lv_aload_n hx hb dX1_joinPart_66 rfl (lv_at hl 0 rfl) ?_
      refine va_get (D := D) (ci := 1) (v := .ref (h 4)) (C := RX1) (T := TX1) (N := 10) hx hb hts (fun w h => lw_in w (inX1 w h)) hown hK hP 2 rfl rfl 2 (by decide) (hts _ (lw_in _ t_82)) (fun _ h9 => h9) rfl dX1_joinPart_67 ?_
      refine lv_iload_n hx hb dX1_joinPart_70 rfl (lv_at hl 1 rfl) ?_
      refine lv_dup2_11 hx hb dX1_joinPart_71 rfl rfl ?_
      refine wx_lald hx hb hK hP 4 2 rfl rfl (i := v) hv (by decide) dX1_joinPart_72 ?_
      refine lv_aload_n hx hb dX1_joinPart_73 rfl (lv_at hl 0 rfl) ?_
      refine va_get (D := D) (ci := 1) (v := .long pL) (C := RX1) (T := TX1) (N := 10) hx hb hts (fun w h => lw_in w (inX1 w h)) hown hK hP 2 rfl rfl 8 (by decide) (hts _ (lw_in _ t_88)) (fun _ h9 => h9) rfl dX1_joinPart_74 ?_
      refine lv_lor hx hb dX1_joinPart_77 ?_
      refine wx_last hx hb hK hP hD hS 4 2 rfl rfl (i := v) hv (by decide) dX1_joinPart_78 (fun H locs hP hD hS => ?_)
      have hP : va_P D vwCl (wD h k tx ln rd wh cm ((vp_updL oF v ((oF v) ||| pF)), (vp_updL oL v ((oL v) ||| pL)), oE, sp, dp, sta, pF, pL, pE) (nm, nx, np, fi, la, em)) H := hP
      have hD : va_D A (wD h k tx ln rd wh cm ((vp_updL oF v ((oF v) ||| pF)), (vp_updL oL v ((oL v) ||| pL)), oE, sp, dp, sta, pF, pL, pE) (nm, nx, np, fi, la, em)) := hD
      refine lv_aload_n hx hb dX1_joinPart_79 rfl (lv_at hl 0 rfl) ?_
      refine va_get (D := D) (ci := 1) (v := .ref (h 5)) (C := RX1) (T := TX1) (N := 10) hx hb hts (fun w h => lw_in w (inX1 w h)) hown hK hP 2 rfl rfl 3 (by decide) (hts _ (lw_in _ t_83)) (fun _ h9 => h9) rfl dX1_joinPart_80 ?_
      refine lv_iload_n hx hb dX1_joinPart_83 rfl (lv_at hl 1 rfl) ?_
      refine lv_aload_n hx hb dX1_joinPart_84 rfl (lv_at hl 0 rfl) ?_
      refine va_get (D := D) (ci := 1) (v := .ref (h 5)) (C := RX1) (T := TX1) (N := 10) hx hb hts (fun w h => lw_in w (inX1 w h)) hown hK hP 2 rfl rfl 3 (by decide) (hts _ (lw_in _ t_83)) (fun _ h9 => h9) rfl dX1_joinPart_85 ?_
      refine lv_iload_n hx hb dX1_joinPart_88 rfl (lv_at hl 1 rfl) ?_
      refine wx_zald hx hb hK hP 5 3 rfl rfl (i := v) hv (by decide) dX1_joinPart_89 ?_
      refine lv_if_ne (tgt := 100) hx hb dX1_joinPart_90 (by decide) (fun c_90 => ?_) (fun c_90 => ?_)
      · have c_90 : (oE v) = true := (bI_ne0 _).mp c_90
        refine lv_iconst (v := 1) hx hb dX1_joinPart_100 (by decide) ?_
        refine lv_goto (tgt := 105) hx hb dX1_joinPart_101 (by decide) ?_
        refine wx_zastB (x := true) (g := oE) hx hb hK hP hD hS 5 3 rfl rfl (i := v) hv (by decide) dX1_joinPart_105 (fun H locs hP hD hS => ?_)
        have hP : va_P D vwCl (wD h k tx ln rd wh cm ((vp_updL oF v ((oF v) ||| pF)), (vp_updL oL v ((oL v) ||| pL)), (va_up oE v true), sp, dp, sta, pF, pL, pE) (nm, nx, np, fi, la, em)) H := hP
        have hD : va_D A (wD h k tx ln rd wh cm ((vp_updL oF v ((oF v) ||| pF)), (vp_updL oL v ((oL v) ||| pL)), (va_up oE v true), sp, dp, sta, pF, pL, pE) (nm, nx, np, fi, la, em)) := hD
        refine lv_goto (tgt := 206) hx hb dX1_joinPart_106 (by decide) ?_
        have e_206 : r_join (oF, oL, oE, sp, dp, sta, pF, pL, pE) (nm, nx, np, fi, la, em) v = (((vp_updL oF v ((oF v) ||| pF)), (vp_updL oL v ((oL v) ||| pL)), (va_up oE v true), sp, dp, sta, pF, pL, pE), (nm, nx, np, fi, la, em)) := by simp [r_join, c_6, c_50, c_90]
        exact ct_endv hx hb hr hlocks hP hD hS (by rw [e_206]) rfl dX1_joinPart_206
      · have c_90 : (oE v) = false := (bI_eq0 _).mp c_90
        refine lv_aload_n hx hb dX1_joinPart_93 rfl (lv_at hl 0 rfl) ?_
        refine va_get (D := D) (ci := 1) (v := .int (bI pE)) (C := RX1) (T := TX1) (N := 10) hx hb hts (fun w h => lw_in w (inX1 w h)) hown hK hP 2 rfl rfl 9 (by decide) (hts _ (lw_in _ t_89)) (fun _ h9 => h9) rfl dX1_joinPart_94 ?_
        refine lv_if_eq (tgt := 104) hx hb dX1_joinPart_97 (by decide) (fun c_97 => ?_) (fun c_97 => ?_)
        · have c_97 : pE = false := (bI_eq0 _).mp c_97
          refine lv_iconst (v := 0) hx hb dX1_joinPart_104 (by decide) ?_
          refine wx_zastB (x := false) (g := oE) hx hb hK hP hD hS 5 3 rfl rfl (i := v) hv (by decide) dX1_joinPart_105 (fun H locs hP hD hS => ?_)
          have hP : va_P D vwCl (wD h k tx ln rd wh cm ((vp_updL oF v ((oF v) ||| pF)), (vp_updL oL v ((oL v) ||| pL)), (va_up oE v false), sp, dp, sta, pF, pL, pE) (nm, nx, np, fi, la, em)) H := hP
          have hD : va_D A (wD h k tx ln rd wh cm ((vp_updL oF v ((oF v) ||| pF)), (vp_updL oL v ((oL v) ||| pL)), (va_up oE v false), sp, dp, sta, pF, pL, pE) (nm, nx, np, fi, la, em)) := hD
          refine lv_goto (tgt := 206) hx hb dX1_joinPart_106 (by decide) ?_
          have e_206 : r_join (oF, oL, oE, sp, dp, sta, pF, pL, pE) (nm, nx, np, fi, la, em) v = (((vp_updL oF v ((oF v) ||| pF)), (vp_updL oL v ((oL v) ||| pL)), (va_up oE v false), sp, dp, sta, pF, pL, pE), (nm, nx, np, fi, la, em)) := by simp [r_join, c_6, c_50, c_90, c_97]
          exact ct_endv hx hb hr hlocks hP hD hS (by rw [e_206]) rfl dX1_joinPart_206
        · have c_97 : pE = true := (bI_ne0 _).mp c_97
          refine lv_iconst (v := 1) hx hb dX1_joinPart_100 (by decide) ?_
          refine lv_goto (tgt := 105) hx hb dX1_joinPart_101 (by decide) ?_
          refine wx_zastB (x := true) (g := oE) hx hb hK hP hD hS 5 3 rfl rfl (i := v) hv (by decide) dX1_joinPart_105 (fun H locs hP hD hS => ?_)
          have hP : va_P D vwCl (wD h k tx ln rd wh cm ((vp_updL oF v ((oF v) ||| pF)), (vp_updL oL v ((oL v) ||| pL)), (va_up oE v true), sp, dp, sta, pF, pL, pE) (nm, nx, np, fi, la, em)) H := hP
          have hD : va_D A (wD h k tx ln rd wh cm ((vp_updL oF v ((oF v) ||| pF)), (vp_updL oL v ((oL v) ||| pL)), (va_up oE v true), sp, dp, sta, pF, pL, pE) (nm, nx, np, fi, la, em)) := hD
          refine lv_goto (tgt := 206) hx hb dX1_joinPart_106 (by decide) ?_
          have e_206 : r_join (oF, oL, oE, sp, dp, sta, pF, pL, pE) (nm, nx, np, fi, la, em) v = (((vp_updL oF v ((oF v) ||| pF)), (vp_updL oL v ((oL v) ||| pL)), (va_up oE v true), sp, dp, sta, pF, pL, pE), (nm, nx, np, fi, la, em)) := by simp [r_join, c_6, c_50, c_90, c_97]
          exact ct_endv hx hb hr hlocks hP hD hS (by rw [e_206]) rfl dX1_joinPart_206
  · have c_6 : (sp v) = 0 := c_6
    refine lv_aload_n hx hb dX1_joinPart_9 rfl (lv_at hl 0 rfl) ?_
    refine va_get (D := D) (ci := 1) (v := .ref (h 3)) (C := RX1) (T := TX1) (N := 10) hx hb hts (fun w h => lw_in w (inX1 w h)) hown hK hP 2 rfl rfl 1 (by decide) (hts _ (lw_in _ t_81)) (fun _ h9 => h9) rfl dX1_joinPart_10 ?_
    refine lv_iload_n hx hb dX1_joinPart_13 rfl (lv_at hl 1 rfl) ?_
    refine lv_aload_n hx hb dX1_joinPart_14 rfl (lv_at hl 0 rfl) ?_
    refine va_get (D := D) (ci := 1) (v := .long pF) (C := RX1) (T := TX1) (N := 10) hx hb hts (fun w h => lw_in w (inX1 w h)) hown hK hP 2 rfl rfl 7 (by decide) (hts _ (lw_in _ t_87)) (fun _ h9 => h9) rfl dX1_joinPart_15 ?_
    refine wx_last hx hb hK hP hD hS 3 1 rfl rfl (i := v) hv (by decide) dX1_joinPart_18 (fun H locs hP hD hS => ?_)
    have hP : va_P D vwCl (wD h k tx ln rd wh cm ((vp_updL oF v pF), oL, oE, sp, dp, sta, pF, pL, pE) (nm, nx, np, fi, la, em)) H := hP
    have hD : va_D A (wD h k tx ln rd wh cm ((vp_updL oF v pF), oL, oE, sp, dp, sta, pF, pL, pE) (nm, nx, np, fi, la, em)) := hD
    refine lv_aload_n hx hb dX1_joinPart_19 rfl (lv_at hl 0 rfl) ?_
    refine va_get (D := D) (ci := 1) (v := .ref (h 4)) (C := RX1) (T := TX1) (N := 10) hx hb hts (fun w h => lw_in w (inX1 w h)) hown hK hP 2 rfl rfl 2 (by decide) (hts _ (lw_in _ t_82)) (fun _ h9 => h9) rfl dX1_joinPart_20 ?_
    refine lv_iload_n hx hb dX1_joinPart_23 rfl (lv_at hl 1 rfl) ?_
    refine lv_aload_n hx hb dX1_joinPart_24 rfl (lv_at hl 0 rfl) ?_
    refine va_get (D := D) (ci := 1) (v := .long pL) (C := RX1) (T := TX1) (N := 10) hx hb hts (fun w h => lw_in w (inX1 w h)) hown hK hP 2 rfl rfl 8 (by decide) (hts _ (lw_in _ t_88)) (fun _ h9 => h9) rfl dX1_joinPart_25 ?_
    refine wx_last hx hb hK hP hD hS 4 2 rfl rfl (i := v) hv (by decide) dX1_joinPart_28 (fun H locs hP hD hS => ?_)
    have hP : va_P D vwCl (wD h k tx ln rd wh cm ((vp_updL oF v pF), (vp_updL oL v pL), oE, sp, dp, sta, pF, pL, pE) (nm, nx, np, fi, la, em)) H := hP
    have hD : va_D A (wD h k tx ln rd wh cm ((vp_updL oF v pF), (vp_updL oL v pL), oE, sp, dp, sta, pF, pL, pE) (nm, nx, np, fi, la, em)) := hD
    refine lv_aload_n hx hb dX1_joinPart_29 rfl (lv_at hl 0 rfl) ?_
    refine va_get (D := D) (ci := 1) (v := .ref (h 5)) (C := RX1) (T := TX1) (N := 10) hx hb hts (fun w h => lw_in w (inX1 w h)) hown hK hP 2 rfl rfl 3 (by decide) (hts _ (lw_in _ t_83)) (fun _ h9 => h9) rfl dX1_joinPart_30 ?_
    refine lv_iload_n hx hb dX1_joinPart_33 rfl (lv_at hl 1 rfl) ?_
    refine lv_aload_n hx hb dX1_joinPart_34 rfl (lv_at hl 0 rfl) ?_
    refine va_get (D := D) (ci := 1) (v := .int (bI pE)) (C := RX1) (T := TX1) (N := 10) hx hb hts (fun w h => lw_in w (inX1 w h)) hown hK hP 2 rfl rfl 9 (by decide) (hts _ (lw_in _ t_89)) (fun _ h9 => h9) rfl dX1_joinPart_35 ?_
    refine wx_zastB (x := pE) (g := oE) hx hb hK hP hD hS 5 3 rfl rfl (i := v) hv (by decide) dX1_joinPart_38 (fun H locs hP hD hS => ?_)
    have hP : va_P D vwCl (wD h k tx ln rd wh cm ((vp_updL oF v pF), (vp_updL oL v pL), (va_up oE v pE), sp, dp, sta, pF, pL, pE) (nm, nx, np, fi, la, em)) H := hP
    have hD : va_D A (wD h k tx ln rd wh cm ((vp_updL oF v pF), (vp_updL oL v pL), (va_up oE v pE), sp, dp, sta, pF, pL, pE) (nm, nx, np, fi, la, em)) := hD
    refine lv_goto (tgt := 206) hx hb dX1_joinPart_39 (by decide) ?_
    have e_206 : r_join (oF, oL, oE, sp, dp, sta, pF, pL, pE) (nm, nx, np, fi, la, em) v = (((vp_updL oF v pF), (vp_updL oL v pL), (va_up oE v pE), sp, dp, sta, pF, pL, pE), (nm, nx, np, fi, la, em)) := by simp [r_join, c_6]
    exact ct_endv hx hb hr hlocks hP hD hS (by rw [e_206]) rfl dX1_joinPart_206

set_option maxHeartbeats 4000000 in
set_option maxRecDepth 100000 in
theorem k_R_takeSeparator (l : Launch) (D : va_G) (h : Nat → Nat) (k : Nat → ClassId) (tx : Nat → Int32) (ln : Nat) (rd : Int64) (wh : Bool) (cm : Nat) (oF : Nat → Int64) (oL : Nat → Int64) (oE : Nat → Bool) (sp : Nat → Int32) (d : Nat) (sta : Int32) (pF : Int64) (pL : Int64) (pE : Bool) (nm : Nat → Int32) (nx : Nat → Int64) (np : Nat) (fi : Int64) (la : Int64) (em : Bool) (x : Int32) (hnp : np ≤ 60) (hd : d < 12) :
    Ct l yX1_takeSeparator wsX1_takeSeparator (rmN 3) D vwCl (tyD k) [.ref (h 2), .int x] (wD h k tx ln rd wh cm (oF, oL, oE, sp, (d + 1), sta, pF, pL, pE) (nm, nx, np, fi, la, em)) (wD h k tx ln rd wh cm ((r_sep (oF, oL, oE, sp, d + 1, sta, pF, pL, pE) (nm, nx, np, fi, la, em) d x).1) ((r_sep (oF, oL, oE, sp, d + 1, sta, pF, pL, pE) (nm, nx, np, fi, la, em) d x).2.1)) (some (.int ((r_sep (oF, oL, oE, sp, d + 1, sta, pF, pL, pE) (nm, nx, np, fi, la, em) d x).2.2))) := by
  refine Ct.of (cc := cX1_takeSeparator) (maxL := 3) (ret := (some .int)) (lv := [(0, .ref (h 2)), (1, .int x)]) (by decide) rfl (Nat.le_of_ble_eq_true rfl) rfl ?_
  intro p e s m below meth c A ls hx hb hr hml hts hown hlocks hK hP hD hS hA hl
  refine lv_aload_n hx hb dX1_takeSeparator_0 rfl (lv_at hl 0 rfl) ?_
  refine va_get (D := D) (ci := 1) (v := .int (nI (d + 1))) (C := RX1) (T := TX1) (N := 10) hx hb hts (fun w h => lw_in w (inX1 w h)) hown hK hP 2 rfl rfl 5 (by decide) (hts _ (lw_in _ t_85)) (fun _ h9 => h9) rfl dX1_takeSeparator_1 ?_
  refine lv_iconst (v := 1) hx hb dX1_takeSeparator_4 (by decide) ?_
  refine lv_isub hx hb dX1_takeSeparator_5 ?_
  refine lv_eqi (show (nI (d + 1) - 1) = nI d from nI_pred _) ?_
  refine lv_istore_n (lv' := [(2, .int (nI d)), (0, .ref (h 2)), (1, .int x)]) hx hb dX1_takeSeparator_6 rfl hl (by decide) rfl (fun ls hl => ?_)
  refine lv_iload_n hx hb dX1_takeSeparator_7 rfl (lv_at hl 0 rfl) ?_
  refine lv_if_lt (tgt := 17) hx hb dX1_takeSeparator_8 (by decide) (fun c_8 => ?_) (fun c_8 => ?_)
  · have c_8 : d < 0 := (nI_ltI (a := d) (b := 0) (by omega) (by omega)).mp c_8
    exact absurd c_8 (Nat.not_lt_zero _)
  · have c_8 : 0 ≤ d := Nat.le_of_not_lt (fun z => c_8 ((nI_ltI (a := d) (b := 0) (by omega) (by omega)).mpr z))
    refine lv_iload_n hx hb dX1_takeSeparator_11 rfl (lv_at hl 0 rfl) ?_
    refine lv_bipush (v := 12) hx hb dX1_takeSeparator_12 (by decide) ?_
    refine lv_icmp_lt (tgt := 19) hx hb dX1_takeSeparator_14 (by decide) (fun c_14 => ?_) (fun c_14 => ?_)
    · have c_14 : d < 12 := (nI_ltI (a := d) (b := 12) (by omega) (by omega)).mp c_14
      refine lv_aload_n hx hb dX1_takeSeparator_19 rfl (lv_at hl 1 rfl) ?_
      refine va_get (D := D) (ci := 1) (v := .ref (h 6)) (C := RX1) (T := TX1) (N := 10) hx hb hts (fun w h => lw_in w (inX1 w h)) hown hK hP 2 rfl rfl 4 (by decide) (hts _ (lw_in _ t_84)) (fun _ h9 => h9) rfl dX1_takeSeparator_20 ?_
      refine lv_iload_n hx hb dX1_takeSeparator_23 rfl (lv_at hl 0 rfl) ?_
      refine wx_iald hx hb hK hP 6 4 rfl rfl (i := d) hd (by decide) dX1_takeSeparator_24 ?_
      refine lv_if_eq (tgt := 40) hx hb dX1_takeSeparator_25 (by decide) (fun c_25 => ?_) (fun c_25 => ?_)
      · have c_25 : (sp d) = 0 := c_25
        refine lv_aload_n hx hb dX1_takeSeparator_40 rfl (lv_at hl 1 rfl) ?_
        refine lv_iload_n hx hb dX1_takeSeparator_41 rfl (lv_at hl 0 rfl) ?_
        refine ct_callV (As := [.int (nI d)]) (rest := []) ⟨hx, hb, hml, hown, hts⟩ (k_R_joinPart l D h k tx ln rd wh cm oF oL oE sp (d + 1) sta pF pL pE nm nx np fi la em d (by omega) (by omega)) (cwV 1 hts (gV lw_in t_197 t_199 t_6 t_24 t_200) rfl rfl rfl (by decide +kernel) ⟨Nat.le_of_ble_eq_true rfl, Nat.le_of_ble_eq_true rfl⟩) 2 rfl rfl hK hP hD hS hA rfl hl.1 rfl (Nat.le_of_ble_eq_true rfl) dX1_takeSeparator_42 ⟨Nat.zero_le _, Nat.zero_le _⟩ (fun H locs hP hD hS => ?_)
        refine W.eq (g2 := F0 m 45 ls []) rfl ?_
        have hP : va_P D vwCl (wD h k tx ln rd wh cm (r_join (oF, oL, oE, sp, (d + 1), sta, pF, pL, pE) (nm, nx, np, fi, la, em) d).1 (r_join (oF, oL, oE, sp, (d + 1), sta, pF, pL, pE) (nm, nx, np, fi, la, em) d).2) H := hP
        have hD : va_D A (wD h k tx ln rd wh cm (r_join (oF, oL, oE, sp, (d + 1), sta, pF, pL, pE) (nm, nx, np, fi, la, em) d).1 (r_join (oF, oL, oE, sp, (d + 1), sta, pF, pL, pE) (nm, nx, np, fi, la, em) d).2) := hD
        generalize hJ : r_join (oF, oL, oE, sp, (d + 1), sta, pF, pL, pE) (nm, nx, np, fi, la, em) d = J at hP hD
        obtain ⟨⟨oF1, oL1, oE1, sp1, dp1, sta1, pF1, pL1, pE1⟩, ⟨nm1, nx1, np1, fi1, la1, em1⟩⟩ := J
        have hP : va_P D vwCl (wD h k tx ln rd wh cm (oF1, oL1, oE1, sp1, dp1, sta1, pF1, pL1, pE1) (nm1, nx1, np1, fi1, la1, em1)) H := hP
        have hD : va_D A (wD h k tx ln rd wh cm (oF1, oL1, oE1, sp1, dp1, sta1, pF1, pL1, pE1) (nm1, nx1, np1, fi1, la1, em1)) := hD
        refine lv_aload_n hx hb dX1_takeSeparator_45 rfl (lv_at hl 1 rfl) ?_
        refine va_get (D := D) (ci := 1) (v := .ref (h 6)) (C := RX1) (T := TX1) (N := 10) hx hb hts (fun w h => lw_in w (inX1 w h)) hown hK hP 2 rfl rfl 4 (by decide) (hts _ (lw_in _ t_84)) (fun _ h9 => h9) rfl dX1_takeSeparator_46 ?_
        refine lv_iload_n hx hb dX1_takeSeparator_49 rfl (lv_at hl 0 rfl) ?_
        refine lv_iload_n hx hb dX1_takeSeparator_50 rfl (lv_at hl 2 rfl) ?_
        refine wx_iast hx hb hK hP hD hS 6 4 rfl rfl (i := d) hd (by decide) dX1_takeSeparator_51 (fun H locs hP hD hS => ?_)
        have hP : va_P D vwCl (wD h k tx ln rd wh cm (oF1, oL1, oE1, (upd sp1 d x), dp1, sta1, pF1, pL1, pE1) (nm1, nx1, np1, fi1, la1, em1)) H := hP
        have hD : va_D A (wD h k tx ln rd wh cm (oF1, oL1, oE1, (upd sp1 d x), dp1, sta1, pF1, pL1, pE1) (nm1, nx1, np1, fi1, la1, em1)) := hD
        refine lv_aload_n hx hb dX1_takeSeparator_52 rfl (lv_at hl 1 rfl) ?_
        refine lv_iconst (v := 1) hx hb dX1_takeSeparator_53 (by decide) ?_
        refine va_put (D := D) (ci := 1) (v := .int 1) (ty := .int) (C := RX1) (T := TX1) (N := 10) hx hb hts (fun w h => lw_in w (inX1 w h)) tyX1 tyX1_ok nmX1 hown hK hP hD hS 2 rfl rfl 6 (by decide) (hts _ (lw_in _ t_86)) (fun _ h9 => h9) rfl (by decide +kernel) rfl rfl (Nat.le_of_ble_eq_true rfl) dX1_takeSeparator_54 (fun H locs hP hD hS => ?_)
        have hP : va_P D vwCl (wD h k tx ln rd wh cm (oF1, oL1, oE1, (upd sp1 d x), dp1, 1, pF1, pL1, pE1) (nm1, nx1, np1, fi1, la1, em1)) H := hP
        have hD : va_D A (wD h k tx ln rd wh cm (oF1, oL1, oE1, (upd sp1 d x), dp1, 1, pF1, pL1, pE1) (nm1, nx1, np1, fi1, la1, em1)) := hD
        refine lv_iconst (v := 0) hx hb dX1_takeSeparator_57 (by decide) ?_
        have e_58 : r_sep (oF, oL, oE, sp, d + 1, sta, pF, pL, pE) (nm, nx, np, fi, la, em) d x = ((oF1, oL1, oE1, (upd sp1 d x), dp1, 1, pF1, pL1, pE1), (nm1, nx1, np1, fi1, la1, em1), 0) := by simp [r_sep, c_25, hJ, r_sepE]
        exact ct_endi hx hb hr hlocks rfl hP hD hS (by rw [e_58]) (by rw [e_58]) dX1_takeSeparator_58
      · have c_25 : ¬ (sp d) = 0 := c_25
        refine lv_aload_n hx hb dX1_takeSeparator_28 rfl (lv_at hl 1 rfl) ?_
        refine va_get (D := D) (ci := 1) (v := .ref (h 6)) (C := RX1) (T := TX1) (N := 10) hx hb hts (fun w h => lw_in w (inX1 w h)) hown hK hP 2 rfl rfl 4 (by decide) (hts _ (lw_in _ t_84)) (fun _ h9 => h9) rfl dX1_takeSeparator_29 ?_
        refine lv_iload_n hx hb dX1_takeSeparator_32 rfl (lv_at hl 0 rfl) ?_
        refine wx_iald hx hb hK hP 6 4 rfl rfl (i := d) hd (by decide) dX1_takeSeparator_33 ?_
        refine lv_iload_n hx hb dX1_takeSeparator_34 rfl (lv_at hl 2 rfl) ?_
        refine lv_icmp_eq (tgt := 40) hx hb dX1_takeSeparator_35 (by decide) (fun c_35 => ?_) (fun c_35 => ?_)
        · have c_35 : (sp d) = x := c_35
          refine lv_aload_n hx hb dX1_takeSeparator_40 rfl (lv_at hl 1 rfl) ?_
          refine lv_iload_n hx hb dX1_takeSeparator_41 rfl (lv_at hl 0 rfl) ?_
          refine ct_callV (As := [.int (nI d)]) (rest := []) ⟨hx, hb, hml, hown, hts⟩ (k_R_joinPart l D h k tx ln rd wh cm oF oL oE sp (d + 1) sta pF pL pE nm nx np fi la em d (by omega) (by omega)) (cwV 1 hts (gV lw_in t_197 t_199 t_6 t_24 t_200) rfl rfl rfl (by decide +kernel) ⟨Nat.le_of_ble_eq_true rfl, Nat.le_of_ble_eq_true rfl⟩) 2 rfl rfl hK hP hD hS hA rfl hl.1 rfl (Nat.le_of_ble_eq_true rfl) dX1_takeSeparator_42 ⟨Nat.zero_le _, Nat.zero_le _⟩ (fun H locs hP hD hS => ?_)
          refine W.eq (g2 := F0 m 45 ls []) rfl ?_
          have hP : va_P D vwCl (wD h k tx ln rd wh cm (r_join (oF, oL, oE, sp, (d + 1), sta, pF, pL, pE) (nm, nx, np, fi, la, em) d).1 (r_join (oF, oL, oE, sp, (d + 1), sta, pF, pL, pE) (nm, nx, np, fi, la, em) d).2) H := hP
          have hD : va_D A (wD h k tx ln rd wh cm (r_join (oF, oL, oE, sp, (d + 1), sta, pF, pL, pE) (nm, nx, np, fi, la, em) d).1 (r_join (oF, oL, oE, sp, (d + 1), sta, pF, pL, pE) (nm, nx, np, fi, la, em) d).2) := hD
          generalize hJ : r_join (oF, oL, oE, sp, (d + 1), sta, pF, pL, pE) (nm, nx, np, fi, la, em) d = J at hP hD
          obtain ⟨⟨oF1, oL1, oE1, sp1, dp1, sta1, pF1, pL1, pE1⟩, ⟨nm1, nx1, np1, fi1, la1, em1⟩⟩ := J
          have hP : va_P D vwCl (wD h k tx ln rd wh cm (oF1, oL1, oE1, sp1, dp1, sta1, pF1, pL1, pE1) (nm1, nx1, np1, fi1, la1, em1)) H := hP
          have hD : va_D A (wD h k tx ln rd wh cm (oF1, oL1, oE1, sp1, dp1, sta1, pF1, pL1, pE1) (nm1, nx1, np1, fi1, la1, em1)) := hD
          refine lv_aload_n hx hb dX1_takeSeparator_45 rfl (lv_at hl 1 rfl) ?_
          refine va_get (D := D) (ci := 1) (v := .ref (h 6)) (C := RX1) (T := TX1) (N := 10) hx hb hts (fun w h => lw_in w (inX1 w h)) hown hK hP 2 rfl rfl 4 (by decide) (hts _ (lw_in _ t_84)) (fun _ h9 => h9) rfl dX1_takeSeparator_46 ?_
          refine lv_iload_n hx hb dX1_takeSeparator_49 rfl (lv_at hl 0 rfl) ?_
          refine lv_iload_n hx hb dX1_takeSeparator_50 rfl (lv_at hl 2 rfl) ?_
          refine wx_iast hx hb hK hP hD hS 6 4 rfl rfl (i := d) hd (by decide) dX1_takeSeparator_51 (fun H locs hP hD hS => ?_)
          have hP : va_P D vwCl (wD h k tx ln rd wh cm (oF1, oL1, oE1, (upd sp1 d x), dp1, sta1, pF1, pL1, pE1) (nm1, nx1, np1, fi1, la1, em1)) H := hP
          have hD : va_D A (wD h k tx ln rd wh cm (oF1, oL1, oE1, (upd sp1 d x), dp1, sta1, pF1, pL1, pE1) (nm1, nx1, np1, fi1, la1, em1)) := hD
          refine lv_aload_n hx hb dX1_takeSeparator_52 rfl (lv_at hl 1 rfl) ?_
          refine lv_iconst (v := 1) hx hb dX1_takeSeparator_53 (by decide) ?_
          refine va_put (D := D) (ci := 1) (v := .int 1) (ty := .int) (C := RX1) (T := TX1) (N := 10) hx hb hts (fun w h => lw_in w (inX1 w h)) tyX1 tyX1_ok nmX1 hown hK hP hD hS 2 rfl rfl 6 (by decide) (hts _ (lw_in _ t_86)) (fun _ h9 => h9) rfl (by decide +kernel) rfl rfl (Nat.le_of_ble_eq_true rfl) dX1_takeSeparator_54 (fun H locs hP hD hS => ?_)
          have hP : va_P D vwCl (wD h k tx ln rd wh cm (oF1, oL1, oE1, (upd sp1 d x), dp1, 1, pF1, pL1, pE1) (nm1, nx1, np1, fi1, la1, em1)) H := hP
          have hD : va_D A (wD h k tx ln rd wh cm (oF1, oL1, oE1, (upd sp1 d x), dp1, 1, pF1, pL1, pE1) (nm1, nx1, np1, fi1, la1, em1)) := hD
          refine lv_iconst (v := 0) hx hb dX1_takeSeparator_57 (by decide) ?_
          have e_58 : r_sep (oF, oL, oE, sp, d + 1, sta, pF, pL, pE) (nm, nx, np, fi, la, em) d x = ((oF1, oL1, oE1, (upd sp1 d x), dp1, 1, pF1, pL1, pE1), (nm1, nx1, np1, fi1, la1, em1), 0) := by simp [r_sep, c_25, c_35, hJ, r_sepE]
          exact ct_endi hx hb hr hlocks rfl hP hD hS (by rw [e_58]) (by rw [e_58]) dX1_takeSeparator_58
        · have c_35 : ¬ (sp d) = x := c_35
          refine lv_iconst (v := 1) hx hb dX1_takeSeparator_38 (by decide) ?_
          have e_39 : r_sep (oF, oL, oE, sp, d + 1, sta, pF, pL, pE) (nm, nx, np, fi, la, em) d x = ((oF, oL, oE, sp, (d + 1), sta, pF, pL, pE), (nm, nx, np, fi, la, em), 1) := by simp [r_sep, c_25, c_35]
          exact ct_endi hx hb hr hlocks rfl hP hD hS (by rw [e_39]) (by rw [e_39]) dX1_takeSeparator_39
    · have c_14 : 12 ≤ d := Nat.le_of_not_lt (fun z => c_14 ((nI_ltI (a := d) (b := 12) (by omega) (by omega)).mpr z))
      exact absurd c_14 (by omega)

set_option maxHeartbeats 4000000 in
set_option maxRecDepth 100000 in
theorem k_R_close (l : Launch) (D : va_G) (h : Nat → Nat) (k : Nat → ClassId) (tx : Nat → Int32) (ln : Nat) (rd : Int64) (wh : Bool) (cm : Nat) (oF : Nat → Int64) (oL : Nat → Int64) (oE : Nat → Bool) (sp : Nat → Int32) (d : Nat) (sta : Int32) (pF : Int64) (pL : Int64) (pE : Bool) (nm : Nat → Int32) (nx : Nat → Int64) (np : Nat) (fi : Int64) (la : Int64) (em : Bool)  (hnp : np ≤ 60) (hd : d < 12) :
    Ct l yX1_close wsX1_close (rmN 3) D vwCl (tyD k) [.ref (h 2)] (wD h k tx ln rd wh cm (oF, oL, oE, sp, (d + 1), sta, pF, pL, pE) (nm, nx, np, fi, la, em)) (wD h k tx ln rd wh cm ((r_close (oF, oL, oE, sp, d + 1, sta, pF, pL, pE) (nm, nx, np, fi, la, em) d).1) ((r_close (oF, oL, oE, sp, d + 1, sta, pF, pL, pE) (nm, nx, np, fi, la, em) d).2.1)) (some (.int ((r_close (oF, oL, oE, sp, d + 1, sta, pF, pL, pE) (nm, nx, np, fi, la, em) d).2.2))) := by
  refine Ct.of (cc := cX1_close) (maxL := 2) (ret := (some .int)) (lv := [(0, .ref (h 2))]) (by decide) rfl (Nat.le_of_ble_eq_true rfl) rfl ?_
  intro p e s m below meth c A ls hx hb hr hml hts hown hlocks hK hP hD hS hA hl
  refine lv_aload_n hx hb dX1_close_0 rfl (lv_at hl 0 rfl) ?_
  refine va_get (D := D) (ci := 1) (v := .int (nI (d + 1))) (C := RX1) (T := TX1) (N := 10) hx hb hts (fun w h => lw_in w (inX1 w h)) hown hK hP 2 rfl rfl 5 (by decide) (hts _ (lw_in _ t_85)) (fun _ h9 => h9) rfl dX1_close_1 ?_
  refine lv_iconst (v := 1) hx hb dX1_close_4 (by decide) ?_
  refine lv_isub hx hb dX1_close_5 ?_
  refine lv_eqi (show (nI (d + 1) - 1) = nI d from nI_pred _) ?_
  refine lv_istore_n (lv' := [(1, .int (nI d)), (0, .ref (h 2))]) hx hb dX1_close_6 rfl hl (by decide) rfl (fun ls hl => ?_)
  refine lv_iload_n hx hb dX1_close_7 rfl (lv_at hl 0 rfl) ?_
  refine lv_if_lt (tgt := 17) hx hb dX1_close_8 (by decide) (fun c_8 => ?_) (fun c_8 => ?_)
  · have c_8 : d < 0 := (nI_ltI (a := d) (b := 0) (by omega) (by omega)).mp c_8
    exact absurd c_8 (Nat.not_lt_zero _)
  · have c_8 : 0 ≤ d := Nat.le_of_not_lt (fun z => c_8 ((nI_ltI (a := d) (b := 0) (by omega) (by omega)).mpr z))
    refine lv_iload_n hx hb dX1_close_11 rfl (lv_at hl 0 rfl) ?_
    refine lv_bipush (v := 12) hx hb dX1_close_12 (by decide) ?_
    refine lv_icmp_lt (tgt := 19) hx hb dX1_close_14 (by decide) (fun c_14 => ?_) (fun c_14 => ?_)
    · have c_14 : d < 12 := (nI_ltI (a := d) (b := 12) (by omega) (by omega)).mp c_14
      refine lv_aload_n hx hb dX1_close_19 rfl (lv_at hl 1 rfl) ?_
      refine lv_iload_n hx hb dX1_close_20 rfl (lv_at hl 0 rfl) ?_
      refine ct_callV (As := [.int (nI d)]) (rest := []) ⟨hx, hb, hml, hown, hts⟩ (k_R_joinPart l D h k tx ln rd wh cm oF oL oE sp (d + 1) sta pF pL pE nm nx np fi la em d (by omega) (by omega)) (cwV 1 hts (gV lw_in t_197 t_199 t_6 t_24 t_200) rfl rfl rfl (by decide +kernel) ⟨Nat.le_of_ble_eq_true rfl, Nat.le_of_ble_eq_true rfl⟩) 2 rfl rfl hK hP hD hS hA rfl hl.1 rfl (Nat.le_of_ble_eq_true rfl) dX1_close_21 ⟨Nat.zero_le _, Nat.zero_le _⟩ (fun H locs hP hD hS => ?_)
      refine W.eq (g2 := F0 m 24 ls []) rfl ?_
      have hP : va_P D vwCl (wD h k tx ln rd wh cm (r_join (oF, oL, oE, sp, (d + 1), sta, pF, pL, pE) (nm, nx, np, fi, la, em) d).1 (r_join (oF, oL, oE, sp, (d + 1), sta, pF, pL, pE) (nm, nx, np, fi, la, em) d).2) H := hP
      have hD : va_D A (wD h k tx ln rd wh cm (r_join (oF, oL, oE, sp, (d + 1), sta, pF, pL, pE) (nm, nx, np, fi, la, em) d).1 (r_join (oF, oL, oE, sp, (d + 1), sta, pF, pL, pE) (nm, nx, np, fi, la, em) d).2) := hD
      generalize hJ : r_join (oF, oL, oE, sp, (d + 1), sta, pF, pL, pE) (nm, nx, np, fi, la, em) d = J at hP hD
      obtain ⟨⟨oF1, oL1, oE1, sp1, dp1, sta1, pF1, pL1, pE1⟩, ⟨nm1, nx1, np1, fi1, la1, em1⟩⟩ := J
      have hP : va_P D vwCl (wD h k tx ln rd wh cm (oF1, oL1, oE1, sp1, dp1, sta1, pF1, pL1, pE1) (nm1, nx1, np1, fi1, la1, em1)) H := hP
      have hD : va_D A (wD h k tx ln rd wh cm (oF1, oL1, oE1, sp1, dp1, sta1, pF1, pL1, pE1) (nm1, nx1, np1, fi1, la1, em1)) := hD
      refine lv_aload_n hx hb dX1_close_24 rfl (lv_at hl 1 rfl) ?_
      refine lv_aload_n hx hb dX1_close_25 rfl (lv_at hl 1 rfl) ?_
      refine va_get (D := D) (ci := 1) (v := .ref (h 3)) (C := RX1) (T := TX1) (N := 10) hx hb hts (fun w h => lw_in w (inX1 w h)) hown hK hP 2 rfl rfl 1 (by decide) (hts _ (lw_in _ t_81)) (fun _ h9 => h9) rfl dX1_close_26 ?_
      refine lv_iload_n hx hb dX1_close_29 rfl (lv_at hl 0 rfl) ?_
      refine wx_lald hx hb hK hP 3 1 rfl rfl (i := d) hd (by decide) dX1_close_30 ?_
      refine va_put (D := D) (ci := 1) (v := .long (oF1 d)) (ty := .long) (C := RX1) (T := TX1) (N := 10) hx hb hts (fun w h => lw_in w (inX1 w h)) tyX1 tyX1_ok nmX1 hown hK hP hD hS 2 rfl rfl 7 (by decide) (hts _ (lw_in _ t_87)) (fun _ h9 => h9) rfl (by decide +kernel) rfl rfl (Nat.le_of_ble_eq_true rfl) dX1_close_31 (fun H locs hP hD hS => ?_)
      have hP : va_P D vwCl (wD h k tx ln rd wh cm (oF1, oL1, oE1, sp1, dp1, sta1, (oF1 d), pL1, pE1) (nm1, nx1, np1, fi1, la1, em1)) H := hP
      have hD : va_D A (wD h k tx ln rd wh cm (oF1, oL1, oE1, sp1, dp1, sta1, (oF1 d), pL1, pE1) (nm1, nx1, np1, fi1, la1, em1)) := hD
      refine lv_aload_n hx hb dX1_close_34 rfl (lv_at hl 1 rfl) ?_
      refine lv_aload_n hx hb dX1_close_35 rfl (lv_at hl 1 rfl) ?_
      refine va_get (D := D) (ci := 1) (v := .ref (h 4)) (C := RX1) (T := TX1) (N := 10) hx hb hts (fun w h => lw_in w (inX1 w h)) hown hK hP 2 rfl rfl 2 (by decide) (hts _ (lw_in _ t_82)) (fun _ h9 => h9) rfl dX1_close_36 ?_
      refine lv_iload_n hx hb dX1_close_39 rfl (lv_at hl 0 rfl) ?_
      refine wx_lald hx hb hK hP 4 2 rfl rfl (i := d) hd (by decide) dX1_close_40 ?_
      refine va_put (D := D) (ci := 1) (v := .long (oL1 d)) (ty := .long) (C := RX1) (T := TX1) (N := 10) hx hb hts (fun w h => lw_in w (inX1 w h)) tyX1 tyX1_ok nmX1 hown hK hP hD hS 2 rfl rfl 8 (by decide) (hts _ (lw_in _ t_88)) (fun _ h9 => h9) rfl (by decide +kernel) rfl rfl (Nat.le_of_ble_eq_true rfl) dX1_close_41 (fun H locs hP hD hS => ?_)
      have hP : va_P D vwCl (wD h k tx ln rd wh cm (oF1, oL1, oE1, sp1, dp1, sta1, (oF1 d), (oL1 d), pE1) (nm1, nx1, np1, fi1, la1, em1)) H := hP
      have hD : va_D A (wD h k tx ln rd wh cm (oF1, oL1, oE1, sp1, dp1, sta1, (oF1 d), (oL1 d), pE1) (nm1, nx1, np1, fi1, la1, em1)) := hD
      refine lv_aload_n hx hb dX1_close_44 rfl (lv_at hl 1 rfl) ?_
      refine lv_aload_n hx hb dX1_close_45 rfl (lv_at hl 1 rfl) ?_
      refine va_get (D := D) (ci := 1) (v := .ref (h 5)) (C := RX1) (T := TX1) (N := 10) hx hb hts (fun w h => lw_in w (inX1 w h)) hown hK hP 2 rfl rfl 3 (by decide) (hts _ (lw_in _ t_83)) (fun _ h9 => h9) rfl dX1_close_46 ?_
      refine lv_iload_n hx hb dX1_close_49 rfl (lv_at hl 0 rfl) ?_
      refine wx_zald hx hb hK hP 5 3 rfl rfl (i := d) hd (by decide) dX1_close_50 ?_
      refine lv_eqi (show (bI (oE1 d)) = bI (oE1 d) from rfl) ?_
      refine va_put (D := D) (ci := 1) (v := .int (bI (oE1 d))) (ty := .boolean) (C := RX1) (T := TX1) (N := 10) hx hb hts (fun w h => lw_in w (inX1 w h)) tyX1 tyX1_ok nmX1 hown hK hP hD hS 2 rfl rfl 9 (by decide) (hts _ (lw_in _ t_89)) (fun _ h9 => h9) rfl (by decide +kernel) (bI_narrow _) (bI_fits _) (Nat.le_of_ble_eq_true rfl) dX1_close_51 (fun H locs hP hD hS => ?_)
      have hP : va_P D vwCl (wD h k tx ln rd wh cm (oF1, oL1, oE1, sp1, dp1, sta1, (oF1 d), (oL1 d), (oE1 d)) (nm1, nx1, np1, fi1, la1, em1)) H := hP
      have hD : va_D A (wD h k tx ln rd wh cm (oF1, oL1, oE1, sp1, dp1, sta1, (oF1 d), (oL1 d), (oE1 d)) (nm1, nx1, np1, fi1, la1, em1)) := hD
      refine lv_aload_n hx hb dX1_close_54 rfl (lv_at hl 1 rfl) ?_
      refine lv_iload_n hx hb dX1_close_55 rfl (lv_at hl 0 rfl) ?_
      refine va_put (D := D) (ci := 1) (v := .int (nI d)) (ty := .int) (C := RX1) (T := TX1) (N := 10) hx hb hts (fun w h => lw_in w (inX1 w h)) tyX1 tyX1_ok nmX1 hown hK hP hD hS 2 rfl rfl 5 (by decide) (hts _ (lw_in _ t_85)) (fun _ h9 => h9) rfl (by decide +kernel) rfl rfl (Nat.le_of_ble_eq_true rfl) dX1_close_56 (fun H locs hP hD hS => ?_)
      have hP : va_P D vwCl (wD h k tx ln rd wh cm (oF1, oL1, oE1, sp1, d, sta1, (oF1 d), (oL1 d), (oE1 d)) (nm1, nx1, np1, fi1, la1, em1)) H := hP
      have hD : va_D A (wD h k tx ln rd wh cm (oF1, oL1, oE1, sp1, d, sta1, (oF1 d), (oL1 d), (oE1 d)) (nm1, nx1, np1, fi1, la1, em1)) := hD
      refine lv_aload_n hx hb dX1_close_59 rfl (lv_at hl 1 rfl) ?_
      refine lv_iconst (v := 2) hx hb dX1_close_60 (by decide) ?_
      refine va_put (D := D) (ci := 1) (v := .int 2) (ty := .int) (C := RX1) (T := TX1) (N := 10) hx hb hts (fun w h => lw_in w (inX1 w h)) tyX1 tyX1_ok nmX1 hown hK hP hD hS 2 rfl rfl 6 (by decide) (hts _ (lw_in _ t_86)) (fun _ h9 => h9) rfl (by decide +kernel) rfl rfl (Nat.le_of_ble_eq_true rfl) dX1_close_61 (fun H locs hP hD hS => ?_)
      have hP : va_P D vwCl (wD h k tx ln rd wh cm (oF1, oL1, oE1, sp1, d, 2, (oF1 d), (oL1 d), (oE1 d)) (nm1, nx1, np1, fi1, la1, em1)) H := hP
      have hD : va_D A (wD h k tx ln rd wh cm (oF1, oL1, oE1, sp1, d, 2, (oF1 d), (oL1 d), (oE1 d)) (nm1, nx1, np1, fi1, la1, em1)) := hD
      refine lv_iconst (v := 0) hx hb dX1_close_64 (by decide) ?_
      have e_65 : r_close (oF, oL, oE, sp, d + 1, sta, pF, pL, pE) (nm, nx, np, fi, la, em) d = ((oF1, oL1, oE1, sp1, d, 2, (oF1 d), (oL1 d), (oE1 d)), (nm1, nx1, np1, fi1, la1, em1), 0) := by simp [r_close, hJ, r_closeE]
      exact ct_endi hx hb hr hlocks rfl hP hD hS (by rw [e_65]) (by rw [e_65]) dX1_close_65
    · have c_14 : 12 ≤ d := Nat.le_of_not_lt (fun z => c_14 ((nI_ltI (a := d) (b := 12) (by omega) (by omega)).mpr z))
      exact absurd c_14 (by omega)

set_option maxHeartbeats 4000000 in
set_option maxRecDepth 100000 in
theorem k_R_isSign (l : Launch) (D : va_G) (h : Nat → Nat) (k : Nat → ClassId) (tx : Nat → Int32) (ln : Nat) (rd : Int64) (wh : Bool) (cm : Nat) (R : RS) (M : MS) (x : Int32)  :
    Ct l yX1_isSign wsX1_isSign (rmN 0) D vwCl (tyD k) [.int x] (wD h k tx ln rd wh cm R M) (wD h k tx ln rd wh cm R M) (some (.int (bI (r_isSign x)))) := by
  refine Ct.of (cc := cX1_isSign) (maxL := 1) (ret := (some .boolean)) (lv := [(0, .int x)]) (by decide) rfl (Nat.le_of_ble_eq_true rfl) rfl ?_
  intro p e s m below meth c A ls hx hb hr hml hts hown hlocks hK hP hD hS hA hl
  refine lv_iload_n hx hb dX1_isSign_0 rfl (lv_at hl 0 rfl) ?_
  refine lv_bipush (v := 63) hx hb dX1_isSign_1 (by decide) ?_
  refine lv_icmp_eq (tgt := 18) hx hb dX1_isSign_3 (by decide) (fun c_3 => ?_) (fun c_3 => ?_)
  · have c_3 : x = 63 := c_3
    refine lv_iconst (v := 1) hx hb dX1_isSign_18 (by decide) ?_
    refine lv_goto (tgt := 23) hx hb dX1_isSign_19 (by decide) ?_
    exact ct_endi hx hb hr hlocks rfl hP hD hS rfl (by simp [r_isSign, bI, c_3]) dX1_isSign_23
  · have c_3 : ¬ x = 63 := c_3
    refine lv_iload_n hx hb dX1_isSign_6 rfl (lv_at hl 0 rfl) ?_
    refine lv_bipush (v := 42) hx hb dX1_isSign_7 (by decide) ?_
    refine lv_icmp_eq (tgt := 18) hx hb dX1_isSign_9 (by decide) (fun c_9 => ?_) (fun c_9 => ?_)
    · have c_9 : x = 42 := c_9
      refine lv_iconst (v := 1) hx hb dX1_isSign_18 (by decide) ?_
      refine lv_goto (tgt := 23) hx hb dX1_isSign_19 (by decide) ?_
      exact ct_endi hx hb hr hlocks rfl hP hD hS rfl (by simp [r_isSign, bI, c_3, c_9]) dX1_isSign_23
    · have c_9 : ¬ x = 42 := c_9
      refine lv_iload_n hx hb dX1_isSign_12 rfl (lv_at hl 0 rfl) ?_
      refine lv_bipush (v := 43) hx hb dX1_isSign_13 (by decide) ?_
      refine lv_icmp_ne (tgt := 22) hx hb dX1_isSign_15 (by decide) (fun c_15 => ?_) (fun c_15 => ?_)
      · have c_15 : ¬ x = 43 := c_15
        refine lv_iconst (v := 0) hx hb dX1_isSign_22 (by decide) ?_
        exact ct_endi hx hb hr hlocks rfl hP hD hS rfl (by simp [r_isSign, bI, c_3, c_9, c_15]) dX1_isSign_23
      · have c_15 : x = 43 := c_15
        refine lv_iconst (v := 1) hx hb dX1_isSign_18 (by decide) ?_
        refine lv_goto (tgt := 23) hx hb dX1_isSign_19 (by decide) ?_
        exact ct_endi hx hb hr hlocks rfl hP hD hS rfl (by simp [r_isSign, bI, c_3, c_9, c_15]) dX1_isSign_23

set_option maxHeartbeats 4000000 in
set_option maxRecDepth 100000 in
theorem k_R_takeBeforePart (l : Launch) (D : va_G) (h : Nat → Nat) (k : Nat → ClassId) (tx : Nat → Int32) (ln : Nat) (rd : Int64) (wh : Bool) (cm : Nat) (oF : Nat → Int64) (oL : Nat → Int64) (oE : Nat → Bool) (sp : Nat → Int32) (dp : Nat) (sta : Int32) (pF : Int64) (pL : Int64) (pE : Bool) (nm : Nat → Int32) (nx : Nat → Int64) (np : Nat) (fi : Int64) (la : Int64) (em : Bool) (x : Int32) (hnp : np ≤ 60) (hdp : dp ≤ 12) :
    Ct l yX1_takeBeforePart wsX1_takeBeforePart (rmN 3) D vwCl (tyD k) [.ref (h 2), .int x] (wD h k tx ln rd wh cm (oF, oL, oE, sp, dp, sta, pF, pL, pE) (nm, nx, np, fi, la, em)) (wD h k tx ln rd wh cm ((r_before (oF, oL, oE, sp, dp, sta, pF, pL, pE) (nm, nx, np, fi, la, em) x).1) ((r_before (oF, oL, oE, sp, dp, sta, pF, pL, pE) (nm, nx, np, fi, la, em) x).2.1)) (some (.int ((r_before (oF, oL, oE, sp, dp, sta, pF, pL, pE) (nm, nx, np, fi, la, em) x).2.2))) := by
  refine Ct.of (cc := cX1_takeBeforePart) (maxL := 2) (ret := (some .int)) (lv := [(0, .ref (h 2)), (1, .int x)]) (by decide) rfl (Nat.le_of_ble_eq_true rfl) rfl ?_
  intro p e s m below meth c A ls hx hb hr hml hts hown hlocks hK hP hD hS hA hl
  refine lv_iload_n hx hb dX1_takeBeforePart_0 rfl (lv_at hl 1 rfl) ?_
  refine lv_bipush (v := 32) hx hb dX1_takeBeforePart_1 (by decide) ?_
  refine lv_icmp_ne (tgt := 8) hx hb dX1_takeBeforePart_3 (by decide) (fun c_3 => ?_) (fun c_3 => ?_)
  · have c_3 : ¬ x = 32 := c_3
    refine lv_iload_n hx hb dX1_takeBeforePart_8 rfl (lv_at hl 1 rfl) ?_
    refine lv_bipush (v := 40) hx hb dX1_takeBeforePart_9 (by decide) ?_
    refine lv_icmp_ne (tgt := 19) hx hb dX1_takeBeforePart_11 (by decide) (fun c_11 => ?_) (fun c_11 => ?_)
    · have c_11 : ¬ x = 40 := c_11
      refine lv_iload_n hx hb dX1_takeBeforePart_19 rfl (lv_at hl 1 rfl) ?_
      refine lv_bipush (v := 97) hx hb dX1_takeBeforePart_20 (by decide) ?_
      refine lv_icmp_lt (tgt := 42) hx hb dX1_takeBeforePart_22 (by decide) (fun c_22 => ?_) (fun c_22 => ?_)
      · have c_22 : x < 97 := c_22
        refine lv_iconst (v := 1) hx hb dX1_takeBeforePart_42 (by decide) ?_
        have e_43 : r_before (oF, oL, oE, sp, dp, sta, pF, pL, pE) (nm, nx, np, fi, la, em) x = ((oF, oL, oE, sp, dp, sta, pF, pL, pE), (nm, nx, np, fi, la, em), 1) := by simp [r_before, c_3, c_11, c_22]
        exact ct_endi hx hb hr hlocks rfl hP hD hS (by rw [e_43]) (by rw [e_43]) dX1_takeBeforePart_43
      · have c_22 : ¬ x < 97 := c_22
        refine lv_iload_n hx hb dX1_takeBeforePart_25 rfl (lv_at hl 1 rfl) ?_
        refine lv_bipush (v := 122) hx hb dX1_takeBeforePart_26 (by decide) ?_
        refine lv_icmp_gt (tgt := 42) hx hb dX1_takeBeforePart_28 (by decide) (fun c_28 => ?_) (fun c_28 => ?_)
        · have c_28 : 122 < x := c_28
          refine lv_iconst (v := 1) hx hb dX1_takeBeforePart_42 (by decide) ?_
          have e_43 : r_before (oF, oL, oE, sp, dp, sta, pF, pL, pE) (nm, nx, np, fi, la, em) x = ((oF, oL, oE, sp, dp, sta, pF, pL, pE), (nm, nx, np, fi, la, em), 1) := by simp [r_before, c_3, c_11, c_22, c_28]
          exact ct_endi hx hb hr hlocks rfl hP hD hS (by rw [e_43]) (by rw [e_43]) dX1_takeBeforePart_43
        · have c_28 : ¬ 122 < x := c_28
          refine lv_aload_n hx hb dX1_takeBeforePart_31 rfl (lv_at hl 0 rfl) ?_
          refine lv_iload_n hx hb dX1_takeBeforePart_32 rfl (lv_at hl 1 rfl) ?_
          refine lv_bipush (v := 97) hx hb dX1_takeBeforePart_33 (by decide) ?_
          refine lv_isub hx hb dX1_takeBeforePart_35 ?_
          refine ct_callV (As := [.int (x - 97)]) (rest := []) ⟨hx, hb, hml, hown, hts⟩ (k_R_takeName l D h k tx ln rd wh cm oF oL oE sp dp sta pF pL pE nm nx np fi la em (x - 97) (by omega)) (cwV 1 hts (gV lw_in t_166 t_168 t_3 t_24 t_169) rfl rfl rfl (by decide +kernel) ⟨Nat.le_of_ble_eq_true rfl, Nat.le_of_ble_eq_true rfl⟩) 2 rfl rfl hK hP hD hS hA rfl hl.1 rfl (Nat.le_of_ble_eq_true rfl) dX1_takeBeforePart_36 ⟨Nat.zero_le _, Nat.zero_le _⟩ (fun H locs hP hD hS => ?_)
          refine W.eq (g2 := F0 m 39 ls [.int ((r_name (oF, oL, oE, sp, dp, sta, pF, pL, pE) (nm, nx, np, fi, la, em) (x - 97)).2.2)]) rfl ?_
          have hP : va_P D vwCl (wD h k tx ln rd wh cm (r_name (oF, oL, oE, sp, dp, sta, pF, pL, pE) (nm, nx, np, fi, la, em) (x - 97)).1 (r_name (oF, oL, oE, sp, dp, sta, pF, pL, pE) (nm, nx, np, fi, la, em) (x - 97)).2.1) H := hP
          have hD : va_D A (wD h k tx ln rd wh cm (r_name (oF, oL, oE, sp, dp, sta, pF, pL, pE) (nm, nx, np, fi, la, em) (x - 97)).1 (r_name (oF, oL, oE, sp, dp, sta, pF, pL, pE) (nm, nx, np, fi, la, em) (x - 97)).2.1) := hD
          refine lv_goto (tgt := 43) hx hb dX1_takeBeforePart_39 (by decide) ?_
          have e_43 : r_before (oF, oL, oE, sp, dp, sta, pF, pL, pE) (nm, nx, np, fi, la, em) x = r_name (oF, oL, oE, sp, dp, sta, pF, pL, pE) (nm, nx, np, fi, la, em) (x - 97) := by simp [r_before, c_3, c_11, c_22, c_28]
          exact ct_endi hx hb hr hlocks rfl hP hD hS (by rw [e_43]) (by rw [e_43]) dX1_takeBeforePart_43
    · have c_11 : x = 40 := c_11
      refine lv_aload_n hx hb dX1_takeBeforePart_14 rfl (lv_at hl 0 rfl) ?_
      refine ct_callV (As := []) (rest := []) ⟨hx, hb, hml, hown, hts⟩ (k_R_open l D h k tx ln rd wh cm oF oL oE sp dp sta pF pL pE (nm, nx, np, fi, la, em)  (by omega)) (cwV 0 hts (gV lw_in t_158 t_160 t_1 t_24 t_161) rfl rfl rfl (by decide +kernel) ⟨Nat.le_of_ble_eq_true rfl, Nat.le_of_ble_eq_true rfl⟩) 2 rfl rfl hK hP hD hS hA rfl hl.1 rfl (Nat.le_of_ble_eq_true rfl) dX1_takeBeforePart_15 ⟨Nat.zero_le _, Nat.zero_le _⟩ (fun H locs hP hD hS => ?_)
      refine W.eq (g2 := F0 m 18 ls [.int ((r_open (oF, oL, oE, sp, dp, sta, pF, pL, pE)).2)]) rfl ?_
      have hP : va_P D vwCl (wD h k tx ln rd wh cm (r_open (oF, oL, oE, sp, dp, sta, pF, pL, pE)).1 (nm, nx, np, fi, la, em)) H := hP
      have hD : va_D A (wD h k tx ln rd wh cm (r_open (oF, oL, oE, sp, dp, sta, pF, pL, pE)).1 (nm, nx, np, fi, la, em)) := hD
      have e_18 : r_before (oF, oL, oE, sp, dp, sta, pF, pL, pE) (nm, nx, np, fi, la, em) x = ((r_open (oF, oL, oE, sp, dp, sta, pF, pL, pE)).1, (nm, nx, np, fi, la, em), (r_open (oF, oL, oE, sp, dp, sta, pF, pL, pE)).2) := by simp [r_before, c_3, c_11]
      exact ct_endi hx hb hr hlocks rfl hP hD hS (by rw [e_18]) (by rw [e_18]) dX1_takeBeforePart_18
  · have c_3 : x = 32 := c_3
    refine lv_iconst (v := 0) hx hb dX1_takeBeforePart_6 (by decide) ?_
    have e_7 : r_before (oF, oL, oE, sp, dp, sta, pF, pL, pE) (nm, nx, np, fi, la, em) x = ((oF, oL, oE, sp, dp, sta, pF, pL, pE), (nm, nx, np, fi, la, em), 0) := by simp [r_before, c_3]
    exact ct_endi hx hb hr hlocks rfl hP hD hS (by rw [e_7]) (by rw [e_7]) dX1_takeBeforePart_7

set_option maxHeartbeats 4000000 in
set_option maxRecDepth 100000 in
theorem k_R_take (l : Launch) (D : va_G) (h : Nat → Nat) (k : Nat → ClassId) (tx : Nat → Int32) (ln : Nat) (rd : Int64) (wh : Bool) (cm : Nat) (oF : Nat → Int64) (oL : Nat → Int64) (oE : Nat → Bool) (sp : Nat → Int32) (dp : Nat) (sta : Int32) (pF : Int64) (pL : Int64) (pE : Bool) (nm : Nat → Int32) (nx : Nat → Int64) (np : Nat) (fi : Int64) (la : Int64) (em : Bool) (x : Int32) (hnp : np ≤ 60) (hdp : dp ≤ 12) :
    Ct l yX1_take wsX1_take (rmN 4) D vwCl (tyD k) [.ref (h 2), .int x] (wD h k tx ln rd wh cm (oF, oL, oE, sp, dp, sta, pF, pL, pE) (nm, nx, np, fi, la, em)) (wD h k tx ln rd wh cm ((r_take (oF, oL, oE, sp, dp, sta, pF, pL, pE) (nm, nx, np, fi, la, em) x).1) ((r_take (oF, oL, oE, sp, dp, sta, pF, pL, pE) (nm, nx, np, fi, la, em) x).2.1)) (some (.int ((r_take (oF, oL, oE, sp, dp, sta, pF, pL, pE) (nm, nx, np, fi, la, em) x).2.2))) := by
  refine Ct.of (cc := cX1_take) (maxL := 2) (ret := (some .int)) (lv := [(0, .ref (h 2)), (1, .int x)]) (by decide) rfl (Nat.le_of_ble_eq_true rfl) rfl ?_
  intro p e s m below meth c A ls hx hb hr hml hts hown hlocks hK hP hD hS hA hl
  refine lv_aload_n hx hb dX1_take_0 rfl (lv_at hl 0 rfl) ?_
  refine va_get (D := D) (ci := 1) (v := .int sta) (C := RX1) (T := TX1) (N := 10) hx hb hts (fun w h => lw_in w (inX1 w h)) hown hK hP 2 rfl rfl 6 (by decide) (hts _ (lw_in _ t_86)) (fun _ h9 => h9) rfl dX1_take_1 ?_
  refine lv_if_ne (tgt := 22) hx hb dX1_take_4 (by decide) (fun c_4 => ?_) (fun c_4 => ?_)
  · have c_4 : ¬ sta = 0 := c_4
    refine lv_aload_n hx hb dX1_take_22 rfl (lv_at hl 0 rfl) ?_
    refine va_get (D := D) (ci := 1) (v := .int sta) (C := RX1) (T := TX1) (N := 10) hx hb hts (fun w h => lw_in w (inX1 w h)) hown hK hP 2 rfl rfl 6 (by decide) (hts _ (lw_in _ t_86)) (fun _ h9 => h9) rfl dX1_take_23 ?_
    refine lv_iconst (v := 1) hx hb dX1_take_26 (by decide) ?_
    refine lv_icmp_ne (tgt := 36) hx hb dX1_take_27 (by decide) (fun c_27 => ?_) (fun c_27 => ?_)
    · have c_27 : ¬ sta = 1 := c_27
      refine lv_iload_n hx hb dX1_take_36 rfl (lv_at hl 1 rfl) ?_
      refine ct_callS (As := [.int x]) (rest := []) ⟨hx, hb, hml, hown, hts⟩ (k_R_isSign l D h k tx ln rd wh cm (oF, oL, oE, sp, dp, sta, pF, pL, pE) (nm, nx, np, fi, la, em) x) (cwS 1 hts (gS lw_in t_179 t_180 t_24 t_181) rfl rfl rfl (by decide +kernel) ⟨Nat.le_of_ble_eq_true rfl, Nat.le_of_ble_eq_true rfl⟩) hK hP hD hS hA rfl hl.1 rfl (Nat.le_of_ble_eq_true rfl) dX1_take_37 ⟨Nat.zero_le _, Nat.zero_le _⟩ (fun H locs hP hD hS => ?_)
      refine W.eq (g2 := F0 m 40 ls [.int (bI (r_isSign x))]) rfl ?_
      refine lv_if_eq (tgt := 49) hx hb dX1_take_40 (by decide) (fun c_40 => ?_) (fun c_40 => ?_)
      · have c_40 : (r_isSign x) = false := (bI_eq0 _).mp c_40
        refine lv_aload_n hx hb dX1_take_49 rfl (lv_at hl 0 rfl) ?_
        refine va_get (D := D) (ci := 1) (v := .int (nI dp)) (C := RX1) (T := TX1) (N := 10) hx hb hts (fun w h => lw_in w (inX1 w h)) hown hK hP 2 rfl rfl 5 (by decide) (hts _ (lw_in _ t_85)) (fun _ h9 => h9) rfl dX1_take_50 ?_
        refine lv_if_ne (tgt := 58) hx hb dX1_take_53 (by decide) (fun c_53 => ?_) (fun c_53 => ?_)
        · have c_53 : ¬ dp = 0 := id (fun z => c_53 ((nI_eq (a := dp) (b := 0) (by omega) (by omega)).mpr z))
          obtain ⟨d, rfl⟩ : ∃ d, dp = d + 1 := ⟨dp - 1, by omega⟩
          refine lv_iload_n hx hb dX1_take_58 rfl (lv_at hl 1 rfl) ?_
          refine lv_bipush (v := 32) hx hb dX1_take_59 (by decide) ?_
          refine lv_icmp_ne (tgt := 71) hx hb dX1_take_61 (by decide) (fun c_61 => ?_) (fun c_61 => ?_)
          · have c_61 : ¬ x = 32 := c_61
            refine lv_iload_n hx hb dX1_take_71 rfl (lv_at hl 1 rfl) ?_
            refine lv_bipush (v := 41) hx hb dX1_take_72 (by decide) ?_
            refine lv_icmp_ne (tgt := 82) hx hb dX1_take_74 (by decide) (fun c_74 => ?_) (fun c_74 => ?_)
            · have c_74 : ¬ x = 41 := c_74
              refine lv_iload_n hx hb dX1_take_82 rfl (lv_at hl 1 rfl) ?_
              refine lv_bipush (v := 124) hx hb dX1_take_83 (by decide) ?_
              refine lv_icmp_eq (tgt := 94) hx hb dX1_take_85 (by decide) (fun c_85 => ?_) (fun c_85 => ?_)
              · have c_85 : x = 124 := c_85
                refine lv_aload_n hx hb dX1_take_94 rfl (lv_at hl 0 rfl) ?_
                refine lv_iload_n hx hb dX1_take_95 rfl (lv_at hl 1 rfl) ?_
                refine ct_callV (As := [.int x]) (rest := []) ⟨hx, hb, hml, hown, hts⟩ (k_R_takeSeparator l D h k tx ln rd wh cm oF oL oE sp d sta pF pL pE nm nx np fi la em x (by omega) (by omega)) (cwV 1 hts (gV lw_in t_201 t_203 t_7 t_24 t_204) rfl rfl rfl (by decide +kernel) ⟨Nat.le_of_ble_eq_true rfl, Nat.le_of_ble_eq_true rfl⟩) 2 rfl rfl hK hP hD hS hA rfl hl.1 rfl (Nat.le_of_ble_eq_true rfl) dX1_take_96 ⟨Nat.zero_le _, Nat.zero_le _⟩ (fun H locs hP hD hS => ?_)
                refine W.eq (g2 := F0 m 99 ls [.int ((r_sep (oF, oL, oE, sp, (d + 1), sta, pF, pL, pE) (nm, nx, np, fi, la, em) d x).2.2)]) rfl ?_
                have hP : va_P D vwCl (wD h k tx ln rd wh cm (r_sep (oF, oL, oE, sp, (d + 1), sta, pF, pL, pE) (nm, nx, np, fi, la, em) d x).1 (r_sep (oF, oL, oE, sp, (d + 1), sta, pF, pL, pE) (nm, nx, np, fi, la, em) d x).2.1) H := hP
                have hD : va_D A (wD h k tx ln rd wh cm (r_sep (oF, oL, oE, sp, (d + 1), sta, pF, pL, pE) (nm, nx, np, fi, la, em) d x).1 (r_sep (oF, oL, oE, sp, (d + 1), sta, pF, pL, pE) (nm, nx, np, fi, la, em) d x).2.1) := hD
                refine lv_goto (tgt := 103) hx hb dX1_take_99 (by decide) ?_
                have e_103 : r_take (oF, oL, oE, sp, d + 1, sta, pF, pL, pE) (nm, nx, np, fi, la, em) x = r_sep (oF, oL, oE, sp, (d + 1), sta, pF, pL, pE) (nm, nx, np, fi, la, em) d x := by simp [r_take, r_blank, r_isSign_k, c_4, c_27, c_40, c_53, c_61, c_74, c_85]
                exact ct_endi hx hb hr hlocks rfl hP hD hS (by rw [e_103]) (by rw [e_103]) dX1_take_103
              · have c_85 : ¬ x = 124 := c_85
                refine lv_iload_n hx hb dX1_take_88 rfl (lv_at hl 1 rfl) ?_
                refine lv_bipush (v := 44) hx hb dX1_take_89 (by decide) ?_
                refine lv_icmp_ne (tgt := 102) hx hb dX1_take_91 (by decide) (fun c_91 => ?_) (fun c_91 => ?_)
                · have c_91 : ¬ x = 44 := c_91
                  refine lv_iconst (v := 1) hx hb dX1_take_102 (by decide) ?_
                  have e_103 : r_take (oF, oL, oE, sp, d + 1, sta, pF, pL, pE) (nm, nx, np, fi, la, em) x = ((oF, oL, oE, sp, (d + 1), sta, pF, pL, pE), (nm, nx, np, fi, la, em), 1) := by simp [r_take, r_blank, r_isSign_k, c_4, c_27, c_40, c_53, c_61, c_74, c_85, c_91]
                  exact ct_endi hx hb hr hlocks rfl hP hD hS (by rw [e_103]) (by rw [e_103]) dX1_take_103
                · have c_91 : x = 44 := c_91
                  refine lv_aload_n hx hb dX1_take_94 rfl (lv_at hl 0 rfl) ?_
                  refine lv_iload_n hx hb dX1_take_95 rfl (lv_at hl 1 rfl) ?_
                  refine ct_callV (As := [.int x]) (rest := []) ⟨hx, hb, hml, hown, hts⟩ (k_R_takeSeparator l D h k tx ln rd wh cm oF oL oE sp d sta pF pL pE nm nx np fi la em x (by omega) (by omega)) (cwV 1 hts (gV lw_in t_201 t_203 t_7 t_24 t_204) rfl rfl rfl (by decide +kernel) ⟨Nat.le_of_ble_eq_true rfl, Nat.le_of_ble_eq_true rfl⟩) 2 rfl rfl hK hP hD hS hA rfl hl.1 rfl (Nat.le_of_ble_eq_true rfl) dX1_take_96 ⟨Nat.zero_le _, Nat.zero_le _⟩ (fun H locs hP hD hS => ?_)
                  refine W.eq (g2 := F0 m 99 ls [.int ((r_sep (oF, oL, oE, sp, (d + 1), sta, pF, pL, pE) (nm, nx, np, fi, la, em) d x).2.2)]) rfl ?_
                  have hP : va_P D vwCl (wD h k tx ln rd wh cm (r_sep (oF, oL, oE, sp, (d + 1), sta, pF, pL, pE) (nm, nx, np, fi, la, em) d x).1 (r_sep (oF, oL, oE, sp, (d + 1), sta, pF, pL, pE) (nm, nx, np, fi, la, em) d x).2.1) H := hP
                  have hD : va_D A (wD h k tx ln rd wh cm (r_sep (oF, oL, oE, sp, (d + 1), sta, pF, pL, pE) (nm, nx, np, fi, la, em) d x).1 (r_sep (oF, oL, oE, sp, (d + 1), sta, pF, pL, pE) (nm, nx, np, fi, la, em) d x).2.1) := hD
                  refine lv_goto (tgt := 103) hx hb dX1_take_99 (by decide) ?_
                  have e_103 : r_take (oF, oL, oE, sp, d + 1, sta, pF, pL, pE) (nm, nx, np, fi, la, em) x = r_sep (oF, oL, oE, sp, (d + 1), sta, pF, pL, pE) (nm, nx, np, fi, la, em) d x := by simp [r_take, r_blank, r_isSign_k, c_4, c_27, c_40, c_53, c_61, c_74, c_85, c_91]
                  exact ct_endi hx hb hr hlocks rfl hP hD hS (by rw [e_103]) (by rw [e_103]) dX1_take_103
            · have c_74 : x = 41 := c_74
              refine lv_aload_n hx hb dX1_take_77 rfl (lv_at hl 0 rfl) ?_
              refine ct_callV (As := []) (rest := []) ⟨hx, hb, hml, hown, hts⟩ (k_R_close l D h k tx ln rd wh cm oF oL oE sp d sta pF pL pE nm nx np fi la em  (by omega) (by omega)) (cwV 0 hts (gV lw_in t_193 t_195 t_5 t_24 t_196) rfl rfl rfl (by decide +kernel) ⟨Nat.le_of_ble_eq_true rfl, Nat.le_of_ble_eq_true rfl⟩) 2 rfl rfl hK hP hD hS hA rfl hl.1 rfl (Nat.le_of_ble_eq_true rfl) dX1_take_78 ⟨Nat.zero_le _, Nat.zero_le _⟩ (fun H locs hP hD hS => ?_)
              refine W.eq (g2 := F0 m 81 ls [.int ((r_close (oF, oL, oE, sp, (d + 1), sta, pF, pL, pE) (nm, nx, np, fi, la, em) d).2.2)]) rfl ?_
              have hP : va_P D vwCl (wD h k tx ln rd wh cm (r_close (oF, oL, oE, sp, (d + 1), sta, pF, pL, pE) (nm, nx, np, fi, la, em) d).1 (r_close (oF, oL, oE, sp, (d + 1), sta, pF, pL, pE) (nm, nx, np, fi, la, em) d).2.1) H := hP
              have hD : va_D A (wD h k tx ln rd wh cm (r_close (oF, oL, oE, sp, (d + 1), sta, pF, pL, pE) (nm, nx, np, fi, la, em) d).1 (r_close (oF, oL, oE, sp, (d + 1), sta, pF, pL, pE) (nm, nx, np, fi, la, em) d).2.1) := hD
              have e_81 : r_take (oF, oL, oE, sp, d + 1, sta, pF, pL, pE) (nm, nx, np, fi, la, em) x = r_close (oF, oL, oE, sp, (d + 1), sta, pF, pL, pE) (nm, nx, np, fi, la, em) d := by simp [r_take, r_blank, r_isSign_k, c_4, c_27, c_40, c_53, c_61, c_74]
              exact ct_endi hx hb hr hlocks rfl hP hD hS (by rw [e_81]) (by rw [e_81]) dX1_take_81
          · have c_61 : x = 32 := c_61
            refine lv_aload_n hx hb dX1_take_64 rfl (lv_at hl 0 rfl) ?_
            refine lv_iconst (v := 3) hx hb dX1_take_65 (by decide) ?_
            refine va_put (D := D) (ci := 1) (v := .int 3) (ty := .int) (C := RX1) (T := TX1) (N := 10) hx hb hts (fun w h => lw_in w (inX1 w h)) tyX1 tyX1_ok nmX1 hown hK hP hD hS 2 rfl rfl 6 (by decide) (hts _ (lw_in _ t_86)) (fun _ h9 => h9) rfl (by decide +kernel) rfl rfl (Nat.le_of_ble_eq_true rfl) dX1_take_66 (fun H locs hP hD hS => ?_)
            have hP : va_P D vwCl (wD h k tx ln rd wh cm (oF, oL, oE, sp, (d + 1), 3, pF, pL, pE) (nm, nx, np, fi, la, em)) H := hP
            have hD : va_D A (wD h k tx ln rd wh cm (oF, oL, oE, sp, (d + 1), 3, pF, pL, pE) (nm, nx, np, fi, la, em)) := hD
            refine lv_iconst (v := 0) hx hb dX1_take_69 (by decide) ?_
            have e_70 : r_take (oF, oL, oE, sp, d + 1, sta, pF, pL, pE) (nm, nx, np, fi, la, em) x = ((oF, oL, oE, sp, (d + 1), 3, pF, pL, pE), (nm, nx, np, fi, la, em), 0) := by simp [r_take, r_blank, r_isSign_k, c_4, c_27, c_40, c_53, c_61]
            exact ct_endi hx hb hr hlocks rfl hP hD hS (by rw [e_70]) (by rw [e_70]) dX1_take_70
        · have c_53 : dp = 0 := (nI_eq (a := dp) (b := 0) (by omega) (by omega)).mp c_53
          refine lv_iconst (v := 1) hx hb dX1_take_56 (by decide) ?_
          have e_57 : r_take (oF, oL, oE, sp, dp, sta, pF, pL, pE) (nm, nx, np, fi, la, em) x = ((oF, oL, oE, sp, dp, sta, pF, pL, pE), (nm, nx, np, fi, la, em), 1) := by simp [r_take, r_blank, r_isSign_k, c_4, c_27, c_40, c_53]
          exact ct_endi hx hb hr hlocks rfl hP hD hS (by rw [e_57]) (by rw [e_57]) dX1_take_57
      · have c_40 : (r_isSign x) = true := (bI_ne0 _).mp c_40
        refine lv_aload_n hx hb dX1_take_43 rfl (lv_at hl 0 rfl) ?_
        refine lv_iload_n hx hb dX1_take_44 rfl (lv_at hl 1 rfl) ?_
        refine ct_callV (As := [.int x]) (rest := []) ⟨hx, hb, hml, hown, hts⟩ (k_R_takeSign l D h k tx ln rd wh cm oF oL oE sp dp sta pF pL pE nm nx np fi la em x (by omega)) (cwV 1 hts (gV lw_in t_182 t_184 t_4 t_24 t_185) rfl rfl rfl (by decide +kernel) ⟨Nat.le_of_ble_eq_true rfl, Nat.le_of_ble_eq_true rfl⟩) 2 rfl rfl hK hP hD hS hA rfl hl.1 rfl (Nat.le_of_ble_eq_true rfl) dX1_take_45 ⟨Nat.zero_le _, Nat.zero_le _⟩ (fun H locs hP hD hS => ?_)
        refine W.eq (g2 := F0 m 48 ls [.int ((r_sign (oF, oL, oE, sp, dp, sta, pF, pL, pE) (nm, nx, np, fi, la, em) x).2.2)]) rfl ?_
        have hP : va_P D vwCl (wD h k tx ln rd wh cm (r_sign (oF, oL, oE, sp, dp, sta, pF, pL, pE) (nm, nx, np, fi, la, em) x).1 (r_sign (oF, oL, oE, sp, dp, sta, pF, pL, pE) (nm, nx, np, fi, la, em) x).2.1) H := hP
        have hD : va_D A (wD h k tx ln rd wh cm (r_sign (oF, oL, oE, sp, dp, sta, pF, pL, pE) (nm, nx, np, fi, la, em) x).1 (r_sign (oF, oL, oE, sp, dp, sta, pF, pL, pE) (nm, nx, np, fi, la, em) x).2.1) := hD
        have e_48 : r_take (oF, oL, oE, sp, dp, sta, pF, pL, pE) (nm, nx, np, fi, la, em) x = r_sign (oF, oL, oE, sp, dp, sta, pF, pL, pE) (nm, nx, np, fi, la, em) x := by simp [r_take, r_blank, r_isSign_k, c_4, c_27, c_40]
        exact ct_endi hx hb hr hlocks rfl hP hD hS (by rw [e_48]) (by rw [e_48]) dX1_take_48
    · have c_27 : sta = 1 := c_27
      refine lv_aload_n hx hb dX1_take_30 rfl (lv_at hl 0 rfl) ?_
      refine lv_iload_n hx hb dX1_take_31 rfl (lv_at hl 1 rfl) ?_
      refine ct_callV (As := [.int x]) (rest := []) ⟨hx, hb, hml, hown, hts⟩ (k_R_takeBeforePart l D h k tx ln rd wh cm oF oL oE sp dp sta pF pL pE nm nx np fi la em x (by omega) (by omega)) (cwV 1 hts (gV lw_in t_162 t_164 t_2 t_24 t_165) rfl rfl rfl (by decide +kernel) ⟨Nat.le_of_ble_eq_true rfl, Nat.le_of_ble_eq_true rfl⟩) 2 rfl rfl hK hP hD hS hA rfl hl.1 rfl (Nat.le_of_ble_eq_true rfl) dX1_take_32 ⟨Nat.zero_le _, Nat.zero_le _⟩ (fun H locs hP hD hS => ?_)
      refine W.eq (g2 := F0 m 35 ls [.int ((r_before (oF, oL, oE, sp, dp, sta, pF, pL, pE) (nm, nx, np, fi, la, em) x).2.2)]) rfl ?_
      have hP : va_P D vwCl (wD h k tx ln rd wh cm (r_before (oF, oL, oE, sp, dp, sta, pF, pL, pE) (nm, nx, np, fi, la, em) x).1 (r_before (oF, oL, oE, sp, dp, sta, pF, pL, pE) (nm, nx, np, fi, la, em) x).2.1) H := hP
      have hD : va_D A (wD h k tx ln rd wh cm (r_before (oF, oL, oE, sp, dp, sta, pF, pL, pE) (nm, nx, np, fi, la, em) x).1 (r_before (oF, oL, oE, sp, dp, sta, pF, pL, pE) (nm, nx, np, fi, la, em) x).2.1) := hD
      have e_35 : r_take (oF, oL, oE, sp, dp, sta, pF, pL, pE) (nm, nx, np, fi, la, em) x = r_before (oF, oL, oE, sp, dp, sta, pF, pL, pE) (nm, nx, np, fi, la, em) x := by simp [r_take, r_blank, r_isSign_k, c_4, c_27]
      exact ct_endi hx hb hr hlocks rfl hP hD hS (by rw [e_35]) (by rw [e_35]) dX1_take_35
  · have c_4 : sta = 0 := c_4
    refine lv_iload_n hx hb dX1_take_7 rfl (lv_at hl 1 rfl) ?_
    refine lv_bipush (v := 40) hx hb dX1_take_8 (by decide) ?_
    refine lv_icmp_ne (tgt := 20) hx hb dX1_take_10 (by decide) (fun c_10 => ?_) (fun c_10 => ?_)
    · have c_10 : ¬ x = 40 := c_10
      refine lv_iconst (v := 1) hx hb dX1_take_20 (by decide) ?_
      have e_21 : r_take (oF, oL, oE, sp, dp, sta, pF, pL, pE) (nm, nx, np, fi, la, em) x = ((oF, oL, oE, sp, dp, sta, pF, pL, pE), (nm, nx, np, fi, la, em), 1) := by simp [r_take, r_blank, r_isSign_k, c_4, c_10]
      exact ct_endi hx hb hr hlocks rfl hP hD hS (by rw [e_21]) (by rw [e_21]) dX1_take_21
    · have c_10 : x = 40 := c_10
      refine lv_aload_n hx hb dX1_take_13 rfl (lv_at hl 0 rfl) ?_
      refine ct_callV (As := []) (rest := []) ⟨hx, hb, hml, hown, hts⟩ (k_R_open l D h k tx ln rd wh cm oF oL oE sp dp sta pF pL pE (nm, nx, np, fi, la, em)  (by omega)) (cwV 0 hts (gV lw_in t_158 t_160 t_1 t_24 t_161) rfl rfl rfl (by decide +kernel) ⟨Nat.le_of_ble_eq_true rfl, Nat.le_of_ble_eq_true rfl⟩) 2 rfl rfl hK hP hD hS hA rfl hl.1 rfl (Nat.le_of_ble_eq_true rfl) dX1_take_14 ⟨Nat.zero_le _, Nat.zero_le _⟩ (fun H locs hP hD hS => ?_)
      refine W.eq (g2 := F0 m 17 ls [.int ((r_open (oF, oL, oE, sp, dp, sta, pF, pL, pE)).2)]) rfl ?_
      have hP : va_P D vwCl (wD h k tx ln rd wh cm (r_open (oF, oL, oE, sp, dp, sta, pF, pL, pE)).1 (nm, nx, np, fi, la, em)) H := hP
      have hD : va_D A (wD h k tx ln rd wh cm (r_open (oF, oL, oE, sp, dp, sta, pF, pL, pE)).1 (nm, nx, np, fi, la, em)) := hD
      refine lv_goto (tgt := 21) hx hb dX1_take_17 (by decide) ?_
      have e_21 : r_take (oF, oL, oE, sp, dp, sta, pF, pL, pE) (nm, nx, np, fi, la, em) x = ((r_open (oF, oL, oE, sp, dp, sta, pF, pL, pE)).1, (nm, nx, np, fi, la, em), (r_open (oF, oL, oE, sp, dp, sta, pF, pL, pE)).2) := by simp [r_take, r_blank, r_isSign_k, c_4, c_10]
      exact ct_endi hx hb hr hlocks rfl hP hD hS (by rw [e_21]) (by rw [e_21]) dX1_take_21

set_option maxHeartbeats 4000000 in
set_option maxRecDepth 100000 in
theorem k_R_finish (l : Launch) (D : va_G) (h : Nat → Nat) (k : Nat → ClassId) (tx : Nat → Int32) (ln : Nat) (rd : Int64) (wh : Bool) (cm : Nat) (oF : Nat → Int64) (oL : Nat → Int64) (oE : Nat → Bool) (sp : Nat → Int32) (dp : Nat) (sta : Int32) (pF : Int64) (pL : Int64) (pE : Bool) (nm : Nat → Int32) (nx : Nat → Int64) (np : Nat) (fi : Int64) (la : Int64) (em : Bool)  (hdp : dp ≤ 12) :
    Ct l yX1_finish wsX1_finish (rmN 0) D vwCl (tyD k) [.ref (h 2)] (wD h k tx ln rd wh cm (oF, oL, oE, sp, dp, sta, pF, pL, pE) (nm, nx, np, fi, la, em)) (wD h k tx ln rd wh cm (oF, oL, oE, sp, dp, sta, pF, pL, pE) ((r_fin (oF, oL, oE, sp, dp, sta, pF, pL, pE) (nm, nx, np, fi, la, em)).1)) (some (.int (bI (r_fin (oF, oL, oE, sp, dp, sta, pF, pL, pE) (nm, nx, np, fi, la, em)).2))) := by
  refine Ct.of (cc := cX1_finish) (maxL := 1) (ret := (some .boolean)) (lv := [(0, .ref (h 2))]) (by decide) rfl (Nat.le_of_ble_eq_true rfl) rfl ?_
  intro p e s m below meth c A ls hx hb hr hml hts hown hlocks hK hP hD hS hA hl
  refine lv_aload_n hx hb dX1_finish_0 rfl (lv_at hl 0 rfl) ?_
  refine va_get (D := D) (ci := 1) (v := .int (nI dp)) (C := RX1) (T := TX1) (N := 10) hx hb hts (fun w h => lw_in w (inX1 w h)) hown hK hP 2 rfl rfl 5 (by decide) (hts _ (lw_in _ t_85)) (fun _ h9 => h9) rfl dX1_finish_1 ?_
  refine lv_if_gt (tgt := 14) hx hb dX1_finish_4 (by decide) (fun c_4 => ?_) (fun c_4 => ?_)
  · have c_4 : 0 < dp := (nI_ltI (a := 0) (b := dp) (by omega) (by omega)).mp c_4
    refine lv_iconst (v := 0) hx hb dX1_finish_14 (by decide) ?_
    have e_15 : r_fin (oF, oL, oE, sp, dp, sta, pF, pL, pE) (nm, nx, np, fi, la, em) = ((nm, nx, np, fi, la, em), false) := by simp [r_fin, c_4, Nat.not_le.mpr c_4]
    exact ct_endi hx hb hr hlocks rfl hP hD hS (by rw [e_15]) (by rw [e_15]; rfl) dX1_finish_15
  · have c_4 : dp ≤ 0 := Nat.le_of_not_lt (fun z => c_4 ((nI_ltI (a := 0) (b := dp) (by omega) (by omega)).mpr z))
    refine lv_aload_n hx hb dX1_finish_7 rfl (lv_at hl 0 rfl) ?_
    refine va_get (D := D) (ci := 1) (v := .int sta) (C := RX1) (T := TX1) (N := 10) hx hb hts (fun w h => lw_in w (inX1 w h)) hown hK hP 2 rfl rfl 6 (by decide) (hts _ (lw_in _ t_86)) (fun _ h9 => h9) rfl dX1_finish_8 ?_
    refine lv_if_ne (tgt := 16) hx hb dX1_finish_11 (by decide) (fun c_11 => ?_) (fun c_11 => ?_)
    · have c_11 : ¬ sta = 0 := c_11
      refine lv_aload_n hx hb dX1_finish_16 rfl (lv_at hl 0 rfl) ?_
      refine va_get (D := D) (ci := 1) (v := .ref (h 7)) (C := RX1) (T := TX1) (N := 10) hx hb hts (fun w h => lw_in w (inX1 w h)) hown hK hP 2 rfl rfl 0 (by decide) (hts _ (lw_in _ t_79)) (fun _ h9 => h9) rfl dX1_finish_17 ?_
      refine lv_aload_n hx hb dX1_finish_20 rfl (lv_at hl 0 rfl) ?_
      refine va_get (D := D) (ci := 1) (v := .long pF) (C := RX1) (T := TX1) (N := 10) hx hb hts (fun w h => lw_in w (inX1 w h)) hown hK hP 2 rfl rfl 7 (by decide) (hts _ (lw_in _ t_87)) (fun _ h9 => h9) rfl dX1_finish_21 ?_
      refine va_put (D := D) (ci := 0) (v := .long pF) (ty := .long) (C := RX0) (T := TX0) (N := 6) hx hb hts (fun w h => lw_in w (inX0 w h)) tyX0 tyX0_ok nmX0 hown hK hP hD hS 7 rfl rfl 3 (by decide) (hts _ (lw_in _ t_55)) (fun _ h9 => h9) rfl (by decide +kernel) rfl rfl (Nat.le_of_ble_eq_true rfl) dX1_finish_24 (fun H locs hP hD hS => ?_)
      have hP : va_P D vwCl (wD h k tx ln rd wh cm (oF, oL, oE, sp, dp, sta, pF, pL, pE) (nm, nx, np, pF, la, em)) H := hP
      have hD : va_D A (wD h k tx ln rd wh cm (oF, oL, oE, sp, dp, sta, pF, pL, pE) (nm, nx, np, pF, la, em)) := hD
      refine lv_aload_n hx hb dX1_finish_27 rfl (lv_at hl 0 rfl) ?_
      refine va_get (D := D) (ci := 1) (v := .ref (h 7)) (C := RX1) (T := TX1) (N := 10) hx hb hts (fun w h => lw_in w (inX1 w h)) hown hK hP 2 rfl rfl 0 (by decide) (hts _ (lw_in _ t_79)) (fun _ h9 => h9) rfl dX1_finish_28 ?_
      refine lv_aload_n hx hb dX1_finish_31 rfl (lv_at hl 0 rfl) ?_
      refine va_get (D := D) (ci := 1) (v := .long pL) (C := RX1) (T := TX1) (N := 10) hx hb hts (fun w h => lw_in w (inX1 w h)) hown hK hP 2 rfl rfl 8 (by decide) (hts _ (lw_in _ t_88)) (fun _ h9 => h9) rfl dX1_finish_32 ?_
      refine va_put (D := D) (ci := 0) (v := .long pL) (ty := .long) (C := RX0) (T := TX0) (N := 6) hx hb hts (fun w h => lw_in w (inX0 w h)) tyX0 tyX0_ok nmX0 hown hK hP hD hS 7 rfl rfl 4 (by decide) (hts _ (lw_in _ t_58)) (fun _ h9 => h9) rfl (by decide +kernel) rfl rfl (Nat.le_of_ble_eq_true rfl) dX1_finish_35 (fun H locs hP hD hS => ?_)
      have hP : va_P D vwCl (wD h k tx ln rd wh cm (oF, oL, oE, sp, dp, sta, pF, pL, pE) (nm, nx, np, pF, pL, em)) H := hP
      have hD : va_D A (wD h k tx ln rd wh cm (oF, oL, oE, sp, dp, sta, pF, pL, pE) (nm, nx, np, pF, pL, em)) := hD
      refine lv_aload_n hx hb dX1_finish_38 rfl (lv_at hl 0 rfl) ?_
      refine va_get (D := D) (ci := 1) (v := .ref (h 7)) (C := RX1) (T := TX1) (N := 10) hx hb hts (fun w h => lw_in w (inX1 w h)) hown hK hP 2 rfl rfl 0 (by decide) (hts _ (lw_in _ t_79)) (fun _ h9 => h9) rfl dX1_finish_39 ?_
      refine lv_aload_n hx hb dX1_finish_42 rfl (lv_at hl 0 rfl) ?_
      refine va_get (D := D) (ci := 1) (v := .int (bI pE)) (C := RX1) (T := TX1) (N := 10) hx hb hts (fun w h => lw_in w (inX1 w h)) hown hK hP 2 rfl rfl 9 (by decide) (hts _ (lw_in _ t_89)) (fun _ h9 => h9) rfl dX1_finish_43 ?_
      refine va_put (D := D) (ci := 0) (v := .int (bI pE)) (ty := .boolean) (C := RX0) (T := TX0) (N := 6) hx hb hts (fun w h => lw_in w (inX0 w h)) tyX0 tyX0_ok nmX0 hown hK hP hD hS 7 rfl rfl 5 (by decide) (hts _ (lw_in _ t_61)) (fun _ h9 => h9) rfl (by decide +kernel) (bI_narrow _) (bI_fits _) (Nat.le_of_ble_eq_true rfl) dX1_finish_46 (fun H locs hP hD hS => ?_)
      have hP : va_P D vwCl (wD h k tx ln rd wh cm (oF, oL, oE, sp, dp, sta, pF, pL, pE) (nm, nx, np, pF, pL, pE)) H := hP
      have hD : va_D A (wD h k tx ln rd wh cm (oF, oL, oE, sp, dp, sta, pF, pL, pE) (nm, nx, np, pF, pL, pE)) := hD
      refine lv_iconst (v := 1) hx hb dX1_finish_49 (by decide) ?_
      have e_50 : r_fin (oF, oL, oE, sp, dp, sta, pF, pL, pE) (nm, nx, np, fi, la, em) = ((nm, nx, np, pF, pL, pE), true) := by simp [r_fin, c_4, Nat.not_lt.mpr c_4, c_11]
      exact ct_endi hx hb hr hlocks rfl hP hD hS (by rw [e_50]) (by rw [e_50]; rfl) dX1_finish_50
    · have c_11 : sta = 0 := c_11
      refine lv_iconst (v := 0) hx hb dX1_finish_14 (by decide) ?_
      have e_15 : r_fin (oF, oL, oE, sp, dp, sta, pF, pL, pE) (nm, nx, np, fi, la, em) = ((nm, nx, np, fi, la, em), false) := by simp [r_fin, c_4, Nat.not_lt.mpr c_4, c_11]
      exact ct_endi hx hb hr hlocks rfl hP hD hS (by rw [e_15]) (by rw [e_15]; rfl) dX1_finish_15

theorem k_R_begin_o (l : Launch) (D : va_G) (h : Nat → Nat) (k : Nat → ClassId) (tx : Nat → Int32) (ln : Nat) (rd : Int64) (wh : Bool) (cm : Nat) (R : RS) (M : MS)  (hnp : M.2.2.1 ≤ 60) :
    Ct l yX1_begin wsX1_begin (rmN 1) D vwCl (tyD k) [.ref (h 2)] (wD h k tx ln rd wh cm R M) (wD h k tx ln rd wh cm (r_begin R) (m_clear M)) none := by
  obtain ⟨oF, oL, oE, sp, dp, sta, pF, pL, pE⟩ := R
  obtain ⟨nm, nx, np, fi, la, em⟩ := M
  exact k_R_begin l D h k tx ln rd wh cm oF oL oE sp dp sta pF pL pE nm nx np fi la em  hnp

theorem k_R_take_o (l : Launch) (D : va_G) (h : Nat → Nat) (k : Nat → ClassId) (tx : Nat → Int32) (ln : Nat) (rd : Int64) (wh : Bool) (cm : Nat) (R : RS) (M : MS) (x : Int32) (hnp : M.2.2.1 ≤ 60) (hdp : R.2.2.2.2.1 ≤ 12) :
    Ct l yX1_take wsX1_take (rmN 4) D vwCl (tyD k) [.ref (h 2), .int x] (wD h k tx ln rd wh cm R M) (wD h k tx ln rd wh cm ((r_take R M x).1) ((r_take R M x).2.1)) (some (.int ((r_take R M x).2.2))) := by
  obtain ⟨oF, oL, oE, sp, dp, sta, pF, pL, pE⟩ := R
  obtain ⟨nm, nx, np, fi, la, em⟩ := M
  exact k_R_take l D h k tx ln rd wh cm oF oL oE sp dp sta pF pL pE nm nx np fi la em x hnp hdp

theorem k_R_finish_o (l : Launch) (D : va_G) (h : Nat → Nat) (k : Nat → ClassId) (tx : Nat → Int32) (ln : Nat) (rd : Int64) (wh : Bool) (cm : Nat) (R : RS) (M : MS)  (hdp : R.2.2.2.2.1 ≤ 12) :
    Ct l yX1_finish wsX1_finish (rmN 0) D vwCl (tyD k) [.ref (h 2)] (wD h k tx ln rd wh cm R M) (wD h k tx ln rd wh cm R ((r_fin R M).1)) (some (.int (bI (r_fin R M).2))) := by
  obtain ⟨oF, oL, oE, sp, dp, sta, pF, pL, pE⟩ := R
  obtain ⟨nm, nx, np, fi, la, em⟩ := M
  exact k_R_finish l D h k tx ln rd wh cm oF oL oE sp dp sta pF pL pE nm nx np fi la em  hdp
