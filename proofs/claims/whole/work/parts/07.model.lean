/-! The methods of the class: model (laid by program) -/
set_option maxHeartbeats 4000000 in
set_option maxRecDepth 100000 in
theorem k_M_holds (l : Launch) (D : va_G) (h : Nat → Nat) (k : Nat → ClassId) (tx : Nat → Int32) (ln : Nat) (rd : Int64) (wh : Bool) (cm : Nat) (R : RS) (M : MS) (a : Int64) (i : Nat) (hi : i < 64) :
    Ct l yX0_holds wsX0_holds (rmN 0) D vwCl (tyD k) [.long a, .int (nI i)] (wD h k tx ln rd wh cm R M) (wD h k tx ln rd wh cm R M) (some (.int (bI (hB a i)))) := by
  refine Ct.of (cc := cX0_holds) (maxL := 3) (ret := (some .boolean)) (lv := [(0, .long a), (2, .int (nI i))]) (by decide) rfl (Nat.le_of_ble_eq_true rfl) rfl ?_
  intro p e s m below meth c A ls hx hb hr hml hts hown hlocks hK hP hD hS hA hl
  refine lv_lload_n hx hb dX0_holds_0 rfl (lv_at hl 0 rfl) ?_
  refine lv_iload_n hx hb dX0_holds_1 rfl (lv_at hl 1 rfl) ?_
  refine lv_lushr (v := (a.toUInt64 >>> ((nI i).toInt64.toUInt64 &&& Int64.toUInt64 63)).toInt64) hx hb dX0_holds_2 rfl ?_
  refine lv_lconst (v := 1) hx hb dX0_holds_3 (by decide) ?_
  refine lv_land hx hb dX0_holds_4 ?_
  refine lv_lconst (v := 0) hx hb dX0_holds_5 (by decide) ?_
  refine W.lcmp hx hb dX0_holds_6 ?_
  refine lv_if_eq (tgt := 14) hx hb dX0_holds_7 (by decide) (fun c_7 => ?_) (fun c_7 => ?_)
  · have c_7 : ((a.toUInt64 >>> ((nI i).toInt64.toUInt64 &&& Int64.toUInt64 63)).toInt64 &&& 1) = 0 := (lg_cmp_eq _ _).mp c_7
    refine lv_iconst (v := 0) hx hb dX0_holds_14 (by decide) ?_
    exact ct_endi hx hb hr hlocks rfl hP hD hS rfl (by rw [hB_not hi c_7]; rfl) dX0_holds_15
  · have c_7 : ¬ ((a.toUInt64 >>> ((nI i).toInt64.toUInt64 &&& Int64.toUInt64 63)).toInt64 &&& 1) = 0 := fun z => c_7 ((lg_cmp_eq _ _).mpr z)
    refine lv_iconst (v := 1) hx hb dX0_holds_10 (by decide) ?_
    refine lv_goto (tgt := 15) hx hb dX0_holds_11 (by decide) ?_
    exact ct_endi hx hb hr hlocks rfl hP hD hS rfl (by rw [hB_of hi c_7]; rfl) dX0_holds_15

set_option maxHeartbeats 4000000 in
set_option maxRecDepth 100000 in
theorem k_M_clear (l : Launch) (D : va_G) (h : Nat → Nat) (k : Nat → ClassId) (tx : Nat → Int32) (ln : Nat) (rd : Int64) (wh : Bool) (cm : Nat) (R : RS) (nm : Nat → Int32) (nx : Nat → Int64) (np : Nat) (fi : Int64) (la : Int64) (em : Bool)   :
    Ct l yX0_clear wsX0_clear (rmN 0) D vwCl (tyD k) [.ref (h 7)] (wD h k tx ln rd wh cm R (nm, nx, np, fi, la, em)) (wD h k tx ln rd wh cm R (nm, nx, 0, 0, 0, false)) none := by
  refine Ct.of (cc := cX0_clear) (maxL := 1) (ret := none) (lv := [(0, .ref (h 7))]) (by decide) rfl (Nat.le_of_ble_eq_true rfl) rfl ?_
  intro p e s m below meth c A ls hx hb hr hml hts hown hlocks hK hP hD hS hA hl
  refine lv_aload_n hx hb dX0_clear_0 rfl (lv_at hl 0 rfl) ?_
  refine lv_iconst (v := 0) hx hb dX0_clear_1 (by decide) ?_
  refine lv_eqi (show 0 = nI 0 from rfl) ?_
  refine va_put (D := D) (ci := 0) (v := .int (nI 0)) (ty := .int) (C := RX0) (T := TX0) (N := 6) hx hb hts (fun w h => lw_in w (inX0 w h)) tyX0 tyX0_ok nmX0 hown hK hP hD hS 7 rfl rfl 2 (by decide) (hts _ (lw_in _ t_51)) (fun _ h9 => h9) rfl (by decide +kernel) rfl rfl (Nat.le_of_ble_eq_true rfl) dX0_clear_2 (fun H locs hP hD hS => ?_)
  have hP : va_P D vwCl (wD h k tx ln rd wh cm R (nm, nx, 0, fi, la, em)) H := hP
  have hD : va_D A (wD h k tx ln rd wh cm R (nm, nx, 0, fi, la, em)) := hD
  refine lv_aload_n hx hb dX0_clear_5 rfl (lv_at hl 0 rfl) ?_
  refine lv_lconst (v := 0) hx hb dX0_clear_6 (by decide) ?_
  refine va_put (D := D) (ci := 0) (v := .long 0) (ty := .long) (C := RX0) (T := TX0) (N := 6) hx hb hts (fun w h => lw_in w (inX0 w h)) tyX0 tyX0_ok nmX0 hown hK hP hD hS 7 rfl rfl 3 (by decide) (hts _ (lw_in _ t_54)) (fun _ h9 => h9) rfl (by decide +kernel) rfl rfl (Nat.le_of_ble_eq_true rfl) dX0_clear_7 (fun H locs hP hD hS => ?_)
  have hP : va_P D vwCl (wD h k tx ln rd wh cm R (nm, nx, 0, 0, la, em)) H := hP
  have hD : va_D A (wD h k tx ln rd wh cm R (nm, nx, 0, 0, la, em)) := hD
  refine lv_aload_n hx hb dX0_clear_10 rfl (lv_at hl 0 rfl) ?_
  refine lv_lconst (v := 0) hx hb dX0_clear_11 (by decide) ?_
  refine va_put (D := D) (ci := 0) (v := .long 0) (ty := .long) (C := RX0) (T := TX0) (N := 6) hx hb hts (fun w h => lw_in w (inX0 w h)) tyX0 tyX0_ok nmX0 hown hK hP hD hS 7 rfl rfl 4 (by decide) (hts _ (lw_in _ t_57)) (fun _ h9 => h9) rfl (by decide +kernel) rfl rfl (Nat.le_of_ble_eq_true rfl) dX0_clear_12 (fun H locs hP hD hS => ?_)
  have hP : va_P D vwCl (wD h k tx ln rd wh cm R (nm, nx, 0, 0, 0, em)) H := hP
  have hD : va_D A (wD h k tx ln rd wh cm R (nm, nx, 0, 0, 0, em)) := hD
  refine lv_aload_n hx hb dX0_clear_15 rfl (lv_at hl 0 rfl) ?_
  refine lv_iconst (v := 0) hx hb dX0_clear_16 (by decide) ?_
  refine lv_eqi (show 0 = bI false from rfl) ?_
  refine va_put (D := D) (ci := 0) (v := .int (bI false)) (ty := .boolean) (C := RX0) (T := TX0) (N := 6) hx hb hts (fun w h => lw_in w (inX0 w h)) tyX0 tyX0_ok nmX0 hown hK hP hD hS 7 rfl rfl 5 (by decide) (hts _ (lw_in _ t_60)) (fun _ h9 => h9) rfl (by decide +kernel) (bI_narrow _) (bI_fits _) (Nat.le_of_ble_eq_true rfl) dX0_clear_17 (fun H locs hP hD hS => ?_)
  have hP : va_P D vwCl (wD h k tx ln rd wh cm R (nm, nx, 0, 0, 0, false)) H := hP
  have hD : va_D A (wD h k tx ln rd wh cm R (nm, nx, 0, 0, 0, false)) := hD
  exact ct_endv hx hb hr hlocks hP hD hS rfl rfl dX0_clear_20

set_option maxHeartbeats 4000000 in
set_option maxRecDepth 100000 in
theorem k_M_isFull (l : Launch) (D : va_G) (h : Nat → Nat) (k : Nat → ClassId) (tx : Nat → Int32) (ln : Nat) (rd : Int64) (wh : Bool) (cm : Nat) (R : RS) (nm : Nat → Int32) (nx : Nat → Int64) (np : Nat) (fi : Int64) (la : Int64) (em : Bool)  (hnp : np ≤ 60) :
    Ct l yX0_isFull wsX0_isFull (rmN 0) D vwCl (tyD k) [.ref (h 7)] (wD h k tx ln rd wh cm R (nm, nx, np, fi, la, em)) (wD h k tx ln rd wh cm R (nm, nx, np, fi, la, em)) (some (.int (bI (decide (60 ≤ np))))) := by
  refine Ct.of (cc := cX0_isFull) (maxL := 1) (ret := (some .boolean)) (lv := [(0, .ref (h 7))]) (by decide) rfl (Nat.le_of_ble_eq_true rfl) rfl ?_
  intro p e s m below meth c A ls hx hb hr hml hts hown hlocks hK hP hD hS hA hl
  refine lv_aload_n hx hb dX0_isFull_0 rfl (lv_at hl 0 rfl) ?_
  refine va_get (D := D) (ci := 0) (v := .int (nI np)) (C := RX0) (T := TX0) (N := 6) hx hb hts (fun w h => lw_in w (inX0 w h)) hown hK hP 7 rfl rfl 2 (by decide) (hts _ (lw_in _ t_51)) (fun _ h9 => h9) rfl dX0_isFull_1 ?_
  refine lv_bipush (v := 60) hx hb dX0_isFull_4 (by decide) ?_
  refine lv_icmp_lt (tgt := 13) hx hb dX0_isFull_6 (by decide) (fun c_6 => ?_) (fun c_6 => ?_)
  · have c_6 : np < 60 := (nI_ltI (a := np) (b := 60) (by omega) (by omega)).mp c_6
    refine lv_iconst (v := 0) hx hb dX0_isFull_13 (by decide) ?_
    exact ct_endi hx hb hr hlocks rfl hP hD hS rfl (by rw [decide_eq_false (Nat.not_le.mpr c_6)]; rfl) dX0_isFull_14
  · have c_6 : 60 ≤ np := Nat.le_of_not_lt (fun z => c_6 ((nI_ltI (a := np) (b := 60) (by omega) (by omega)).mpr z))
    refine lv_iconst (v := 1) hx hb dX0_isFull_9 (by decide) ?_
    refine lv_goto (tgt := 14) hx hb dX0_isFull_10 (by decide) ?_
    exact ct_endi hx hb hr hlocks rfl hP hD hS rfl (by rw [decide_eq_true c_6]; rfl) dX0_isFull_14

set_option maxHeartbeats 4000000 in
set_option maxRecDepth 100000 in
theorem k_M_has (l : Launch) (D : va_G) (h : Nat → Nat) (k : Nat → ClassId) (tx : Nat → Int32) (ln : Nat) (rd : Int64) (wh : Bool) (cm : Nat) (R : RS) (nm : Nat → Int32) (nx : Nat → Int64) (np : Nat) (fi : Int64) (la : Int64) (em : Bool) (x : Int32)  :
    Ct l yX0_has wsX0_has (rmN 0) D vwCl (tyD k) [.ref (h 7), .int x] (wD h k tx ln rd wh cm R (nm, nx, np, fi, la, em)) (wD h k tx ln rd wh cm R (nm, nx, np, fi, la, em)) (some (.int (bI (m_has np x)))) := by
  refine Ct.of (cc := cX0_has) (maxL := 2) (ret := (some .boolean)) (lv := [(0, .ref (h 7)), (1, .int x)]) (by decide) rfl (Nat.le_of_ble_eq_true rfl) rfl ?_
  intro p e s m below meth c A ls hx hb hr hml hts hown hlocks hK hP hD hS hA hl
  refine lv_iload_n hx hb dX0_has_0 rfl (lv_at hl 1 rfl) ?_
  refine lv_if_lt (tgt := 16) hx hb dX0_has_1 (by decide) (fun c_1 => ?_) (fun c_1 => ?_)
  · have c_1 : x < 0 := c_1
    refine lv_iconst (v := 0) hx hb dX0_has_16 (by decide) ?_
    exact ct_endi hx hb hr hlocks rfl hP hD hS rfl (by simp [m_has, bI, c_1]) dX0_has_17
  · have c_1 : ¬ x < 0 := c_1
    refine lv_iload_n hx hb dX0_has_4 rfl (lv_at hl 1 rfl) ?_
    refine lv_aload_n hx hb dX0_has_5 rfl (lv_at hl 0 rfl) ?_
    refine va_get (D := D) (ci := 0) (v := .int (nI np)) (C := RX0) (T := TX0) (N := 6) hx hb hts (fun w h => lw_in w (inX0 w h)) hown hK hP 7 rfl rfl 2 (by decide) (hts _ (lw_in _ t_51)) (fun _ h9 => h9) rfl dX0_has_6 ?_
    refine lv_icmp_ge (tgt := 16) hx hb dX0_has_9 (by decide) (fun c_9 => ?_) (fun c_9 => ?_)
    · have c_9 : nI np ≤ x := c_9
      refine lv_iconst (v := 0) hx hb dX0_has_16 (by decide) ?_
      exact ct_endi hx hb hr hlocks rfl hP hD hS rfl (by simp [m_has, bI, c_1, c_9]) dX0_has_17
    · have c_9 : ¬ nI np ≤ x := c_9
      refine lv_iconst (v := 1) hx hb dX0_has_12 (by decide) ?_
      refine lv_goto (tgt := 17) hx hb dX0_has_13 (by decide) ?_
      exact ct_endi hx hb hr hlocks rfl hP hD hS rfl (by simp [m_has, bI, c_1, c_9]) dX0_has_17

set_option maxHeartbeats 4000000 in
set_option maxRecDepth 100000 in
theorem k_M_addPlace (l : Launch) (D : va_G) (h : Nat → Nat) (k : Nat → ClassId) (tx : Nat → Int32) (ln : Nat) (rd : Int64) (wh : Bool) (cm : Nat) (R : RS) (nm : Nat → Int32) (nx : Nat → Int64) (np : Nat) (fi : Int64) (la : Int64) (em : Bool) (x : Int32) (hnp : np ≤ 60) :
    Ct l yX0_addPlace wsX0_addPlace (rmN 1) D vwCl (tyD k) [.ref (h 7), .int x] (wD h k tx ln rd wh cm R (nm, nx, np, fi, la, em)) (wD h k tx ln rd wh cm R (m_add (nm, nx, np, fi, la, em) x)) none := by
  refine Ct.of (cc := cX0_addPlace) (maxL := 2) (ret := none) (lv := [(0, .ref (h 7)), (1, .int x)]) (by decide) rfl (Nat.le_of_ble_eq_true rfl) rfl ?_
  intro p e s m below meth c A ls hx hb hr hml hts hown hlocks hK hP hD hS hA hl
  refine lv_aload_n hx hb dX0_addPlace_0 rfl (lv_at hl 0 rfl) ?_
  refine ct_callV (As := []) (rest := []) ⟨hx, hb, hml, hown, hts⟩ (k_M_isFull l D h k tx ln rd wh cm R nm nx np fi la em  (by omega)) (cwV 0 hts (gV lw_in t_178 t_171 t_172 t_25 t_173) rfl rfl rfl (by decide +kernel) ⟨Nat.le_of_ble_eq_true rfl, Nat.le_of_ble_eq_true rfl⟩) 7 rfl rfl hK hP hD hS hA rfl hl.1 rfl (Nat.le_of_ble_eq_true rfl) dX0_addPlace_1 ⟨Nat.zero_le _, Nat.zero_le _⟩ (fun H locs hP hD hS => ?_)
  refine W.eq (g2 := F0 m 4 ls [.int (bI (decide (60 ≤ np)))]) rfl ?_
  refine lv_if_eq (tgt := 8) hx hb dX0_addPlace_4 (by decide) (fun c_4 => ?_) (fun c_4 => ?_)
  · have c_4 : (decide (60 ≤ np)) = false := (bI_eq0 _).mp c_4
    have c_4 : ¬ 60 ≤ np := of_decide_eq_false c_4
    refine lv_aload_n hx hb dX0_addPlace_8 rfl (lv_at hl 0 rfl) ?_
    refine va_get (D := D) (ci := 0) (v := .ref (h 8)) (C := RX0) (T := TX0) (N := 6) hx hb hts (fun w h => lw_in w (inX0 w h)) hown hK hP 7 rfl rfl 0 (by decide) (hts _ (lw_in _ t_47)) (fun _ h9 => h9) rfl dX0_addPlace_9 ?_
    refine lv_aload_n hx hb dX0_addPlace_12 rfl (lv_at hl 0 rfl) ?_
    refine va_get (D := D) (ci := 0) (v := .int (nI np)) (C := RX0) (T := TX0) (N := 6) hx hb hts (fun w h => lw_in w (inX0 w h)) hown hK hP 7 rfl rfl 2 (by decide) (hts _ (lw_in _ t_51)) (fun _ h9 => h9) rfl dX0_addPlace_13 ?_
    refine lv_iload_n hx hb dX0_addPlace_16 rfl (lv_at hl 1 rfl) ?_
    refine wx_iast hx hb hK hP hD hS 8 5 rfl rfl (i := np) (by omega) (by decide) dX0_addPlace_17 (fun H locs hP hD hS => ?_)
    have hP : va_P D vwCl (wD h k tx ln rd wh cm R ((upd nm np x), nx, np, fi, la, em)) H := hP
    have hD : va_D A (wD h k tx ln rd wh cm R ((upd nm np x), nx, np, fi, la, em)) := hD
    refine lv_aload_n hx hb dX0_addPlace_18 rfl (lv_at hl 0 rfl) ?_
    refine va_get (D := D) (ci := 0) (v := .ref (h 9)) (C := RX0) (T := TX0) (N := 6) hx hb hts (fun w h => lw_in w (inX0 w h)) hown hK hP 7 rfl rfl 1 (by decide) (hts _ (lw_in _ t_49)) (fun _ h9 => h9) rfl dX0_addPlace_19 ?_
    refine lv_aload_n hx hb dX0_addPlace_22 rfl (lv_at hl 0 rfl) ?_
    refine va_get (D := D) (ci := 0) (v := .int (nI np)) (C := RX0) (T := TX0) (N := 6) hx hb hts (fun w h => lw_in w (inX0 w h)) hown hK hP 7 rfl rfl 2 (by decide) (hts _ (lw_in _ t_51)) (fun _ h9 => h9) rfl dX0_addPlace_23 ?_
    refine lv_lconst (v := 0) hx hb dX0_addPlace_26 (by decide) ?_
    refine wx_last hx hb hK hP hD hS 9 6 rfl rfl (i := np) (by omega) (by decide) dX0_addPlace_27 (fun H locs hP hD hS => ?_)
    have hP : va_P D vwCl (wD h k tx ln rd wh cm R ((upd nm np x), (vp_updL nx np 0), np, fi, la, em)) H := hP
    have hD : va_D A (wD h k tx ln rd wh cm R ((upd nm np x), (vp_updL nx np 0), np, fi, la, em)) := hD
    refine lv_aload_n hx hb dX0_addPlace_28 rfl (lv_at hl 0 rfl) ?_
    refine lv_dup hx hb dX0_addPlace_29 rfl ?_
    refine va_get (D := D) (ci := 0) (v := .int (nI np)) (C := RX0) (T := TX0) (N := 6) hx hb hts (fun w h => lw_in w (inX0 w h)) hown hK hP 7 rfl rfl 2 (by decide) (hts _ (lw_in _ t_51)) (fun _ h9 => h9) rfl dX0_addPlace_30 ?_
    refine lv_iconst (v := 1) hx hb dX0_addPlace_33 (by decide) ?_
    refine lv_iadd hx hb dX0_addPlace_34 ?_
    refine lv_eqi (show (nI np + 1) = nI (np + 1) from nI_1 _) ?_
    refine va_put (D := D) (ci := 0) (v := .int (nI (np + 1))) (ty := .int) (C := RX0) (T := TX0) (N := 6) hx hb hts (fun w h => lw_in w (inX0 w h)) tyX0 tyX0_ok nmX0 hown hK hP hD hS 7 rfl rfl 2 (by decide) (hts _ (lw_in _ t_51)) (fun _ h9 => h9) rfl (by decide +kernel) rfl rfl (Nat.le_of_ble_eq_true rfl) dX0_addPlace_35 (fun H locs hP hD hS => ?_)
    have hP : va_P D vwCl (wD h k tx ln rd wh cm R ((upd nm np x), (vp_updL nx np 0), (np + 1), fi, la, em)) H := hP
    have hD : va_D A (wD h k tx ln rd wh cm R ((upd nm np x), (vp_updL nx np 0), (np + 1), fi, la, em)) := hD
    exact ct_endv hx hb hr hlocks hP hD hS (by simp [m_add, c_4]) rfl dX0_addPlace_38
  · have c_4 : (decide (60 ≤ np)) = true := (bI_ne0 _).mp c_4
    have c_4 : 60 ≤ np := of_decide_eq_true c_4
    exact ct_endv hx hb hr hlocks hP hD hS (by simp [m_add, c_4]) rfl dX0_addPlace_7

set_option maxHeartbeats 4000000 in
set_option maxRecDepth 100000 in
theorem k_M_connect (l : Launch) (D : va_G) (h : Nat → Nat) (k : Nat → ClassId) (tx : Nat → Int32) (ln : Nat) (rd : Int64) (wh : Bool) (cm : Nat) (R : RS) (nm : Nat → Int32) (nx : Nat → Int64) (np : Nat) (fi : Int64) (la : Int64) (em : Bool) (a : Int64) (b : Int64) (hnp : np ≤ 60) :
    Ct l yX0_connect wsX0_connect (rmN 1) D vwCl (tyD k) [.ref (h 7), .long a, .long b] (wD h k tx ln rd wh cm R (nm, nx, np, fi, la, em)) (wD h k tx ln rd wh cm R (nm, (cnL a b np 0 nx), np, fi, la, em)) none := by
  refine Ct.of (cc := cX0_connect) (maxL := 6) (ret := none) (lv := [(0, .ref (h 7)), (1, .long a), (3, .long b)]) (by decide) rfl (Nat.le_of_ble_eq_true rfl) rfl ?_
  intro p e s m below meth c A ls hx hb hr hml hts hown hlocks hK hP hD hS hA hl
  have loop : ∀ (n : Nat) (i : Nat) (nx1 : Nat → Int64), i + n = np → cnL a b n i nx1 = cnL a b np 0 nx → ∀ (H : Heap) (locs : List Loc), va_P D vwCl (wD h k tx ln rd wh cm R (nm, nx1, np, fi, la, em)) H → va_D A (wD h k tx ln rd wh cm R (nm, nx1, np, fi, la, em)) → va_S A s.heap H locs → ∀ ls : Array Slot, lv_has ls 6 [(5, .int (nI i)), (0, .ref (h 7)), (1, .long a), (3, .long b)] →
      W p l e (rmN 1) s m ([.ref (h 7), .long a, .long b] : List Value).toArray below meth c H locs 0 0 (MQ below (CtQ D vwCl A (wD h k tx ln rd wh cm R (nm, (cnL a b np 0 nx), np, fi, la, em)) none) ([.ref (h 7), .long a, .long b] : List Value).toArray s 0 0 A) (F0 m 3 ls []) := by
    intro n
    induction n with
    | zero =>
      intro i nx1 hi he H locs hP hD hS ls hl
      refine lv_iload hx hb dX0_connect_3 (lv_at hl 0 rfl) ?_
      refine lv_aload_n hx hb dX0_connect_5 rfl (lv_at hl 1 rfl) ?_
      refine va_get (D := D) (ci := 0) (v := .int (nI np)) (C := RX0) (T := TX0) (N := 6) hx hb hts (fun w h => lw_in w (inX0 w h)) hown hK hP 7 rfl rfl 2 (by decide) (hts _ (lw_in _ t_51)) (fun _ h9 => h9) rfl dX0_connect_6 ?_
      refine lv_icmp_ge (tgt := 38) hx hb dX0_connect_9 (by decide) (fun c_9 => ?_) (fun c_9 => ?_)
      · have c_9 : np ≤ i := (nI_leI (a := np) (b := i) (by omega) (by omega)).mp c_9
        exact ct_endv hx hb hr hlocks hP hD hS (by rw [← he]; rfl) rfl dX0_connect_38
      · have c_9 : i < np := Nat.lt_of_not_le (fun z => c_9 ((nI_leI (a := np) (b := i) (by omega) (by omega)).mpr z))
        exact absurd c_9 (by omega)
    | succ n ih =>
      intro i nx1 hi he H locs hP hD hS ls hl
      refine lv_iload hx hb dX0_connect_3 (lv_at hl 0 rfl) ?_
      refine lv_aload_n hx hb dX0_connect_5 rfl (lv_at hl 1 rfl) ?_
      refine va_get (D := D) (ci := 0) (v := .int (nI np)) (C := RX0) (T := TX0) (N := 6) hx hb hts (fun w h => lw_in w (inX0 w h)) hown hK hP 7 rfl rfl 2 (by decide) (hts _ (lw_in _ t_51)) (fun _ h9 => h9) rfl dX0_connect_6 ?_
      refine lv_icmp_ge (tgt := 38) hx hb dX0_connect_9 (by decide) (fun c_9 => ?_) (fun c_9 => ?_)
      · have c_9 : np ≤ i := (nI_leI (a := np) (b := i) (by omega) (by omega)).mp c_9
        exact absurd c_9 (by omega)
      · have c_9 : i < np := Nat.lt_of_not_le (fun z => c_9 ((nI_leI (a := np) (b := i) (by omega) (by omega)).mpr z))
        refine lv_lload_n hx hb dX0_connect_12 rfl (lv_at hl 2 rfl) ?_
        refine lv_iload hx hb dX0_connect_13 (lv_at hl 0 rfl) ?_
        refine ct_callS (As := [.long a, .int (nI i)]) (rest := []) ⟨hx, hb, hml, hown, hts⟩ (k_M_holds l D h k tx ln rd wh cm R (nm, nx1, np, fi, la, em) a i (by omega)) (cwS 2 hts (gS lw_in t_190 t_191 t_25 t_192) rfl rfl rfl (by decide +kernel) ⟨Nat.le_of_ble_eq_true rfl, Nat.le_of_ble_eq_true rfl⟩) hK hP hD hS hA rfl hl.1 rfl (Nat.le_of_ble_eq_true rfl) dX0_connect_15 ⟨Nat.zero_le _, Nat.zero_le _⟩ (fun H locs hP hD hS => ?_)
        refine W.eq (g2 := F0 m 18 ls [.int (bI (hB a i))]) rfl ?_
        refine lv_if_eq (tgt := 32) hx hb dX0_connect_18 (by decide) (fun c_18 => ?_) (fun c_18 => ?_)
        · have c_18 : (hB a i) = false := (bI_eq0 _).mp c_18
          refine lv_iinc (v := nI (i + 1)) (lv' := [(5, .int (nI (i + 1))), (0, .ref (h 7)), (1, .long a), (3, .long b)]) hx hb dX0_connect_32 hl (k := 0) rfl (nI_1 _) (by decide) rfl (fun ls hl => ?_)
          refine lv_goto (tgt := 3) hx hb dX0_connect_35 (by decide) ?_
          exact ih (i + 1) nx1 (by omega) (by rw [← he, cnL, if_neg (bF c_18)]) _ _ hP hD hS _ (lv_sub hl [0, 1, 2, 3] rfl)
        · have c_18 : (hB a i) = true := (bI_ne0 _).mp c_18
          refine lv_aload_n hx hb dX0_connect_21 rfl (lv_at hl 1 rfl) ?_
          refine va_get (D := D) (ci := 0) (v := .ref (h 9)) (C := RX0) (T := TX0) (N := 6) hx hb hts (fun w h => lw_in w (inX0 w h)) hown hK hP 7 rfl rfl 1 (by decide) (hts _ (lw_in _ t_49)) (fun _ h9 => h9) rfl dX0_connect_22 ?_
          refine lv_iload hx hb dX0_connect_25 (lv_at hl 0 rfl) ?_
          refine lv_dup2_11 hx hb dX0_connect_27 rfl rfl ?_
          refine wx_lald hx hb hK hP 9 6 rfl rfl (i := i) (by omega) (by decide) dX0_connect_28 ?_
          refine lv_lload_n hx hb dX0_connect_29 rfl (lv_at hl 3 rfl) ?_
          refine lv_lor hx hb dX0_connect_30 ?_
          refine wx_last hx hb hK hP hD hS 9 6 rfl rfl (i := i) (by omega) (by decide) dX0_connect_31 (fun H locs hP hD hS => ?_)
          have hP : va_P D vwCl (wD h k tx ln rd wh cm R (nm, (vp_updL nx1 i ((nx1 i) ||| b)), np, fi, la, em)) H := hP
          have hD : va_D A (wD h k tx ln rd wh cm R (nm, (vp_updL nx1 i ((nx1 i) ||| b)), np, fi, la, em)) := hD
          refine lv_iinc (v := nI (i + 1)) (lv' := [(5, .int (nI (i + 1))), (0, .ref (h 7)), (1, .long a), (3, .long b)]) hx hb dX0_connect_32 hl (k := 0) rfl (nI_1 _) (by decide) rfl (fun ls hl => ?_)
          refine lv_goto (tgt := 3) hx hb dX0_connect_35 (by decide) ?_
          exact ih (i + 1) (vp_updL nx1 i ((nx1 i) ||| b)) (by omega) (by rw [← he, cnL, if_pos c_18]) _ _ hP hD hS _ (lv_sub hl [0, 1, 2, 3] rfl)
  refine lv_iconst (v := 0) hx hb dX0_connect_0 (by decide) ?_
  refine lv_istore (lv' := [(5, .int 0), (0, .ref (h 7)), (1, .long a), (3, .long b)]) hx hb dX0_connect_1 hl (by decide) rfl (fun ls hl => ?_)
  exact loop np 0 nx (by omega) rfl _ _ hP hD hS _ (lv_sub hl [0, 1, 2, 3] rfl)

set_option maxHeartbeats 4000000 in
set_option maxRecDepth 100000 in
theorem k_M_nextBehindAny (l : Launch) (D : va_G) (h : Nat → Nat) (k : Nat → ClassId) (tx : Nat → Int32) (ln : Nat) (rd : Int64) (wh : Bool) (cm : Nat) (R : RS) (nm : Nat → Int32) (nx : Nat → Int64) (np : Nat) (fi : Int64) (la : Int64) (em : Bool) (a : Int64) (hnp : np ≤ 60) :
    Ct l yX0_nextBehindAny wsX0_nextBehindAny (rmN 1) D vwCl (tyD k) [.ref (h 7), .long a] (wD h k tx ln rd wh cm R (nm, nx, np, fi, la, em)) (wD h k tx ln rd wh cm R (nm, nx, np, fi, la, em)) (some (.long (nbL a nx np 0 0))) := by
  refine Ct.of (cc := cX0_nextBehindAny) (maxL := 6) (ret := (some .long)) (lv := [(0, .ref (h 7)), (1, .long a)]) (by decide) rfl (Nat.le_of_ble_eq_true rfl) rfl ?_
  intro p e s m below meth c A ls hx hb hr hml hts hown hlocks hK hP hD hS hA hl
  have loop : ∀ (n : Nat) (i : Nat) (r : Int64), i + n = np → nbL a nx n i r = nbL a nx np 0 0 → ∀ (H : Heap) (locs : List Loc), va_P D vwCl (wD h k tx ln rd wh cm R (nm, nx, np, fi, la, em)) H → va_D A (wD h k tx ln rd wh cm R (nm, nx, np, fi, la, em)) → va_S A s.heap H locs → ∀ ls : Array Slot, lv_has ls 6 [(5, .int (nI i)), (3, .long r), (0, .ref (h 7)), (1, .long a)] →
      W p l e (rmN 1) s m ([.ref (h 7), .long a] : List Value).toArray below meth c H locs 0 0 (MQ below (CtQ D vwCl A (wD h k tx ln rd wh cm R (nm, nx, np, fi, la, em)) (some (.long (nbL a nx np 0 0)))) ([.ref (h 7), .long a] : List Value).toArray s 0 0 A) (F0 m 5 ls []) := by
    intro n
    induction n with
    | zero =>
      intro i r hi he H locs hP hD hS ls hl
      refine lv_iload hx hb dX0_nextBehindAny_5 (lv_at hl 0 rfl) ?_
      refine lv_aload_n hx hb dX0_nextBehindAny_7 rfl (lv_at hl 2 rfl) ?_
      refine va_get (D := D) (ci := 0) (v := .int (nI np)) (C := RX0) (T := TX0) (N := 6) hx hb hts (fun w h => lw_in w (inX0 w h)) hown hK hP 7 rfl rfl 2 (by decide) (hts _ (lw_in _ t_51)) (fun _ h9 => h9) rfl dX0_nextBehindAny_8 ?_
      refine lv_icmp_ge (tgt := 39) hx hb dX0_nextBehindAny_11 (by decide) (fun c_11 => ?_) (fun c_11 => ?_)
      · have c_11 : np ≤ i := (nI_leI (a := np) (b := i) (by omega) (by omega)).mp c_11
        refine lv_lload_n hx hb dX0_nextBehindAny_39 rfl (lv_at hl 1 rfl) ?_
        exact ct_endl hx hb hr hlocks hP hD hS rfl (by rw [← he]; rfl) dX0_nextBehindAny_40
      · have c_11 : i < np := Nat.lt_of_not_le (fun z => c_11 ((nI_leI (a := np) (b := i) (by omega) (by omega)).mpr z))
        exact absurd c_11 (by omega)
    | succ n ih =>
      intro i r hi he H locs hP hD hS ls hl
      refine lv_iload hx hb dX0_nextBehindAny_5 (lv_at hl 0 rfl) ?_
      refine lv_aload_n hx hb dX0_nextBehindAny_7 rfl (lv_at hl 2 rfl) ?_
      refine va_get (D := D) (ci := 0) (v := .int (nI np)) (C := RX0) (T := TX0) (N := 6) hx hb hts (fun w h => lw_in w (inX0 w h)) hown hK hP 7 rfl rfl 2 (by decide) (hts _ (lw_in _ t_51)) (fun _ h9 => h9) rfl dX0_nextBehindAny_8 ?_
      refine lv_icmp_ge (tgt := 39) hx hb dX0_nextBehindAny_11 (by decide) (fun c_11 => ?_) (fun c_11 => ?_)
      · have c_11 : np ≤ i := (nI_leI (a := np) (b := i) (by omega) (by omega)).mp c_11
        exact absurd c_11 (by omega)
      · have c_11 : i < np := Nat.lt_of_not_le (fun z => c_11 ((nI_leI (a := np) (b := i) (by omega) (by omega)).mpr z))
        refine lv_lload_n hx hb dX0_nextBehindAny_14 rfl (lv_at hl 3 rfl) ?_
        refine lv_iload hx hb dX0_nextBehindAny_15 (lv_at hl 0 rfl) ?_
        refine ct_callS (As := [.long a, .int (nI i)]) (rest := []) ⟨hx, hb, hml, hown, hts⟩ (k_M_holds l D h k tx ln rd wh cm R (nm, nx, np, fi, la, em) a i (by omega)) (cwS 2 hts (gS lw_in t_190 t_191 t_25 t_192) rfl rfl rfl (by decide +kernel) ⟨Nat.le_of_ble_eq_true rfl, Nat.le_of_ble_eq_true rfl⟩) hK hP hD hS hA rfl hl.1 rfl (Nat.le_of_ble_eq_true rfl) dX0_nextBehindAny_17 ⟨Nat.zero_le _, Nat.zero_le _⟩ (fun H locs hP hD hS => ?_)
        refine W.eq (g2 := F0 m 20 ls [.int (bI (hB a i))]) rfl ?_
        refine lv_if_eq (tgt := 33) hx hb dX0_nextBehindAny_20 (by decide) (fun c_20 => ?_) (fun c_20 => ?_)
        · have c_20 : (hB a i) = false := (bI_eq0 _).mp c_20
          refine lv_iinc (v := nI (i + 1)) (lv' := [(5, .int (nI (i + 1))), (3, .long r), (0, .ref (h 7)), (1, .long a)]) hx hb dX0_nextBehindAny_33 hl (k := 0) rfl (nI_1 _) (by decide) rfl (fun ls hl => ?_)
          refine lv_goto (tgt := 5) hx hb dX0_nextBehindAny_36 (by decide) ?_
          exact ih (i + 1) r (by omega) (by rw [← he, nbL, if_neg (bF c_20)]) _ _ hP hD hS _ (lv_sub hl [0, 1, 2, 3] rfl)
        · have c_20 : (hB a i) = true := (bI_ne0 _).mp c_20
          refine lv_lload_n hx hb dX0_nextBehindAny_23 rfl (lv_at hl 1 rfl) ?_
          refine lv_aload_n hx hb dX0_nextBehindAny_24 rfl (lv_at hl 2 rfl) ?_
          refine va_get (D := D) (ci := 0) (v := .ref (h 9)) (C := RX0) (T := TX0) (N := 6) hx hb hts (fun w h => lw_in w (inX0 w h)) hown hK hP 7 rfl rfl 1 (by decide) (hts _ (lw_in _ t_49)) (fun _ h9 => h9) rfl dX0_nextBehindAny_25 ?_
          refine lv_iload hx hb dX0_nextBehindAny_28 (lv_at hl 0 rfl) ?_
          refine wx_lald hx hb hK hP 9 6 rfl rfl (i := i) (by omega) (by decide) dX0_nextBehindAny_30 ?_
          refine lv_lor hx hb dX0_nextBehindAny_31 ?_
          refine lv_lstore_n (lv' := [(3, .long (r ||| (nx i))), (5, .int (nI i)), (0, .ref (h 7)), (1, .long a)]) hx hb dX0_nextBehindAny_32 rfl hl (by decide) rfl (fun ls hl => ?_)
          refine lv_iinc (v := nI (i + 1)) (lv' := [(5, .int (nI (i + 1))), (3, .long (r ||| (nx i))), (0, .ref (h 7)), (1, .long a)]) hx hb dX0_nextBehindAny_33 hl (k := 1) rfl (nI_1 _) (by decide) rfl (fun ls hl => ?_)
          refine lv_goto (tgt := 5) hx hb dX0_nextBehindAny_36 (by decide) ?_
          exact ih (i + 1) (r ||| (nx i)) (by omega) (by rw [← he, nbL, if_pos c_20]) _ _ hP hD hS _ (lv_sub hl [0, 1, 2, 3] rfl)
  refine lv_lconst (v := 0) hx hb dX0_nextBehindAny_0 (by decide) ?_
  refine lv_lstore_n (lv' := [(3, .long 0), (0, .ref (h 7)), (1, .long a)]) hx hb dX0_nextBehindAny_1 rfl hl (by decide) rfl (fun ls hl => ?_)
  refine lv_iconst (v := 0) hx hb dX0_nextBehindAny_2 (by decide) ?_
  refine lv_istore (lv' := [(5, .int 0), (3, .long 0), (0, .ref (h 7)), (1, .long a)]) hx hb dX0_nextBehindAny_3 hl (by decide) rfl (fun ls hl => ?_)
  exact loop np 0 0 (by omega) rfl _ _ hP hD hS _ (lv_sub hl [0, 1, 2, 3] rfl)

set_option maxHeartbeats 4000000 in
set_option maxRecDepth 100000 in
theorem k_M_placesNamed (l : Launch) (D : va_G) (h : Nat → Nat) (k : Nat → ClassId) (tx : Nat → Int32) (ln : Nat) (rd : Int64) (wh : Bool) (cm : Nat) (R : RS) (nm : Nat → Int32) (nx : Nat → Int64) (np : Nat) (fi : Int64) (la : Int64) (em : Bool) (x : Int32) (a : Int64) (hnp : np ≤ 60) :
    Ct l yX0_placesNamed wsX0_placesNamed (rmN 1) D vwCl (tyD k) [.ref (h 7), .int x, .long a] (wD h k tx ln rd wh cm R (nm, nx, np, fi, la, em)) (wD h k tx ln rd wh cm R (nm, nx, np, fi, la, em)) (some (.long (pnL x a nm np 0 0))) := by
  refine Ct.of (cc := cX0_placesNamed) (maxL := 7) (ret := (some .long)) (lv := [(0, .ref (h 7)), (1, .int x), (2, .long a)]) (by decide) rfl (Nat.le_of_ble_eq_true rfl) rfl ?_
  intro p e s m below meth c A ls hx hb hr hml hts hown hlocks hK hP hD hS hA hl
  have loop : ∀ (n : Nat) (i : Nat) (r : Int64), i + n = np → pnL x a nm n i r = pnL x a nm np 0 0 → ∀ (H : Heap) (locs : List Loc), va_P D vwCl (wD h k tx ln rd wh cm R (nm, nx, np, fi, la, em)) H → va_D A (wD h k tx ln rd wh cm R (nm, nx, np, fi, la, em)) → va_S A s.heap H locs → ∀ ls : Array Slot, lv_has ls 7 [(6, .int (nI i)), (4, .long r), (0, .ref (h 7)), (1, .int x), (2, .long a)] →
      W p l e (rmN 1) s m ([.ref (h 7), .int x, .long a] : List Value).toArray below meth c H locs 0 0 (MQ below (CtQ D vwCl A (wD h k tx ln rd wh cm R (nm, nx, np, fi, la, em)) (some (.long (pnL x a nm np 0 0)))) ([.ref (h 7), .int x, .long a] : List Value).toArray s 0 0 A) (F0 m 6 ls []) := by
    intro n
    induction n with
    | zero =>
      intro i r hi he H locs hP hD hS ls hl
      refine lv_iload hx hb dX0_placesNamed_6 (lv_at hl 0 rfl) ?_
      refine lv_aload_n hx hb dX0_placesNamed_8 rfl (lv_at hl 2 rfl) ?_
      refine va_get (D := D) (ci := 0) (v := .int (nI np)) (C := RX0) (T := TX0) (N := 6) hx hb hts (fun w h => lw_in w (inX0 w h)) hown hK hP 7 rfl rfl 2 (by decide) (hts _ (lw_in _ t_51)) (fun _ h9 => h9) rfl dX0_placesNamed_9 ?_
      refine lv_icmp_ge (tgt := 50) hx hb dX0_placesNamed_12 (by decide) (fun c_12 => ?_) (fun c_12 => ?_)
      · have c_12 : np ≤ i := (nI_leI (a := np) (b := i) (by omega) (by omega)).mp c_12
        refine lv_lload hx hb dX0_placesNamed_50 (lv_at hl 1 rfl) ?_
        exact ct_endl hx hb hr hlocks hP hD hS rfl (by rw [← he]; rfl) dX0_placesNamed_52
      · have c_12 : i < np := Nat.lt_of_not_le (fun z => c_12 ((nI_leI (a := np) (b := i) (by omega) (by omega)).mpr z))
        exact absurd c_12 (by omega)
    | succ n ih =>
      intro i r hi he H locs hP hD hS ls hl
      refine lv_iload hx hb dX0_placesNamed_6 (lv_at hl 0 rfl) ?_
      refine lv_aload_n hx hb dX0_placesNamed_8 rfl (lv_at hl 2 rfl) ?_
      refine va_get (D := D) (ci := 0) (v := .int (nI np)) (C := RX0) (T := TX0) (N := 6) hx hb hts (fun w h => lw_in w (inX0 w h)) hown hK hP 7 rfl rfl 2 (by decide) (hts _ (lw_in _ t_51)) (fun _ h9 => h9) rfl dX0_placesNamed_9 ?_
      refine lv_icmp_ge (tgt := 50) hx hb dX0_placesNamed_12 (by decide) (fun c_12 => ?_) (fun c_12 => ?_)
      · have c_12 : np ≤ i := (nI_leI (a := np) (b := i) (by omega) (by omega)).mp c_12
        exact absurd c_12 (by omega)
      · have c_12 : i < np := Nat.lt_of_not_le (fun z => c_12 ((nI_leI (a := np) (b := i) (by omega) (by omega)).mpr z))
        refine lv_aload_n hx hb dX0_placesNamed_15 rfl (lv_at hl 2 rfl) ?_
        refine va_get (D := D) (ci := 0) (v := .ref (h 8)) (C := RX0) (T := TX0) (N := 6) hx hb hts (fun w h => lw_in w (inX0 w h)) hown hK hP 7 rfl rfl 0 (by decide) (hts _ (lw_in _ t_47)) (fun _ h9 => h9) rfl dX0_placesNamed_16 ?_
        refine lv_iload hx hb dX0_placesNamed_19 (lv_at hl 0 rfl) ?_
        refine wx_iald hx hb hK hP 8 5 rfl rfl (i := i) (by omega) (by decide) dX0_placesNamed_21 ?_
        refine lv_iload_n hx hb dX0_placesNamed_22 rfl (lv_at hl 3 rfl) ?_
        refine lv_icmp_ne (tgt := 44) hx hb dX0_placesNamed_23 (by decide) (fun c_23 => ?_) (fun c_23 => ?_)
        · have c_23 : ¬ (nm i) = x := c_23
          refine lv_iinc (v := nI (i + 1)) (lv' := [(6, .int (nI (i + 1))), (4, .long r), (0, .ref (h 7)), (1, .int x), (2, .long a)]) hx hb dX0_placesNamed_44 hl (k := 0) rfl (nI_1 _) (by decide) rfl (fun ls hl => ?_)
          refine lv_goto (tgt := 6) hx hb dX0_placesNamed_47 (by decide) ?_
          exact ih (i + 1) r (by omega) (by rw [← he, pnL]; simp [c_23]) _ _ hP hD hS _ (lv_sub hl [0, 1, 2, 3, 4] rfl)
        · have c_23 : (nm i) = x := c_23
          refine lv_lload_n hx hb dX0_placesNamed_26 rfl (lv_at hl 4 rfl) ?_
          refine lv_iload hx hb dX0_placesNamed_27 (lv_at hl 0 rfl) ?_
          refine ct_callS (As := [.long a, .int (nI i)]) (rest := []) ⟨hx, hb, hml, hown, hts⟩ (k_M_holds l D h k tx ln rd wh cm R (nm, nx, np, fi, la, em) a i (by omega)) (cwS 2 hts (gS lw_in t_190 t_191 t_25 t_192) rfl rfl rfl (by decide +kernel) ⟨Nat.le_of_ble_eq_true rfl, Nat.le_of_ble_eq_true rfl⟩) hK hP hD hS hA rfl hl.1 rfl (Nat.le_of_ble_eq_true rfl) dX0_placesNamed_29 ⟨Nat.zero_le _, Nat.zero_le _⟩ (fun H locs hP hD hS => ?_)
          refine W.eq (g2 := F0 m 32 ls [.int (bI (hB a i))]) rfl ?_
          refine lv_if_eq (tgt := 44) hx hb dX0_placesNamed_32 (by decide) (fun c_32 => ?_) (fun c_32 => ?_)
          · have c_32 : (hB a i) = false := (bI_eq0 _).mp c_32
            refine lv_iinc (v := nI (i + 1)) (lv' := [(6, .int (nI (i + 1))), (4, .long r), (0, .ref (h 7)), (1, .int x), (2, .long a)]) hx hb dX0_placesNamed_44 hl (k := 0) rfl (nI_1 _) (by decide) rfl (fun ls hl => ?_)
            refine lv_goto (tgt := 6) hx hb dX0_placesNamed_47 (by decide) ?_
            exact ih (i + 1) r (by omega) (by rw [← he, pnL]; simp [c_23, c_32]) _ _ hP hD hS _ (lv_sub hl [0, 1, 2, 3, 4] rfl)
          · have c_32 : (hB a i) = true := (bI_ne0 _).mp c_32
            refine lv_lload hx hb dX0_placesNamed_35 (lv_at hl 1 rfl) ?_
            refine lv_lconst (v := 1) hx hb dX0_placesNamed_37 (by decide) ?_
            refine lv_iload hx hb dX0_placesNamed_38 (lv_at hl 0 rfl) ?_
            refine lv_lshl (v := ((1 : Int64) <<< ((nI i).toInt64 &&& 63))) hx hb dX0_placesNamed_40 rfl ?_
            refine lv_lor hx hb dX0_placesNamed_41 ?_
            refine lv_lstore (lv' := [(4, .long (r ||| ((1 : Int64) <<< ((nI i).toInt64 &&& 63)))), (6, .int (nI i)), (0, .ref (h 7)), (1, .int x), (2, .long a)]) hx hb dX0_placesNamed_42 hl (by decide) rfl (fun ls hl => ?_)
            refine lv_iinc (v := nI (i + 1)) (lv' := [(6, .int (nI (i + 1))), (4, .long (r ||| ((1 : Int64) <<< ((nI i).toInt64 &&& 63)))), (0, .ref (h 7)), (1, .int x), (2, .long a)]) hx hb dX0_placesNamed_44 hl (k := 1) rfl (nI_1 _) (by decide) rfl (fun ls hl => ?_)
            refine lv_goto (tgt := 6) hx hb dX0_placesNamed_47 (by decide) ?_
            exact ih (i + 1) (r ||| ((1 : Int64) <<< ((nI i).toInt64 &&& 63))) (by omega) (by rw [← he, pnL]; simp [c_23, c_32]) _ _ hP hD hS _ (lv_sub hl [0, 1, 2, 3, 4] rfl)
  refine lv_lconst (v := 0) hx hb dX0_placesNamed_0 (by decide) ?_
  refine lv_lstore (lv' := [(4, .long 0), (0, .ref (h 7)), (1, .int x), (2, .long a)]) hx hb dX0_placesNamed_1 hl (by decide) rfl (fun ls hl => ?_)
  refine lv_iconst (v := 0) hx hb dX0_placesNamed_3 (by decide) ?_
  refine lv_istore (lv' := [(6, .int 0), (4, .long 0), (0, .ref (h 7)), (1, .int x), (2, .long a)]) hx hb dX0_placesNamed_4 hl (by decide) rfl (fun ls hl => ?_)
  exact loop np 0 0 (by omega) rfl _ _ hP hD hS _ (lv_sub hl [0, 1, 2, 3, 4] rfl)

set_option maxHeartbeats 4000000 in
set_option maxRecDepth 100000 in
theorem k_M_namesOf (l : Launch) (D : va_G) (h : Nat → Nat) (k : Nat → ClassId) (tx : Nat → Int32) (ln : Nat) (rd : Int64) (wh : Bool) (cm : Nat) (R : RS) (nm : Nat → Int32) (nx : Nat → Int64) (np : Nat) (fi : Int64) (la : Int64) (em : Bool) (a : Int64) (hnp : np ≤ 60) :
    Ct l yX0_namesOf wsX0_namesOf (rmN 1) D vwCl (tyD k) [.ref (h 7), .long a] (wD h k tx ln rd wh cm R (nm, nx, np, fi, la, em)) (wD h k tx ln rd wh cm R (nm, nx, np, fi, la, em)) (some (.int (noL a nm np 0 0))) := by
  refine Ct.of (cc := cX0_namesOf) (maxL := 5) (ret := (some .int)) (lv := [(0, .ref (h 7)), (1, .long a)]) (by decide) rfl (Nat.le_of_ble_eq_true rfl) rfl ?_
  intro p e s m below meth c A ls hx hb hr hml hts hown hlocks hK hP hD hS hA hl
  have loop : ∀ (n : Nat) (i : Nat) (r : Int32), i + n = np → noL a nm n i r = noL a nm np 0 0 → ∀ (H : Heap) (locs : List Loc), va_P D vwCl (wD h k tx ln rd wh cm R (nm, nx, np, fi, la, em)) H → va_D A (wD h k tx ln rd wh cm R (nm, nx, np, fi, la, em)) → va_S A s.heap H locs → ∀ ls : Array Slot, lv_has ls 5 [(4, .int (nI i)), (3, .int r), (0, .ref (h 7)), (1, .long a)] →
      W p l e (rmN 1) s m ([.ref (h 7), .long a] : List Value).toArray below meth c H locs 0 0 (MQ below (CtQ D vwCl A (wD h k tx ln rd wh cm R (nm, nx, np, fi, la, em)) (some (.int (noL a nm np 0 0)))) ([.ref (h 7), .long a] : List Value).toArray s 0 0 A) (F0 m 5 ls []) := by
    intro n
    induction n with
    | zero =>
      intro i r hi he H locs hP hD hS ls hl
      refine lv_iload hx hb dX0_namesOf_5 (lv_at hl 0 rfl) ?_
      refine lv_aload_n hx hb dX0_namesOf_7 rfl (lv_at hl 2 rfl) ?_
      refine va_get (D := D) (ci := 0) (v := .int (nI np)) (C := RX0) (T := TX0) (N := 6) hx hb hts (fun w h => lw_in w (inX0 w h)) hown hK hP 7 rfl rfl 2 (by decide) (hts _ (lw_in _ t_51)) (fun _ h9 => h9) rfl dX0_namesOf_8 ?_
      refine lv_icmp_ge (tgt := 41) hx hb dX0_namesOf_11 (by decide) (fun c_11 => ?_) (fun c_11 => ?_)
      · have c_11 : np ≤ i := (nI_leI (a := np) (b := i) (by omega) (by omega)).mp c_11
        refine lv_iload_n hx hb dX0_namesOf_41 rfl (lv_at hl 1 rfl) ?_
        exact ct_endi hx hb hr hlocks rfl hP hD hS rfl (by rw [← he]; rfl) dX0_namesOf_42
      · have c_11 : i < np := Nat.lt_of_not_le (fun z => c_11 ((nI_leI (a := np) (b := i) (by omega) (by omega)).mpr z))
        exact absurd c_11 (by omega)
    | succ n ih =>
      intro i r hi he H locs hP hD hS ls hl
      refine lv_iload hx hb dX0_namesOf_5 (lv_at hl 0 rfl) ?_
      refine lv_aload_n hx hb dX0_namesOf_7 rfl (lv_at hl 2 rfl) ?_
      refine va_get (D := D) (ci := 0) (v := .int (nI np)) (C := RX0) (T := TX0) (N := 6) hx hb hts (fun w h => lw_in w (inX0 w h)) hown hK hP 7 rfl rfl 2 (by decide) (hts _ (lw_in _ t_51)) (fun _ h9 => h9) rfl dX0_namesOf_8 ?_
      refine lv_icmp_ge (tgt := 41) hx hb dX0_namesOf_11 (by decide) (fun c_11 => ?_) (fun c_11 => ?_)
      · have c_11 : np ≤ i := (nI_leI (a := np) (b := i) (by omega) (by omega)).mp c_11
        exact absurd c_11 (by omega)
      · have c_11 : i < np := Nat.lt_of_not_le (fun z => c_11 ((nI_leI (a := np) (b := i) (by omega) (by omega)).mpr z))
        refine lv_lload_n hx hb dX0_namesOf_14 rfl (lv_at hl 3 rfl) ?_
        refine lv_iload hx hb dX0_namesOf_15 (lv_at hl 0 rfl) ?_
        refine ct_callS (As := [.long a, .int (nI i)]) (rest := []) ⟨hx, hb, hml, hown, hts⟩ (k_M_holds l D h k tx ln rd wh cm R (nm, nx, np, fi, la, em) a i (by omega)) (cwS 2 hts (gS lw_in t_190 t_191 t_25 t_192) rfl rfl rfl (by decide +kernel) ⟨Nat.le_of_ble_eq_true rfl, Nat.le_of_ble_eq_true rfl⟩) hK hP hD hS hA rfl hl.1 rfl (Nat.le_of_ble_eq_true rfl) dX0_namesOf_17 ⟨Nat.zero_le _, Nat.zero_le _⟩ (fun H locs hP hD hS => ?_)
        refine W.eq (g2 := F0 m 20 ls [.int (bI (hB a i))]) rfl ?_
        refine lv_if_eq (tgt := 35) hx hb dX0_namesOf_20 (by decide) (fun c_20 => ?_) (fun c_20 => ?_)
        · have c_20 : (hB a i) = false := (bI_eq0 _).mp c_20
          refine lv_iinc (v := nI (i + 1)) (lv' := [(4, .int (nI (i + 1))), (3, .int r), (0, .ref (h 7)), (1, .long a)]) hx hb dX0_namesOf_35 hl (k := 0) rfl (nI_1 _) (by decide) rfl (fun ls hl => ?_)
          refine lv_goto (tgt := 5) hx hb dX0_namesOf_38 (by decide) ?_
          exact ih (i + 1) r (by omega) (by rw [← he, noL, if_neg (bF c_20)]) _ _ hP hD hS _ (lv_sub hl [0, 1, 2, 3] rfl)
        · have c_20 : (hB a i) = true := (bI_ne0 _).mp c_20
          refine lv_iload_n hx hb dX0_namesOf_23 rfl (lv_at hl 1 rfl) ?_
          refine lv_iconst (v := 1) hx hb dX0_namesOf_24 (by decide) ?_
          refine lv_aload_n hx hb dX0_namesOf_25 rfl (lv_at hl 2 rfl) ?_
          refine va_get (D := D) (ci := 0) (v := .ref (h 8)) (C := RX0) (T := TX0) (N := 6) hx hb hts (fun w h => lw_in w (inX0 w h)) hown hK hP 7 rfl rfl 0 (by decide) (hts _ (lw_in _ t_47)) (fun _ h9 => h9) rfl dX0_namesOf_26 ?_
          refine lv_iload hx hb dX0_namesOf_29 (lv_at hl 0 rfl) ?_
          refine wx_iald hx hb hK hP 8 5 rfl rfl (i := i) (by omega) (by decide) dX0_namesOf_31 ?_
          refine lv_ishl hx hb dX0_namesOf_32 ?_
          refine lv_ior hx hb dX0_namesOf_33 ?_
          refine lv_istore_n (lv' := [(3, .int (r ||| (1 <<< ((nm i) &&& 31)))), (4, .int (nI i)), (0, .ref (h 7)), (1, .long a)]) hx hb dX0_namesOf_34 rfl hl (by decide) rfl (fun ls hl => ?_)
          refine lv_iinc (v := nI (i + 1)) (lv' := [(4, .int (nI (i + 1))), (3, .int (r ||| (1 <<< ((nm i) &&& 31)))), (0, .ref (h 7)), (1, .long a)]) hx hb dX0_namesOf_35 hl (k := 1) rfl (nI_1 _) (by decide) rfl (fun ls hl => ?_)
          refine lv_goto (tgt := 5) hx hb dX0_namesOf_38 (by decide) ?_
          exact ih (i + 1) (r ||| (1 <<< ((nm i) &&& 31))) (by omega) (by rw [← he, noL, if_pos c_20]) _ _ hP hD hS _ (lv_sub hl [0, 1, 2, 3] rfl)
  refine lv_iconst (v := 0) hx hb dX0_namesOf_0 (by decide) ?_
  refine lv_istore_n (lv' := [(3, .int 0), (0, .ref (h 7)), (1, .long a)]) hx hb dX0_namesOf_1 rfl hl (by decide) rfl (fun ls hl => ?_)
  refine lv_iconst (v := 0) hx hb dX0_namesOf_2 (by decide) ?_
  refine lv_istore (lv' := [(4, .int 0), (3, .int 0), (0, .ref (h 7)), (1, .long a)]) hx hb dX0_namesOf_3 hl (by decide) rfl (fun ls hl => ?_)
  exact loop np 0 0 (by omega) rfl _ _ hP hD hS _ (lv_sub hl [0, 1, 2, 3] rfl)

set_option maxHeartbeats 4000000 in
set_option maxRecDepth 100000 in
theorem k_M_namesTwiceIn (l : Launch) (D : va_G) (h : Nat → Nat) (k : Nat → ClassId) (tx : Nat → Int32) (ln : Nat) (rd : Int64) (wh : Bool) (cm : Nat) (R : RS) (nm : Nat → Int32) (nx : Nat → Int64) (np : Nat) (fi : Int64) (la : Int64) (em : Bool) (a : Int64) (hnp : np ≤ 60) :
    Ct l yX0_namesTwiceIn wsX0_namesTwiceIn (rmN 1) D vwCl (tyD k) [.ref (h 7), .long a] (wD h k tx ln rd wh cm R (nm, nx, np, fi, la, em)) (wD h k tx ln rd wh cm R (nm, nx, np, fi, la, em)) (some (.int (ntF a nm np))) := by
  refine Ct.of (cc := cX0_namesTwiceIn) (maxL := 7) (ret := (some .int)) (lv := [(0, .ref (h 7)), (1, .long a)]) (by decide) rfl (Nat.le_of_ble_eq_true rfl) rfl ?_
  intro p e s m below meth c A ls hx hb hr hml hts hown hlocks hK hP hD hS hA hl
  have loop : ∀ (n : Nat) (i : Nat) (o : Int32) (t : Int32), i + n = np → ntL a nm n i o t = ntL a nm np 0 0 0 → ∀ (H : Heap) (locs : List Loc), va_P D vwCl (wD h k tx ln rd wh cm R (nm, nx, np, fi, la, em)) H → va_D A (wD h k tx ln rd wh cm R (nm, nx, np, fi, la, em)) → va_S A s.heap H locs → ∀ ls : Array Slot, lv_has ls 7 [(5, .int (nI i)), (4, .int t), (3, .int o), (0, .ref (h 7)), (1, .long a)] →
      W p l e (rmN 1) s m ([.ref (h 7), .long a] : List Value).toArray below meth c H locs 0 0 (MQ below (CtQ D vwCl A (wD h k tx ln rd wh cm R (nm, nx, np, fi, la, em)) (some (.int (ntF a nm np)))) ([.ref (h 7), .long a] : List Value).toArray s 0 0 A) (F0 m 8 ls []) := by
    intro n
    induction n with
    | zero =>
      intro i o t hi he H locs hP hD hS ls hl
      refine lv_iload hx hb dX0_namesTwiceIn_8 (lv_at hl 0 rfl) ?_
      refine lv_aload_n hx hb dX0_namesTwiceIn_10 rfl (lv_at hl 3 rfl) ?_
      refine va_get (D := D) (ci := 0) (v := .int (nI np)) (C := RX0) (T := TX0) (N := 6) hx hb hts (fun w h => lw_in w (inX0 w h)) hown hK hP 7 rfl rfl 2 (by decide) (hts _ (lw_in _ t_51)) (fun _ h9 => h9) rfl dX0_namesTwiceIn_11 ?_
      refine lv_icmp_ge (tgt := 57) hx hb dX0_namesTwiceIn_14 (by decide) (fun c_14 => ?_) (fun c_14 => ?_)
      · have c_14 : np ≤ i := (nI_leI (a := np) (b := i) (by omega) (by omega)).mp c_14
        refine lv_iload hx hb dX0_namesTwiceIn_57 (lv_at hl 1 rfl) ?_
        exact ct_endi hx hb hr hlocks rfl hP hD hS rfl (by rw [ntF, ← he]; rfl) dX0_namesTwiceIn_59
      · have c_14 : i < np := Nat.lt_of_not_le (fun z => c_14 ((nI_leI (a := np) (b := i) (by omega) (by omega)).mpr z))
        exact absurd c_14 (by omega)
    | succ n ih =>
      intro i o t hi he H locs hP hD hS ls hl
      refine lv_iload hx hb dX0_namesTwiceIn_8 (lv_at hl 0 rfl) ?_
      refine lv_aload_n hx hb dX0_namesTwiceIn_10 rfl (lv_at hl 3 rfl) ?_
      refine va_get (D := D) (ci := 0) (v := .int (nI np)) (C := RX0) (T := TX0) (N := 6) hx hb hts (fun w h => lw_in w (inX0 w h)) hown hK hP 7 rfl rfl 2 (by decide) (hts _ (lw_in _ t_51)) (fun _ h9 => h9) rfl dX0_namesTwiceIn_11 ?_
      refine lv_icmp_ge (tgt := 57) hx hb dX0_namesTwiceIn_14 (by decide) (fun c_14 => ?_) (fun c_14 => ?_)
      · have c_14 : np ≤ i := (nI_leI (a := np) (b := i) (by omega) (by omega)).mp c_14
        exact absurd c_14 (by omega)
      · have c_14 : i < np := Nat.lt_of_not_le (fun z => c_14 ((nI_leI (a := np) (b := i) (by omega) (by omega)).mpr z))
        refine lv_lload_n hx hb dX0_namesTwiceIn_17 rfl (lv_at hl 4 rfl) ?_
        refine lv_iload hx hb dX0_namesTwiceIn_18 (lv_at hl 0 rfl) ?_
        refine ct_callS (As := [.long a, .int (nI i)]) (rest := []) ⟨hx, hb, hml, hown, hts⟩ (k_M_holds l D h k tx ln rd wh cm R (nm, nx, np, fi, la, em) a i (by omega)) (cwS 2 hts (gS lw_in t_190 t_191 t_25 t_192) rfl rfl rfl (by decide +kernel) ⟨Nat.le_of_ble_eq_true rfl, Nat.le_of_ble_eq_true rfl⟩) hK hP hD hS hA rfl hl.1 rfl (Nat.le_of_ble_eq_true rfl) dX0_namesTwiceIn_20 ⟨Nat.zero_le _, Nat.zero_le _⟩ (fun H locs hP hD hS => ?_)
        refine W.eq (g2 := F0 m 23 ls [.int (bI (hB a i))]) rfl ?_
        refine lv_if_eq (tgt := 51) hx hb dX0_namesTwiceIn_23 (by decide) (fun c_23 => ?_) (fun c_23 => ?_)
        · have c_23 : (hB a i) = false := (bI_eq0 _).mp c_23
          refine lv_iinc (v := nI (i + 1)) (lv' := [(5, .int (nI (i + 1))), (4, .int t), (3, .int o), (0, .ref (h 7)), (1, .long a)]) hx hb dX0_namesTwiceIn_51 hl (k := 0) rfl (nI_1 _) (by decide) rfl (fun ls hl => ?_)
          refine lv_goto (tgt := 8) hx hb dX0_namesTwiceIn_54 (by decide) ?_
          exact ih (i + 1) o t (by omega) (by rw [← he, ntL, if_neg (bF c_23)]) _ _ hP hD hS _ (lv_sub hl [0, 1, 2, 3, 4] rfl)
        · have c_23 : (hB a i) = true := (bI_ne0 _).mp c_23
          refine lv_iconst (v := 1) hx hb dX0_namesTwiceIn_26 (by decide) ?_
          refine lv_aload_n hx hb dX0_namesTwiceIn_27 rfl (lv_at hl 3 rfl) ?_
          refine va_get (D := D) (ci := 0) (v := .ref (h 8)) (C := RX0) (T := TX0) (N := 6) hx hb hts (fun w h => lw_in w (inX0 w h)) hown hK hP 7 rfl rfl 0 (by decide) (hts _ (lw_in _ t_47)) (fun _ h9 => h9) rfl dX0_namesTwiceIn_28 ?_
          refine lv_iload hx hb dX0_namesTwiceIn_31 (lv_at hl 0 rfl) ?_
          refine wx_iald hx hb hK hP 8 5 rfl rfl (i := i) (by omega) (by decide) dX0_namesTwiceIn_33 ?_
          refine lv_ishl hx hb dX0_namesTwiceIn_34 ?_
          refine lv_istore (lv' := [(6, .int (1 <<< ((nm i) &&& 31))), (5, .int (nI i)), (4, .int t), (3, .int o), (0, .ref (h 7)), (1, .long a)]) hx hb dX0_namesTwiceIn_35 hl (by decide) rfl (fun ls hl => ?_)
          refine lv_iload hx hb dX0_namesTwiceIn_37 (lv_at hl 2 rfl) ?_
          refine lv_iload_n hx hb dX0_namesTwiceIn_39 rfl (lv_at hl 3 rfl) ?_
          refine lv_iload hx hb dX0_namesTwiceIn_40 (lv_at hl 0 rfl) ?_
          refine lv_iand hx hb dX0_namesTwiceIn_42 ?_
          refine lv_ior hx hb dX0_namesTwiceIn_43 ?_
          refine lv_istore (lv' := [(4, .int (t ||| (o &&& (1 <<< ((nm i) &&& 31))))), (6, .int (1 <<< ((nm i) &&& 31))), (5, .int (nI i)), (3, .int o), (0, .ref (h 7)), (1, .long a)]) hx hb dX0_namesTwiceIn_44 hl (by decide) rfl (fun ls hl => ?_)
          refine lv_iload_n hx hb dX0_namesTwiceIn_46 rfl (lv_at hl 3 rfl) ?_
          refine lv_iload hx hb dX0_namesTwiceIn_47 (lv_at hl 1 rfl) ?_
          refine lv_ior hx hb dX0_namesTwiceIn_49 ?_
          refine lv_istore_n (lv' := [(3, .int (o ||| (1 <<< ((nm i) &&& 31)))), (4, .int (t ||| (o &&& (1 <<< ((nm i) &&& 31))))), (6, .int (1 <<< ((nm i) &&& 31))), (5, .int (nI i)), (0, .ref (h 7)), (1, .long a)]) hx hb dX0_namesTwiceIn_50 rfl hl (by decide) rfl (fun ls hl => ?_)
          refine lv_iinc (v := nI (i + 1)) (lv' := [(5, .int (nI (i + 1))), (3, .int (o ||| (1 <<< ((nm i) &&& 31)))), (4, .int (t ||| (o &&& (1 <<< ((nm i) &&& 31))))), (6, .int (1 <<< ((nm i) &&& 31))), (0, .ref (h 7)), (1, .long a)]) hx hb dX0_namesTwiceIn_51 hl (k := 3) rfl (nI_1 _) (by decide) rfl (fun ls hl => ?_)
          refine lv_goto (tgt := 8) hx hb dX0_namesTwiceIn_54 (by decide) ?_
          exact ih (i + 1) (o ||| (1 <<< ((nm i) &&& 31))) (t ||| (o &&& (1 <<< ((nm i) &&& 31)))) (by omega) (by rw [← he, ntL, if_pos c_23]) _ _ hP hD hS _ (lv_sub hl [0, 2, 1, 4, 5] rfl)
  refine lv_iconst (v := 0) hx hb dX0_namesTwiceIn_0 (by decide) ?_
  refine lv_istore_n (lv' := [(3, .int 0), (0, .ref (h 7)), (1, .long a)]) hx hb dX0_namesTwiceIn_1 rfl hl (by decide) rfl (fun ls hl => ?_)
  refine lv_iconst (v := 0) hx hb dX0_namesTwiceIn_2 (by decide) ?_
  refine lv_istore (lv' := [(4, .int 0), (3, .int 0), (0, .ref (h 7)), (1, .long a)]) hx hb dX0_namesTwiceIn_3 hl (by decide) rfl (fun ls hl => ?_)
  refine lv_iconst (v := 0) hx hb dX0_namesTwiceIn_5 (by decide) ?_
  refine lv_istore (lv' := [(5, .int 0), (4, .int 0), (3, .int 0), (0, .ref (h 7)), (1, .long a)]) hx hb dX0_namesTwiceIn_6 hl (by decide) rfl (fun ls hl => ?_)
  exact loop np 0 0 0 (by omega) rfl _ _ hP hD hS _ (lv_sub hl [0, 1, 2, 3, 4] rfl)

set_option maxHeartbeats 4000000 in
set_option maxRecDepth 100000 in
theorem k_M_competingNames (l : Launch) (D : va_G) (h : Nat → Nat) (k : Nat → ClassId) (tx : Nat → Int32) (ln : Nat) (rd : Int64) (wh : Bool) (cm : Nat) (R : RS) (nm : Nat → Int32) (nx : Nat → Int64) (np : Nat) (fi : Int64) (la : Int64) (em : Bool)  (hnp : np ≤ 60) :
    Ct l yX0_competingNames wsX0_competingNames (rmN 2) D vwCl (tyD k) [.ref (h 7)] (wD h k tx ln rd wh cm R (nm, nx, np, fi, la, em)) (wD h k tx ln rd wh cm R (nm, nx, np, fi, la, em)) (some (.int (cpF nm nx np fi))) := by
  refine Ct.of (cc := cX0_competingNames) (maxL := 3) (ret := (some .int)) (lv := [(0, .ref (h 7))]) (by decide) rfl (Nat.le_of_ble_eq_true rfl) rfl ?_
  intro p e s m below meth c A ls hx hb hr hml hts hown hlocks hK hP hD hS hA hl
  have loop : ∀ (n : Nat) (i : Nat) (r : Int32), i + n = np → cpL nm nx np n i r = cpF nm nx np fi → ∀ (H : Heap) (locs : List Loc), va_P D vwCl (wD h k tx ln rd wh cm R (nm, nx, np, fi, la, em)) H → va_D A (wD h k tx ln rd wh cm R (nm, nx, np, fi, la, em)) → va_S A s.heap H locs → ∀ ls : Array Slot, lv_has ls 3 [(2, .int (nI i)), (1, .int r), (0, .ref (h 7))] →
      W p l e (rmN 2) s m ([.ref (h 7)] : List Value).toArray below meth c H locs 0 0 (MQ below (CtQ D vwCl A (wD h k tx ln rd wh cm R (nm, nx, np, fi, la, em)) (some (.int (cpF nm nx np fi)))) ([.ref (h 7)] : List Value).toArray s 0 0 A) (F0 m 11 ls []) := by
    intro n
    induction n with
    | zero =>
      intro i r hi he H locs hP hD hS ls hl
      refine lv_iload_n hx hb dX0_competingNames_11 rfl (lv_at hl 0 rfl) ?_
      refine lv_aload_n hx hb dX0_competingNames_12 rfl (lv_at hl 2 rfl) ?_
      refine va_get (D := D) (ci := 0) (v := .int (nI np)) (C := RX0) (T := TX0) (N := 6) hx hb hts (fun w h => lw_in w (inX0 w h)) hown hK hP 7 rfl rfl 2 (by decide) (hts _ (lw_in _ t_51)) (fun _ h9 => h9) rfl dX0_competingNames_13 ?_
      refine lv_icmp_ge (tgt := 38) hx hb dX0_competingNames_16 (by decide) (fun c_16 => ?_) (fun c_16 => ?_)
      · have c_16 : np ≤ i := (nI_leI (a := np) (b := i) (by omega) (by omega)).mp c_16
        refine lv_iload_n hx hb dX0_competingNames_38 rfl (lv_at hl 1 rfl) ?_
        exact ct_endi hx hb hr hlocks rfl hP hD hS rfl (by rw [← he]; rfl) dX0_competingNames_39
      · have c_16 : i < np := Nat.lt_of_not_le (fun z => c_16 ((nI_leI (a := np) (b := i) (by omega) (by omega)).mpr z))
        exact absurd c_16 (by omega)
    | succ n ih =>
      intro i r hi he H locs hP hD hS ls hl
      refine lv_iload_n hx hb dX0_competingNames_11 rfl (lv_at hl 0 rfl) ?_
      refine lv_aload_n hx hb dX0_competingNames_12 rfl (lv_at hl 2 rfl) ?_
      refine va_get (D := D) (ci := 0) (v := .int (nI np)) (C := RX0) (T := TX0) (N := 6) hx hb hts (fun w h => lw_in w (inX0 w h)) hown hK hP 7 rfl rfl 2 (by decide) (hts _ (lw_in _ t_51)) (fun _ h9 => h9) rfl dX0_competingNames_13 ?_
      refine lv_icmp_ge (tgt := 38) hx hb dX0_competingNames_16 (by decide) (fun c_16 => ?_) (fun c_16 => ?_)
      · have c_16 : np ≤ i := (nI_leI (a := np) (b := i) (by omega) (by omega)).mp c_16
        exact absurd c_16 (by omega)
      · have c_16 : i < np := Nat.lt_of_not_le (fun z => c_16 ((nI_leI (a := np) (b := i) (by omega) (by omega)).mpr z))
        refine lv_iload_n hx hb dX0_competingNames_19 rfl (lv_at hl 1 rfl) ?_
        refine lv_aload_n hx hb dX0_competingNames_20 rfl (lv_at hl 2 rfl) ?_
        refine lv_aload_n hx hb dX0_competingNames_21 rfl (lv_at hl 2 rfl) ?_
        refine va_get (D := D) (ci := 0) (v := .ref (h 9)) (C := RX0) (T := TX0) (N := 6) hx hb hts (fun w h => lw_in w (inX0 w h)) hown hK hP 7 rfl rfl 1 (by decide) (hts _ (lw_in _ t_49)) (fun _ h9 => h9) rfl dX0_competingNames_22 ?_
        refine lv_iload_n hx hb dX0_competingNames_25 rfl (lv_at hl 0 rfl) ?_
        refine wx_lald hx hb hK hP 9 6 rfl rfl (i := i) (by omega) (by decide) dX0_competingNames_26 ?_
        refine ct_callV (As := [.long (nx i)]) (rest := [.int r]) ⟨hx, hb, hml, hown, hts⟩ (k_M_namesTwiceIn l D h k tx ln rd wh cm R nm nx np fi la em (nx i) (by omega)) (cwV 1 hts (gV lw_in t_222 t_224 t_9 t_25 t_225) rfl rfl rfl (by decide +kernel) ⟨Nat.le_of_ble_eq_true rfl, Nat.le_of_ble_eq_true rfl⟩) 7 rfl rfl hK hP hD hS hA rfl hl.1 rfl (Nat.le_of_ble_eq_true rfl) dX0_competingNames_27 ⟨Nat.zero_le _, Nat.zero_le _⟩ (fun H locs hP hD hS => ?_)
        refine W.eq (g2 := F0 m 30 ls [.int (ntF (nx i) nm np), .int r]) rfl ?_
        refine lv_ior hx hb dX0_competingNames_30 ?_
        refine lv_istore_n (lv' := [(1, .int (r ||| (ntF (nx i) nm np))), (2, .int (nI i)), (0, .ref (h 7))]) hx hb dX0_competingNames_31 rfl hl (by decide) rfl (fun ls hl => ?_)
        refine lv_iinc (v := nI (i + 1)) (lv' := [(2, .int (nI (i + 1))), (1, .int (r ||| (ntF (nx i) nm np))), (0, .ref (h 7))]) hx hb dX0_competingNames_32 hl (k := 1) rfl (nI_1 _) (by decide) rfl (fun ls hl => ?_)
        refine lv_goto (tgt := 11) hx hb dX0_competingNames_35 (by decide) ?_
        exact ih (i + 1) (r ||| (ntF (nx i) nm np)) (by omega) (by rw [← he, cpL]) _ _ hP hD hS _ (lv_sub hl [0, 1, 2] rfl)
  refine lv_aload_n hx hb dX0_competingNames_0 rfl (lv_at hl 0 rfl) ?_
  refine lv_aload_n hx hb dX0_competingNames_1 rfl (lv_at hl 0 rfl) ?_
  refine va_get (D := D) (ci := 0) (v := .long fi) (C := RX0) (T := TX0) (N := 6) hx hb hts (fun w h => lw_in w (inX0 w h)) hown hK hP 7 rfl rfl 3 (by decide) (hts _ (lw_in _ t_54)) (fun _ h9 => h9) rfl dX0_competingNames_2 ?_
  refine ct_callV (As := [.long fi]) (rest := []) ⟨hx, hb, hml, hown, hts⟩ (k_M_namesTwiceIn l D h k tx ln rd wh cm R nm nx np fi la em fi (by omega)) (cwV 1 hts (gV lw_in t_222 t_224 t_9 t_25 t_225) rfl rfl rfl (by decide +kernel) ⟨Nat.le_of_ble_eq_true rfl, Nat.le_of_ble_eq_true rfl⟩) 7 rfl rfl hK hP hD hS hA rfl hl.1 rfl (Nat.le_of_ble_eq_true rfl) dX0_competingNames_5 ⟨Nat.zero_le _, Nat.zero_le _⟩ (fun H locs hP hD hS => ?_)
  refine W.eq (g2 := F0 m 8 ls [.int (ntF fi nm np)]) rfl ?_
  refine lv_istore_n (lv' := [(1, .int (ntF fi nm np)), (0, .ref (h 7))]) hx hb dX0_competingNames_8 rfl hl (by decide) rfl (fun ls hl => ?_)
  refine lv_iconst (v := 0) hx hb dX0_competingNames_9 (by decide) ?_
  refine lv_istore_n (lv' := [(2, .int 0), (1, .int (ntF fi nm np)), (0, .ref (h 7))]) hx hb dX0_competingNames_10 rfl hl (by decide) rfl (fun ls hl => ?_)
  exact loop np 0 (ntF fi nm np) (by omega) rfl _ _ hP hD hS _ (lv_sub hl [0, 1, 2] rfl)
