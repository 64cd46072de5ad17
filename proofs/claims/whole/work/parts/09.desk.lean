/-! The methods of the class: desk (laid by program) -/
set_option maxHeartbeats 4000000 in
set_option maxRecDepth 100000 in
theorem k_D_startRow (l : Launch) (D : va_G) (h : Nat → Nat) (k : Nat → ClassId) (tx : Nat → Int32) (ln : Nat) (rd : Int64) (wh : Bool) (cm : Nat) (R : RS) (nm : Nat → Int32) (nx : Nat → Int64) (np : Nat) (fi : Int64) (la : Int64) (em : Bool)   :
    Ct l yX2_startRow wsX2_startRow (rmN 0) D vwCl (tyD k) [.ref (h 0)] (wD h k tx ln rd wh cm R (nm, nx, np, fi, la, em)) (wD h k tx ln fi em 0 R (nm, nx, np, fi, la, em)) none := by
  refine Ct.of (cc := cX2_startRow) (maxL := 1) (ret := none) (lv := [(0, .ref (h 0))]) (by decide) rfl (Nat.le_of_ble_eq_true rfl) rfl ?_
  intro p e s m below meth c A ls hx hb hr hml hts hown hlocks hK hP hD hS hA hl
  refine lv_aload_n hx hb dX2_startRow_0 rfl (lv_at hl 0 rfl) ?_
  refine lv_aload_n hx hb dX2_startRow_1 rfl (lv_at hl 0 rfl) ?_
  refine va_get (D := D) (ci := 2) (v := .ref (h 7)) (C := RX2) (T := TX2) (N := 7) hx hb hts (fun w h => lw_in w (inX2 w h)) hown hK hP 0 rfl rfl 3 (by decide) (hts _ (lw_in _ t_115)) (fun _ h9 => h9) rfl dX2_startRow_2 ?_
  refine va_get (D := D) (ci := 0) (v := .long fi) (C := RX0) (T := TX0) (N := 6) hx hb hts (fun w h => lw_in w (inX0 w h)) hown hK hP 7 rfl rfl 3 (by decide) (hts _ (lw_in _ t_56)) (fun _ h9 => h9) rfl dX2_startRow_5 ?_
  refine va_put (D := D) (ci := 2) (v := .long fi) (ty := .long) (C := RX2) (T := TX2) (N := 7) hx hb hts (fun w h => lw_in w (inX2 w h)) tyX2 tyX2_ok nmX2 hown hK hP hD hS 0 rfl rfl 4 (by decide) (hts _ (lw_in _ t_116)) (fun _ h9 => h9) rfl (by decide +kernel) rfl rfl (Nat.le_of_ble_eq_true rfl) dX2_startRow_8 (fun H locs hP hD hS => ?_)
  have hP : va_P D vwCl (wD h k tx ln fi wh cm R (nm, nx, np, fi, la, em)) H := hP
  have hD : va_D A (wD h k tx ln fi wh cm R (nm, nx, np, fi, la, em)) := hD
  refine lv_aload_n hx hb dX2_startRow_11 rfl (lv_at hl 0 rfl) ?_
  refine lv_aload_n hx hb dX2_startRow_12 rfl (lv_at hl 0 rfl) ?_
  refine va_get (D := D) (ci := 2) (v := .ref (h 7)) (C := RX2) (T := TX2) (N := 7) hx hb hts (fun w h => lw_in w (inX2 w h)) hown hK hP 0 rfl rfl 3 (by decide) (hts _ (lw_in _ t_115)) (fun _ h9 => h9) rfl dX2_startRow_13 ?_
  refine va_get (D := D) (ci := 0) (v := .int (bI em)) (C := RX0) (T := TX0) (N := 6) hx hb hts (fun w h => lw_in w (inX0 w h)) hown hK hP 7 rfl rfl 5 (by decide) (hts _ (lw_in _ t_62)) (fun _ h9 => h9) rfl dX2_startRow_16 ?_
  refine va_put (D := D) (ci := 2) (v := .int (bI em)) (ty := .boolean) (C := RX2) (T := TX2) (N := 7) hx hb hts (fun w h => lw_in w (inX2 w h)) tyX2 tyX2_ok nmX2 hown hK hP hD hS 0 rfl rfl 5 (by decide) (hts _ (lw_in _ t_117)) (fun _ h9 => h9) rfl (by decide +kernel) (bI_narrow _) (bI_fits _) (Nat.le_of_ble_eq_true rfl) dX2_startRow_19 (fun H locs hP hD hS => ?_)
  have hP : va_P D vwCl (wD h k tx ln fi em cm R (nm, nx, np, fi, la, em)) H := hP
  have hD : va_D A (wD h k tx ln fi em cm R (nm, nx, np, fi, la, em)) := hD
  refine lv_aload_n hx hb dX2_startRow_22 rfl (lv_at hl 0 rfl) ?_
  refine lv_iconst (v := 0) hx hb dX2_startRow_23 (by decide) ?_
  refine lv_eqi (show 0 = nI 0 from rfl) ?_
  refine va_put (D := D) (ci := 2) (v := .int (nI 0)) (ty := .int) (C := RX2) (T := TX2) (N := 7) hx hb hts (fun w h => lw_in w (inX2 w h)) tyX2 tyX2_ok nmX2 hown hK hP hD hS 0 rfl rfl 6 (by decide) (hts _ (lw_in _ t_118)) (fun _ h9 => h9) rfl (by decide +kernel) rfl rfl (Nat.le_of_ble_eq_true rfl) dX2_startRow_24 (fun H locs hP hD hS => ?_)
  have hP : va_P D vwCl (wD h k tx ln fi em 0 R (nm, nx, np, fi, la, em)) H := hP
  have hD : va_D A (wD h k tx ln fi em 0 R (nm, nx, np, fi, la, em)) := hD
  exact ct_endv hx hb hr hlocks hP hD hS rfl rfl dX2_startRow_27

theorem k_D_startRow_o (l : Launch) (D : va_G) (h : Nat → Nat) (k : Nat → ClassId) (tx : Nat → Int32) (ln : Nat) (rd : Int64) (wh : Bool) (cm : Nat) (R : RS) (M : MS) :
    Ct l yX2_startRow wsX2_startRow (rmN 0) D vwCl (tyD k) [.ref (h 0)] (wD h k tx ln rd wh cm R M) (wD h k tx ln M.2.2.2.1 M.2.2.2.2.2 0 R M) none := by
  obtain ⟨nm, nx, np, fi, la, em⟩ := M
  exact k_D_startRow l D h k tx ln rd wh cm R nm nx np fi la em

set_option maxHeartbeats 4000000 in
set_option maxRecDepth 100000 in
theorem k_D_isEmpty (l : Launch) (D : va_G) (h : Nat → Nat) (k : Nat → ClassId) (tx : Nat → Int32) (ln : Nat) (rd : Int64) (wh : Bool) (cm : Nat) (R : RS) (nm : Nat → Int32) (nx : Nat → Int64) (np : Nat) (fi : Int64) (la : Int64) (em : Bool)   :
    Ct l yX2_isEmpty wsX2_isEmpty (rmN 0) D vwCl (tyD k) [.ref (h 0)] (wD h k tx ln rd wh cm R (nm, nx, np, fi, la, em)) (wD h k tx ln rd wh cm R (nm, nx, np, fi, la, em)) (some (.int (bI em))) := by
  refine Ct.of (cc := cX2_isEmpty) (maxL := 1) (ret := (some .boolean)) (lv := [(0, .ref (h 0))]) (by decide) rfl (Nat.le_of_ble_eq_true rfl) rfl ?_
  intro p e s m below meth c A ls hx hb hr hml hts hown hlocks hK hP hD hS hA hl
  refine lv_aload_n hx hb dX2_isEmpty_0 rfl (lv_at hl 0 rfl) ?_
  refine va_get (D := D) (ci := 2) (v := .ref (h 7)) (C := RX2) (T := TX2) (N := 7) hx hb hts (fun w h => lw_in w (inX2 w h)) hown hK hP 0 rfl rfl 3 (by decide) (hts _ (lw_in _ t_115)) (fun _ h9 => h9) rfl dX2_isEmpty_1 ?_
  refine va_get (D := D) (ci := 0) (v := .int (bI em)) (C := RX0) (T := TX0) (N := 6) hx hb hts (fun w h => lw_in w (inX0 w h)) hown hK hP 7 rfl rfl 5 (by decide) (hts _ (lw_in _ t_62)) (fun _ h9 => h9) rfl dX2_isEmpty_4 ?_
  exact ct_endi hx hb hr hlocks (bI_narrow _) hP hD hS rfl rfl dX2_isEmpty_7

set_option maxHeartbeats 4000000 in
set_option maxRecDepth 100000 in
theorem k_D_first (l : Launch) (D : va_G) (h : Nat → Nat) (k : Nat → ClassId) (tx : Nat → Int32) (ln : Nat) (rd : Int64) (wh : Bool) (cm : Nat) (R : RS) (nm : Nat → Int32) (nx : Nat → Int64) (np : Nat) (fi : Int64) (la : Int64) (em : Bool)   :
    Ct l yX2_first wsX2_first (rmN 0) D vwCl (tyD k) [.ref (h 0)] (wD h k tx ln rd wh cm R (nm, nx, np, fi, la, em)) (wD h k tx ln rd wh cm R (nm, nx, np, fi, la, em)) (some (.long fi)) := by
  refine Ct.of (cc := cX2_first) (maxL := 1) (ret := (some .long)) (lv := [(0, .ref (h 0))]) (by decide) rfl (Nat.le_of_ble_eq_true rfl) rfl ?_
  intro p e s m below meth c A ls hx hb hr hml hts hown hlocks hK hP hD hS hA hl
  refine lv_aload_n hx hb dX2_first_0 rfl (lv_at hl 0 rfl) ?_
  refine va_get (D := D) (ci := 2) (v := .ref (h 7)) (C := RX2) (T := TX2) (N := 7) hx hb hts (fun w h => lw_in w (inX2 w h)) hown hK hP 0 rfl rfl 3 (by decide) (hts _ (lw_in _ t_115)) (fun _ h9 => h9) rfl dX2_first_1 ?_
  refine va_get (D := D) (ci := 0) (v := .long fi) (C := RX0) (T := TX0) (N := 6) hx hb hts (fun w h => lw_in w (inX0 w h)) hown hK hP 7 rfl rfl 3 (by decide) (hts _ (lw_in _ t_56)) (fun _ h9 => h9) rfl dX2_first_4 ?_
  exact ct_endl hx hb hr hlocks hP hD hS rfl rfl dX2_first_7

set_option maxHeartbeats 4000000 in
set_option maxRecDepth 100000 in
theorem k_D_last (l : Launch) (D : va_G) (h : Nat → Nat) (k : Nat → ClassId) (tx : Nat → Int32) (ln : Nat) (rd : Int64) (wh : Bool) (cm : Nat) (R : RS) (nm : Nat → Int32) (nx : Nat → Int64) (np : Nat) (fi : Int64) (la : Int64) (em : Bool)   :
    Ct l yX2_last wsX2_last (rmN 0) D vwCl (tyD k) [.ref (h 0)] (wD h k tx ln rd wh cm R (nm, nx, np, fi, la, em)) (wD h k tx ln rd wh cm R (nm, nx, np, fi, la, em)) (some (.long la)) := by
  refine Ct.of (cc := cX2_last) (maxL := 1) (ret := (some .long)) (lv := [(0, .ref (h 0))]) (by decide) rfl (Nat.le_of_ble_eq_true rfl) rfl ?_
  intro p e s m below meth c A ls hx hb hr hml hts hown hlocks hK hP hD hS hA hl
  refine lv_aload_n hx hb dX2_last_0 rfl (lv_at hl 0 rfl) ?_
  refine va_get (D := D) (ci := 2) (v := .ref (h 7)) (C := RX2) (T := TX2) (N := 7) hx hb hts (fun w h => lw_in w (inX2 w h)) hown hK hP 0 rfl rfl 3 (by decide) (hts _ (lw_in _ t_115)) (fun _ h9 => h9) rfl dX2_last_1 ?_
  refine va_get (D := D) (ci := 0) (v := .long la) (C := RX0) (T := TX0) (N := 6) hx hb hts (fun w h => lw_in w (inX0 w h)) hown hK hP 7 rfl rfl 4 (by decide) (hts _ (lw_in _ t_59)) (fun _ h9 => h9) rfl dX2_last_4 ?_
  exact ct_endl hx hb hr hlocks hP hD hS rfl rfl dX2_last_7

set_option maxHeartbeats 4000000 in
set_option maxRecDepth 100000 in
theorem k_D_isWhole (l : Launch) (D : va_G) (h : Nat → Nat) (k : Nat → ClassId) (tx : Nat → Int32) (ln : Nat) (rd : Int64) (wh : Bool) (cm : Nat) (R : RS) (M : MS)   :
    Ct l yX2_isWhole wsX2_isWhole (rmN 0) D vwCl (tyD k) [.ref (h 0)] (wD h k tx ln rd wh cm R M) (wD h k tx ln rd wh cm R M) (some (.int (bI wh))) := by
  refine Ct.of (cc := cX2_isWhole) (maxL := 1) (ret := (some .boolean)) (lv := [(0, .ref (h 0))]) (by decide) rfl (Nat.le_of_ble_eq_true rfl) rfl ?_
  intro p e s m below meth c A ls hx hb hr hml hts hown hlocks hK hP hD hS hA hl
  refine lv_aload_n hx hb dX2_isWhole_0 rfl (lv_at hl 0 rfl) ?_
  refine va_get (D := D) (ci := 2) (v := .int (bI wh)) (C := RX2) (T := TX2) (N := 7) hx hb hts (fun w h => lw_in w (inX2 w h)) hown hK hP 0 rfl rfl 5 (by decide) (hts _ (lw_in _ t_117)) (fun _ h9 => h9) rfl dX2_isWhole_1 ?_
  exact ct_endi hx hb hr hlocks (bI_narrow _) hP hD hS rfl rfl dX2_isWhole_4

set_option maxHeartbeats 4000000 in
set_option maxRecDepth 100000 in
theorem k_D_competing (l : Launch) (D : va_G) (h : Nat → Nat) (k : Nat → ClassId) (tx : Nat → Int32) (ln : Nat) (rd : Int64) (wh : Bool) (cm : Nat) (R : RS) (nm : Nat → Int32) (nx : Nat → Int64) (np : Nat) (fi : Int64) (la : Int64) (em : Bool)  (hnp : np ≤ 60) :
    Ct l yX2_competing wsX2_competing (rmN 3) D vwCl (tyD k) [.ref (h 0)] (wD h k tx ln rd wh cm R (nm, nx, np, fi, la, em)) (wD h k tx ln rd wh cm R (nm, nx, np, fi, la, em)) (some (.int (cpF nm nx np fi))) := by
  refine Ct.of (cc := cX2_competing) (maxL := 1) (ret := (some .int)) (lv := [(0, .ref (h 0))]) (by decide) rfl (Nat.le_of_ble_eq_true rfl) rfl ?_
  intro p e s m below meth c A ls hx hb hr hml hts hown hlocks hK hP hD hS hA hl
  refine lv_aload_n hx hb dX2_competing_0 rfl (lv_at hl 0 rfl) ?_
  refine va_get (D := D) (ci := 2) (v := .ref (h 7)) (C := RX2) (T := TX2) (N := 7) hx hb hts (fun w h => lw_in w (inX2 w h)) hown hK hP 0 rfl rfl 3 (by decide) (hts _ (lw_in _ t_115)) (fun _ h9 => h9) rfl dX2_competing_1 ?_
  refine ct_callV (As := []) (rest := []) ⟨hx, hb, hml, hown, hts⟩ (k_M_competingNames l D h k tx ln rd wh cm R nm nx np fi la em  (by omega)) (cwV 0 hts (gV lw_in t_218 t_219 t_220 t_25 t_221) rfl rfl rfl (by decide +kernel) ⟨Nat.le_of_ble_eq_true rfl, Nat.le_of_ble_eq_true rfl⟩) 7 rfl rfl hK hP hD hS hA rfl hl.1 rfl (Nat.le_of_ble_eq_true rfl) dX2_competing_4 ⟨Nat.zero_le _, Nat.zero_le _⟩ (fun H locs hP hD hS => ?_)
  refine W.eq (g2 := F0 m 7 ls [.int (cpF nm nx np fi)]) rfl ?_
  exact ct_endi hx hb hr hlocks rfl hP hD hS rfl rfl dX2_competing_7

set_option maxHeartbeats 4000000 in
set_option maxRecDepth 100000 in
theorem k_D_isClear (l : Launch) (D : va_G) (h : Nat → Nat) (k : Nat → ClassId) (tx : Nat → Int32) (ln : Nat) (rd : Int64) (wh : Bool) (cm : Nat) (R : RS) (nm : Nat → Int32) (nx : Nat → Int64) (np : Nat) (fi : Int64) (la : Int64) (em : Bool)  (hnp : np ≤ 60) :
    Ct l yX2_isClear wsX2_isClear (rmN 3) D vwCl (tyD k) [.ref (h 0)] (wD h k tx ln rd wh cm R (nm, nx, np, fi, la, em)) (wD h k tx ln rd wh cm R (nm, nx, np, fi, la, em)) (some (.int (bI (decide (0 < np) && decide (cpF nm nx np fi = 0))))) := by
  refine Ct.of (cc := cX2_isClear) (maxL := 1) (ret := (some .boolean)) (lv := [(0, .ref (h 0))]) (by decide) rfl (Nat.le_of_ble_eq_true rfl) rfl ?_
  intro p e s m below meth c A ls hx hb hr hml hts hown hlocks hK hP hD hS hA hl
  refine lv_aload_n hx hb dX2_isClear_0 rfl (lv_at hl 0 rfl) ?_
  refine va_get (D := D) (ci := 2) (v := .ref (h 7)) (C := RX2) (T := TX2) (N := 7) hx hb hts (fun w h => lw_in w (inX2 w h)) hown hK hP 0 rfl rfl 3 (by decide) (hts _ (lw_in _ t_115)) (fun _ h9 => h9) rfl dX2_isClear_1 ?_
  refine va_get (D := D) (ci := 0) (v := .int (nI np)) (C := RX0) (T := TX0) (N := 6) hx hb hts (fun w h => lw_in w (inX0 w h)) hown hK hP 7 rfl rfl 2 (by decide) (hts _ (lw_in _ t_52)) (fun _ h9 => h9) rfl dX2_isClear_4 ?_
  refine lv_if_le (tgt := 24) hx hb dX2_isClear_7 (by decide) (fun c_7 => ?_) (fun c_7 => ?_)
  · have c_7 : np ≤ 0 := (nI_leI (a := np) (b := 0) (by omega) (by omega)).mp c_7
    refine lv_iconst (v := 0) hx hb dX2_isClear_24 (by decide) ?_
    exact ct_endi hx hb hr hlocks rfl hP hD hS rfl (by simp [bI, c_7, Nat.not_lt.mpr c_7]) dX2_isClear_25
  · have c_7 : 0 < np := Nat.lt_of_not_le (fun z => c_7 ((nI_leI (a := np) (b := 0) (by omega) (by omega)).mpr z))
    refine lv_aload_n hx hb dX2_isClear_10 rfl (lv_at hl 0 rfl) ?_
    refine va_get (D := D) (ci := 2) (v := .ref (h 7)) (C := RX2) (T := TX2) (N := 7) hx hb hts (fun w h => lw_in w (inX2 w h)) hown hK hP 0 rfl rfl 3 (by decide) (hts _ (lw_in _ t_115)) (fun _ h9 => h9) rfl dX2_isClear_11 ?_
    refine ct_callV (As := []) (rest := []) ⟨hx, hb, hml, hown, hts⟩ (k_M_competingNames l D h k tx ln rd wh cm R nm nx np fi la em  (by omega)) (cwV 0 hts (gV lw_in t_218 t_219 t_220 t_25 t_221) rfl rfl rfl (by decide +kernel) ⟨Nat.le_of_ble_eq_true rfl, Nat.le_of_ble_eq_true rfl⟩) 7 rfl rfl hK hP hD hS hA rfl hl.1 rfl (Nat.le_of_ble_eq_true rfl) dX2_isClear_14 ⟨Nat.zero_le _, Nat.zero_le _⟩ (fun H locs hP hD hS => ?_)
    refine W.eq (g2 := F0 m 17 ls [.int (cpF nm nx np fi)]) rfl ?_
    refine lv_if_ne (tgt := 24) hx hb dX2_isClear_17 (by decide) (fun c_17 => ?_) (fun c_17 => ?_)
    · have c_17 : ¬ (cpF nm nx np fi) = 0 := c_17
      refine lv_iconst (v := 0) hx hb dX2_isClear_24 (by decide) ?_
      exact ct_endi hx hb hr hlocks rfl hP hD hS rfl (by simp [bI, c_7, Nat.not_le.mpr c_7, c_17]) dX2_isClear_25
    · have c_17 : (cpF nm nx np fi) = 0 := c_17
      refine lv_iconst (v := 1) hx hb dX2_isClear_20 (by decide) ?_
      refine lv_goto (tgt := 25) hx hb dX2_isClear_21 (by decide) ?_
      exact ct_endi hx hb hr hlocks rfl hP hD hS rfl (by simp [bI, c_7, Nat.not_le.mpr c_7, c_17]) dX2_isClear_25

set_option maxHeartbeats 4000000 in
set_option maxRecDepth 100000 in
theorem k_D_next (l : Launch) (D : va_G) (h : Nat → Nat) (k : Nat → ClassId) (tx : Nat → Int32) (ln : Nat) (rd : Int64) (wh : Bool) (cm : Nat) (R : RS) (nm : Nat → Int32) (nx : Nat → Int64) (np : Nat) (fi : Int64) (la : Int64) (em : Bool) (x : Int32) (hnp : np ≤ 60) :
    Ct l yX2_next wsX2_next (rmN 1) D vwCl (tyD k) [.ref (h 0), .int x] (wD h k tx ln rd wh cm R (nm, nx, np, fi, la, em)) (wD h k tx ln rd wh cm R (nm, nx, np, fi, la, em)) (some (.long (d_next nx np x))) := by
  refine Ct.of (cc := cX2_next) (maxL := 2) (ret := (some .long)) (lv := [(0, .ref (h 0)), (1, .int x)]) (by decide) rfl (Nat.le_of_ble_eq_true rfl) rfl ?_
  intro p e s m below meth c A ls hx hb hr hml hts hown hlocks hK hP hD hS hA hl
  refine lv_aload_n hx hb dX2_next_0 rfl (lv_at hl 0 rfl) ?_
  refine va_get (D := D) (ci := 2) (v := .ref (h 7)) (C := RX2) (T := TX2) (N := 7) hx hb hts (fun w h => lw_in w (inX2 w h)) hown hK hP 0 rfl rfl 3 (by decide) (hts _ (lw_in _ t_115)) (fun _ h9 => h9) rfl dX2_next_1 ?_
  refine lv_iload_n hx hb dX2_next_4 rfl (lv_at hl 1 rfl) ?_
  refine ct_callV (As := [.int x]) (rest := []) ⟨hx, hb, hml, hown, hts⟩ (k_M_has l D h k tx ln rd wh cm R nm nx np fi la em x) (cwV 1 hts (gV lw_in t_242 t_243 t_244 t_25 t_245) rfl rfl rfl (by decide +kernel) ⟨Nat.le_of_ble_eq_true rfl, Nat.le_of_ble_eq_true rfl⟩) 7 rfl rfl hK hP hD hS hA rfl hl.1 rfl (Nat.le_of_ble_eq_true rfl) dX2_next_5 ⟨Nat.zero_le _, Nat.zero_le _⟩ (fun H locs hP hD hS => ?_)
  refine W.eq (g2 := F0 m 8 ls [.int (bI (m_has np x))]) rfl ?_
  refine lv_if_eq (tgt := 23) hx hb dX2_next_8 (by decide) (fun c_8 => ?_) (fun c_8 => ?_)
  · have c_8 : (m_has np x) = false := (bI_eq0 _).mp c_8
    refine lv_lconst (v := 0) hx hb dX2_next_23 (by decide) ?_
    exact ct_endl hx hb hr hlocks hP hD hS rfl (by simp [d_next, c_8]) dX2_next_24
  · have c_8 : (m_has np x) = true := (bI_ne0 _).mp c_8
    have e_x := c_8
    obtain ⟨j, hj, rfl⟩ := m_has_nat hnp c_8
    refine lv_aload_n hx hb dX2_next_11 rfl (lv_at hl 0 rfl) ?_
    refine va_get (D := D) (ci := 2) (v := .ref (h 7)) (C := RX2) (T := TX2) (N := 7) hx hb hts (fun w h => lw_in w (inX2 w h)) hown hK hP 0 rfl rfl 3 (by decide) (hts _ (lw_in _ t_115)) (fun _ h9 => h9) rfl dX2_next_12 ?_
    refine va_get (D := D) (ci := 0) (v := .ref (h 9)) (C := RX0) (T := TX0) (N := 6) hx hb hts (fun w h => lw_in w (inX0 w h)) hown hK hP 7 rfl rfl 1 (by decide) (hts _ (lw_in _ t_50)) (fun _ h9 => h9) rfl dX2_next_15 ?_
    refine lv_iload_n hx hb dX2_next_18 rfl (lv_at hl 1 rfl) ?_
    refine wx_lald hx hb hK hP 9 6 rfl rfl (i := j) (by omega) (by decide) dX2_next_19 ?_
    refine lv_goto (tgt := 24) hx hb dX2_next_20 (by decide) ?_
    exact ct_endl hx hb hr hlocks hP hD hS rfl (by rw [d_next, if_pos e_x, nI_clamp (by omega)]) dX2_next_24

set_option maxHeartbeats 4000000 in
set_option maxRecDepth 100000 in
theorem k_D_name (l : Launch) (D : va_G) (h : Nat → Nat) (k : Nat → ClassId) (tx : Nat → Int32) (ln : Nat) (rd : Int64) (wh : Bool) (cm : Nat) (R : RS) (nm : Nat → Int32) (nx : Nat → Int64) (np : Nat) (fi : Int64) (la : Int64) (em : Bool) (x : Int32) (hnp : np ≤ 60) :
    Ct l yX2_name wsX2_name (rmN 1) D vwCl (tyD k) [.ref (h 0), .int x] (wD h k tx ln rd wh cm R (nm, nx, np, fi, la, em)) (wD h k tx ln rd wh cm R (nm, nx, np, fi, la, em)) (some (.int (d_name nm np x))) := by
  refine Ct.of (cc := cX2_name) (maxL := 2) (ret := (some .int)) (lv := [(0, .ref (h 0)), (1, .int x)]) (by decide) rfl (Nat.le_of_ble_eq_true rfl) rfl ?_
  intro p e s m below meth c A ls hx hb hr hml hts hown hlocks hK hP hD hS hA hl
  refine lv_aload_n hx hb dX2_name_0 rfl (lv_at hl 0 rfl) ?_
  refine va_get (D := D) (ci := 2) (v := .ref (h 7)) (C := RX2) (T := TX2) (N := 7) hx hb hts (fun w h => lw_in w (inX2 w h)) hown hK hP 0 rfl rfl 3 (by decide) (hts _ (lw_in _ t_115)) (fun _ h9 => h9) rfl dX2_name_1 ?_
  refine lv_iload_n hx hb dX2_name_4 rfl (lv_at hl 1 rfl) ?_
  refine ct_callV (As := [.int x]) (rest := []) ⟨hx, hb, hml, hown, hts⟩ (k_M_has l D h k tx ln rd wh cm R nm nx np fi la em x) (cwV 1 hts (gV lw_in t_242 t_243 t_244 t_25 t_245) rfl rfl rfl (by decide +kernel) ⟨Nat.le_of_ble_eq_true rfl, Nat.le_of_ble_eq_true rfl⟩) 7 rfl rfl hK hP hD hS hA rfl hl.1 rfl (Nat.le_of_ble_eq_true rfl) dX2_name_5 ⟨Nat.zero_le _, Nat.zero_le _⟩ (fun H locs hP hD hS => ?_)
  refine W.eq (g2 := F0 m 8 ls [.int (bI (m_has np x))]) rfl ?_
  refine lv_if_eq (tgt := 23) hx hb dX2_name_8 (by decide) (fun c_8 => ?_) (fun c_8 => ?_)
  · have c_8 : (m_has np x) = false := (bI_eq0 _).mp c_8
    refine lv_iconst (v := -1) hx hb dX2_name_23 (by decide) ?_
    exact ct_endi hx hb hr hlocks rfl hP hD hS rfl (by simp [d_name, c_8]) dX2_name_24
  · have c_8 : (m_has np x) = true := (bI_ne0 _).mp c_8
    have e_x := c_8
    obtain ⟨j, hj, rfl⟩ := m_has_nat hnp c_8
    refine lv_aload_n hx hb dX2_name_11 rfl (lv_at hl 0 rfl) ?_
    refine va_get (D := D) (ci := 2) (v := .ref (h 7)) (C := RX2) (T := TX2) (N := 7) hx hb hts (fun w h => lw_in w (inX2 w h)) hown hK hP 0 rfl rfl 3 (by decide) (hts _ (lw_in _ t_115)) (fun _ h9 => h9) rfl dX2_name_12 ?_
    refine va_get (D := D) (ci := 0) (v := .ref (h 8)) (C := RX0) (T := TX0) (N := 6) hx hb hts (fun w h => lw_in w (inX0 w h)) hown hK hP 7 rfl rfl 0 (by decide) (hts _ (lw_in _ t_48)) (fun _ h9 => h9) rfl dX2_name_15 ?_
    refine lv_iload_n hx hb dX2_name_18 rfl (lv_at hl 1 rfl) ?_
    refine wx_iald hx hb hK hP 8 5 rfl rfl (i := j) (by omega) (by decide) dX2_name_19 ?_
    refine lv_goto (tgt := 24) hx hb dX2_name_20 (by decide) ?_
    exact ct_endi hx hb hr hlocks rfl hP hD hS rfl (by rw [d_name, if_pos e_x, nI_clamp (by omega)]) dX2_name_24

set_option maxHeartbeats 4000000 in
set_option maxRecDepth 100000 in
theorem k_D_come (l : Launch) (D : va_G) (h : Nat → Nat) (k : Nat → ClassId) (tx : Nat → Int32) (ln : Nat) (rd : Int64) (wh : Bool) (cm : Nat) (R : RS) (nm : Nat → Int32) (nx : Nat → Int64) (np : Nat) (fi : Int64) (la : Int64) (em : Bool) (x : Int32) (hnp : np ≤ 60) :
    Ct l yX2_come wsX2_come (rmN 2) D vwCl (tyD k) [.ref (h 0), .int x] (wD h k tx ln rd wh cm R (nm, nx, np, fi, la, em)) (wD h k tx ln (if pnL x rd nm np 0 0 = 0 then rd else nbL (pnL x rd nm np 0 0) nx np 0 0) (if pnL x rd nm np 0 0 = 0 then wh else decide (¬ (pnL x rd nm np 0 0 &&& la) = 0)) (if pnL x rd nm np 0 0 = 0 then cm else cm + 1) R (nm, nx, np, fi, la, em)) (some (.int (bI (decide (¬ pnL x rd nm np 0 0 = 0))))) := by
  refine Ct.of (cc := cX2_come) (maxL := 4) (ret := (some .boolean)) (lv := [(0, .ref (h 0)), (1, .int x)]) (by decide) rfl (Nat.le_of_ble_eq_true rfl) rfl ?_
  intro p e s m below meth c A ls hx hb hr hml hts hown hlocks hK hP hD hS hA hl
  refine lv_aload_n hx hb dX2_come_0 rfl (lv_at hl 0 rfl) ?_
  refine va_get (D := D) (ci := 2) (v := .ref (h 7)) (C := RX2) (T := TX2) (N := 7) hx hb hts (fun w h => lw_in w (inX2 w h)) hown hK hP 0 rfl rfl 3 (by decide) (hts _ (lw_in _ t_115)) (fun _ h9 => h9) rfl dX2_come_1 ?_
  refine lv_iload_n hx hb dX2_come_4 rfl (lv_at hl 1 rfl) ?_
  refine lv_aload_n hx hb dX2_come_5 rfl (lv_at hl 0 rfl) ?_
  refine va_get (D := D) (ci := 2) (v := .long rd) (C := RX2) (T := TX2) (N := 7) hx hb hts (fun w h => lw_in w (inX2 w h)) hown hK hP 0 rfl rfl 4 (by decide) (hts _ (lw_in _ t_116)) (fun _ h9 => h9) rfl dX2_come_6 ?_
  refine ct_callV (As := [.int x, .long rd]) (rest := []) ⟨hx, hb, hml, hown, hts⟩ (k_M_placesNamed l D h k tx ln rd wh cm R nm nx np fi la em x rd (by omega)) (cwV 2 hts (gV lw_in t_258 t_259 t_260 t_25 t_261) rfl rfl rfl (by decide +kernel) ⟨Nat.le_of_ble_eq_true rfl, Nat.le_of_ble_eq_true rfl⟩) 7 rfl rfl hK hP hD hS hA rfl hl.1 rfl (Nat.le_of_ble_eq_true rfl) dX2_come_9 ⟨Nat.zero_le _, Nat.zero_le _⟩ (fun H locs hP hD hS => ?_)
  refine W.eq (g2 := F0 m 12 ls [.long (pnL x rd nm np 0 0)]) rfl ?_
  refine lv_lstore_n (lv' := [(2, .long (pnL x rd nm np 0 0)), (0, .ref (h 0)), (1, .int x)]) hx hb dX2_come_12 rfl hl (by decide) rfl (fun ls hl => ?_)
  refine lv_lload_n hx hb dX2_come_13 rfl (lv_at hl 0 rfl) ?_
  refine lv_lconst (v := 0) hx hb dX2_come_14 (by decide) ?_
  refine W.lcmp hx hb dX2_come_15 ?_
  refine lv_if_ne (tgt := 21) hx hb dX2_come_16 (by decide) (fun c_16 => ?_) (fun c_16 => ?_)
  · have c_16 : ¬ (pnL x rd nm np 0 0) = 0 := fun z => c_16 ((lg_cmp_eq _ _).mpr z)
    refine lv_aload_n hx hb dX2_come_21 rfl (lv_at hl 1 rfl) ?_
    refine lv_aload_n hx hb dX2_come_22 rfl (lv_at hl 1 rfl) ?_
    refine va_get (D := D) (ci := 2) (v := .ref (h 7)) (C := RX2) (T := TX2) (N := 7) hx hb hts (fun w h => lw_in w (inX2 w h)) hown hK hP 0 rfl rfl 3 (by decide) (hts _ (lw_in _ t_115)) (fun _ h9 => h9) rfl dX2_come_23 ?_
    refine lv_lload_n hx hb dX2_come_26 rfl (lv_at hl 0 rfl) ?_
    refine ct_callV (As := [.long (pnL x rd nm np 0 0)]) (rest := [.ref (h 0)]) ⟨hx, hb, hml, hown, hts⟩ (k_M_nextBehindAny l D h k tx ln rd wh cm R nm nx np fi la em (pnL x rd nm np 0 0) (by omega)) (cwV 1 hts (gV lw_in t_262 t_263 t_264 t_25 t_265) rfl rfl rfl (by decide +kernel) ⟨Nat.le_of_ble_eq_true rfl, Nat.le_of_ble_eq_true rfl⟩) 7 rfl rfl hK hP hD hS hA rfl hl.1 rfl (Nat.le_of_ble_eq_true rfl) dX2_come_27 ⟨Nat.zero_le _, Nat.zero_le _⟩ (fun H locs hP hD hS => ?_)
    refine W.eq (g2 := F0 m 30 ls [.long (nbL (pnL x rd nm np 0 0) nx np 0 0), .ref (h 0)]) rfl ?_
    refine va_put (D := D) (ci := 2) (v := .long (nbL (pnL x rd nm np 0 0) nx np 0 0)) (ty := .long) (C := RX2) (T := TX2) (N := 7) hx hb hts (fun w h => lw_in w (inX2 w h)) tyX2 tyX2_ok nmX2 hown hK hP hD hS 0 rfl rfl 4 (by decide) (hts _ (lw_in _ t_116)) (fun _ h9 => h9) rfl (by decide +kernel) rfl rfl (Nat.le_of_ble_eq_true rfl) dX2_come_30 (fun H locs hP hD hS => ?_)
    have hP : va_P D vwCl (wD h k tx ln (nbL (pnL x rd nm np 0 0) nx np 0 0) wh cm R (nm, nx, np, fi, la, em)) H := hP
    have hD : va_D A (wD h k tx ln (nbL (pnL x rd nm np 0 0) nx np 0 0) wh cm R (nm, nx, np, fi, la, em)) := hD
    refine lv_aload_n hx hb dX2_come_33 rfl (lv_at hl 1 rfl) ?_
    refine lv_lload_n hx hb dX2_come_34 rfl (lv_at hl 0 rfl) ?_
    refine lv_aload_n hx hb dX2_come_35 rfl (lv_at hl 1 rfl) ?_
    refine va_get (D := D) (ci := 2) (v := .ref (h 7)) (C := RX2) (T := TX2) (N := 7) hx hb hts (fun w h => lw_in w (inX2 w h)) hown hK hP 0 rfl rfl 3 (by decide) (hts _ (lw_in _ t_115)) (fun _ h9 => h9) rfl dX2_come_36 ?_
    refine va_get (D := D) (ci := 0) (v := .long la) (C := RX0) (T := TX0) (N := 6) hx hb hts (fun w h => lw_in w (inX0 w h)) hown hK hP 7 rfl rfl 4 (by decide) (hts _ (lw_in _ t_59)) (fun _ h9 => h9) rfl dX2_come_39 ?_
    refine lv_land hx hb dX2_come_42 ?_
    refine lv_lconst (v := 0) hx hb dX2_come_43 (by decide) ?_
    refine W.lcmp hx hb dX2_come_44 ?_
    refine lv_if_eq (tgt := 52) hx hb dX2_come_45 (by decide) (fun c_45 => ?_) (fun c_45 => ?_)
    · have c_45 : ((pnL x rd nm np 0 0) &&& la) = 0 := (lg_cmp_eq _ _).mp c_45
      refine lv_iconst (v := 0) hx hb dX2_come_52 (by decide) ?_
      refine lv_eqi (show 0 = bI false from rfl) ?_
      refine va_put (D := D) (ci := 2) (v := .int (bI false)) (ty := .boolean) (C := RX2) (T := TX2) (N := 7) hx hb hts (fun w h => lw_in w (inX2 w h)) tyX2 tyX2_ok nmX2 hown hK hP hD hS 0 rfl rfl 5 (by decide) (hts _ (lw_in _ t_117)) (fun _ h9 => h9) rfl (by decide +kernel) (bI_narrow _) (bI_fits _) (Nat.le_of_ble_eq_true rfl) dX2_come_53 (fun H locs hP hD hS => ?_)
      have hP : va_P D vwCl (wD h k tx ln (nbL (pnL x rd nm np 0 0) nx np 0 0) false cm R (nm, nx, np, fi, la, em)) H := hP
      have hD : va_D A (wD h k tx ln (nbL (pnL x rd nm np 0 0) nx np 0 0) false cm R (nm, nx, np, fi, la, em)) := hD
      refine lv_aload_n hx hb dX2_come_56 rfl (lv_at hl 1 rfl) ?_
      refine lv_dup hx hb dX2_come_57 rfl ?_
      refine va_get (D := D) (ci := 2) (v := .int (nI cm)) (C := RX2) (T := TX2) (N := 7) hx hb hts (fun w h => lw_in w (inX2 w h)) hown hK hP 0 rfl rfl 6 (by decide) (hts _ (lw_in _ t_118)) (fun _ h9 => h9) rfl dX2_come_58 ?_
      refine lv_iconst (v := 1) hx hb dX2_come_61 (by decide) ?_
      refine lv_iadd hx hb dX2_come_62 ?_
      refine lv_eqi (show (nI cm + 1) = nI (cm + 1) from nI_1 _) ?_
      refine va_put (D := D) (ci := 2) (v := .int (nI (cm + 1))) (ty := .int) (C := RX2) (T := TX2) (N := 7) hx hb hts (fun w h => lw_in w (inX2 w h)) tyX2 tyX2_ok nmX2 hown hK hP hD hS 0 rfl rfl 6 (by decide) (hts _ (lw_in _ t_118)) (fun _ h9 => h9) rfl (by decide +kernel) rfl rfl (Nat.le_of_ble_eq_true rfl) dX2_come_63 (fun H locs hP hD hS => ?_)
      have hP : va_P D vwCl (wD h k tx ln (nbL (pnL x rd nm np 0 0) nx np 0 0) false (cm + 1) R (nm, nx, np, fi, la, em)) H := hP
      have hD : va_D A (wD h k tx ln (nbL (pnL x rd nm np 0 0) nx np 0 0) false (cm + 1) R (nm, nx, np, fi, la, em)) := hD
      refine lv_iconst (v := 1) hx hb dX2_come_66 (by decide) ?_
      exact ct_endi hx hb hr hlocks rfl hP hD hS (by simp [c_16, c_45]) (by simp [bI, c_16]) dX2_come_67
    · have c_45 : ¬ ((pnL x rd nm np 0 0) &&& la) = 0 := fun z => c_45 ((lg_cmp_eq _ _).mpr z)
      refine lv_iconst (v := 1) hx hb dX2_come_48 (by decide) ?_
      refine lv_goto (tgt := 53) hx hb dX2_come_49 (by decide) ?_
      refine lv_eqi (show 1 = bI true from rfl) ?_
      refine va_put (D := D) (ci := 2) (v := .int (bI true)) (ty := .boolean) (C := RX2) (T := TX2) (N := 7) hx hb hts (fun w h => lw_in w (inX2 w h)) tyX2 tyX2_ok nmX2 hown hK hP hD hS 0 rfl rfl 5 (by decide) (hts _ (lw_in _ t_117)) (fun _ h9 => h9) rfl (by decide +kernel) (bI_narrow _) (bI_fits _) (Nat.le_of_ble_eq_true rfl) dX2_come_53 (fun H locs hP hD hS => ?_)
      have hP : va_P D vwCl (wD h k tx ln (nbL (pnL x rd nm np 0 0) nx np 0 0) true cm R (nm, nx, np, fi, la, em)) H := hP
      have hD : va_D A (wD h k tx ln (nbL (pnL x rd nm np 0 0) nx np 0 0) true cm R (nm, nx, np, fi, la, em)) := hD
      refine lv_aload_n hx hb dX2_come_56 rfl (lv_at hl 1 rfl) ?_
      refine lv_dup hx hb dX2_come_57 rfl ?_
      refine va_get (D := D) (ci := 2) (v := .int (nI cm)) (C := RX2) (T := TX2) (N := 7) hx hb hts (fun w h => lw_in w (inX2 w h)) hown hK hP 0 rfl rfl 6 (by decide) (hts _ (lw_in _ t_118)) (fun _ h9 => h9) rfl dX2_come_58 ?_
      refine lv_iconst (v := 1) hx hb dX2_come_61 (by decide) ?_
      refine lv_iadd hx hb dX2_come_62 ?_
      refine lv_eqi (show (nI cm + 1) = nI (cm + 1) from nI_1 _) ?_
      refine va_put (D := D) (ci := 2) (v := .int (nI (cm + 1))) (ty := .int) (C := RX2) (T := TX2) (N := 7) hx hb hts (fun w h => lw_in w (inX2 w h)) tyX2 tyX2_ok nmX2 hown hK hP hD hS 0 rfl rfl 6 (by decide) (hts _ (lw_in _ t_118)) (fun _ h9 => h9) rfl (by decide +kernel) rfl rfl (Nat.le_of_ble_eq_true rfl) dX2_come_63 (fun H locs hP hD hS => ?_)
      have hP : va_P D vwCl (wD h k tx ln (nbL (pnL x rd nm np 0 0) nx np 0 0) true (cm + 1) R (nm, nx, np, fi, la, em)) H := hP
      have hD : va_D A (wD h k tx ln (nbL (pnL x rd nm np 0 0) nx np 0 0) true (cm + 1) R (nm, nx, np, fi, la, em)) := hD
      refine lv_iconst (v := 1) hx hb dX2_come_66 (by decide) ?_
      exact ct_endi hx hb hr hlocks rfl hP hD hS (by simp [c_16, c_45]) (by simp [bI, c_16]) dX2_come_67
  · have c_16 : (pnL x rd nm np 0 0) = 0 := (lg_cmp_eq _ _).mp c_16
    refine lv_iconst (v := 0) hx hb dX2_come_19 (by decide) ?_
    exact ct_endi hx hb hr hlocks rfl hP hD hS (by simp [c_16]) (by simp [bI, c_16]) dX2_come_20

set_option maxHeartbeats 4000000 in
set_option maxRecDepth 100000 in
theorem k_D_may (l : Launch) (D : va_G) (h : Nat → Nat) (k : Nat → ClassId) (tx : Nat → Int32) (ln : Nat) (rd : Int64) (wh : Bool) (cm : Nat) (R : RS) (nm : Nat → Int32) (nx : Nat → Int64) (np : Nat) (fi : Int64) (la : Int64) (em : Bool)  (hnp : np ≤ 60) :
    Ct l yX2_may wsX2_may (rmN 2) D vwCl (tyD k) [.ref (h 0)] (wD h k tx ln rd wh cm R (nm, nx, np, fi, la, em)) (wD h k tx ln rd wh cm R (nm, nx, np, fi, la, em)) (some (.int (noL rd nm np 0 0))) := by
  refine Ct.of (cc := cX2_may) (maxL := 1) (ret := (some .int)) (lv := [(0, .ref (h 0))]) (by decide) rfl (Nat.le_of_ble_eq_true rfl) rfl ?_
  intro p e s m below meth c A ls hx hb hr hml hts hown hlocks hK hP hD hS hA hl
  refine lv_aload_n hx hb dX2_may_0 rfl (lv_at hl 0 rfl) ?_
  refine va_get (D := D) (ci := 2) (v := .ref (h 7)) (C := RX2) (T := TX2) (N := 7) hx hb hts (fun w h => lw_in w (inX2 w h)) hown hK hP 0 rfl rfl 3 (by decide) (hts _ (lw_in _ t_115)) (fun _ h9 => h9) rfl dX2_may_1 ?_
  refine lv_aload_n hx hb dX2_may_4 rfl (lv_at hl 0 rfl) ?_
  refine va_get (D := D) (ci := 2) (v := .long rd) (C := RX2) (T := TX2) (N := 7) hx hb hts (fun w h => lw_in w (inX2 w h)) hown hK hP 0 rfl rfl 4 (by decide) (hts _ (lw_in _ t_116)) (fun _ h9 => h9) rfl dX2_may_5 ?_
  refine ct_callV (As := [.long rd]) (rest := []) ⟨hx, hb, hml, hown, hts⟩ (k_M_namesOf l D h k tx ln rd wh cm R nm nx np fi la em rd (by omega)) (cwV 1 hts (gV lw_in t_274 t_275 t_276 t_25 t_277) rfl rfl rfl (by decide +kernel) ⟨Nat.le_of_ble_eq_true rfl, Nat.le_of_ble_eq_true rfl⟩) 7 rfl rfl hK hP hD hS hA rfl hl.1 rfl (Nat.le_of_ble_eq_true rfl) dX2_may_8 ⟨Nat.zero_le _, Nat.zero_le _⟩ (fun H locs hP hD hS => ?_)
  refine W.eq (g2 := F0 m 11 ls [.int (noL rd nm np 0 0)]) rfl ?_
  exact ct_endi hx hb hr hlocks rfl hP hD hS rfl rfl dX2_may_11

set_option maxHeartbeats 4000000 in
set_option maxRecDepth 100000 in
theorem k_D_again (l : Launch) (D : va_G) (h : Nat → Nat) (k : Nat → ClassId) (tx : Nat → Int32) (ln : Nat) (rd : Int64) (wh : Bool) (cm : Nat) (R : RS) (nm : Nat → Int32) (nx : Nat → Int64) (np : Nat) (fi : Int64) (la : Int64) (em : Bool)   :
    Ct l yX2_again wsX2_again (rmN 1) D vwCl (tyD k) [.ref (h 0)] (wD h k tx ln rd wh cm R (nm, nx, np, fi, la, em)) (wD h k tx ln fi em 0 R (nm, nx, np, fi, la, em)) (some (.int (nI cm))) := by
  refine Ct.of (cc := cX2_again) (maxL := 2) (ret := (some .int)) (lv := [(0, .ref (h 0))]) (by decide) rfl (Nat.le_of_ble_eq_true rfl) rfl ?_
  intro p e s m below meth c A ls hx hb hr hml hts hown hlocks hK hP hD hS hA hl
  refine lv_aload_n hx hb dX2_again_0 rfl (lv_at hl 0 rfl) ?_
  refine va_get (D := D) (ci := 2) (v := .int (nI cm)) (C := RX2) (T := TX2) (N := 7) hx hb hts (fun w h => lw_in w (inX2 w h)) hown hK hP 0 rfl rfl 6 (by decide) (hts _ (lw_in _ t_118)) (fun _ h9 => h9) rfl dX2_again_1 ?_
  refine lv_istore_n (lv' := [(1, .int (nI cm)), (0, .ref (h 0))]) hx hb dX2_again_4 rfl hl (by decide) rfl (fun ls hl => ?_)
  refine lv_aload_n hx hb dX2_again_5 rfl (lv_at hl 1 rfl) ?_
  refine ct_callV (As := []) (rest := []) ⟨hx, hb, hml, hown, hts⟩ (k_D_startRow l D h k tx ln rd wh cm R nm nx np fi la em) (cwV 0 hts (gV lw_in t_210 t_212 t_8 t_23 t_213) rfl rfl rfl (by decide +kernel) ⟨Nat.le_of_ble_eq_true rfl, Nat.le_of_ble_eq_true rfl⟩) 0 rfl rfl hK hP hD hS hA rfl hl.1 rfl (Nat.le_of_ble_eq_true rfl) dX2_again_6 ⟨Nat.zero_le _, Nat.zero_le _⟩ (fun H locs hP hD hS => ?_)
  refine W.eq (g2 := F0 m 9 ls []) rfl ?_
  have hP : va_P D vwCl (wD h k tx ln fi em 0 R (nm, nx, np, fi, la, em)) H := hP
  have hD : va_D A (wD h k tx ln fi em 0 R (nm, nx, np, fi, la, em)) := hD
  refine lv_iload_n hx hb dX2_again_9 rfl (lv_at hl 0 rfl) ?_
  exact ct_endi hx hb hr hlocks rfl hP hD hS rfl rfl dX2_again_10

set_option maxHeartbeats 4000000 in
set_option maxRecDepth 100000 in
theorem k_D_put (l : Launch) (D : va_G) (h : Nat → Nat) (k : Nat → ClassId) (tx : Nat → Int32) (ln : Nat) (rd : Int64) (wh : Bool) (cm : Nat) (R : RS) (M : MS) (v : Int64) (x : Int32) (hln : ln ≤ 300) :
    Ct l yX2_put wsX2_put (rmN 0) D vwCl (tyD k) [.ref (h 0), .long v, .int x] (wD h k tx ln rd wh cm R M) (wD h k (d_put tx ln v x).1 (d_put tx ln v x).2.1 rd wh cm R M) (some (.int (bI (d_put tx ln v x).2.2))) := by
  refine Ct.of (cc := cX2_put) (maxL := 5) (ret := (some .boolean)) (lv := [(0, .ref (h 0)), (1, .long v), (3, .int x)]) (by decide) rfl (Nat.le_of_ble_eq_true rfl) rfl ?_
  intro p e s m below meth c A ls hx hb hr hml hts hown hlocks hK hP hD hS hA hl
  refine lv_iload_n hx hb dX2_put_0 rfl (lv_at hl 2 rfl) ?_
  refine lv_iconst (v := 1) hx hb dX2_put_1 (by decide) ?_
  refine lv_icmp_lt (tgt := 23) hx hb dX2_put_2 (by decide) (fun c_2 => ?_) (fun c_2 => ?_)
  · have c_2 : x < 1 := c_2
    refine lv_iconst (v := 0) hx hb dX2_put_23 (by decide) ?_
    have e_24 : d_put tx ln v x = (tx, ln, false) := by unfold d_put; rw [if_pos c_2]
    exact ct_endi hx hb hr hlocks rfl hP hD hS (by rw [e_24]) (by rw [e_24]; rfl) dX2_put_24
  · have c_2 : ¬ x < 1 := c_2
    refine lv_iload_n hx hb dX2_put_5 rfl (lv_at hl 2 rfl) ?_
    refine lv_bipush (v := 8) hx hb dX2_put_6 (by decide) ?_
    refine lv_icmp_gt (tgt := 23) hx hb dX2_put_8 (by decide) (fun c_8 => ?_) (fun c_8 => ?_)
    · have c_8 : 8 < x := c_8
      refine lv_iconst (v := 0) hx hb dX2_put_23 (by decide) ?_
      have e_24 : d_put tx ln v x = (tx, ln, false) := by unfold d_put; rw [if_neg c_2, if_pos c_8]
      exact ct_endi hx hb hr hlocks rfl hP hD hS (by rw [e_24]) (by rw [e_24]; rfl) dX2_put_24
    · have c_8 : ¬ 8 < x := c_8
      obtain ⟨q, hq1, hq8, rfl⟩ : ∃ q : Nat, 1 ≤ q ∧ q ≤ 8 ∧ x = nI q := p_count c_2 c_8
      refine lv_aload_n hx hb dX2_put_11 rfl (lv_at hl 0 rfl) ?_
      refine va_get (D := D) (ci := 2) (v := .int (nI ln)) (C := RX2) (T := TX2) (N := 7) hx hb hts (fun w h => lw_in w (inX2 w h)) hown hK hP 0 rfl rfl 1 (by decide) (hts _ (lw_in _ t_113)) (fun _ h9 => h9) rfl dX2_put_12 ?_
      refine lv_iload_n hx hb dX2_put_15 rfl (lv_at hl 2 rfl) ?_
      refine lv_iadd hx hb dX2_put_16 ?_
      refine lv_eqi (show (nI ln + nI q) = nI (ln + q) from nI_add _ _) ?_
      refine lv_sipush (v := 300) hx hb dX2_put_17 (by decide) ?_
      refine lv_icmp_le (tgt := 25) hx hb dX2_put_20 (by decide) (fun c_20 => ?_) (fun c_20 => ?_)
      · have c_20 : (ln + q) ≤ 300 := (nI_leI (a := (ln + q)) (b := 300) (by omega) (by omega)).mp c_20
        refine lv_iload_n hx hb dX2_put_25 rfl (lv_at hl 2 rfl) ?_
        refine lv_iconst (v := 1) hx hb dX2_put_26 (by decide) ?_
        refine lv_isub hx hb dX2_put_27 ?_
        refine lv_istore (lv' := [(4, .int (nI q - 1)), (0, .ref (h 0)), (1, .long v), (3, .int (nI q))]) hx hb dX2_put_28 hl (by decide) rfl (fun ls hl => ?_)
        have loop : ∀ (n : Nat) (tx1 : Nat → Int32) (ln1 : Nat), ln1 + n ≤ 300 → ln1 + n = ln + q → ptL v n ln1 tx1 = ptL v q ln tx → ∀ (H : Heap) (locs : List Loc), va_P D vwCl (wD h k tx1 ln1 rd wh cm R M) H → va_D A (wD h k tx1 ln1 rd wh cm R M) → va_S A s.heap H locs → ∀ ls : Array Slot, lv_has ls 5 [(4, .int (nI n - 1)), (0, .ref (h 0)), (1, .long v), (3, .int (nI q))] →
            W p l e (rmN 0) s m ([.ref (h 0), .long v, .int (nI q)] : List Value).toArray below meth c H locs 0 0 (MQ below (CtQ D vwCl A (wD h k (d_put tx ln v (nI q)).1 (d_put tx ln v (nI q)).2.1 rd wh cm R M) (some (.int (bI (d_put tx ln v (nI q)).2.2)))) ([.ref (h 0), .long v, .int (nI q)] : List Value).toArray s 0 0 A) (F0 m 30 ls []) := by
          intro n
          induction n with
          | zero =>
            intro tx1 ln1 hi hln he H locs hP hD hS ls hl
            refine lv_iload hx hb dX2_put_30 (lv_at hl 0 rfl) ?_
            refine lv_if_lt (tgt := 69) hx hb dX2_put_32 (by decide) (fun c_32 => ?_) (fun c_32 => ?_)
            · have c_32 : (nI 0 - 1) < 0 := c_32
              refine lv_iconst (v := 1) hx hb dX2_put_69 (by decide) ?_
              have e_69 : d_put tx ln v (nI q) = (ptL v q ln tx, ln + q, true) := by unfold d_put; rw [if_neg c_2, if_neg c_8, nI_clamp (by omega), if_neg (by omega)]
              have e_70 : ln1 = ln + q := by omega
              exact ct_endi hx hb hr hlocks rfl hP hD hS (by rw [e_69, ← he, ← e_70]; rfl) (by rw [e_69]; rfl) dX2_put_70
            · have c_32 : ¬ (nI 0 - 1) < 0 := c_32
              exact absurd (by decide) c_32
          | succ n ih =>
            intro tx1 ln1 hi hln he H locs hP hD hS ls hl
            rw [nI_pred n] at hl
            refine lv_iload hx hb dX2_put_30 (lv_at hl 0 rfl) ?_
            refine lv_if_lt (tgt := 69) hx hb dX2_put_32 (by decide) (fun c_32 => ?_) (fun c_32 => ?_)
            · have c_32 : n < 0 := (nI_ltI (a := n) (b := 0) (by omega) (by omega)).mp c_32
              exact absurd c_32 (Nat.not_lt_zero _)
            · have c_32 : 0 ≤ n := Nat.le_of_not_lt (fun z => c_32 ((nI_ltI (a := n) (b := 0) (by omega) (by omega)).mpr z))
              refine lv_aload_n hx hb dX2_put_35 rfl (lv_at hl 1 rfl) ?_
              refine va_get (D := D) (ci := 2) (v := .ref (h 1)) (C := RX2) (T := TX2) (N := 7) hx hb hts (fun w h => lw_in w (inX2 w h)) hown hK hP 0 rfl rfl 0 (by decide) (hts _ (lw_in _ t_112)) (fun _ h9 => h9) rfl dX2_put_36 ?_
              refine lv_aload_n hx hb dX2_put_39 rfl (lv_at hl 1 rfl) ?_
              refine va_get (D := D) (ci := 2) (v := .int (nI ln1)) (C := RX2) (T := TX2) (N := 7) hx hb hts (fun w h => lw_in w (inX2 w h)) hown hK hP 0 rfl rfl 1 (by decide) (hts _ (lw_in _ t_113)) (fun _ h9 => h9) rfl dX2_put_40 ?_
              refine lv_lload_n hx hb dX2_put_43 rfl (lv_at hl 2 rfl) ?_
              refine lv_bipush (v := 8) hx hb dX2_put_44 (by decide) ?_
              refine lv_iload hx hb dX2_put_46 (lv_at hl 0 rfl) ?_
              refine lv_imul hx hb dX2_put_48 ?_
              refine lv_lushr (v := (v.toUInt64 >>> ((8 * nI n).toInt64.toUInt64 &&& Int64.toUInt64 63)).toInt64) hx hb dX2_put_49 rfl ?_
              refine lv_l2i (v := ((v.toUInt64 >>> ((8 * nI n).toInt64.toUInt64 &&& Int64.toUInt64 63)).toInt64).toInt32) hx hb dX2_put_50 rfl ?_
              refine lv_i2b (v := (((v.toUInt64 >>> ((8 * nI n).toInt64.toUInt64 &&& Int64.toUInt64 63)).toInt64).toInt32).toInt8.toInt32) hx hb dX2_put_51 rfl ?_
              refine wx_bast hx hb hK hP hD hS 1 0 rfl rfl (i := ln1) (by omega) (by decide) dX2_put_52 (fun H locs hP hD hS => ?_)
              have hP : va_P D vwCl (wD h k (upd tx1 ln1 (((((v.toUInt64 >>> ((8 * nI n).toInt64.toUInt64 &&& Int64.toUInt64 63)).toInt64).toInt32).toInt8.toInt32).toInt8.toInt32)) ln1 rd wh cm R M) H := hP
              have hD : va_D A (wD h k (upd tx1 ln1 (((((v.toUInt64 >>> ((8 * nI n).toInt64.toUInt64 &&& Int64.toUInt64 63)).toInt64).toInt32).toInt8.toInt32).toInt8.toInt32)) ln1 rd wh cm R M) := hD
              refine lv_aload_n hx hb dX2_put_53 rfl (lv_at hl 1 rfl) ?_
              refine lv_dup hx hb dX2_put_54 rfl ?_
              refine va_get (D := D) (ci := 2) (v := .int (nI ln1)) (C := RX2) (T := TX2) (N := 7) hx hb hts (fun w h => lw_in w (inX2 w h)) hown hK hP 0 rfl rfl 1 (by decide) (hts _ (lw_in _ t_113)) (fun _ h9 => h9) rfl dX2_put_55 ?_
              refine lv_iconst (v := 1) hx hb dX2_put_58 (by decide) ?_
              refine lv_iadd hx hb dX2_put_59 ?_
              refine lv_eqi (show (nI ln1 + 1) = nI (ln1 + 1) from nI_1 _) ?_
              refine va_put (D := D) (ci := 2) (v := .int (nI (ln1 + 1))) (ty := .int) (C := RX2) (T := TX2) (N := 7) hx hb hts (fun w h => lw_in w (inX2 w h)) tyX2 tyX2_ok nmX2 hown hK hP hD hS 0 rfl rfl 1 (by decide) (hts _ (lw_in _ t_113)) (fun _ h9 => h9) rfl (by decide +kernel) rfl rfl (Nat.le_of_ble_eq_true rfl) dX2_put_60 (fun H locs hP hD hS => ?_)
              have hP : va_P D vwCl (wD h k (upd tx1 ln1 (((((v.toUInt64 >>> ((8 * nI n).toInt64.toUInt64 &&& Int64.toUInt64 63)).toInt64).toInt32).toInt8.toInt32).toInt8.toInt32)) (ln1 + 1) rd wh cm R M) H := hP
              have hD : va_D A (wD h k (upd tx1 ln1 (((((v.toUInt64 >>> ((8 * nI n).toInt64.toUInt64 &&& Int64.toUInt64 63)).toInt64).toInt32).toInt8.toInt32).toInt8.toInt32)) (ln1 + 1) rd wh cm R M) := hD
              refine lv_iinc (v := (nI n - 1)) (lv' := [(4, .int (nI n - 1)), (0, .ref (h 0)), (1, .long v), (3, .int (nI q))]) hx hb dX2_put_63 hl (k := 0) rfl (i_m1 _) (by decide) rfl (fun ls hl => ?_)
              refine lv_goto (tgt := 30) hx hb dX2_put_66 (by decide) ?_
              exact ih (upd tx1 ln1 (((((v.toUInt64 >>> ((8 * nI n).toInt64.toUInt64 &&& Int64.toUInt64 63)).toInt64).toInt32).toInt8.toInt32).toInt8.toInt32)) (ln1 + 1) (by omega) (by omega) (by rw [← he, ptL, byteOf]) _ _ hP hD hS _ (lv_sub hl [0, 1, 2, 3] rfl)
        exact loop q tx ln (by omega) rfl rfl _ _ hP hD hS _ (lv_sub hl [0, 1, 2, 3] rfl)
      · have c_20 : 300 < (ln + q) := Nat.lt_of_not_le (fun z => c_20 ((nI_leI (a := (ln + q)) (b := 300) (by omega) (by omega)).mpr z))
        refine lv_iconst (v := 0) hx hb dX2_put_23 (by decide) ?_
        have e_24 : d_put tx ln v (nI q) = (tx, ln, false) := by unfold d_put; rw [if_neg c_2, if_neg c_8, nI_clamp (by omega), if_pos (by omega)]
        exact ct_endi hx hb hr hlocks rfl hP hD hS (by rw [e_24]) (by rw [e_24]; rfl) dX2_put_24

theorem k_M_clear_o (l : Launch) (D : va_G) (h : Nat → Nat) (k : Nat → ClassId) (tx : Nat → Int32) (ln : Nat) (rd : Int64) (wh : Bool) (cm : Nat) (R : RS) (M : MS) :
    Ct l yX0_clear wsX0_clear (rmN 0) D vwCl (tyD k) [.ref (h 7)] (wD h k tx ln rd wh cm R M) (wD h k tx ln rd wh cm R (m_clear M)) none := by
  obtain ⟨nm, nx, np, fi, la, em⟩ := M
  exact k_M_clear l D h k tx ln rd wh cm R nm nx np fi la em
