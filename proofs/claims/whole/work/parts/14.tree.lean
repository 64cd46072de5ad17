/-! The methods of the reference: tree (laid by program) -/
set_option maxHeartbeats 4000000 in
set_option maxRecDepth 100000 in
theorem k_E_isSign (l : Launch) (D : va_G) (h : Nat → Nat) (k : Nat → ClassId) (tx : Nat → Int32) (sz : Nat) (im : Bool) (cm : Nat) (nw : Int64) (T : TS) (x : Int32)   :
    Ct l yX3_isSign wsX3_isSign (rmN 0) D vwCl (tyM k) [.int x] (wM h k tx sz im cm nw T) (wM h k tx sz im cm nw T) (some (.int (bI (r_isSign x)))) := by
  refine Ct.of (cc := cX3_isSign) (maxL := 1) (ret := (some .boolean)) (lv := [(0, .int x)]) (by decide) rfl (Nat.le_of_ble_eq_true rfl) rfl ?_
  intro p e s m below meth c A ls hx hb hr hml hts hown hlocks hK hP hD hS hA hl
  refine lv_iload_n hx hb dX3_isSign_0 rfl (lv_at hl 0 rfl) ?_
  refine lv_bipush (v := 63) hx hb dX3_isSign_1 (by decide) ?_
  refine lv_icmp_eq (tgt := 18) hx hb dX3_isSign_3 (by decide) (fun c_3 => ?_) (fun c_3 => ?_)
  · have c_3 : x = 63 := c_3
    refine lv_iconst (v := 1) hx hb dX3_isSign_18 (by decide) ?_
    refine lv_goto (tgt := 23) hx hb dX3_isSign_19 (by decide) ?_
    exact ct_endi hx hb hr hlocks rfl hP hD hS rfl (by simp [r_isSign, bI, c_3]) dX3_isSign_23
  · have c_3 : ¬ x = 63 := c_3
    refine lv_iload_n hx hb dX3_isSign_6 rfl (lv_at hl 0 rfl) ?_
    refine lv_bipush (v := 42) hx hb dX3_isSign_7 (by decide) ?_
    refine lv_icmp_eq (tgt := 18) hx hb dX3_isSign_9 (by decide) (fun c_9 => ?_) (fun c_9 => ?_)
    · have c_9 : x = 42 := c_9
      refine lv_iconst (v := 1) hx hb dX3_isSign_18 (by decide) ?_
      refine lv_goto (tgt := 23) hx hb dX3_isSign_19 (by decide) ?_
      exact ct_endi hx hb hr hlocks rfl hP hD hS rfl (by simp [r_isSign, bI, c_3, c_9]) dX3_isSign_23
    · have c_9 : ¬ x = 42 := c_9
      refine lv_iload_n hx hb dX3_isSign_12 rfl (lv_at hl 0 rfl) ?_
      refine lv_bipush (v := 43) hx hb dX3_isSign_13 (by decide) ?_
      refine lv_icmp_ne (tgt := 22) hx hb dX3_isSign_15 (by decide) (fun c_15 => ?_) (fun c_15 => ?_)
      · have c_15 : ¬ x = 43 := c_15
        refine lv_iconst (v := 0) hx hb dX3_isSign_22 (by decide) ?_
        exact ct_endi hx hb hr hlocks rfl hP hD hS rfl (by simp [r_isSign, bI, c_3, c_9, c_15]) dX3_isSign_23
      · have c_15 : x = 43 := c_15
        refine lv_iconst (v := 1) hx hb dX3_isSign_18 (by decide) ?_
        refine lv_goto (tgt := 23) hx hb dX3_isSign_19 (by decide) ?_
        exact ct_endi hx hb hr hlocks rfl hP hD hS rfl (by simp [r_isSign, bI, c_3, c_9, c_15]) dX3_isSign_23

set_option maxHeartbeats 4000000 in
set_option maxRecDepth 100000 in
theorem k_E_at (l : Launch) (D : va_G) (h : Nat → Nat) (k : Nat → ClassId) (tx : Nat → Int32) (sz : Nat) (im : Bool) (cm : Nat) (nw : Int64) (T : TS) (i : Nat)  (hsz : sz ≤ 300) (hi : i ≤ 400) :
    Ct l yX3_at wsX3_at (rmN 0) D vwCl (tyM k) [.ref (h 0), .int (nI i)] (wM h k tx sz im cm nw T) (wM h k tx sz im cm nw T) (some (.int (atF tx sz i))) := by
  refine Ct.of (cc := cX3_at) (maxL := 2) (ret := (some .int)) (lv := [(0, .ref (h 0)), (1, .int (nI i))]) (by decide) rfl (Nat.le_of_ble_eq_true rfl) rfl ?_
  intro p e s m below meth c A ls hx hb hr hml hts hown hlocks hK hP hD hS hA hl
  refine lv_iload_n hx hb dX3_at_0 rfl (lv_at hl 1 rfl) ?_
  refine lv_aload_n hx hb dX3_at_1 rfl (lv_at hl 0 rfl) ?_
  refine va_get (D := D) (ci := 3) (v := .int (nI sz)) (C := RX3) (T := TX3) (N := 18) hx hb hts (fun w h => lw_in w (inX3 w h)) hown hK hP 0 rfl rfl 1 (by decide) (hts _ (lw_in _ t_289)) (fun _ h9 => h9) rfl dX3_at_2 ?_
  refine lv_icmp_ge (tgt := 17) hx hb dX3_at_5 (by decide) (fun c_5 => ?_) (fun c_5 => ?_)
  · have c_5 : sz ≤ i := (nI_leI (a := sz) (b := i) (by omega) (by omega)).mp c_5
    refine lv_iconst (v := -1) hx hb dX3_at_17 (by decide) ?_
    exact ct_endi hx hb hr hlocks rfl hP hD hS rfl (by rw [atF, if_neg (Nat.not_lt.mpr c_5)]) dX3_at_18
  · have c_5 : i < sz := Nat.lt_of_not_le (fun z => c_5 ((nI_leI (a := sz) (b := i) (by omega) (by omega)).mpr z))
    refine lv_aload_n hx hb dX3_at_8 rfl (lv_at hl 0 rfl) ?_
    refine va_get (D := D) (ci := 3) (v := .ref (h 1)) (C := RX3) (T := TX3) (N := 18) hx hb hts (fun w h => lw_in w (inX3 w h)) hown hK hP 0 rfl rfl 0 (by decide) (hts _ (lw_in _ t_288)) (fun _ h9 => h9) rfl dX3_at_9 ?_
    refine lv_iload_n hx hb dX3_at_12 rfl (lv_at hl 1 rfl) ?_
    refine wx_iald hx hb hK hP 1 0 rfl rfl (i := i) (by omega) (by decide) dX3_at_13 ?_
    refine lv_goto (tgt := 18) hx hb dX3_at_14 (by decide) ?_
    exact ct_endi hx hb hr hlocks rfl hP hD hS rfl (by rw [atF, if_pos c_5]) dX3_at_18

set_option maxHeartbeats 4000000 in
set_option maxRecDepth 100000 in
theorem k_E_open (l : Launch) (D : va_G) (h : Nat → Nat) (k : Nat → ClassId) (tx : Nat → Int32) (sz : Nat) (im : Bool) (cm : Nat) (nw : Int64) (nd : Nat) (kd : Nat → Int32) (pa : Nat → Option Nat) (be : Nat → Option Nat) (af : Nat → Option Nat) (mi : Nat → Bool) (np : Nat) (lf : Nat → Nat) (nm : Nat → Int32) (dp : Nat) (la : Nat → Option Nat) (so : Nat → Int32) (ro : Nat)   (hdp : dp ≤ 12) :
    Ct l yX3_open wsX3_open (rmN 0) D vwCl (tyM k) [.ref (h 0)] (wM h k tx sz im cm nw (nd, kd, pa, be, af, mi, np, lf, nm, dp, la, so, ro)) (wM h k tx sz im cm nw (if dp = 12 then (nd, kd, pa, be, af, mi, np, lf, nm, dp, la, so, ro) else t_open (nd, kd, pa, be, af, mi, np, lf, nm, dp, la, so, ro))) (some (.int (bI (decide (¬ dp = 12))))) := by
  refine Ct.of (cc := cX3_open) (maxL := 1) (ret := (some .boolean)) (lv := [(0, .ref (h 0))]) (by decide) rfl (Nat.le_of_ble_eq_true rfl) rfl ?_
  intro p e s m below meth c A ls hx hb hr hml hts hown hlocks hK hP hD hS hA hl
  refine lv_aload_n hx hb dX3_open_0 rfl (lv_at hl 0 rfl) ?_
  refine va_get (D := D) (ci := 3) (v := .int (nI dp)) (C := RX3) (T := TX3) (N := 18) hx hb hts (fun w h => lw_in w (inX3 w h)) hown hK hP 0 rfl rfl 12 (by decide) (hts _ (lw_in _ t_300)) (fun _ h9 => h9) rfl dX3_open_1 ?_
  refine lv_bipush (v := 12) hx hb dX3_open_4 (by decide) ?_
  refine lv_icmp_ne (tgt := 11) hx hb dX3_open_6 (by decide) (fun c_6 => ?_) (fun c_6 => ?_)
  · have c_6 : ¬ dp = 12 := id (fun z => c_6 ((nI_eq (a := dp) (b := 12) (by omega) (by omega)).mpr z))
    refine lv_aload_n hx hb dX3_open_11 rfl (lv_at hl 0 rfl) ?_
    refine va_get (D := D) (ci := 3) (v := .ref (h 9)) (C := RX3) (T := TX3) (N := 18) hx hb hts (fun w h => lw_in w (inX3 w h)) hown hK hP 0 rfl rfl 13 (by decide) (hts _ (lw_in _ t_301)) (fun _ h9 => h9) rfl dX3_open_12 ?_
    refine lv_aload_n hx hb dX3_open_15 rfl (lv_at hl 0 rfl) ?_
    refine va_get (D := D) (ci := 3) (v := .int (nI dp)) (C := RX3) (T := TX3) (N := 18) hx hb hts (fun w h => lw_in w (inX3 w h)) hown hK hP 0 rfl rfl 12 (by decide) (hts _ (lw_in _ t_300)) (fun _ h9 => h9) rfl dX3_open_16 ?_
    refine lv_iconst (v := -1) hx hb dX3_open_19 (by decide) ?_
    refine wx_past (x := none) (g := la) hx hb hK hP hD hS 9 8 rfl rfl (i := dp) (by omega) (by decide) dX3_open_20 (fun H locs hP hD hS => ?_)
    have hP : va_P D vwCl (wM h k tx sz im cm nw (nd, kd, pa, be, af, mi, np, lf, nm, dp, (va_up la dp none), so, ro)) H := hP
    have hD : va_D A (wM h k tx sz im cm nw (nd, kd, pa, be, af, mi, np, lf, nm, dp, (va_up la dp none), so, ro)) := hD
    refine lv_aload_n hx hb dX3_open_21 rfl (lv_at hl 0 rfl) ?_
    refine va_get (D := D) (ci := 3) (v := .ref (h 10)) (C := RX3) (T := TX3) (N := 18) hx hb hts (fun w h => lw_in w (inX3 w h)) hown hK hP 0 rfl rfl 14 (by decide) (hts _ (lw_in _ t_302)) (fun _ h9 => h9) rfl dX3_open_22 ?_
    refine lv_aload_n hx hb dX3_open_25 rfl (lv_at hl 0 rfl) ?_
    refine va_get (D := D) (ci := 3) (v := .int (nI dp)) (C := RX3) (T := TX3) (N := 18) hx hb hts (fun w h => lw_in w (inX3 w h)) hown hK hP 0 rfl rfl 12 (by decide) (hts _ (lw_in _ t_300)) (fun _ h9 => h9) rfl dX3_open_26 ?_
    refine lv_iconst (v := -1) hx hb dX3_open_29 (by decide) ?_
    refine wx_iast hx hb hK hP hD hS 10 9 rfl rfl (i := dp) (by omega) (by decide) dX3_open_30 (fun H locs hP hD hS => ?_)
    have hP : va_P D vwCl (wM h k tx sz im cm nw (nd, kd, pa, be, af, mi, np, lf, nm, dp, (va_up la dp none), (upd so dp (-1)), ro)) H := hP
    have hD : va_D A (wM h k tx sz im cm nw (nd, kd, pa, be, af, mi, np, lf, nm, dp, (va_up la dp none), (upd so dp (-1)), ro)) := hD
    refine lv_aload_n hx hb dX3_open_31 rfl (lv_at hl 0 rfl) ?_
    refine lv_aload_n hx hb dX3_open_32 rfl (lv_at hl 0 rfl) ?_
    refine va_get (D := D) (ci := 3) (v := .int (nI dp)) (C := RX3) (T := TX3) (N := 18) hx hb hts (fun w h => lw_in w (inX3 w h)) hown hK hP 0 rfl rfl 12 (by decide) (hts _ (lw_in _ t_300)) (fun _ h9 => h9) rfl dX3_open_33 ?_
    refine lv_iconst (v := 1) hx hb dX3_open_36 (by decide) ?_
    refine lv_iadd hx hb dX3_open_37 ?_
    refine lv_eqi (show (nI dp + 1) = nI (dp + 1) from nI_1 _) ?_
    refine va_put (D := D) (ci := 3) (v := .int (nI (dp + 1))) (ty := .int) (C := RX3) (T := TX3) (N := 18) hx hb hts (fun w h => lw_in w (inX3 w h)) tyX3 tyX3_ok nmX3 hown hK hP hD hS 0 rfl rfl 12 (by decide) (hts _ (lw_in _ t_300)) (fun _ h9 => h9) rfl (by decide +kernel) rfl rfl (Nat.le_of_ble_eq_true rfl) dX3_open_38 (fun H locs hP hD hS => ?_)
    have hP : va_P D vwCl (wM h k tx sz im cm nw (nd, kd, pa, be, af, mi, np, lf, nm, (dp + 1), (va_up la dp none), (upd so dp (-1)), ro)) H := hP
    have hD : va_D A (wM h k tx sz im cm nw (nd, kd, pa, be, af, mi, np, lf, nm, (dp + 1), (va_up la dp none), (upd so dp (-1)), ro)) := hD
    refine lv_iconst (v := 1) hx hb dX3_open_41 (by decide) ?_
    exact ct_endi hx hb hr hlocks rfl hP hD hS (by simp [t_open, c_6]) (by simp [bI, c_6]) dX3_open_42
  · have c_6 : dp = 12 := (nI_eq (a := dp) (b := 12) (by omega) (by omega)).mp c_6
    refine lv_iconst (v := 0) hx hb dX3_open_9 (by decide) ?_
    exact ct_endi hx hb hr hlocks rfl hP hD hS (by simp [t_open, c_6]) (by simp [bI, c_6]) dX3_open_10

set_option maxHeartbeats 4000000 in
set_option maxRecDepth 100000 in
theorem k_E_node (l : Launch) (D : va_G) (h : Nat → Nat) (k : Nat → ClassId) (tx : Nat → Int32) (sz : Nat) (im : Bool) (cm : Nat) (nw : Int64) (nd : Nat) (kd : Nat → Int32) (pa : Nat → Option Nat) (be : Nat → Option Nat) (af : Nat → Option Nat) (mi : Nat → Bool) (np : Nat) (lf : Nat → Nat) (nm : Nat → Int32) (dp : Nat) (la : Nat → Option Nat) (so : Nat → Int32) (ro : Nat) (x : Int32)  (hnd : nd < 700) :
    Ct l yX3_node wsX3_node (rmN 0) D vwCl (tyM k) [.ref (h 0), .int x] (wM h k tx sz im cm nw (nd, kd, pa, be, af, mi, np, lf, nm, dp, la, so, ro)) (wM h k tx sz im cm nw (t_node (nd, kd, pa, be, af, mi, np, lf, nm, dp, la, so, ro) x)) (some (.int (nI nd))) := by
  refine Ct.of (cc := cX3_node) (maxL := 2) (ret := (some .int)) (lv := [(0, .ref (h 0)), (1, .int x)]) (by decide) rfl (Nat.le_of_ble_eq_true rfl) rfl ?_
  intro p e s m below meth c A ls hx hb hr hml hts hown hlocks hK hP hD hS hA hl
  refine lv_aload_n hx hb dX3_node_0 rfl (lv_at hl 0 rfl) ?_
  refine va_get (D := D) (ci := 3) (v := .ref (h 2)) (C := RX3) (T := TX3) (N := 18) hx hb hts (fun w h => lw_in w (inX3 w h)) hown hK hP 0 rfl rfl 3 (by decide) (hts _ (lw_in _ t_291)) (fun _ h9 => h9) rfl dX3_node_1 ?_
  refine lv_aload_n hx hb dX3_node_4 rfl (lv_at hl 0 rfl) ?_
  refine va_get (D := D) (ci := 3) (v := .int (nI nd)) (C := RX3) (T := TX3) (N := 18) hx hb hts (fun w h => lw_in w (inX3 w h)) hown hK hP 0 rfl rfl 2 (by decide) (hts _ (lw_in _ t_290)) (fun _ h9 => h9) rfl dX3_node_5 ?_
  refine lv_iload_n hx hb dX3_node_8 rfl (lv_at hl 1 rfl) ?_
  refine wx_iast hx hb hK hP hD hS 2 1 rfl rfl (i := nd) hnd (by decide) dX3_node_9 (fun H locs hP hD hS => ?_)
  have hP : va_P D vwCl (wM h k tx sz im cm nw (nd, (upd kd nd x), pa, be, af, mi, np, lf, nm, dp, la, so, ro)) H := hP
  have hD : va_D A (wM h k tx sz im cm nw (nd, (upd kd nd x), pa, be, af, mi, np, lf, nm, dp, la, so, ro)) := hD
  refine lv_aload_n hx hb dX3_node_10 rfl (lv_at hl 0 rfl) ?_
  refine va_get (D := D) (ci := 3) (v := .ref (h 3)) (C := RX3) (T := TX3) (N := 18) hx hb hts (fun w h => lw_in w (inX3 w h)) hown hK hP 0 rfl rfl 4 (by decide) (hts _ (lw_in _ t_292)) (fun _ h9 => h9) rfl dX3_node_11 ?_
  refine lv_aload_n hx hb dX3_node_14 rfl (lv_at hl 0 rfl) ?_
  refine va_get (D := D) (ci := 3) (v := .int (nI nd)) (C := RX3) (T := TX3) (N := 18) hx hb hts (fun w h => lw_in w (inX3 w h)) hown hK hP 0 rfl rfl 2 (by decide) (hts _ (lw_in _ t_290)) (fun _ h9 => h9) rfl dX3_node_15 ?_
  refine lv_iconst (v := -1) hx hb dX3_node_18 (by decide) ?_
  refine wx_past (x := none) (g := pa) hx hb hK hP hD hS 3 2 rfl rfl (i := nd) hnd (by decide) dX3_node_19 (fun H locs hP hD hS => ?_)
  have hP : va_P D vwCl (wM h k tx sz im cm nw (nd, (upd kd nd x), (va_up pa nd none), be, af, mi, np, lf, nm, dp, la, so, ro)) H := hP
  have hD : va_D A (wM h k tx sz im cm nw (nd, (upd kd nd x), (va_up pa nd none), be, af, mi, np, lf, nm, dp, la, so, ro)) := hD
  refine lv_aload_n hx hb dX3_node_20 rfl (lv_at hl 0 rfl) ?_
  refine va_get (D := D) (ci := 3) (v := .ref (h 4)) (C := RX3) (T := TX3) (N := 18) hx hb hts (fun w h => lw_in w (inX3 w h)) hown hK hP 0 rfl rfl 5 (by decide) (hts _ (lw_in _ t_293)) (fun _ h9 => h9) rfl dX3_node_21 ?_
  refine lv_aload_n hx hb dX3_node_24 rfl (lv_at hl 0 rfl) ?_
  refine va_get (D := D) (ci := 3) (v := .int (nI nd)) (C := RX3) (T := TX3) (N := 18) hx hb hts (fun w h => lw_in w (inX3 w h)) hown hK hP 0 rfl rfl 2 (by decide) (hts _ (lw_in _ t_290)) (fun _ h9 => h9) rfl dX3_node_25 ?_
  refine lv_iconst (v := -1) hx hb dX3_node_28 (by decide) ?_
  refine wx_past (x := none) (g := be) hx hb hK hP hD hS 4 3 rfl rfl (i := nd) hnd (by decide) dX3_node_29 (fun H locs hP hD hS => ?_)
  have hP : va_P D vwCl (wM h k tx sz im cm nw (nd, (upd kd nd x), (va_up pa nd none), (va_up be nd none), af, mi, np, lf, nm, dp, la, so, ro)) H := hP
  have hD : va_D A (wM h k tx sz im cm nw (nd, (upd kd nd x), (va_up pa nd none), (va_up be nd none), af, mi, np, lf, nm, dp, la, so, ro)) := hD
  refine lv_aload_n hx hb dX3_node_30 rfl (lv_at hl 0 rfl) ?_
  refine va_get (D := D) (ci := 3) (v := .ref (h 5)) (C := RX3) (T := TX3) (N := 18) hx hb hts (fun w h => lw_in w (inX3 w h)) hown hK hP 0 rfl rfl 6 (by decide) (hts _ (lw_in _ t_294)) (fun _ h9 => h9) rfl dX3_node_31 ?_
  refine lv_aload_n hx hb dX3_node_34 rfl (lv_at hl 0 rfl) ?_
  refine va_get (D := D) (ci := 3) (v := .int (nI nd)) (C := RX3) (T := TX3) (N := 18) hx hb hts (fun w h => lw_in w (inX3 w h)) hown hK hP 0 rfl rfl 2 (by decide) (hts _ (lw_in _ t_290)) (fun _ h9 => h9) rfl dX3_node_35 ?_
  refine lv_iconst (v := -1) hx hb dX3_node_38 (by decide) ?_
  refine wx_past (x := none) (g := af) hx hb hK hP hD hS 5 4 rfl rfl (i := nd) hnd (by decide) dX3_node_39 (fun H locs hP hD hS => ?_)
  have hP : va_P D vwCl (wM h k tx sz im cm nw (nd, (upd kd nd x), (va_up pa nd none), (va_up be nd none), (va_up af nd none), mi, np, lf, nm, dp, la, so, ro)) H := hP
  have hD : va_D A (wM h k tx sz im cm nw (nd, (upd kd nd x), (va_up pa nd none), (va_up be nd none), (va_up af nd none), mi, np, lf, nm, dp, la, so, ro)) := hD
  refine lv_aload_n hx hb dX3_node_40 rfl (lv_at hl 0 rfl) ?_
  refine va_get (D := D) (ci := 3) (v := .ref (h 6)) (C := RX3) (T := TX3) (N := 18) hx hb hts (fun w h => lw_in w (inX3 w h)) hown hK hP 0 rfl rfl 7 (by decide) (hts _ (lw_in _ t_295)) (fun _ h9 => h9) rfl dX3_node_41 ?_
  refine lv_aload_n hx hb dX3_node_44 rfl (lv_at hl 0 rfl) ?_
  refine va_get (D := D) (ci := 3) (v := .int (nI nd)) (C := RX3) (T := TX3) (N := 18) hx hb hts (fun w h => lw_in w (inX3 w h)) hown hK hP 0 rfl rfl 2 (by decide) (hts _ (lw_in _ t_290)) (fun _ h9 => h9) rfl dX3_node_45 ?_
  refine lv_iload_n hx hb dX3_node_48 rfl (lv_at hl 1 rfl) ?_
  refine lv_iconst (v := 3) hx hb dX3_node_49 (by decide) ?_
  refine lv_icmp_eq (tgt := 58) hx hb dX3_node_50 (by decide) (fun c_50 => ?_) (fun c_50 => ?_)
  · have c_50 : x = 3 := c_50
    refine lv_iconst (v := 1) hx hb dX3_node_58 (by decide) ?_
    refine lv_goto (tgt := 63) hx hb dX3_node_59 (by decide) ?_
    refine wx_zastB (x := true) (g := mi) hx hb hK hP hD hS 6 5 rfl rfl (i := nd) hnd (by decide) dX3_node_63 (fun H locs hP hD hS => ?_)
    have hP : va_P D vwCl (wM h k tx sz im cm nw (nd, (upd kd nd x), (va_up pa nd none), (va_up be nd none), (va_up af nd none), (va_up mi nd true), np, lf, nm, dp, la, so, ro)) H := hP
    have hD : va_D A (wM h k tx sz im cm nw (nd, (upd kd nd x), (va_up pa nd none), (va_up be nd none), (va_up af nd none), (va_up mi nd true), np, lf, nm, dp, la, so, ro)) := hD
    refine lv_aload_n hx hb dX3_node_64 rfl (lv_at hl 0 rfl) ?_
    refine lv_aload_n hx hb dX3_node_65 rfl (lv_at hl 0 rfl) ?_
    refine va_get (D := D) (ci := 3) (v := .int (nI nd)) (C := RX3) (T := TX3) (N := 18) hx hb hts (fun w h => lw_in w (inX3 w h)) hown hK hP 0 rfl rfl 2 (by decide) (hts _ (lw_in _ t_290)) (fun _ h9 => h9) rfl dX3_node_66 ?_
    refine lv_iconst (v := 1) hx hb dX3_node_69 (by decide) ?_
    refine lv_iadd hx hb dX3_node_70 ?_
    refine lv_eqi (show (nI nd + 1) = nI (nd + 1) from nI_1 _) ?_
    refine va_put (D := D) (ci := 3) (v := .int (nI (nd + 1))) (ty := .int) (C := RX3) (T := TX3) (N := 18) hx hb hts (fun w h => lw_in w (inX3 w h)) tyX3 tyX3_ok nmX3 hown hK hP hD hS 0 rfl rfl 2 (by decide) (hts _ (lw_in _ t_290)) (fun _ h9 => h9) rfl (by decide +kernel) rfl rfl (Nat.le_of_ble_eq_true rfl) dX3_node_71 (fun H locs hP hD hS => ?_)
    have hP : va_P D vwCl (wM h k tx sz im cm nw ((nd + 1), (upd kd nd x), (va_up pa nd none), (va_up be nd none), (va_up af nd none), (va_up mi nd true), np, lf, nm, dp, la, so, ro)) H := hP
    have hD : va_D A (wM h k tx sz im cm nw ((nd + 1), (upd kd nd x), (va_up pa nd none), (va_up be nd none), (va_up af nd none), (va_up mi nd true), np, lf, nm, dp, la, so, ro)) := hD
    refine lv_aload_n hx hb dX3_node_74 rfl (lv_at hl 0 rfl) ?_
    refine va_get (D := D) (ci := 3) (v := .int (nI (nd + 1))) (C := RX3) (T := TX3) (N := 18) hx hb hts (fun w h => lw_in w (inX3 w h)) hown hK hP 0 rfl rfl 2 (by decide) (hts _ (lw_in _ t_290)) (fun _ h9 => h9) rfl dX3_node_75 ?_
    refine lv_iconst (v := 1) hx hb dX3_node_78 (by decide) ?_
    refine lv_isub hx hb dX3_node_79 ?_
    refine lv_eqi (show (nI (nd + 1) - 1) = nI nd from nI_pred _) ?_
    exact ct_endi hx hb hr hlocks rfl hP hD hS (by simp [t_node, nkM, c_50]) rfl dX3_node_80
  · have c_50 : ¬ x = 3 := c_50
    refine lv_iload_n hx hb dX3_node_53 rfl (lv_at hl 1 rfl) ?_
    refine lv_iconst (v := 4) hx hb dX3_node_54 (by decide) ?_
    refine lv_icmp_ne (tgt := 62) hx hb dX3_node_55 (by decide) (fun c_55 => ?_) (fun c_55 => ?_)
    · have c_55 : ¬ x = 4 := c_55
      refine lv_iconst (v := 0) hx hb dX3_node_62 (by decide) ?_
      refine wx_zastB (x := false) (g := mi) hx hb hK hP hD hS 6 5 rfl rfl (i := nd) hnd (by decide) dX3_node_63 (fun H locs hP hD hS => ?_)
      have hP : va_P D vwCl (wM h k tx sz im cm nw (nd, (upd kd nd x), (va_up pa nd none), (va_up be nd none), (va_up af nd none), (va_up mi nd false), np, lf, nm, dp, la, so, ro)) H := hP
      have hD : va_D A (wM h k tx sz im cm nw (nd, (upd kd nd x), (va_up pa nd none), (va_up be nd none), (va_up af nd none), (va_up mi nd false), np, lf, nm, dp, la, so, ro)) := hD
      refine lv_aload_n hx hb dX3_node_64 rfl (lv_at hl 0 rfl) ?_
      refine lv_aload_n hx hb dX3_node_65 rfl (lv_at hl 0 rfl) ?_
      refine va_get (D := D) (ci := 3) (v := .int (nI nd)) (C := RX3) (T := TX3) (N := 18) hx hb hts (fun w h => lw_in w (inX3 w h)) hown hK hP 0 rfl rfl 2 (by decide) (hts _ (lw_in _ t_290)) (fun _ h9 => h9) rfl dX3_node_66 ?_
      refine lv_iconst (v := 1) hx hb dX3_node_69 (by decide) ?_
      refine lv_iadd hx hb dX3_node_70 ?_
      refine lv_eqi (show (nI nd + 1) = nI (nd + 1) from nI_1 _) ?_
      refine va_put (D := D) (ci := 3) (v := .int (nI (nd + 1))) (ty := .int) (C := RX3) (T := TX3) (N := 18) hx hb hts (fun w h => lw_in w (inX3 w h)) tyX3 tyX3_ok nmX3 hown hK hP hD hS 0 rfl rfl 2 (by decide) (hts _ (lw_in _ t_290)) (fun _ h9 => h9) rfl (by decide +kernel) rfl rfl (Nat.le_of_ble_eq_true rfl) dX3_node_71 (fun H locs hP hD hS => ?_)
      have hP : va_P D vwCl (wM h k tx sz im cm nw ((nd + 1), (upd kd nd x), (va_up pa nd none), (va_up be nd none), (va_up af nd none), (va_up mi nd false), np, lf, nm, dp, la, so, ro)) H := hP
      have hD : va_D A (wM h k tx sz im cm nw ((nd + 1), (upd kd nd x), (va_up pa nd none), (va_up be nd none), (va_up af nd none), (va_up mi nd false), np, lf, nm, dp, la, so, ro)) := hD
      refine lv_aload_n hx hb dX3_node_74 rfl (lv_at hl 0 rfl) ?_
      refine va_get (D := D) (ci := 3) (v := .int (nI (nd + 1))) (C := RX3) (T := TX3) (N := 18) hx hb hts (fun w h => lw_in w (inX3 w h)) hown hK hP 0 rfl rfl 2 (by decide) (hts _ (lw_in _ t_290)) (fun _ h9 => h9) rfl dX3_node_75 ?_
      refine lv_iconst (v := 1) hx hb dX3_node_78 (by decide) ?_
      refine lv_isub hx hb dX3_node_79 ?_
      refine lv_eqi (show (nI (nd + 1) - 1) = nI nd from nI_pred _) ?_
      exact ct_endi hx hb hr hlocks rfl hP hD hS (by simp [t_node, nkM, c_50, c_55]) rfl dX3_node_80
    · have c_55 : x = 4 := c_55
      refine lv_iconst (v := 1) hx hb dX3_node_58 (by decide) ?_
      refine lv_goto (tgt := 63) hx hb dX3_node_59 (by decide) ?_
      refine wx_zastB (x := true) (g := mi) hx hb hK hP hD hS 6 5 rfl rfl (i := nd) hnd (by decide) dX3_node_63 (fun H locs hP hD hS => ?_)
      have hP : va_P D vwCl (wM h k tx sz im cm nw (nd, (upd kd nd x), (va_up pa nd none), (va_up be nd none), (va_up af nd none), (va_up mi nd true), np, lf, nm, dp, la, so, ro)) H := hP
      have hD : va_D A (wM h k tx sz im cm nw (nd, (upd kd nd x), (va_up pa nd none), (va_up be nd none), (va_up af nd none), (va_up mi nd true), np, lf, nm, dp, la, so, ro)) := hD
      refine lv_aload_n hx hb dX3_node_64 rfl (lv_at hl 0 rfl) ?_
      refine lv_aload_n hx hb dX3_node_65 rfl (lv_at hl 0 rfl) ?_
      refine va_get (D := D) (ci := 3) (v := .int (nI nd)) (C := RX3) (T := TX3) (N := 18) hx hb hts (fun w h => lw_in w (inX3 w h)) hown hK hP 0 rfl rfl 2 (by decide) (hts _ (lw_in _ t_290)) (fun _ h9 => h9) rfl dX3_node_66 ?_
      refine lv_iconst (v := 1) hx hb dX3_node_69 (by decide) ?_
      refine lv_iadd hx hb dX3_node_70 ?_
      refine lv_eqi (show (nI nd + 1) = nI (nd + 1) from nI_1 _) ?_
      refine va_put (D := D) (ci := 3) (v := .int (nI (nd + 1))) (ty := .int) (C := RX3) (T := TX3) (N := 18) hx hb hts (fun w h => lw_in w (inX3 w h)) tyX3 tyX3_ok nmX3 hown hK hP hD hS 0 rfl rfl 2 (by decide) (hts _ (lw_in _ t_290)) (fun _ h9 => h9) rfl (by decide +kernel) rfl rfl (Nat.le_of_ble_eq_true rfl) dX3_node_71 (fun H locs hP hD hS => ?_)
      have hP : va_P D vwCl (wM h k tx sz im cm nw ((nd + 1), (upd kd nd x), (va_up pa nd none), (va_up be nd none), (va_up af nd none), (va_up mi nd true), np, lf, nm, dp, la, so, ro)) H := hP
      have hD : va_D A (wM h k tx sz im cm nw ((nd + 1), (upd kd nd x), (va_up pa nd none), (va_up be nd none), (va_up af nd none), (va_up mi nd true), np, lf, nm, dp, la, so, ro)) := hD
      refine lv_aload_n hx hb dX3_node_74 rfl (lv_at hl 0 rfl) ?_
      refine va_get (D := D) (ci := 3) (v := .int (nI (nd + 1))) (C := RX3) (T := TX3) (N := 18) hx hb hts (fun w h => lw_in w (inX3 w h)) hown hK hP 0 rfl rfl 2 (by decide) (hts _ (lw_in _ t_290)) (fun _ h9 => h9) rfl dX3_node_75 ?_
      refine lv_iconst (v := 1) hx hb dX3_node_78 (by decide) ?_
      refine lv_isub hx hb dX3_node_79 ?_
      refine lv_eqi (show (nI (nd + 1) - 1) = nI nd from nI_pred _) ?_
      exact ct_endi hx hb hr hlocks rfl hP hD hS (by simp [t_node, nkM, c_50, c_55]) rfl dX3_node_80

set_option maxHeartbeats 4000000 in
set_option maxRecDepth 100000 in
theorem k_E_add (l : Launch) (D : va_G) (h : Nat → Nat) (k : Nat → ClassId) (tx : Nat → Int32) (sz : Nat) (im : Bool) (cm : Nat) (nw : Int64) (nd : Nat) (kd : Nat → Int32) (pa : Nat → Option Nat) (be : Nat → Option Nat) (af : Nat → Option Nat) (mi : Nat → Bool) (np : Nat) (lf : Nat → Nat) (nm : Nat → Int32) (d : Nat) (la : Nat → Option Nat) (so : Nat → Int32) (ro : Nat) (n : Nat)  (hn : n < 700) (hd : d < 12) (hla : ∀ s, la d = some s → s < 700) :
    Ct l yX3_add wsX3_add (rmN 0) D vwCl (tyM k) [.ref (h 0), .int (nI n)] (wM h k tx sz im cm nw (nd, kd, pa, be, af, mi, np, lf, nm, (d + 1), la, so, ro)) (wM h k tx sz im cm nw (t_add (nd, kd, pa, be, af, mi, np, lf, nm, d + 1, la, so, ro) d n)) none := by
  refine Ct.of (cc := cX3_add) (maxL := 3) (ret := none) (lv := [(0, .ref (h 0)), (1, .int (nI n))]) (by decide) rfl (Nat.le_of_ble_eq_true rfl) rfl ?_
  intro p e s m below meth c A ls hx hb hr hml hts hown hlocks hK hP hD hS hA hl
  refine lv_aload_n hx hb dX3_add_0 rfl (lv_at hl 0 rfl) ?_
  refine va_get (D := D) (ci := 3) (v := .ref (h 9)) (C := RX3) (T := TX3) (N := 18) hx hb hts (fun w h => lw_in w (inX3 w h)) hown hK hP 0 rfl rfl 13 (by decide) (hts _ (lw_in _ t_301)) (fun _ h9 => h9) rfl dX3_add_1 ?_
  refine lv_aload_n hx hb dX3_add_4 rfl (lv_at hl 0 rfl) ?_
  refine va_get (D := D) (ci := 3) (v := .int (nI (d + 1))) (C := RX3) (T := TX3) (N := 18) hx hb hts (fun w h => lw_in w (inX3 w h)) hown hK hP 0 rfl rfl 12 (by decide) (hts _ (lw_in _ t_300)) (fun _ h9 => h9) rfl dX3_add_5 ?_
  refine lv_iconst (v := 1) hx hb dX3_add_8 (by decide) ?_
  refine lv_isub hx hb dX3_add_9 ?_
  refine lv_eqi (show (nI (d + 1) - 1) = nI d from nI_pred _) ?_
  refine wx_pald hx hb hK hP 9 8 rfl rfl (i := d) hd (by decide) dX3_add_10 ?_
  refine W.eq (g2 := F0 m 11 ls [.int (pI (la d))]) rfl ?_
  rcases e_10 : la d with _ | x10
  · refine W.eq (g2 := F0 m 11 ls [.int (-1)]) rfl ?_
    refine lv_istore_n (lv' := [(2, .int (-1)), (0, .ref (h 0)), (1, .int (nI n))]) hx hb dX3_add_11 rfl hl (by decide) rfl (fun ls hl => ?_)
    refine lv_aload_n hx hb dX3_add_12 rfl (lv_at hl 1 rfl) ?_
    refine va_get (D := D) (ci := 3) (v := .ref (h 4)) (C := RX3) (T := TX3) (N := 18) hx hb hts (fun w h => lw_in w (inX3 w h)) hown hK hP 0 rfl rfl 5 (by decide) (hts _ (lw_in _ t_293)) (fun _ h9 => h9) rfl dX3_add_13 ?_
    refine lv_iload_n hx hb dX3_add_16 rfl (lv_at hl 2 rfl) ?_
    refine lv_iload_n hx hb dX3_add_17 rfl (lv_at hl 0 rfl) ?_
    refine wx_past (x := none) (g := be) hx hb hK hP hD hS 4 3 rfl rfl (i := n) hn (by decide) dX3_add_18 (fun H locs hP hD hS => ?_)
    have hP : va_P D vwCl (wM h k tx sz im cm nw (nd, kd, pa, (va_up be n none), af, mi, np, lf, nm, (d + 1), la, so, ro)) H := hP
    have hD : va_D A (wM h k tx sz im cm nw (nd, kd, pa, (va_up be n none), af, mi, np, lf, nm, (d + 1), la, so, ro)) := hD
    refine lv_iload_n hx hb dX3_add_19 rfl (lv_at hl 0 rfl) ?_
    refine lv_if_lt (tgt := 30) hx hb dX3_add_20 (by decide) (fun c_20 => ?_) (fun c_20 => ?_)
    · refine lv_aload_n hx hb dX3_add_30 rfl (lv_at hl 1 rfl) ?_
      refine va_get (D := D) (ci := 3) (v := .ref (h 9)) (C := RX3) (T := TX3) (N := 18) hx hb hts (fun w h => lw_in w (inX3 w h)) hown hK hP 0 rfl rfl 13 (by decide) (hts _ (lw_in _ t_301)) (fun _ h9 => h9) rfl dX3_add_31 ?_
      refine lv_aload_n hx hb dX3_add_34 rfl (lv_at hl 1 rfl) ?_
      refine va_get (D := D) (ci := 3) (v := .int (nI (d + 1))) (C := RX3) (T := TX3) (N := 18) hx hb hts (fun w h => lw_in w (inX3 w h)) hown hK hP 0 rfl rfl 12 (by decide) (hts _ (lw_in _ t_300)) (fun _ h9 => h9) rfl dX3_add_35 ?_
      refine lv_iconst (v := 1) hx hb dX3_add_38 (by decide) ?_
      refine lv_isub hx hb dX3_add_39 ?_
      refine lv_eqi (show (nI (d + 1) - 1) = nI d from nI_pred _) ?_
      refine lv_iload_n hx hb dX3_add_40 rfl (lv_at hl 2 rfl) ?_
      refine wx_past (x := some n) (g := la) hx hb hK hP hD hS 9 8 rfl rfl (i := d) hd (by decide) dX3_add_41 (fun H locs hP hD hS => ?_)
      have hP : va_P D vwCl (wM h k tx sz im cm nw (nd, kd, pa, (va_up be n none), af, mi, np, lf, nm, (d + 1), (va_up la d (some n)), so, ro)) H := hP
      have hD : va_D A (wM h k tx sz im cm nw (nd, kd, pa, (va_up be n none), af, mi, np, lf, nm, (d + 1), (va_up la d (some n)), so, ro)) := hD
      exact ct_endv hx hb hr hlocks hP hD hS (by simp [t_add, afA, e_10]) rfl dX3_add_42
    · exact absurd (by decide) c_20
  · refine W.eq (g2 := F0 m 11 ls [.int (nI x10)]) rfl ?_
    have b_10 := hla _ e_10
    refine lv_istore_n (lv' := [(2, .int (nI x10)), (0, .ref (h 0)), (1, .int (nI n))]) hx hb dX3_add_11 rfl hl (by decide) rfl (fun ls hl => ?_)
    refine lv_aload_n hx hb dX3_add_12 rfl (lv_at hl 1 rfl) ?_
    refine va_get (D := D) (ci := 3) (v := .ref (h 4)) (C := RX3) (T := TX3) (N := 18) hx hb hts (fun w h => lw_in w (inX3 w h)) hown hK hP 0 rfl rfl 5 (by decide) (hts _ (lw_in _ t_293)) (fun _ h9 => h9) rfl dX3_add_13 ?_
    refine lv_iload_n hx hb dX3_add_16 rfl (lv_at hl 2 rfl) ?_
    refine lv_iload_n hx hb dX3_add_17 rfl (lv_at hl 0 rfl) ?_
    refine wx_past (x := some x10) (g := be) hx hb hK hP hD hS 4 3 rfl rfl (i := n) hn (by decide) dX3_add_18 (fun H locs hP hD hS => ?_)
    have hP : va_P D vwCl (wM h k tx sz im cm nw (nd, kd, pa, (va_up be n (some x10)), af, mi, np, lf, nm, (d + 1), la, so, ro)) H := hP
    have hD : va_D A (wM h k tx sz im cm nw (nd, kd, pa, (va_up be n (some x10)), af, mi, np, lf, nm, (d + 1), la, so, ro)) := hD
    refine lv_iload_n hx hb dX3_add_19 rfl (lv_at hl 0 rfl) ?_
    refine lv_if_lt (tgt := 30) hx hb dX3_add_20 (by decide) (fun c_20 => ?_) (fun c_20 => ?_)
    · have c_20 : x10 < 0 := (nI_ltI (a := x10) (b := 0) (by omega) (by omega)).mp c_20
      exact absurd c_20 (Nat.not_lt_zero _)
    · have c_20 : 0 ≤ x10 := Nat.le_of_not_lt (fun z => c_20 ((nI_ltI (a := x10) (b := 0) (by omega) (by omega)).mpr z))
      refine lv_aload_n hx hb dX3_add_23 rfl (lv_at hl 1 rfl) ?_
      refine va_get (D := D) (ci := 3) (v := .ref (h 5)) (C := RX3) (T := TX3) (N := 18) hx hb hts (fun w h => lw_in w (inX3 w h)) hown hK hP 0 rfl rfl 6 (by decide) (hts _ (lw_in _ t_294)) (fun _ h9 => h9) rfl dX3_add_24 ?_
      refine lv_iload_n hx hb dX3_add_27 rfl (lv_at hl 0 rfl) ?_
      refine lv_iload_n hx hb dX3_add_28 rfl (lv_at hl 2 rfl) ?_
      refine wx_past (x := some n) (g := af) hx hb hK hP hD hS 5 4 rfl rfl (i := x10) (hla _ e_10) (by decide) dX3_add_29 (fun H locs hP hD hS => ?_)
      have hP : va_P D vwCl (wM h k tx sz im cm nw (nd, kd, pa, (va_up be n (some x10)), (va_up af x10 (some n)), mi, np, lf, nm, (d + 1), la, so, ro)) H := hP
      have hD : va_D A (wM h k tx sz im cm nw (nd, kd, pa, (va_up be n (some x10)), (va_up af x10 (some n)), mi, np, lf, nm, (d + 1), la, so, ro)) := hD
      refine lv_aload_n hx hb dX3_add_30 rfl (lv_at hl 1 rfl) ?_
      refine va_get (D := D) (ci := 3) (v := .ref (h 9)) (C := RX3) (T := TX3) (N := 18) hx hb hts (fun w h => lw_in w (inX3 w h)) hown hK hP 0 rfl rfl 13 (by decide) (hts _ (lw_in _ t_301)) (fun _ h9 => h9) rfl dX3_add_31 ?_
      refine lv_aload_n hx hb dX3_add_34 rfl (lv_at hl 1 rfl) ?_
      refine va_get (D := D) (ci := 3) (v := .int (nI (d + 1))) (C := RX3) (T := TX3) (N := 18) hx hb hts (fun w h => lw_in w (inX3 w h)) hown hK hP 0 rfl rfl 12 (by decide) (hts _ (lw_in _ t_300)) (fun _ h9 => h9) rfl dX3_add_35 ?_
      refine lv_iconst (v := 1) hx hb dX3_add_38 (by decide) ?_
      refine lv_isub hx hb dX3_add_39 ?_
      refine lv_eqi (show (nI (d + 1) - 1) = nI d from nI_pred _) ?_
      refine lv_iload_n hx hb dX3_add_40 rfl (lv_at hl 2 rfl) ?_
      refine wx_past (x := some n) (g := la) hx hb hK hP hD hS 9 8 rfl rfl (i := d) hd (by decide) dX3_add_41 (fun H locs hP hD hS => ?_)
      have hP : va_P D vwCl (wM h k tx sz im cm nw (nd, kd, pa, (va_up be n (some x10)), (va_up af x10 (some n)), mi, np, lf, nm, (d + 1), (va_up la d (some n)), so, ro)) H := hP
      have hD : va_D A (wM h k tx sz im cm nw (nd, kd, pa, (va_up be n (some x10)), (va_up af x10 (some n)), mi, np, lf, nm, (d + 1), (va_up la d (some n)), so, ro)) := hD
      exact ct_endv hx hb hr hlocks hP hD hS (by simp [t_add, afA, e_10]) rfl dX3_add_42

set_option maxHeartbeats 4000000 in
set_option maxRecDepth 100000 in
theorem k_E_signed (l : Launch) (D : va_G) (h : Nat → Nat) (k : Nat → ClassId) (tx : Nat → Int32) (sz : Nat) (im : Bool) (cm : Nat) (nw : Int64) (nd : Nat) (kd : Nat → Int32) (pa : Nat → Option Nat) (be : Nat → Option Nat) (af : Nat → Option Nat) (mi : Nat → Bool) (np : Nat) (lf : Nat → Nat) (nm : Nat → Int32) (dp : Nat) (la : Nat → Option Nat) (so : Nat → Int32) (ro : Nat) (n : Nat) (x : Int32)  (hnd : nd < 700) (hn : n < 700) :
    Ct l yX3_signed wsX3_signed (rmN 1) D vwCl (tyM k) [.ref (h 0), .int (nI n), .int x] (wM h k tx sz im cm nw (nd, kd, pa, be, af, mi, np, lf, nm, dp, la, so, ro)) (wM h k tx sz im cm nw (t_sign (nd, kd, pa, be, af, mi, np, lf, nm, dp, la, so, ro) n x)) (some (.int (nI nd))) := by
  refine Ct.of (cc := cX3_signed) (maxL := 4) (ret := (some .int)) (lv := [(0, .ref (h 0)), (1, .int (nI n)), (2, .int x)]) (by decide) rfl (Nat.le_of_ble_eq_true rfl) rfl ?_
  intro p e s m below meth c A ls hx hb hr hml hts hown hlocks hK hP hD hS hA hl
  refine lv_aload_n hx hb dX3_signed_0 rfl (lv_at hl 0 rfl) ?_
  refine lv_iload_n hx hb dX3_signed_1 rfl (lv_at hl 2 rfl) ?_
  refine lv_bipush (v := 63) hx hb dX3_signed_2 (by decide) ?_
  refine lv_icmp_ne (tgt := 11) hx hb dX3_signed_4 (by decide) (fun c_4 => ?_) (fun c_4 => ?_)
  · have c_4 : ¬ x = 63 := c_4
    refine lv_iload_n hx hb dX3_signed_11 rfl (lv_at hl 2 rfl) ?_
    refine lv_bipush (v := 42) hx hb dX3_signed_12 (by decide) ?_
    refine lv_icmp_ne (tgt := 21) hx hb dX3_signed_14 (by decide) (fun c_14 => ?_) (fun c_14 => ?_)
    · have c_14 : ¬ x = 42 := c_14
      refine lv_iconst (v := 5) hx hb dX3_signed_21 (by decide) ?_
      refine ct_callV (As := [.int 5]) (rest := []) ⟨hx, hb, hml, hown, hts⟩ (k_E_node l D h k tx sz im cm nw nd kd pa be af mi np lf nm dp la so ro 5  (by omega)) (cwV 1 hts (gV lw_in t_364 t_366 t_13 t_26 t_367) rfl rfl rfl (by decide +kernel) ⟨Nat.le_of_ble_eq_true rfl, Nat.le_of_ble_eq_true rfl⟩) 0 rfl rfl hK hP hD hS hA rfl hl.1 rfl (Nat.le_of_ble_eq_true rfl) dX3_signed_22 ⟨Nat.zero_le _, Nat.zero_le _⟩ (fun H locs hP hD hS => ?_)
      refine W.eq (g2 := F0 m 25 ls [.int (nI nd)]) rfl ?_
      have hP : va_P D vwCl (wM h k tx sz im cm nw ((nd + 1), (upd kd nd 5), (va_up pa nd none), (va_up be nd none), (va_up af nd none), (va_up mi nd (nkM 5)), np, lf, nm, dp, la, so, ro)) H := hP
      have hD : va_D A (wM h k tx sz im cm nw ((nd + 1), (upd kd nd 5), (va_up pa nd none), (va_up be nd none), (va_up af nd none), (va_up mi nd (nkM 5)), np, lf, nm, dp, la, so, ro)) := hD
      refine lv_istore_n (lv' := [(3, .int (nI nd)), (0, .ref (h 0)), (1, .int (nI n)), (2, .int x)]) hx hb dX3_signed_25 rfl hl (by decide) rfl (fun ls hl => ?_)
      refine lv_aload_n hx hb dX3_signed_26 rfl (lv_at hl 1 rfl) ?_
      refine va_get (D := D) (ci := 3) (v := .ref (h 3)) (C := RX3) (T := TX3) (N := 18) hx hb hts (fun w h => lw_in w (inX3 w h)) hown hK hP 0 rfl rfl 4 (by decide) (hts _ (lw_in _ t_292)) (fun _ h9 => h9) rfl dX3_signed_27 ?_
      refine lv_iload_n hx hb dX3_signed_30 rfl (lv_at hl 2 rfl) ?_
      refine lv_iload_n hx hb dX3_signed_31 rfl (lv_at hl 0 rfl) ?_
      refine wx_past (x := some nd) (g := (va_up pa nd none)) hx hb hK hP hD hS 3 2 rfl rfl (i := n) hn (by decide) dX3_signed_32 (fun H locs hP hD hS => ?_)
      have hP : va_P D vwCl (wM h k tx sz im cm nw ((nd + 1), (upd kd nd 5), (va_up (va_up pa nd none) n (some nd)), (va_up be nd none), (va_up af nd none), (va_up mi nd (nkM 5)), np, lf, nm, dp, la, so, ro)) H := hP
      have hD : va_D A (wM h k tx sz im cm nw ((nd + 1), (upd kd nd 5), (va_up (va_up pa nd none) n (some nd)), (va_up be nd none), (va_up af nd none), (va_up mi nd (nkM 5)), np, lf, nm, dp, la, so, ro)) := hD
      refine lv_iload_n hx hb dX3_signed_33 rfl (lv_at hl 3 rfl) ?_
      refine lv_bipush (v := 43) hx hb dX3_signed_34 (by decide) ?_
      refine lv_icmp_ne (tgt := 51) hx hb dX3_signed_36 (by decide) (fun c_36 => ?_) (fun c_36 => ?_)
      · have c_36 : ¬ x = 43 := c_36
        refine lv_iload_n hx hb dX3_signed_51 rfl (lv_at hl 0 rfl) ?_
        exact ct_endi hx hb hr hlocks rfl hP hD hS (by simp [t_sign, sgK, sgM, c_4, c_14, c_36]) rfl dX3_signed_52
      · have c_36 : x = 43 := c_36
        refine lv_aload_n hx hb dX3_signed_39 rfl (lv_at hl 1 rfl) ?_
        refine va_get (D := D) (ci := 3) (v := .ref (h 6)) (C := RX3) (T := TX3) (N := 18) hx hb hts (fun w h => lw_in w (inX3 w h)) hown hK hP 0 rfl rfl 7 (by decide) (hts _ (lw_in _ t_295)) (fun _ h9 => h9) rfl dX3_signed_40 ?_
        refine lv_iload_n hx hb dX3_signed_43 rfl (lv_at hl 0 rfl) ?_
        refine lv_aload_n hx hb dX3_signed_44 rfl (lv_at hl 1 rfl) ?_
        refine va_get (D := D) (ci := 3) (v := .ref (h 6)) (C := RX3) (T := TX3) (N := 18) hx hb hts (fun w h => lw_in w (inX3 w h)) hown hK hP 0 rfl rfl 7 (by decide) (hts _ (lw_in _ t_295)) (fun _ h9 => h9) rfl dX3_signed_45 ?_
        refine lv_iload_n hx hb dX3_signed_48 rfl (lv_at hl 2 rfl) ?_
        refine wx_zald hx hb hK hP 6 5 rfl rfl (i := n) hn (by decide) dX3_signed_49 ?_
        refine wx_zastB (x := ((va_up mi nd (nkM 5)) n)) (g := (va_up mi nd (nkM 5))) hx hb hK hP hD hS 6 5 rfl rfl (i := nd) hnd (by decide) dX3_signed_50 (fun H locs hP hD hS => ?_)
        have hP : va_P D vwCl (wM h k tx sz im cm nw ((nd + 1), (upd kd nd 5), (va_up (va_up pa nd none) n (some nd)), (va_up be nd none), (va_up af nd none), (va_up (va_up mi nd (nkM 5)) nd ((va_up mi nd (nkM 5)) n)), np, lf, nm, dp, la, so, ro)) H := hP
        have hD : va_D A (wM h k tx sz im cm nw ((nd + 1), (upd kd nd 5), (va_up (va_up pa nd none) n (some nd)), (va_up be nd none), (va_up af nd none), (va_up (va_up mi nd (nkM 5)) nd ((va_up mi nd (nkM 5)) n)), np, lf, nm, dp, la, so, ro)) := hD
        refine lv_iload_n hx hb dX3_signed_51 rfl (lv_at hl 0 rfl) ?_
        exact ct_endi hx hb hr hlocks rfl hP hD hS (by simp [t_sign, sgK, sgM, c_4, c_14, c_36]) rfl dX3_signed_52
    · have c_14 : x = 42 := c_14
      refine lv_iconst (v := 4) hx hb dX3_signed_17 (by decide) ?_
      refine lv_goto (tgt := 22) hx hb dX3_signed_18 (by decide) ?_
      refine ct_callV (As := [.int 4]) (rest := []) ⟨hx, hb, hml, hown, hts⟩ (k_E_node l D h k tx sz im cm nw nd kd pa be af mi np lf nm dp la so ro 4  (by omega)) (cwV 1 hts (gV lw_in t_364 t_366 t_13 t_26 t_367) rfl rfl rfl (by decide +kernel) ⟨Nat.le_of_ble_eq_true rfl, Nat.le_of_ble_eq_true rfl⟩) 0 rfl rfl hK hP hD hS hA rfl hl.1 rfl (Nat.le_of_ble_eq_true rfl) dX3_signed_22 ⟨Nat.zero_le _, Nat.zero_le _⟩ (fun H locs hP hD hS => ?_)
      refine W.eq (g2 := F0 m 25 ls [.int (nI nd)]) rfl ?_
      have hP : va_P D vwCl (wM h k tx sz im cm nw ((nd + 1), (upd kd nd 4), (va_up pa nd none), (va_up be nd none), (va_up af nd none), (va_up mi nd (nkM 4)), np, lf, nm, dp, la, so, ro)) H := hP
      have hD : va_D A (wM h k tx sz im cm nw ((nd + 1), (upd kd nd 4), (va_up pa nd none), (va_up be nd none), (va_up af nd none), (va_up mi nd (nkM 4)), np, lf, nm, dp, la, so, ro)) := hD
      refine lv_istore_n (lv' := [(3, .int (nI nd)), (0, .ref (h 0)), (1, .int (nI n)), (2, .int x)]) hx hb dX3_signed_25 rfl hl (by decide) rfl (fun ls hl => ?_)
      refine lv_aload_n hx hb dX3_signed_26 rfl (lv_at hl 1 rfl) ?_
      refine va_get (D := D) (ci := 3) (v := .ref (h 3)) (C := RX3) (T := TX3) (N := 18) hx hb hts (fun w h => lw_in w (inX3 w h)) hown hK hP 0 rfl rfl 4 (by decide) (hts _ (lw_in _ t_292)) (fun _ h9 => h9) rfl dX3_signed_27 ?_
      refine lv_iload_n hx hb dX3_signed_30 rfl (lv_at hl 2 rfl) ?_
      refine lv_iload_n hx hb dX3_signed_31 rfl (lv_at hl 0 rfl) ?_
      refine wx_past (x := some nd) (g := (va_up pa nd none)) hx hb hK hP hD hS 3 2 rfl rfl (i := n) hn (by decide) dX3_signed_32 (fun H locs hP hD hS => ?_)
      have hP : va_P D vwCl (wM h k tx sz im cm nw ((nd + 1), (upd kd nd 4), (va_up (va_up pa nd none) n (some nd)), (va_up be nd none), (va_up af nd none), (va_up mi nd (nkM 4)), np, lf, nm, dp, la, so, ro)) H := hP
      have hD : va_D A (wM h k tx sz im cm nw ((nd + 1), (upd kd nd 4), (va_up (va_up pa nd none) n (some nd)), (va_up be nd none), (va_up af nd none), (va_up mi nd (nkM 4)), np, lf, nm, dp, la, so, ro)) := hD
      refine lv_iload_n hx hb dX3_signed_33 rfl (lv_at hl 3 rfl) ?_
      refine lv_bipush (v := 43) hx hb dX3_signed_34 (by decide) ?_
      refine lv_icmp_ne (tgt := 51) hx hb dX3_signed_36 (by decide) (fun c_36 => ?_) (fun c_36 => ?_)
      · have c_36 : ¬ x = 43 := c_36
        refine lv_iload_n hx hb dX3_signed_51 rfl (lv_at hl 0 rfl) ?_
        exact ct_endi hx hb hr hlocks rfl hP hD hS (by simp [t_sign, sgK, sgM, c_4, c_14, c_36]) rfl dX3_signed_52
      · have c_36 : x = 43 := c_36
        exact absurd (c_14.symm.trans c_36) (by decide)
  · have c_4 : x = 63 := c_4
    refine lv_iconst (v := 3) hx hb dX3_signed_7 (by decide) ?_
    refine lv_goto (tgt := 22) hx hb dX3_signed_8 (by decide) ?_
    refine ct_callV (As := [.int 3]) (rest := []) ⟨hx, hb, hml, hown, hts⟩ (k_E_node l D h k tx sz im cm nw nd kd pa be af mi np lf nm dp la so ro 3  (by omega)) (cwV 1 hts (gV lw_in t_364 t_366 t_13 t_26 t_367) rfl rfl rfl (by decide +kernel) ⟨Nat.le_of_ble_eq_true rfl, Nat.le_of_ble_eq_true rfl⟩) 0 rfl rfl hK hP hD hS hA rfl hl.1 rfl (Nat.le_of_ble_eq_true rfl) dX3_signed_22 ⟨Nat.zero_le _, Nat.zero_le _⟩ (fun H locs hP hD hS => ?_)
    refine W.eq (g2 := F0 m 25 ls [.int (nI nd)]) rfl ?_
    have hP : va_P D vwCl (wM h k tx sz im cm nw ((nd + 1), (upd kd nd 3), (va_up pa nd none), (va_up be nd none), (va_up af nd none), (va_up mi nd (nkM 3)), np, lf, nm, dp, la, so, ro)) H := hP
    have hD : va_D A (wM h k tx sz im cm nw ((nd + 1), (upd kd nd 3), (va_up pa nd none), (va_up be nd none), (va_up af nd none), (va_up mi nd (nkM 3)), np, lf, nm, dp, la, so, ro)) := hD
    refine lv_istore_n (lv' := [(3, .int (nI nd)), (0, .ref (h 0)), (1, .int (nI n)), (2, .int x)]) hx hb dX3_signed_25 rfl hl (by decide) rfl (fun ls hl => ?_)
    refine lv_aload_n hx hb dX3_signed_26 rfl (lv_at hl 1 rfl) ?_
    refine va_get (D := D) (ci := 3) (v := .ref (h 3)) (C := RX3) (T := TX3) (N := 18) hx hb hts (fun w h => lw_in w (inX3 w h)) hown hK hP 0 rfl rfl 4 (by decide) (hts _ (lw_in _ t_292)) (fun _ h9 => h9) rfl dX3_signed_27 ?_
    refine lv_iload_n hx hb dX3_signed_30 rfl (lv_at hl 2 rfl) ?_
    refine lv_iload_n hx hb dX3_signed_31 rfl (lv_at hl 0 rfl) ?_
    refine wx_past (x := some nd) (g := (va_up pa nd none)) hx hb hK hP hD hS 3 2 rfl rfl (i := n) hn (by decide) dX3_signed_32 (fun H locs hP hD hS => ?_)
    have hP : va_P D vwCl (wM h k tx sz im cm nw ((nd + 1), (upd kd nd 3), (va_up (va_up pa nd none) n (some nd)), (va_up be nd none), (va_up af nd none), (va_up mi nd (nkM 3)), np, lf, nm, dp, la, so, ro)) H := hP
    have hD : va_D A (wM h k tx sz im cm nw ((nd + 1), (upd kd nd 3), (va_up (va_up pa nd none) n (some nd)), (va_up be nd none), (va_up af nd none), (va_up mi nd (nkM 3)), np, lf, nm, dp, la, so, ro)) := hD
    refine lv_iload_n hx hb dX3_signed_33 rfl (lv_at hl 3 rfl) ?_
    refine lv_bipush (v := 43) hx hb dX3_signed_34 (by decide) ?_
    refine lv_icmp_ne (tgt := 51) hx hb dX3_signed_36 (by decide) (fun c_36 => ?_) (fun c_36 => ?_)
    · have c_36 : ¬ x = 43 := c_36
      refine lv_iload_n hx hb dX3_signed_51 rfl (lv_at hl 0 rfl) ?_
      exact ct_endi hx hb hr hlocks rfl hP hD hS (by simp [t_sign, sgK, sgM, c_4, c_36]) rfl dX3_signed_52
    · have c_36 : x = 43 := c_36
      exact absurd (c_4.symm.trans c_36) (by decide)
