/-! The methods of the reference: query2 (laid by program) -/
set_option maxHeartbeats 4000000 in
set_option maxRecDepth 100000 in
theorem k_E_last (l : Launch) (D : va_G) (h : Nat → Nat) (k : Nat → ClassId) (tx : Nat → Int32) (sz : Nat) (im : Bool) (cm : Nat) (nw : Int64) (nd : Nat) (kd : Nat → Int32) (pa : Nat → Option Nat) (be : Nat → Option Nat) (af : Nat → Option Nat) (mi : Nat → Bool) (np : Nat) (lf : Nat → Nat) (nm : Nat → Int32) (dp : Nat) (la : Nat → Option Nat) (so : Nat → Int32) (ro : Nat)  (nb : Nat) (ok : okT nb pa be af np lf) :
    Ct l yX3_last wsX3_last (rmN 1) D vwCl (tyM k) [.ref (h 0)] (wM h k tx sz im cm nw (nd, kd, pa, be, af, mi, np, lf, nm, dp, la, so, ro)) (wM h k tx sz im cm nw (nd, kd, pa, be, af, mi, np, lf, nm, dp, la, so, ro)) (some (.long (laL kd pa af mi lf np 0 0))) := by
  refine Ct.of (cc := cX3_last) (maxL := 4) (ret := (some .long)) (lv := [(0, .ref (h 0))]) (by decide) rfl (Nat.le_of_ble_eq_true rfl) rfl ?_
  intro p e s m below meth c A ls hx hb hr hml hts hown hlocks hK hP hD hS hA hl
  have ok0 := ok
  obtain ⟨hnb, hnp, okP, okB, okA, okL⟩ := ok
  have loop : ∀ (n : Nat) (i : Nat) (r : Int64), (i + n = np) → (laL kd pa af mi lf n i r = laL kd pa af mi lf np 0 0) → ∀ (H : Heap) (locs : List Loc), va_P D vwCl (wM h k tx sz im cm nw (nd, kd, pa, be, af, mi, np, lf, nm, dp, la, so, ro)) H → va_D A (wM h k tx sz im cm nw (nd, kd, pa, be, af, mi, np, lf, nm, dp, la, so, ro)) → va_S A s.heap H locs → ∀ ls : Array Slot, lv_has ls 4 [(3, .int (nI i)), (1, .long r), (0, .ref (h 0))] →
      W p l e (rmN 1) s m ([.ref (h 0)] : List Value).toArray below meth c H locs 0 0 (MQ below (CtQ D vwCl A (wM h k tx sz im cm nw (nd, kd, pa, be, af, mi, np, lf, nm, dp, la, so, ro)) (some (.long (laL kd pa af mi lf np 0 0)))) ([.ref (h 0)] : List Value).toArray s 0 0 A) (F0 m 4 ls []) := by
    intro n
    induction n with
    | zero =>
      intro i r hi he H locs hP hD hS ls hl
      refine lv_iload_n hx hb dX3_last_4 rfl (lv_at hl 0 rfl) ?_
      refine lv_aload_n hx hb dX3_last_5 rfl (lv_at hl 2 rfl) ?_
      refine va_get (D := D) (ci := 3) (v := .int (nI np)) (C := RX3) (T := TX3) (N := 18) hx hb hts (fun w h => lw_in w (inX3 w h)) hown hK hP 0 rfl rfl 8 (by decide) (hts _ (lw_in _ t_296)) (fun _ h9 => h9) rfl dX3_last_6 ?_
      refine lv_icmp_ge (tgt := 36) hx hb dX3_last_9 (by decide) (fun c_9 => ?_) (fun c_9 => ?_)
      · have c_9 : np ≤ i := (nI_leI (a := np) (b := i) (by omega) (by omega)).mp c_9
        refine lv_lload_n hx hb dX3_last_36 rfl (lv_at hl 1 rfl) ?_
        exact ct_endl hx hb hr hlocks hP hD hS rfl (by rw [← he]; rfl) dX3_last_37
      · have c_9 : i < np := Nat.lt_of_not_le (fun z => c_9 ((nI_leI (a := np) (b := i) (by omega) (by omega)).mpr z))
        exact absurd c_9 (by omega)
    | succ n ih =>
      intro i r hi he H locs hP hD hS ls hl
      refine lv_iload_n hx hb dX3_last_4 rfl (lv_at hl 0 rfl) ?_
      refine lv_aload_n hx hb dX3_last_5 rfl (lv_at hl 2 rfl) ?_
      refine va_get (D := D) (ci := 3) (v := .int (nI np)) (C := RX3) (T := TX3) (N := 18) hx hb hts (fun w h => lw_in w (inX3 w h)) hown hK hP 0 rfl rfl 8 (by decide) (hts _ (lw_in _ t_296)) (fun _ h9 => h9) rfl dX3_last_6 ?_
      refine lv_icmp_ge (tgt := 36) hx hb dX3_last_9 (by decide) (fun c_9 => ?_) (fun c_9 => ?_)
      · have c_9 : np ≤ i := (nI_leI (a := np) (b := i) (by omega) (by omega)).mp c_9
        exact absurd c_9 (by omega)
      · have c_9 : i < np := Nat.lt_of_not_le (fun z => c_9 ((nI_leI (a := np) (b := i) (by omega) (by omega)).mpr z))
        refine lv_lload_n hx hb dX3_last_12 rfl (lv_at hl 1 rfl) ?_
        refine lv_aload_n hx hb dX3_last_13 rfl (lv_at hl 2 rfl) ?_
        refine lv_iload_n hx hb dX3_last_14 rfl (lv_at hl 0 rfl) ?_
        refine ct_callV (As := [.int (nI i)]) (rest := [.long r]) ⟨hx, hb, hml, hown, hts⟩ (k_E_ends l D h k tx sz im cm nw nd kd pa be af mi np lf nm dp la so ro i nb ok0 (by omega)) (cwV 1 hts (gV lw_in t_403 t_405 t_19 t_26 t_406) rfl rfl rfl (by decide +kernel) ⟨Nat.le_of_ble_eq_true rfl, Nat.le_of_ble_eq_true rfl⟩) 0 rfl rfl hK hP hD hS hA rfl hl.1 rfl (Nat.le_of_ble_eq_true rfl) dX3_last_15 ⟨Nat.zero_le _, Nat.zero_le _⟩ (fun H locs hP hD hS => ?_)
        refine W.eq (g2 := F0 m 18 ls [.int (bI (edC kd pa af mi 701 (lf i))), .long r]) rfl ?_
        refine lv_if_eq (tgt := 27) hx hb dX3_last_18 (by decide) (fun c_18 => ?_) (fun c_18 => ?_)
        · have c_18 : (edC kd pa af mi 701 (lf i)) = false := (bI_eq0 _).mp c_18
          refine lv_lconst (v := 0) hx hb dX3_last_27 (by decide) ?_
          refine lv_lor hx hb dX3_last_28 ?_
          refine lv_lstore_n (lv' := [(1, .long (r ||| 0)), (3, .int (nI i)), (0, .ref (h 0))]) hx hb dX3_last_29 rfl hl (by decide) rfl (fun ls hl => ?_)
          refine lv_iinc (v := nI (i + 1)) (lv' := [(3, .int (nI (i + 1))), (1, .long (r ||| 0)), (0, .ref (h 0))]) hx hb dX3_last_30 hl (k := 1) rfl (nI_1 _) (by decide) rfl (fun ls hl => ?_)
          refine lv_goto (tgt := 4) hx hb dX3_last_33 (by decide) ?_
          exact ih (i + 1) (r ||| 0) (by omega) (by rw [← he, laL, if_neg (bF c_18)]) _ _ hP hD hS _ (lv_sub hl [0, 1, 2] rfl)
        · have c_18 : (edC kd pa af mi 701 (lf i)) = true := (bI_ne0 _).mp c_18
          refine lv_lconst (v := 1) hx hb dX3_last_21 (by decide) ?_
          refine lv_iload_n hx hb dX3_last_22 rfl (lv_at hl 0 rfl) ?_
          refine lv_lshl (v := ((1 : Int64) <<< ((nI i).toInt64 &&& 63))) hx hb dX3_last_23 rfl ?_
          refine lv_goto (tgt := 28) hx hb dX3_last_24 (by decide) ?_
          refine lv_lor hx hb dX3_last_28 ?_
          refine lv_lstore_n (lv' := [(1, .long (r ||| ((1 : Int64) <<< ((nI i).toInt64 &&& 63)))), (3, .int (nI i)), (0, .ref (h 0))]) hx hb dX3_last_29 rfl hl (by decide) rfl (fun ls hl => ?_)
          refine lv_iinc (v := nI (i + 1)) (lv' := [(3, .int (nI (i + 1))), (1, .long (r ||| ((1 : Int64) <<< ((nI i).toInt64 &&& 63)))), (0, .ref (h 0))]) hx hb dX3_last_30 hl (k := 1) rfl (nI_1 _) (by decide) rfl (fun ls hl => ?_)
          refine lv_goto (tgt := 4) hx hb dX3_last_33 (by decide) ?_
          exact ih (i + 1) (r ||| ((1 : Int64) <<< ((nI i).toInt64 &&& 63))) (by omega) (by rw [← he, laL, if_pos c_18]) _ _ hP hD hS _ (lv_sub hl [0, 1, 2] rfl)
  refine lv_lconst (v := 0) hx hb dX3_last_0 (by decide) ?_
  refine lv_lstore_n (lv' := [(1, .long 0), (0, .ref (h 0))]) hx hb dX3_last_1 rfl hl (by decide) rfl (fun ls hl => ?_)
  refine lv_iconst (v := 0) hx hb dX3_last_2 (by decide) ?_
  refine lv_istore_n (lv' := [(3, .int 0), (1, .long 0), (0, .ref (h 0))]) hx hb dX3_last_3 rfl hl (by decide) rfl (fun ls hl => ?_)
  exact loop np 0 0 (by omega) rfl _ _ hP hD hS _ (lv_sub hl [0, 1, 2] rfl)

set_option maxHeartbeats 4000000 in
set_option maxRecDepth 100000 in
theorem k_E_twice (l : Launch) (D : va_G) (h : Nat → Nat) (k : Nat → ClassId) (tx : Nat → Int32) (sz : Nat) (im : Bool) (cm : Nat) (nw : Int64) (nd : Nat) (kd : Nat → Int32) (pa : Nat → Option Nat) (be : Nat → Option Nat) (af : Nat → Option Nat) (mi : Nat → Bool) (np : Nat) (lf : Nat → Nat) (nm : Nat → Int32) (dp : Nat) (la : Nat → Option Nat) (so : Nat → Int32) (ro : Nat) (a : Int64)  (hnp : np ≤ 60) :
    Ct l yX3_twice wsX3_twice (rmN 0) D vwCl (tyM k) [.ref (h 0), .long a] (wM h k tx sz im cm nw (nd, kd, pa, be, af, mi, np, lf, nm, dp, la, so, ro)) (wM h k tx sz im cm nw (nd, kd, pa, be, af, mi, np, lf, nm, dp, la, so, ro)) (some (.int (twF a nm np))) := by
  refine Ct.of (cc := cX3_twice) (maxL := 7) (ret := (some .int)) (lv := [(0, .ref (h 0)), (1, .long a)]) (by decide) rfl (Nat.le_of_ble_eq_true rfl) rfl ?_
  intro p e s m below meth c A ls hx hb hr hml hts hown hlocks hK hP hD hS hA hl
  have loop : ∀ (n : Nat) (i : Nat) (o : Int32) (t : Int32), (i + n = np) → (twL a nm n i o t = twF a nm np) → ∀ (H : Heap) (locs : List Loc), va_P D vwCl (wM h k tx sz im cm nw (nd, kd, pa, be, af, mi, np, lf, nm, dp, la, so, ro)) H → va_D A (wM h k tx sz im cm nw (nd, kd, pa, be, af, mi, np, lf, nm, dp, la, so, ro)) → va_S A s.heap H locs → ∀ ls : Array Slot, lv_has ls 7 [(5, .int (nI i)), (4, .int t), (3, .int o), (0, .ref (h 0)), (1, .long a)] →
      W p l e (rmN 0) s m ([.ref (h 0), .long a] : List Value).toArray below meth c H locs 0 0 (MQ below (CtQ D vwCl A (wM h k tx sz im cm nw (nd, kd, pa, be, af, mi, np, lf, nm, dp, la, so, ro)) (some (.int (twF a nm np)))) ([.ref (h 0), .long a] : List Value).toArray s 0 0 A) (F0 m 8 ls []) := by
    intro n
    induction n with
    | zero =>
      intro i o t hi he H locs hP hD hS ls hl
      refine lv_iload hx hb dX3_twice_8 (lv_at hl 0 rfl) ?_
      refine lv_aload_n hx hb dX3_twice_10 rfl (lv_at hl 3 rfl) ?_
      refine va_get (D := D) (ci := 3) (v := .int (nI np)) (C := RX3) (T := TX3) (N := 18) hx hb hts (fun w h => lw_in w (inX3 w h)) hown hK hP 0 rfl rfl 8 (by decide) (hts _ (lw_in _ t_296)) (fun _ h9 => h9) rfl dX3_twice_11 ?_
      refine lv_icmp_ge (tgt := 63) hx hb dX3_twice_14 (by decide) (fun c_14 => ?_) (fun c_14 => ?_)
      · have c_14 : np ≤ i := (nI_leI (a := np) (b := i) (by omega) (by omega)).mp c_14
        refine lv_iload hx hb dX3_twice_63 (lv_at hl 1 rfl) ?_
        exact ct_endi hx hb hr hlocks rfl hP hD hS rfl (by rw [← he]; rfl) dX3_twice_65
      · have c_14 : i < np := Nat.lt_of_not_le (fun z => c_14 ((nI_leI (a := np) (b := i) (by omega) (by omega)).mpr z))
        exact absurd c_14 (by omega)
    | succ n ih =>
      intro i o t hi he H locs hP hD hS ls hl
      refine lv_iload hx hb dX3_twice_8 (lv_at hl 0 rfl) ?_
      refine lv_aload_n hx hb dX3_twice_10 rfl (lv_at hl 3 rfl) ?_
      refine va_get (D := D) (ci := 3) (v := .int (nI np)) (C := RX3) (T := TX3) (N := 18) hx hb hts (fun w h => lw_in w (inX3 w h)) hown hK hP 0 rfl rfl 8 (by decide) (hts _ (lw_in _ t_296)) (fun _ h9 => h9) rfl dX3_twice_11 ?_
      refine lv_icmp_ge (tgt := 63) hx hb dX3_twice_14 (by decide) (fun c_14 => ?_) (fun c_14 => ?_)
      · have c_14 : np ≤ i := (nI_leI (a := np) (b := i) (by omega) (by omega)).mp c_14
        exact absurd c_14 (by omega)
      · have c_14 : i < np := Nat.lt_of_not_le (fun z => c_14 ((nI_leI (a := np) (b := i) (by omega) (by omega)).mpr z))
        refine lv_lload_n hx hb dX3_twice_17 rfl (lv_at hl 4 rfl) ?_
        refine lv_iload hx hb dX3_twice_18 (lv_at hl 0 rfl) ?_
        refine lv_lshr (v := ((a : Int64) >>> ((nI i).toInt64 &&& 63))) hx hb dX3_twice_20 rfl ?_
        refine lv_lconst (v := 1) hx hb dX3_twice_21 (by decide) ?_
        refine lv_land hx hb dX3_twice_22 ?_
        refine lv_lconst (v := 1) hx hb dX3_twice_23 (by decide) ?_
        refine W.lcmp hx hb dX3_twice_24 ?_
        refine lv_if_ne (tgt := 40) hx hb dX3_twice_25 (by decide) (fun c_25 => ?_) (fun c_25 => ?_)
        · have c_25 : ¬ (((a : Int64) >>> ((nI i).toInt64 &&& 63)) &&& 1) = 1 := fun z => c_25 ((lg_cmp_eq _ _).mpr z)
          have c_25 : hB a i = false := hB_nr (by omega) c_25
          refine lv_iconst (v := 0) hx hb dX3_twice_40 (by decide) ?_
          refine lv_istore (lv' := [(6, .int 0), (5, .int (nI i)), (4, .int t), (3, .int o), (0, .ref (h 0)), (1, .long a)]) hx hb dX3_twice_41 hl (by decide) rfl (fun ls hl => ?_)
          refine lv_iload hx hb dX3_twice_43 (lv_at hl 2 rfl) ?_
          refine lv_iload_n hx hb dX3_twice_45 rfl (lv_at hl 3 rfl) ?_
          refine lv_iload hx hb dX3_twice_46 (lv_at hl 0 rfl) ?_
          refine lv_iand hx hb dX3_twice_48 ?_
          refine lv_ior hx hb dX3_twice_49 ?_
          refine lv_istore (lv' := [(4, .int (t ||| (o &&& 0))), (6, .int 0), (5, .int (nI i)), (3, .int o), (0, .ref (h 0)), (1, .long a)]) hx hb dX3_twice_50 hl (by decide) rfl (fun ls hl => ?_)
          refine lv_iload_n hx hb dX3_twice_52 rfl (lv_at hl 3 rfl) ?_
          refine lv_iload hx hb dX3_twice_53 (lv_at hl 1 rfl) ?_
          refine lv_ior hx hb dX3_twice_55 ?_
          refine lv_istore_n (lv' := [(3, .int (o ||| 0)), (4, .int (t ||| (o &&& 0))), (6, .int 0), (5, .int (nI i)), (0, .ref (h 0)), (1, .long a)]) hx hb dX3_twice_56 rfl hl (by decide) rfl (fun ls hl => ?_)
          refine lv_iinc (v := nI (i + 1)) (lv' := [(5, .int (nI (i + 1))), (3, .int (o ||| 0)), (4, .int (t ||| (o &&& 0))), (6, .int 0), (0, .ref (h 0)), (1, .long a)]) hx hb dX3_twice_57 hl (k := 3) rfl (nI_1 _) (by decide) rfl (fun ls hl => ?_)
          refine lv_goto (tgt := 8) hx hb dX3_twice_60 (by decide) ?_
          exact ih (i + 1) (o ||| 0) (t ||| (o &&& 0)) (by omega) (by rw [← he, twL, if_neg (bF c_25)]) _ _ hP hD hS _ (lv_sub hl [0, 2, 1, 4, 5] rfl)
        · have c_25 : (((a : Int64) >>> ((nI i).toInt64 &&& 63)) &&& 1) = 1 := (lg_cmp_eq _ _).mp c_25
          have c_25 : hB a i = true := (hB_sr a (by omega)).mp c_25
          refine lv_iconst (v := 1) hx hb dX3_twice_28 (by decide) ?_
          refine lv_aload_n hx hb dX3_twice_29 rfl (lv_at hl 3 rfl) ?_
          refine va_get (D := D) (ci := 3) (v := .ref (h 8)) (C := RX3) (T := TX3) (N := 18) hx hb hts (fun w h => lw_in w (inX3 w h)) hown hK hP 0 rfl rfl 10 (by decide) (hts _ (lw_in _ t_298)) (fun _ h9 => h9) rfl dX3_twice_30 ?_
          refine lv_iload hx hb dX3_twice_33 (lv_at hl 0 rfl) ?_
          refine wx_iald hx hb hK hP 8 7 rfl rfl (i := i) (by omega) (by decide) dX3_twice_35 ?_
          refine lv_ishl hx hb dX3_twice_36 ?_
          refine lv_goto (tgt := 41) hx hb dX3_twice_37 (by decide) ?_
          refine lv_istore (lv' := [(6, .int (1 <<< ((nm i) &&& 31))), (5, .int (nI i)), (4, .int t), (3, .int o), (0, .ref (h 0)), (1, .long a)]) hx hb dX3_twice_41 hl (by decide) rfl (fun ls hl => ?_)
          refine lv_iload hx hb dX3_twice_43 (lv_at hl 2 rfl) ?_
          refine lv_iload_n hx hb dX3_twice_45 rfl (lv_at hl 3 rfl) ?_
          refine lv_iload hx hb dX3_twice_46 (lv_at hl 0 rfl) ?_
          refine lv_iand hx hb dX3_twice_48 ?_
          refine lv_ior hx hb dX3_twice_49 ?_
          refine lv_istore (lv' := [(4, .int (t ||| (o &&& (1 <<< ((nm i) &&& 31))))), (6, .int (1 <<< ((nm i) &&& 31))), (5, .int (nI i)), (3, .int o), (0, .ref (h 0)), (1, .long a)]) hx hb dX3_twice_50 hl (by decide) rfl (fun ls hl => ?_)
          refine lv_iload_n hx hb dX3_twice_52 rfl (lv_at hl 3 rfl) ?_
          refine lv_iload hx hb dX3_twice_53 (lv_at hl 1 rfl) ?_
          refine lv_ior hx hb dX3_twice_55 ?_
          refine lv_istore_n (lv' := [(3, .int (o ||| (1 <<< ((nm i) &&& 31)))), (4, .int (t ||| (o &&& (1 <<< ((nm i) &&& 31))))), (6, .int (1 <<< ((nm i) &&& 31))), (5, .int (nI i)), (0, .ref (h 0)), (1, .long a)]) hx hb dX3_twice_56 rfl hl (by decide) rfl (fun ls hl => ?_)
          refine lv_iinc (v := nI (i + 1)) (lv' := [(5, .int (nI (i + 1))), (3, .int (o ||| (1 <<< ((nm i) &&& 31)))), (4, .int (t ||| (o &&& (1 <<< ((nm i) &&& 31))))), (6, .int (1 <<< ((nm i) &&& 31))), (0, .ref (h 0)), (1, .long a)]) hx hb dX3_twice_57 hl (k := 3) rfl (nI_1 _) (by decide) rfl (fun ls hl => ?_)
          refine lv_goto (tgt := 8) hx hb dX3_twice_60 (by decide) ?_
          exact ih (i + 1) (o ||| (1 <<< ((nm i) &&& 31))) (t ||| (o &&& (1 <<< ((nm i) &&& 31)))) (by omega) (by rw [← he, twL, if_pos c_25]) _ _ hP hD hS _ (lv_sub hl [0, 2, 1, 4, 5] rfl)
  refine lv_iconst (v := 0) hx hb dX3_twice_0 (by decide) ?_
  refine lv_istore_n (lv' := [(3, .int 0), (0, .ref (h 0)), (1, .long a)]) hx hb dX3_twice_1 rfl hl (by decide) rfl (fun ls hl => ?_)
  refine lv_iconst (v := 0) hx hb dX3_twice_2 (by decide) ?_
  refine lv_istore (lv' := [(4, .int 0), (3, .int 0), (0, .ref (h 0)), (1, .long a)]) hx hb dX3_twice_3 hl (by decide) rfl (fun ls hl => ?_)
  refine lv_iconst (v := 0) hx hb dX3_twice_5 (by decide) ?_
  refine lv_istore (lv' := [(5, .int 0), (4, .int 0), (3, .int 0), (0, .ref (h 0)), (1, .long a)]) hx hb dX3_twice_6 hl (by decide) rfl (fun ls hl => ?_)
  exact loop np 0 0 0 (by omega) rfl _ _ hP hD hS _ (lv_sub hl [0, 1, 2, 3, 4] rfl)

set_option maxHeartbeats 4000000 in
set_option maxRecDepth 100000 in
theorem k_E_competing (l : Launch) (D : va_G) (h : Nat → Nat) (k : Nat → ClassId) (tx : Nat → Int32) (sz : Nat) (im : Bool) (cm : Nat) (nw : Int64) (nd : Nat) (kd : Nat → Int32) (pa : Nat → Option Nat) (be : Nat → Option Nat) (af : Nat → Option Nat) (mi : Nat → Bool) (np : Nat) (lf : Nat → Nat) (nm : Nat → Int32) (dp : Nat) (la : Nat → Option Nat) (so : Nat → Int32) (ro : Nat)  (nb : Nat) (ok : okT nb pa be af np lf) (hro : im = true → ro < nb) :
    Ct l yX3_competing wsX3_competing (rmN 3) D vwCl (tyM k) [.ref (h 0)] (wM h k tx sz im cm nw (nd, kd, pa, be, af, mi, np, lf, nm, dp, la, so, ro)) (wM h k tx sz im cm nw (nd, kd, pa, be, af, mi, np, lf, nm, dp, la, so, ro)) (some (.int (cmL nm np (fun q => e_next kd pa be af mi np lf (nI q)) np 0 (twF (e_first kd pa be mi np lf im ro) nm np)))) := by
  refine Ct.of (cc := cX3_competing) (maxL := 3) (ret := (some .int)) (lv := [(0, .ref (h 0))]) (by decide) rfl (Nat.le_of_ble_eq_true rfl) rfl ?_
  intro p e s m below meth c A ls hx hb hr hml hts hown hlocks hK hP hD hS hA hl
  have ok0 := ok
  obtain ⟨hnb, hnp, okP, okB, okA, okL⟩ := ok
  have loop : ∀ (n : Nat) (i : Nat) (r : Int32), (i + n = np) → (cmL nm np (fun q => e_next kd pa be af mi np lf (nI q)) n i r = cmL nm np (fun q => e_next kd pa be af mi np lf (nI q)) np 0 (twF (e_first kd pa be mi np lf im ro) nm np)) → ∀ (H : Heap) (locs : List Loc), va_P D vwCl (wM h k tx sz im cm nw (nd, kd, pa, be, af, mi, np, lf, nm, dp, la, so, ro)) H → va_D A (wM h k tx sz im cm nw (nd, kd, pa, be, af, mi, np, lf, nm, dp, la, so, ro)) → va_S A s.heap H locs → ∀ ls : Array Slot, lv_has ls 3 [(2, .int (nI i)), (1, .int r), (0, .ref (h 0))] →
      W p l e (rmN 3) s m ([.ref (h 0)] : List Value).toArray below meth c H locs 0 0 (MQ below (CtQ D vwCl A (wM h k tx sz im cm nw (nd, kd, pa, be, af, mi, np, lf, nm, dp, la, so, ro)) (some (.int (cmL nm np (fun q => e_next kd pa be af mi np lf (nI q)) np 0 (twF (e_first kd pa be mi np lf im ro) nm np))))) ([.ref (h 0)] : List Value).toArray s 0 0 A) (F0 m 11 ls []) := by
    intro n
    induction n with
    | zero =>
      intro i r hi he H locs hP hD hS ls hl
      refine lv_iload_n hx hb dX3_competing_11 rfl (lv_at hl 0 rfl) ?_
      refine lv_aload_n hx hb dX3_competing_12 rfl (lv_at hl 2 rfl) ?_
      refine va_get (D := D) (ci := 3) (v := .int (nI np)) (C := RX3) (T := TX3) (N := 18) hx hb hts (fun w h => lw_in w (inX3 w h)) hown hK hP 0 rfl rfl 8 (by decide) (hts _ (lw_in _ t_296)) (fun _ h9 => h9) rfl dX3_competing_13 ?_
      refine lv_icmp_ge (tgt := 37) hx hb dX3_competing_16 (by decide) (fun c_16 => ?_) (fun c_16 => ?_)
      · have c_16 : np ≤ i := (nI_leI (a := np) (b := i) (by omega) (by omega)).mp c_16
        refine lv_iload_n hx hb dX3_competing_37 rfl (lv_at hl 1 rfl) ?_
        exact ct_endi hx hb hr hlocks rfl hP hD hS rfl (by rw [← he]; rfl) dX3_competing_38
      · have c_16 : i < np := Nat.lt_of_not_le (fun z => c_16 ((nI_leI (a := np) (b := i) (by omega) (by omega)).mpr z))
        exact absurd c_16 (by omega)
    | succ n ih =>
      intro i r hi he H locs hP hD hS ls hl
      refine lv_iload_n hx hb dX3_competing_11 rfl (lv_at hl 0 rfl) ?_
      refine lv_aload_n hx hb dX3_competing_12 rfl (lv_at hl 2 rfl) ?_
      refine va_get (D := D) (ci := 3) (v := .int (nI np)) (C := RX3) (T := TX3) (N := 18) hx hb hts (fun w h => lw_in w (inX3 w h)) hown hK hP 0 rfl rfl 8 (by decide) (hts _ (lw_in _ t_296)) (fun _ h9 => h9) rfl dX3_competing_13 ?_
      refine lv_icmp_ge (tgt := 37) hx hb dX3_competing_16 (by decide) (fun c_16 => ?_) (fun c_16 => ?_)
      · have c_16 : np ≤ i := (nI_leI (a := np) (b := i) (by omega) (by omega)).mp c_16
        exact absurd c_16 (by omega)
      · have c_16 : i < np := Nat.lt_of_not_le (fun z => c_16 ((nI_leI (a := np) (b := i) (by omega) (by omega)).mpr z))
        refine lv_iload_n hx hb dX3_competing_19 rfl (lv_at hl 1 rfl) ?_
        refine lv_aload_n hx hb dX3_competing_20 rfl (lv_at hl 2 rfl) ?_
        refine lv_aload_n hx hb dX3_competing_21 rfl (lv_at hl 2 rfl) ?_
        refine lv_iload_n hx hb dX3_competing_22 rfl (lv_at hl 0 rfl) ?_
        refine ct_callV (As := [.int (nI i)]) (rest := [.ref (h 0), .int r]) ⟨hx, hb, hml, hown, hts⟩ (k_E_next l D h k tx sz im cm nw nd kd pa be af mi np lf nm dp la so ro (nI i) nb ok0) (cwV 1 hts (gV lw_in t_416 t_396 t_397 t_26 t_398) rfl rfl rfl (by decide +kernel) ⟨Nat.le_of_ble_eq_true rfl, Nat.le_of_ble_eq_true rfl⟩) 0 rfl rfl hK hP hD hS hA rfl hl.1 rfl (Nat.le_of_ble_eq_true rfl) dX3_competing_23 ⟨Nat.zero_le _, Nat.zero_le _⟩ (fun H locs hP hD hS => ?_)
        refine W.eq (g2 := F0 m 26 ls [.long (e_next kd pa be af mi np lf (nI i)), .ref (h 0), .int r]) rfl ?_
        refine ct_callV (As := [.long (e_next kd pa be af mi np lf (nI i))]) (rest := [.int r]) ⟨hx, hb, hml, hown, hts⟩ (k_E_twice l D h k tx sz im cm nw nd kd pa be af mi np lf nm dp la so ro (e_next kd pa be af mi np lf (nI i))  (by omega)) (cwV 1 hts (gV lw_in t_412 t_414 t_20 t_26 t_415) rfl rfl rfl (by decide +kernel) ⟨Nat.le_of_ble_eq_true rfl, Nat.le_of_ble_eq_true rfl⟩) 0 rfl rfl hK hP hD hS hA rfl hl.1 rfl (Nat.le_of_ble_eq_true rfl) dX3_competing_26 ⟨Nat.zero_le _, Nat.zero_le _⟩ (fun H locs hP hD hS => ?_)
        refine W.eq (g2 := F0 m 29 ls [.int (twF (e_next kd pa be af mi np lf (nI i)) nm np), .int r]) rfl ?_
        refine lv_ior hx hb dX3_competing_29 ?_
        refine lv_istore_n (lv' := [(1, .int (r ||| (twF (e_next kd pa be af mi np lf (nI i)) nm np))), (2, .int (nI i)), (0, .ref (h 0))]) hx hb dX3_competing_30 rfl hl (by decide) rfl (fun ls hl => ?_)
        refine lv_iinc (v := nI (i + 1)) (lv' := [(2, .int (nI (i + 1))), (1, .int (r ||| (twF (e_next kd pa be af mi np lf (nI i)) nm np))), (0, .ref (h 0))]) hx hb dX3_competing_31 hl (k := 1) rfl (nI_1 _) (by decide) rfl (fun ls hl => ?_)
        refine lv_goto (tgt := 11) hx hb dX3_competing_34 (by decide) ?_
        exact ih (i + 1) (r ||| (twF (e_next kd pa be af mi np lf (nI i)) nm np)) (by omega) (by rw [← he, cmL]) _ _ hP hD hS _ (lv_sub hl [0, 1, 2] rfl)
  refine lv_aload_n hx hb dX3_competing_0 rfl (lv_at hl 0 rfl) ?_
  refine lv_aload_n hx hb dX3_competing_1 rfl (lv_at hl 0 rfl) ?_
  refine ct_callV (As := []) (rest := [.ref (h 0)]) ⟨hx, hb, hml, hown, hts⟩ (k_E_first l D h k tx sz im cm nw nd kd pa be af mi np lf nm dp la so ro  nb ok0 hro) (cwV 0 hts (gV lw_in t_411 t_384 t_385 t_26 t_386) rfl rfl rfl (by decide +kernel) ⟨Nat.le_of_ble_eq_true rfl, Nat.le_of_ble_eq_true rfl⟩) 0 rfl rfl hK hP hD hS hA rfl hl.1 rfl (Nat.le_of_ble_eq_true rfl) dX3_competing_2 ⟨Nat.zero_le _, Nat.zero_le _⟩ (fun H locs hP hD hS => ?_)
  refine W.eq (g2 := F0 m 5 ls [.long (e_first kd pa be mi np lf im ro), .ref (h 0)]) rfl ?_
  refine ct_callV (As := [.long (e_first kd pa be mi np lf im ro)]) (rest := []) ⟨hx, hb, hml, hown, hts⟩ (k_E_twice l D h k tx sz im cm nw nd kd pa be af mi np lf nm dp la so ro (e_first kd pa be mi np lf im ro)  (by omega)) (cwV 1 hts (gV lw_in t_412 t_414 t_20 t_26 t_415) rfl rfl rfl (by decide +kernel) ⟨Nat.le_of_ble_eq_true rfl, Nat.le_of_ble_eq_true rfl⟩) 0 rfl rfl hK hP hD hS hA rfl hl.1 rfl (Nat.le_of_ble_eq_true rfl) dX3_competing_5 ⟨Nat.zero_le _, Nat.zero_le _⟩ (fun H locs hP hD hS => ?_)
  refine W.eq (g2 := F0 m 8 ls [.int (twF (e_first kd pa be mi np lf im ro) nm np)]) rfl ?_
  refine lv_istore_n (lv' := [(1, .int (twF (e_first kd pa be mi np lf im ro) nm np)), (0, .ref (h 0))]) hx hb dX3_competing_8 rfl hl (by decide) rfl (fun ls hl => ?_)
  refine lv_iconst (v := 0) hx hb dX3_competing_9 (by decide) ?_
  refine lv_istore_n (lv' := [(2, .int 0), (1, .int (twF (e_first kd pa be mi np lf im ro) nm np)), (0, .ref (h 0))]) hx hb dX3_competing_10 rfl hl (by decide) rfl (fun ls hl => ?_)
  exact loop np 0 (twF (e_first kd pa be mi np lf im ro) nm np) (by omega) rfl _ _ hP hD hS _ (lv_sub hl [0, 1, 2] rfl)

set_option maxHeartbeats 4000000 in
set_option maxRecDepth 100000 in
theorem k_E_isClear (l : Launch) (D : va_G) (h : Nat → Nat) (k : Nat → ClassId) (tx : Nat → Int32) (sz : Nat) (im : Bool) (cm : Nat) (nw : Int64) (nd : Nat) (kd : Nat → Int32) (pa : Nat → Option Nat) (be : Nat → Option Nat) (af : Nat → Option Nat) (mi : Nat → Bool) (np : Nat) (lf : Nat → Nat) (nm : Nat → Int32) (dp : Nat) (la : Nat → Option Nat) (so : Nat → Int32) (ro : Nat)  (nb : Nat) (ok : okT nb pa be af np lf) (hro : im = true → ro < nb) :
    Ct l yX3_isClear wsX3_isClear (rmN 4) D vwCl (tyM k) [.ref (h 0)] (wM h k tx sz im cm nw (nd, kd, pa, be, af, mi, np, lf, nm, dp, la, so, ro)) (wM h k tx sz im cm nw (nd, kd, pa, be, af, mi, np, lf, nm, dp, la, so, ro)) (some (.int (bI (im && decide (cmL nm np (fun q => e_next kd pa be af mi np lf (nI q)) np 0 (twF (e_first kd pa be mi np lf im ro) nm np) = 0))))) := by
  refine Ct.of (cc := cX3_isClear) (maxL := 1) (ret := (some .boolean)) (lv := [(0, .ref (h 0))]) (by decide) rfl (Nat.le_of_ble_eq_true rfl) rfl ?_
  intro p e s m below meth c A ls hx hb hr hml hts hown hlocks hK hP hD hS hA hl
  refine lv_aload_n hx hb dX3_isClear_0 rfl (lv_at hl 0 rfl) ?_
  refine va_get (D := D) (ci := 3) (v := .int (bI im)) (C := RX3) (T := TX3) (N := 18) hx hb hts (fun w h => lw_in w (inX3 w h)) hown hK hP 0 rfl rfl 11 (by decide) (hts _ (lw_in _ t_299)) (fun _ h9 => h9) rfl dX3_isClear_1 ?_
  refine lv_if_eq (tgt := 18) hx hb dX3_isClear_4 (by decide) (fun c_4 => ?_) (fun c_4 => ?_)
  · have c_4 : im = false := (bI_eq0 _).mp c_4
    refine lv_iconst (v := 0) hx hb dX3_isClear_18 (by decide) ?_
    exact ct_endi hx hb hr hlocks rfl hP hD hS rfl (by rw [c_4]; rfl) dX3_isClear_19
  · have c_4 : im = true := (bI_ne0 _).mp c_4
    refine lv_aload_n hx hb dX3_isClear_7 rfl (lv_at hl 0 rfl) ?_
    refine ct_callV (As := []) (rest := []) ⟨hx, hb, hml, hown, hts⟩ (k_E_competing l D h k tx sz im cm nw nd kd pa be af mi np lf nm dp la so ro  nb ok hro) (cwV 0 hts (gV lw_in t_421 t_408 t_409 t_26 t_410) rfl rfl rfl (by decide +kernel) ⟨Nat.le_of_ble_eq_true rfl, Nat.le_of_ble_eq_true rfl⟩) 0 rfl rfl hK hP hD hS hA rfl hl.1 rfl (Nat.le_of_ble_eq_true rfl) dX3_isClear_8 ⟨Nat.zero_le _, Nat.zero_le _⟩ (fun H locs hP hD hS => ?_)
    refine W.eq (g2 := F0 m 11 ls [.int (cmL nm np (fun q => e_next kd pa be af mi np lf (nI q)) np 0 (twF (e_first kd pa be mi np lf im ro) nm np))]) rfl ?_
    refine lv_if_ne (tgt := 18) hx hb dX3_isClear_11 (by decide) (fun c_11 => ?_) (fun c_11 => ?_)
    · have c_11 : ¬ (cmL nm np (fun q => e_next kd pa be af mi np lf (nI q)) np 0 (twF (e_first kd pa be mi np lf im ro) nm np)) = 0 := c_11
      refine lv_iconst (v := 0) hx hb dX3_isClear_18 (by decide) ?_
      exact ct_endi hx hb hr hlocks rfl hP hD hS rfl (by rw [decide_eq_false c_11, Bool.and_false]; rfl) dX3_isClear_19
    · have c_11 : (cmL nm np (fun q => e_next kd pa be af mi np lf (nI q)) np 0 (twF (e_first kd pa be mi np lf im ro) nm np)) = 0 := c_11
      refine lv_iconst (v := 1) hx hb dX3_isClear_14 (by decide) ?_
      refine lv_goto (tgt := 19) hx hb dX3_isClear_15 (by decide) ?_
      exact ct_endi hx hb hr hlocks rfl hP hD hS rfl (by rw [decide_eq_true c_11, Bool.and_true, c_4]; rfl) dX3_isClear_19

set_option maxHeartbeats 4000000 in
set_option maxRecDepth 100000 in
theorem k_E_isEmpty (l : Launch) (D : va_G) (h : Nat → Nat) (k : Nat → ClassId) (tx : Nat → Int32) (sz : Nat) (im : Bool) (cm : Nat) (nw : Int64) (nd : Nat) (kd : Nat → Int32) (pa : Nat → Option Nat) (be : Nat → Option Nat) (af : Nat → Option Nat) (mi : Nat → Bool) (np : Nat) (lf : Nat → Nat) (nm : Nat → Int32) (dp : Nat) (la : Nat → Option Nat) (so : Nat → Int32) (ro : Nat)  (nb : Nat) (ok : okT nb pa be af np lf) (hro : im = true → ro < nb) :
    Ct l yX3_isEmpty wsX3_isEmpty (rmN 0) D vwCl (tyM k) [.ref (h 0)] (wM h k tx sz im cm nw (nd, kd, pa, be, af, mi, np, lf, nm, dp, la, so, ro)) (wM h k tx sz im cm nw (nd, kd, pa, be, af, mi, np, lf, nm, dp, la, so, ro)) (some (.int (bI (im && mi ro)))) := by
  refine Ct.of (cc := cX3_isEmpty) (maxL := 1) (ret := (some .boolean)) (lv := [(0, .ref (h 0))]) (by decide) rfl (Nat.le_of_ble_eq_true rfl) rfl ?_
  intro p e s m below meth c A ls hx hb hr hml hts hown hlocks hK hP hD hS hA hl
  obtain ⟨hnb, hnp, okP, okB, okA, okL⟩ := ok
  refine lv_aload_n hx hb dX3_isEmpty_0 rfl (lv_at hl 0 rfl) ?_
  refine va_get (D := D) (ci := 3) (v := .int (bI im)) (C := RX3) (T := TX3) (N := 18) hx hb hts (fun w h => lw_in w (inX3 w h)) hown hK hP 0 rfl rfl 11 (by decide) (hts _ (lw_in _ t_299)) (fun _ h9 => h9) rfl dX3_isEmpty_1 ?_
  refine lv_if_eq (tgt := 23) hx hb dX3_isEmpty_4 (by decide) (fun c_4 => ?_) (fun c_4 => ?_)
  · have c_4 : im = false := (bI_eq0 _).mp c_4
    refine lv_iconst (v := 0) hx hb dX3_isEmpty_23 (by decide) ?_
    exact ct_endi hx hb hr hlocks rfl hP hD hS rfl (by simp [bI, c_4]) dX3_isEmpty_24
  · have c_4 : im = true := (bI_ne0 _).mp c_4
    refine lv_aload_n hx hb dX3_isEmpty_7 rfl (lv_at hl 0 rfl) ?_
    refine va_get (D := D) (ci := 3) (v := .ref (h 6)) (C := RX3) (T := TX3) (N := 18) hx hb hts (fun w h => lw_in w (inX3 w h)) hown hK hP 0 rfl rfl 7 (by decide) (hts _ (lw_in _ t_295)) (fun _ h9 => h9) rfl dX3_isEmpty_8 ?_
    refine lv_aload_n hx hb dX3_isEmpty_11 rfl (lv_at hl 0 rfl) ?_
    refine va_get (D := D) (ci := 3) (v := .int (nI ro)) (C := RX3) (T := TX3) (N := 18) hx hb hts (fun w h => lw_in w (inX3 w h)) hown hK hP 0 rfl rfl 15 (by decide) (hts _ (lw_in _ t_303)) (fun _ h9 => h9) rfl dX3_isEmpty_12 ?_
    refine wx_zald hx hb hK hP 6 5 rfl rfl (i := ro) (by have := hro c_4; omega) (by decide) dX3_isEmpty_15 ?_
    refine lv_if_eq (tgt := 23) hx hb dX3_isEmpty_16 (by decide) (fun c_16 => ?_) (fun c_16 => ?_)
    · have c_16 : (mi ro) = false := (bI_eq0 _).mp c_16
      refine lv_iconst (v := 0) hx hb dX3_isEmpty_23 (by decide) ?_
      exact ct_endi hx hb hr hlocks rfl hP hD hS rfl (by simp [bI, c_4, c_16]) dX3_isEmpty_24
    · have c_16 : (mi ro) = true := (bI_ne0 _).mp c_16
      refine lv_iconst (v := 1) hx hb dX3_isEmpty_19 (by decide) ?_
      refine lv_goto (tgt := 24) hx hb dX3_isEmpty_20 (by decide) ?_
      exact ct_endi hx hb hr hlocks rfl hP hD hS rfl (by simp [bI, c_4, c_16]) dX3_isEmpty_24

set_option maxHeartbeats 4000000 in
set_option maxRecDepth 100000 in
theorem k_E_name (l : Launch) (D : va_G) (h : Nat → Nat) (k : Nat → ClassId) (tx : Nat → Int32) (sz : Nat) (im : Bool) (cm : Nat) (nw : Int64) (nd : Nat) (kd : Nat → Int32) (pa : Nat → Option Nat) (be : Nat → Option Nat) (af : Nat → Option Nat) (mi : Nat → Bool) (np : Nat) (lf : Nat → Nat) (nm : Nat → Int32) (dp : Nat) (la : Nat → Option Nat) (so : Nat → Int32) (ro : Nat) (x : Int32)  (hnp : np ≤ 60) :
    Ct l yX3_name wsX3_name (rmN 0) D vwCl (tyM k) [.ref (h 0), .int x] (wM h k tx sz im cm nw (nd, kd, pa, be, af, mi, np, lf, nm, dp, la, so, ro)) (wM h k tx sz im cm nw (nd, kd, pa, be, af, mi, np, lf, nm, dp, la, so, ro)) (some (.int (d_name nm np x))) := by
  refine Ct.of (cc := cX3_name) (maxL := 2) (ret := (some .int)) (lv := [(0, .ref (h 0)), (1, .int x)]) (by decide) rfl (Nat.le_of_ble_eq_true rfl) rfl ?_
  intro p e s m below meth c A ls hx hb hr hml hts hown hlocks hK hP hD hS hA hl
  refine lv_iload_n hx hb dX3_name_0 rfl (lv_at hl 1 rfl) ?_
  refine lv_if_lt (tgt := 21) hx hb dX3_name_1 (by decide) (fun c_1 => ?_) (fun c_1 => ?_)
  · have c_1 : x < 0 := c_1
    refine lv_iconst (v := -1) hx hb dX3_name_21 (by decide) ?_
    exact ct_endi hx hb hr hlocks rfl hP hD hS rfl (by simp [d_name, m_has, c_1]) dX3_name_22
  · have c_1 : ¬ x < 0 := c_1
    refine lv_iload_n hx hb dX3_name_4 rfl (lv_at hl 1 rfl) ?_
    refine lv_aload_n hx hb dX3_name_5 rfl (lv_at hl 0 rfl) ?_
    refine va_get (D := D) (ci := 3) (v := .int (nI np)) (C := RX3) (T := TX3) (N := 18) hx hb hts (fun w h => lw_in w (inX3 w h)) hown hK hP 0 rfl rfl 8 (by decide) (hts _ (lw_in _ t_296)) (fun _ h9 => h9) rfl dX3_name_6 ?_
    refine lv_icmp_ge (tgt := 21) hx hb dX3_name_9 (by decide) (fun c_9 => ?_) (fun c_9 => ?_)
    · have c_9 : nI np ≤ x := c_9
      refine lv_iconst (v := -1) hx hb dX3_name_21 (by decide) ?_
      exact ct_endi hx hb hr hlocks rfl hP hD hS rfl (by simp [d_name, m_has, c_1, c_9]) dX3_name_22
    · have c_9 : ¬ nI np ≤ x := c_9
      obtain ⟨j, hj, rfl⟩ : ∃ j, j < np ∧ x = nI j := p_ix (by omega) c_1 (Int32.not_le.mp c_9)
      refine lv_aload_n hx hb dX3_name_12 rfl (lv_at hl 0 rfl) ?_
      refine va_get (D := D) (ci := 3) (v := .ref (h 8)) (C := RX3) (T := TX3) (N := 18) hx hb hts (fun w h => lw_in w (inX3 w h)) hown hK hP 0 rfl rfl 10 (by decide) (hts _ (lw_in _ t_298)) (fun _ h9 => h9) rfl dX3_name_13 ?_
      refine lv_iload_n hx hb dX3_name_16 rfl (lv_at hl 1 rfl) ?_
      refine wx_iald hx hb hK hP 8 7 rfl rfl (i := j) (by omega) (by decide) dX3_name_17 ?_
      refine lv_goto (tgt := 22) hx hb dX3_name_18 (by decide) ?_
      exact ct_endi hx hb hr hlocks rfl hP hD hS rfl (by rw [d_name, m_has, if_neg c_1, if_neg c_9, if_pos rfl, nI_clamp (by omega)]) dX3_name_22

set_option maxHeartbeats 4000000 in
set_option maxRecDepth 100000 in
theorem k_E_able (l : Launch) (D : va_G) (h : Nat → Nat) (k : Nat → ClassId) (tx : Nat → Int32) (sz : Nat) (im : Bool) (cm : Nat) (nw : Int64) (nd : Nat) (kd : Nat → Int32) (pa : Nat → Option Nat) (be : Nat → Option Nat) (af : Nat → Option Nat) (mi : Nat → Bool) (np : Nat) (lf : Nat → Nat) (nm : Nat → Int32) (dp : Nat) (la : Nat → Option Nat) (so : Nat → Int32) (ro : Nat) (a : Int64) (nb : Nat) (ok : okT nb pa be af np lf) (hro : im = true → ro < nb) (hcm : cm ≤ 600) :
    Ct l yX3_able wsX3_able (rmN 3) D vwCl (tyM k) [.ref (h 0), .long a] (wM h k tx sz im cm nw (nd, kd, pa, be, af, mi, np, lf, nm, dp, la, so, ro)) (wM h k tx sz im cm nw (nd, kd, pa, be, af, mi, np, lf, nm, dp, la, so, ro)) (some (.long (if cm = 0 then e_first kd pa be mi np lf im ro else abL a (fun q => e_next kd pa be af mi np lf (nI q)) np 0 0))) := by
  refine Ct.of (cc := cX3_able) (maxL := 6) (ret := (some .long)) (lv := [(0, .ref (h 0)), (1, .long a)]) (by decide) rfl (Nat.le_of_ble_eq_true rfl) rfl ?_
  intro p e s m below meth c A ls hx hb hr hml hts hown hlocks hK hP hD hS hA hl
  have ok0 := ok
  obtain ⟨hnb, hnp, okP, okB, okA, okL⟩ := ok
  refine lv_aload_n hx hb dX3_able_0 rfl (lv_at hl 0 rfl) ?_
  refine va_get (D := D) (ci := 3) (v := .int (nI cm)) (C := RX3) (T := TX3) (N := 18) hx hb hts (fun w h => lw_in w (inX3 w h)) hown hK hP 0 rfl rfl 16 (by decide) (hts _ (lw_in _ t_304)) (fun _ h9 => h9) rfl dX3_able_1 ?_
  refine lv_if_ne (tgt := 12) hx hb dX3_able_4 (by decide) (fun c_4 => ?_) (fun c_4 => ?_)
  · have c_4 : ¬ cm = 0 := id (fun z => c_4 ((nI_eq (a := cm) (b := 0) (by omega) (by omega)).mpr z))
    refine lv_lconst (v := 0) hx hb dX3_able_12 (by decide) ?_
    refine lv_lstore_n (lv' := [(3, .long 0), (0, .ref (h 0)), (1, .long a)]) hx hb dX3_able_13 rfl hl (by decide) rfl (fun ls hl => ?_)
    refine lv_iconst (v := 0) hx hb dX3_able_14 (by decide) ?_
    refine lv_istore (lv' := [(5, .int 0), (3, .long 0), (0, .ref (h 0)), (1, .long a)]) hx hb dX3_able_15 hl (by decide) rfl (fun ls hl => ?_)
    have loop : ∀ (n : Nat) (i : Nat) (r : Int64), (i + n = np) → (abL a (fun q => e_next kd pa be af mi np lf (nI q)) n i r = abL a (fun q => e_next kd pa be af mi np lf (nI q)) np 0 0) → ∀ (H : Heap) (locs : List Loc), va_P D vwCl (wM h k tx sz im cm nw (nd, kd, pa, be, af, mi, np, lf, nm, dp, la, so, ro)) H → va_D A (wM h k tx sz im cm nw (nd, kd, pa, be, af, mi, np, lf, nm, dp, la, so, ro)) → va_S A s.heap H locs → ∀ ls : Array Slot, lv_has ls 6 [(5, .int (nI i)), (3, .long r), (0, .ref (h 0)), (1, .long a)] →
        W p l e (rmN 3) s m ([.ref (h 0), .long a] : List Value).toArray below meth c H locs 0 0 (MQ below (CtQ D vwCl A (wM h k tx sz im cm nw (nd, kd, pa, be, af, mi, np, lf, nm, dp, la, so, ro)) (some (.long (if cm = 0 then e_first kd pa be mi np lf im ro else abL a (fun q => e_next kd pa be af mi np lf (nI q)) np 0 0)))) ([.ref (h 0), .long a] : List Value).toArray s 0 0 A) (F0 m 17 ls []) := by
      intro n
      induction n with
      | zero =>
        intro i r hi he H locs hP hD hS ls hl
        refine lv_iload hx hb dX3_able_17 (lv_at hl 0 rfl) ?_
        refine lv_aload_n hx hb dX3_able_19 rfl (lv_at hl 2 rfl) ?_
        refine va_get (D := D) (ci := 3) (v := .int (nI np)) (C := RX3) (T := TX3) (N := 18) hx hb hts (fun w h => lw_in w (inX3 w h)) hown hK hP 0 rfl rfl 8 (by decide) (hts _ (lw_in _ t_296)) (fun _ h9 => h9) rfl dX3_able_20 ?_
        refine lv_icmp_ge (tgt := 56) hx hb dX3_able_23 (by decide) (fun c_23 => ?_) (fun c_23 => ?_)
        · have c_23 : np ≤ i := (nI_leI (a := np) (b := i) (by omega) (by omega)).mp c_23
          refine lv_lload_n hx hb dX3_able_56 rfl (lv_at hl 1 rfl) ?_
          exact ct_endl hx hb hr hlocks hP hD hS rfl (by rw [if_neg c_4, ← he]; rfl) dX3_able_57
        · have c_23 : i < np := Nat.lt_of_not_le (fun z => c_23 ((nI_leI (a := np) (b := i) (by omega) (by omega)).mpr z))
          exact absurd c_23 (by omega)
      | succ n ih =>
        intro i r hi he H locs hP hD hS ls hl
        refine lv_iload hx hb dX3_able_17 (lv_at hl 0 rfl) ?_
        refine lv_aload_n hx hb dX3_able_19 rfl (lv_at hl 2 rfl) ?_
        refine va_get (D := D) (ci := 3) (v := .int (nI np)) (C := RX3) (T := TX3) (N := 18) hx hb hts (fun w h => lw_in w (inX3 w h)) hown hK hP 0 rfl rfl 8 (by decide) (hts _ (lw_in _ t_296)) (fun _ h9 => h9) rfl dX3_able_20 ?_
        refine lv_icmp_ge (tgt := 56) hx hb dX3_able_23 (by decide) (fun c_23 => ?_) (fun c_23 => ?_)
        · have c_23 : np ≤ i := (nI_leI (a := np) (b := i) (by omega) (by omega)).mp c_23
          exact absurd c_23 (by omega)
        · have c_23 : i < np := Nat.lt_of_not_le (fun z => c_23 ((nI_leI (a := np) (b := i) (by omega) (by omega)).mpr z))
          refine lv_lload_n hx hb dX3_able_26 rfl (lv_at hl 1 rfl) ?_
          refine lv_lload_n hx hb dX3_able_27 rfl (lv_at hl 3 rfl) ?_
          refine lv_iload hx hb dX3_able_28 (lv_at hl 0 rfl) ?_
          refine lv_lshr (v := ((a : Int64) >>> ((nI i).toInt64 &&& 63))) hx hb dX3_able_30 rfl ?_
          refine lv_lconst (v := 1) hx hb dX3_able_31 (by decide) ?_
          refine lv_land hx hb dX3_able_32 ?_
          refine lv_lconst (v := 1) hx hb dX3_able_33 (by decide) ?_
          refine W.lcmp hx hb dX3_able_34 ?_
          refine lv_if_ne (tgt := 47) hx hb dX3_able_35 (by decide) (fun c_35 => ?_) (fun c_35 => ?_)
          · have c_35 : ¬ (((a : Int64) >>> ((nI i).toInt64 &&& 63)) &&& 1) = 1 := fun z => c_35 ((lg_cmp_eq _ _).mpr z)
            have c_35 : hB a i = false := hB_nr (by omega) c_35
            refine lv_lconst (v := 0) hx hb dX3_able_47 (by decide) ?_
            refine lv_lor hx hb dX3_able_48 ?_
            refine lv_lstore_n (lv' := [(3, .long (r ||| 0)), (5, .int (nI i)), (0, .ref (h 0)), (1, .long a)]) hx hb dX3_able_49 rfl hl (by decide) rfl (fun ls hl => ?_)
            refine lv_iinc (v := nI (i + 1)) (lv' := [(5, .int (nI (i + 1))), (3, .long (r ||| 0)), (0, .ref (h 0)), (1, .long a)]) hx hb dX3_able_50 hl (k := 1) rfl (nI_1 _) (by decide) rfl (fun ls hl => ?_)
            refine lv_goto (tgt := 17) hx hb dX3_able_53 (by decide) ?_
            exact ih (i + 1) (r ||| 0) (by omega) (by rw [← he, abL, if_neg (bF c_35)]) _ _ hP hD hS _ (lv_sub hl [0, 1, 2, 3] rfl)
          · have c_35 : (((a : Int64) >>> ((nI i).toInt64 &&& 63)) &&& 1) = 1 := (lg_cmp_eq _ _).mp c_35
            have c_35 : hB a i = true := (hB_sr a (by omega)).mp c_35
            refine lv_aload_n hx hb dX3_able_38 rfl (lv_at hl 2 rfl) ?_
            refine lv_iload hx hb dX3_able_39 (lv_at hl 0 rfl) ?_
            refine ct_callV (As := [.int (nI i)]) (rest := [.long r]) ⟨hx, hb, hml, hown, hts⟩ (k_E_next l D h k tx sz im cm nw nd kd pa be af mi np lf nm dp la so ro (nI i) nb ok0) (cwV 1 hts (gV lw_in t_416 t_396 t_397 t_26 t_398) rfl rfl rfl (by decide +kernel) ⟨Nat.le_of_ble_eq_true rfl, Nat.le_of_ble_eq_true rfl⟩) 0 rfl rfl hK hP hD hS hA rfl hl.1 rfl (Nat.le_of_ble_eq_true rfl) dX3_able_41 ⟨Nat.zero_le _, Nat.zero_le _⟩ (fun H locs hP hD hS => ?_)
            refine W.eq (g2 := F0 m 44 ls [.long (e_next kd pa be af mi np lf (nI i)), .long r]) rfl ?_
            refine lv_goto (tgt := 48) hx hb dX3_able_44 (by decide) ?_
            refine lv_lor hx hb dX3_able_48 ?_
            refine lv_lstore_n (lv' := [(3, .long (r ||| (e_next kd pa be af mi np lf (nI i)))), (5, .int (nI i)), (0, .ref (h 0)), (1, .long a)]) hx hb dX3_able_49 rfl hl (by decide) rfl (fun ls hl => ?_)
            refine lv_iinc (v := nI (i + 1)) (lv' := [(5, .int (nI (i + 1))), (3, .long (r ||| (e_next kd pa be af mi np lf (nI i)))), (0, .ref (h 0)), (1, .long a)]) hx hb dX3_able_50 hl (k := 1) rfl (nI_1 _) (by decide) rfl (fun ls hl => ?_)
            refine lv_goto (tgt := 17) hx hb dX3_able_53 (by decide) ?_
            exact ih (i + 1) (r ||| (e_next kd pa be af mi np lf (nI i))) (by omega) (by rw [← he, abL, if_pos c_35]) _ _ hP hD hS _ (lv_sub hl [0, 1, 2, 3] rfl)
    exact loop np 0 0 (by omega) rfl _ _ hP hD hS _ (lv_sub hl [0, 1, 2, 3] rfl)
  · have c_4 : cm = 0 := (nI_eq (a := cm) (b := 0) (by omega) (by omega)).mp c_4
    refine lv_aload_n hx hb dX3_able_7 rfl (lv_at hl 0 rfl) ?_
    refine ct_callV (As := []) (rest := []) ⟨hx, hb, hml, hown, hts⟩ (k_E_first l D h k tx sz im cm nw nd kd pa be af mi np lf nm dp la so ro  nb ok0 hro) (cwV 0 hts (gV lw_in t_411 t_384 t_385 t_26 t_386) rfl rfl rfl (by decide +kernel) ⟨Nat.le_of_ble_eq_true rfl, Nat.le_of_ble_eq_true rfl⟩) 0 rfl rfl hK hP hD hS hA rfl hl.1 rfl (Nat.le_of_ble_eq_true rfl) dX3_able_8 ⟨Nat.zero_le _, Nat.zero_le _⟩ (fun H locs hP hD hS => ?_)
    refine W.eq (g2 := F0 m 11 ls [.long (e_first kd pa be mi np lf im ro)]) rfl ?_
    exact ct_endl hx hb hr hlocks hP hD hS rfl (by rw [if_pos c_4]) dX3_able_11

set_option maxHeartbeats 4000000 in
set_option maxRecDepth 100000 in
theorem k_E_come (l : Launch) (D : va_G) (h : Nat → Nat) (k : Nat → ClassId) (tx : Nat → Int32) (sz : Nat) (im : Bool) (cm : Nat) (nw : Int64) (nd : Nat) (kd : Nat → Int32) (pa : Nat → Option Nat) (be : Nat → Option Nat) (af : Nat → Option Nat) (mi : Nat → Bool) (np : Nat) (lf : Nat → Nat) (nm : Nat → Int32) (dp : Nat) (la : Nat → Option Nat) (so : Nat → Int32) (ro : Nat) (x : Int32) (nb : Nat) (ok : okT nb pa be af np lf) (hro : im = true → ro < nb) (hcm : cm ≤ 600) :
    Ct l yX3_come wsX3_come (rmN 4) D vwCl (tyM k) [.ref (h 0), .int x] (wM h k tx sz im cm nw (nd, kd, pa, be, af, mi, np, lf, nm, dp, la, so, ro)) (wM h k tx sz im (if wiL (if cm = 0 then e_first kd pa be mi np lf im ro else abL nw (fun q => e_next kd pa be af mi np lf (nI q)) np 0 0) x nm np 0 0 = 0 then cm else cm + 1) (if wiL (if cm = 0 then e_first kd pa be mi np lf im ro else abL nw (fun q => e_next kd pa be af mi np lf (nI q)) np 0 0) x nm np 0 0 = 0 then nw else wiL (if cm = 0 then e_first kd pa be mi np lf im ro else abL nw (fun q => e_next kd pa be af mi np lf (nI q)) np 0 0) x nm np 0 0) (nd, kd, pa, be, af, mi, np, lf, nm, dp, la, so, ro)) (some (.int (bI (decide (¬ wiL (if cm = 0 then e_first kd pa be mi np lf im ro else abL nw (fun q => e_next kd pa be af mi np lf (nI q)) np 0 0) x nm np 0 0 = 0))))) := by
  refine Ct.of (cc := cX3_come) (maxL := 7) (ret := (some .boolean)) (lv := [(0, .ref (h 0)), (1, .int x)]) (by decide) rfl (Nat.le_of_ble_eq_true rfl) rfl ?_
  intro p e s m below meth c A ls hx hb hr hml hts hown hlocks hK hP hD hS hA hl
  have ok0 := ok
  obtain ⟨hnb, hnp, okP, okB, okA, okL⟩ := ok
  refine lv_aload_n hx hb dX3_come_0 rfl (lv_at hl 0 rfl) ?_
  refine lv_aload_n hx hb dX3_come_1 rfl (lv_at hl 0 rfl) ?_
  refine va_get (D := D) (ci := 3) (v := .long nw) (C := RX3) (T := TX3) (N := 18) hx hb hts (fun w h => lw_in w (inX3 w h)) hown hK hP 0 rfl rfl 17 (by decide) (hts _ (lw_in _ t_305)) (fun _ h9 => h9) rfl dX3_come_2 ?_
  refine ct_callV (As := [.long nw]) (rest := []) ⟨hx, hb, hml, hown, hts⟩ (k_E_able l D h k tx sz im cm nw nd kd pa be af mi np lf nm dp la so ro nw nb ok0 hro hcm) (cwV 1 hts (gV lw_in t_434 t_436 t_21 t_26 t_437) rfl rfl rfl (by decide +kernel) ⟨Nat.le_of_ble_eq_true rfl, Nat.le_of_ble_eq_true rfl⟩) 0 rfl rfl hK hP hD hS hA rfl hl.1 rfl (Nat.le_of_ble_eq_true rfl) dX3_come_5 ⟨Nat.zero_le _, Nat.zero_le _⟩ (fun H locs hP hD hS => ?_)
  refine W.eq (g2 := F0 m 8 ls [.long (if cm = 0 then e_first kd pa be mi np lf im ro else abL nw (fun q => e_next kd pa be af mi np lf (nI q)) np 0 0)]) rfl ?_
  refine lv_topl (fun b9 e_b => ?_)
  refine lv_lstore_n (lv' := [(2, .long b9), (0, .ref (h 0)), (1, .int x)]) hx hb dX3_come_8 rfl hl (by decide) rfl (fun ls hl => ?_)
  refine lv_lconst (v := 0) hx hb dX3_come_9 (by decide) ?_
  refine lv_lstore (lv' := [(4, .long 0), (2, .long b9), (0, .ref (h 0)), (1, .int x)]) hx hb dX3_come_10 hl (by decide) rfl (fun ls hl => ?_)
  refine lv_iconst (v := 0) hx hb dX3_come_12 (by decide) ?_
  refine lv_istore (lv' := [(6, .int 0), (4, .long 0), (2, .long b9), (0, .ref (h 0)), (1, .int x)]) hx hb dX3_come_13 hl (by decide) rfl (fun ls hl => ?_)
  have loop : ∀ (n : Nat) (i : Nat) (r : Int64), (i + n = np) → (wiL b9 x nm n i r = wiL b9 x nm np 0 0) → ∀ (H : Heap) (locs : List Loc), va_P D vwCl (wM h k tx sz im cm nw (nd, kd, pa, be, af, mi, np, lf, nm, dp, la, so, ro)) H → va_D A (wM h k tx sz im cm nw (nd, kd, pa, be, af, mi, np, lf, nm, dp, la, so, ro)) → va_S A s.heap H locs → ∀ ls : Array Slot, lv_has ls 7 [(6, .int (nI i)), (4, .long r), (2, .long b9), (0, .ref (h 0)), (1, .int x)] →
      W p l e (rmN 4) s m ([.ref (h 0), .int x] : List Value).toArray below meth c H locs 0 0 (MQ below (CtQ D vwCl A (wM h k tx sz im (if wiL (if cm = 0 then e_first kd pa be mi np lf im ro else abL nw (fun q => e_next kd pa be af mi np lf (nI q)) np 0 0) x nm np 0 0 = 0 then cm else cm + 1) (if wiL (if cm = 0 then e_first kd pa be mi np lf im ro else abL nw (fun q => e_next kd pa be af mi np lf (nI q)) np 0 0) x nm np 0 0 = 0 then nw else wiL (if cm = 0 then e_first kd pa be mi np lf im ro else abL nw (fun q => e_next kd pa be af mi np lf (nI q)) np 0 0) x nm np 0 0) (nd, kd, pa, be, af, mi, np, lf, nm, dp, la, so, ro)) (some (.int (bI (decide (¬ wiL (if cm = 0 then e_first kd pa be mi np lf im ro else abL nw (fun q => e_next kd pa be af mi np lf (nI q)) np 0 0) x nm np 0 0 = 0)))))) ([.ref (h 0), .int x] : List Value).toArray s 0 0 A) (F0 m 15 ls []) := by
    intro n
    induction n with
    | zero =>
      intro i r hi he H locs hP hD hS ls hl
      refine lv_iload hx hb dX3_come_15 (lv_at hl 0 rfl) ?_
      refine lv_aload_n hx hb dX3_come_17 rfl (lv_at hl 3 rfl) ?_
      refine va_get (D := D) (ci := 3) (v := .int (nI np)) (C := RX3) (T := TX3) (N := 18) hx hb hts (fun w h => lw_in w (inX3 w h)) hown hK hP 0 rfl rfl 8 (by decide) (hts _ (lw_in _ t_296)) (fun _ h9 => h9) rfl dX3_come_18 ?_
      refine lv_icmp_ge (tgt := 56) hx hb dX3_come_21 (by decide) (fun c_21 => ?_) (fun c_21 => ?_)
      · have c_21 : np ≤ i := (nI_leI (a := np) (b := i) (by omega) (by omega)).mp c_21
        have e_r : r = wiL (if cm = 0 then e_first kd pa be mi np lf im ro else abL nw (fun q => e_next kd pa be af mi np lf (nI q)) np 0 0) x nm np 0 0 := by rw [← e_b]; exact he
        refine lv_lload hx hb dX3_come_56 (lv_at hl 1 rfl) ?_
        refine lv_lconst (v := 0) hx hb dX3_come_58 (by decide) ?_
        refine W.lcmp hx hb dX3_come_59 ?_
        refine lv_if_ne (tgt := 65) hx hb dX3_come_60 (by decide) (fun c_60 => ?_) (fun c_60 => ?_)
        · have c_60 : ¬ r = 0 := fun z => c_60 ((lg_cmp_eq _ _).mpr z)
          refine lv_aload_n hx hb dX3_come_65 rfl (lv_at hl 3 rfl) ?_
          refine lv_lload hx hb dX3_come_66 (lv_at hl 1 rfl) ?_
          refine va_put (D := D) (ci := 3) (v := .long r) (ty := .long) (C := RX3) (T := TX3) (N := 18) hx hb hts (fun w h => lw_in w (inX3 w h)) tyX3 tyX3_ok nmX3 hown hK hP hD hS 0 rfl rfl 17 (by decide) (hts _ (lw_in _ t_305)) (fun _ h9 => h9) rfl (by decide +kernel) rfl rfl (Nat.le_of_ble_eq_true rfl) dX3_come_68 (fun H locs hP hD hS => ?_)
          have hP : va_P D vwCl (wM h k tx sz im cm r (nd, kd, pa, be, af, mi, np, lf, nm, dp, la, so, ro)) H := hP
          have hD : va_D A (wM h k tx sz im cm r (nd, kd, pa, be, af, mi, np, lf, nm, dp, la, so, ro)) := hD
          refine lv_aload_n hx hb dX3_come_71 rfl (lv_at hl 3 rfl) ?_
          refine lv_aload_n hx hb dX3_come_72 rfl (lv_at hl 3 rfl) ?_
          refine va_get (D := D) (ci := 3) (v := .int (nI cm)) (C := RX3) (T := TX3) (N := 18) hx hb hts (fun w h => lw_in w (inX3 w h)) hown hK hP 0 rfl rfl 16 (by decide) (hts _ (lw_in _ t_304)) (fun _ h9 => h9) rfl dX3_come_73 ?_
          refine lv_iconst (v := 1) hx hb dX3_come_76 (by decide) ?_
          refine lv_iadd hx hb dX3_come_77 ?_
          refine lv_eqi (show (nI cm + 1) = nI (cm + 1) from nI_1 _) ?_
          refine va_put (D := D) (ci := 3) (v := .int (nI (cm + 1))) (ty := .int) (C := RX3) (T := TX3) (N := 18) hx hb hts (fun w h => lw_in w (inX3 w h)) tyX3 tyX3_ok nmX3 hown hK hP hD hS 0 rfl rfl 16 (by decide) (hts _ (lw_in _ t_304)) (fun _ h9 => h9) rfl (by decide +kernel) rfl rfl (Nat.le_of_ble_eq_true rfl) dX3_come_78 (fun H locs hP hD hS => ?_)
          have hP : va_P D vwCl (wM h k tx sz im (cm + 1) r (nd, kd, pa, be, af, mi, np, lf, nm, dp, la, so, ro)) H := hP
          have hD : va_D A (wM h k tx sz im (cm + 1) r (nd, kd, pa, be, af, mi, np, lf, nm, dp, la, so, ro)) := hD
          refine lv_iconst (v := 1) hx hb dX3_come_81 (by decide) ?_
          exact ct_endi hx hb hr hlocks rfl hP hD hS (by rw [← e_r]; simp [c_60]) (by rw [← e_r]; simp [bI, c_60]) dX3_come_82
        · have c_60 : r = 0 := (lg_cmp_eq _ _).mp c_60
          refine lv_iconst (v := 0) hx hb dX3_come_63 (by decide) ?_
          exact ct_endi hx hb hr hlocks rfl hP hD hS (by rw [← e_r]; simp [c_60]) (by rw [← e_r]; simp [bI, c_60]) dX3_come_64
      · have c_21 : i < np := Nat.lt_of_not_le (fun z => c_21 ((nI_leI (a := np) (b := i) (by omega) (by omega)).mpr z))
        exact absurd c_21 (by omega)
    | succ n ih =>
      intro i r hi he H locs hP hD hS ls hl
      refine lv_iload hx hb dX3_come_15 (lv_at hl 0 rfl) ?_
      refine lv_aload_n hx hb dX3_come_17 rfl (lv_at hl 3 rfl) ?_
      refine va_get (D := D) (ci := 3) (v := .int (nI np)) (C := RX3) (T := TX3) (N := 18) hx hb hts (fun w h => lw_in w (inX3 w h)) hown hK hP 0 rfl rfl 8 (by decide) (hts _ (lw_in _ t_296)) (fun _ h9 => h9) rfl dX3_come_18 ?_
      refine lv_icmp_ge (tgt := 56) hx hb dX3_come_21 (by decide) (fun c_21 => ?_) (fun c_21 => ?_)
      · have c_21 : np ≤ i := (nI_leI (a := np) (b := i) (by omega) (by omega)).mp c_21
        exact absurd c_21 (by omega)
      · have c_21 : i < np := Nat.lt_of_not_le (fun z => c_21 ((nI_leI (a := np) (b := i) (by omega) (by omega)).mpr z))
        refine lv_lload hx hb dX3_come_24 (lv_at hl 1 rfl) ?_
        refine lv_aload_n hx hb dX3_come_26 rfl (lv_at hl 3 rfl) ?_
        refine va_get (D := D) (ci := 3) (v := .ref (h 8)) (C := RX3) (T := TX3) (N := 18) hx hb hts (fun w h => lw_in w (inX3 w h)) hown hK hP 0 rfl rfl 10 (by decide) (hts _ (lw_in _ t_298)) (fun _ h9 => h9) rfl dX3_come_27 ?_
        refine lv_iload hx hb dX3_come_30 (lv_at hl 0 rfl) ?_
        refine wx_iald hx hb hK hP 8 7 rfl rfl (i := i) (by omega) (by decide) dX3_come_32 ?_
        refine lv_iload_n hx hb dX3_come_33 rfl (lv_at hl 4 rfl) ?_
        refine lv_icmp_ne (tgt := 46) hx hb dX3_come_34 (by decide) (fun c_34 => ?_) (fun c_34 => ?_)
        · have c_34 : ¬ (nm i) = x := c_34
          refine lv_lconst (v := 0) hx hb dX3_come_46 (by decide) ?_
          refine lv_lor hx hb dX3_come_47 ?_
          refine lv_lstore (lv' := [(4, .long (r ||| 0)), (6, .int (nI i)), (2, .long b9), (0, .ref (h 0)), (1, .int x)]) hx hb dX3_come_48 hl (by decide) rfl (fun ls hl => ?_)
          refine lv_iinc (v := nI (i + 1)) (lv' := [(6, .int (nI (i + 1))), (4, .long (r ||| 0)), (2, .long b9), (0, .ref (h 0)), (1, .int x)]) hx hb dX3_come_50 hl (k := 1) rfl (nI_1 _) (by decide) rfl (fun ls hl => ?_)
          refine lv_goto (tgt := 15) hx hb dX3_come_53 (by decide) ?_
          exact ih (i + 1) (r ||| 0) (by omega) (by rw [← he, wiL, if_neg c_34]) _ _ hP hD hS _ (lv_sub hl [0, 1, 2, 3, 4] rfl)
        · have c_34 : (nm i) = x := c_34
          refine lv_lload_n hx hb dX3_come_37 rfl (lv_at hl 2 rfl) ?_
          refine lv_lconst (v := 1) hx hb dX3_come_38 (by decide) ?_
          refine lv_iload hx hb dX3_come_39 (lv_at hl 0 rfl) ?_
          refine lv_lshl (v := ((1 : Int64) <<< ((nI i).toInt64 &&& 63))) hx hb dX3_come_41 rfl ?_
          refine lv_land hx hb dX3_come_42 ?_
          refine lv_goto (tgt := 47) hx hb dX3_come_43 (by decide) ?_
          refine lv_lor hx hb dX3_come_47 ?_
          refine lv_lstore (lv' := [(4, .long (r ||| (b9 &&& ((1 : Int64) <<< ((nI i).toInt64 &&& 63))))), (6, .int (nI i)), (2, .long b9), (0, .ref (h 0)), (1, .int x)]) hx hb dX3_come_48 hl (by decide) rfl (fun ls hl => ?_)
          refine lv_iinc (v := nI (i + 1)) (lv' := [(6, .int (nI (i + 1))), (4, .long (r ||| (b9 &&& ((1 : Int64) <<< ((nI i).toInt64 &&& 63))))), (2, .long b9), (0, .ref (h 0)), (1, .int x)]) hx hb dX3_come_50 hl (k := 1) rfl (nI_1 _) (by decide) rfl (fun ls hl => ?_)
          refine lv_goto (tgt := 15) hx hb dX3_come_53 (by decide) ?_
          exact ih (i + 1) (r ||| (b9 &&& ((1 : Int64) <<< ((nI i).toInt64 &&& 63)))) (by omega) (by rw [← he, wiL, if_pos c_34]) _ _ hP hD hS _ (lv_sub hl [0, 1, 2, 3, 4] rfl)
  exact loop np 0 0 (by omega) rfl _ _ hP hD hS _ (lv_sub hl [0, 1, 2, 3, 4] rfl)

set_option maxHeartbeats 4000000 in
set_option maxRecDepth 100000 in
theorem k_E_isWhole (l : Launch) (D : va_G) (h : Nat → Nat) (k : Nat → ClassId) (tx : Nat → Int32) (sz : Nat) (im : Bool) (cm : Nat) (nw : Int64) (nd : Nat) (kd : Nat → Int32) (pa : Nat → Option Nat) (be : Nat → Option Nat) (af : Nat → Option Nat) (mi : Nat → Bool) (np : Nat) (lf : Nat → Nat) (nm : Nat → Int32) (dp : Nat) (la : Nat → Option Nat) (so : Nat → Int32) (ro : Nat)  (nb : Nat) (ok : okT nb pa be af np lf) (hro : im = true → ro < nb) (hcm : cm ≤ 600) :
    Ct l yX3_isWhole wsX3_isWhole (rmN 2) D vwCl (tyM k) [.ref (h 0)] (wM h k tx sz im cm nw (nd, kd, pa, be, af, mi, np, lf, nm, dp, la, so, ro)) (wM h k tx sz im cm nw (nd, kd, pa, be, af, mi, np, lf, nm, dp, la, so, ro)) (some (.int (bI (im && (if cm = 0 then mi ro else decide (¬ (nw &&& laL kd pa af mi lf np 0 0) = 0)))))) := by
  refine Ct.of (cc := cX3_isWhole) (maxL := 1) (ret := (some .boolean)) (lv := [(0, .ref (h 0))]) (by decide) rfl (Nat.le_of_ble_eq_true rfl) rfl ?_
  intro p e s m below meth c A ls hx hb hr hml hts hown hlocks hK hP hD hS hA hl
  have ok0 := ok
  obtain ⟨hnb, hnp, okP, okB, okA, okL⟩ := ok
  refine lv_aload_n hx hb dX3_isWhole_0 rfl (lv_at hl 0 rfl) ?_
  refine va_get (D := D) (ci := 3) (v := .int (bI im)) (C := RX3) (T := TX3) (N := 18) hx hb hts (fun w h => lw_in w (inX3 w h)) hown hK hP 0 rfl rfl 11 (by decide) (hts _ (lw_in _ t_299)) (fun _ h9 => h9) rfl dX3_isWhole_1 ?_
  refine lv_if_eq (tgt := 47) hx hb dX3_isWhole_4 (by decide) (fun c_4 => ?_) (fun c_4 => ?_)
  · have c_4 : im = false := (bI_eq0 _).mp c_4
    refine lv_iconst (v := 0) hx hb dX3_isWhole_47 (by decide) ?_
    exact ct_endi hx hb hr hlocks rfl hP hD hS rfl (by simp [bI, c_4]) dX3_isWhole_48
  · have c_4 : im = true := (bI_ne0 _).mp c_4
    refine lv_aload_n hx hb dX3_isWhole_7 rfl (lv_at hl 0 rfl) ?_
    refine va_get (D := D) (ci := 3) (v := .int (nI cm)) (C := RX3) (T := TX3) (N := 18) hx hb hts (fun w h => lw_in w (inX3 w h)) hown hK hP 0 rfl rfl 16 (by decide) (hts _ (lw_in _ t_304)) (fun _ h9 => h9) rfl dX3_isWhole_8 ?_
    refine lv_if_ne (tgt := 29) hx hb dX3_isWhole_11 (by decide) (fun c_11 => ?_) (fun c_11 => ?_)
    · have c_11 : ¬ cm = 0 := id (fun z => c_11 ((nI_eq (a := cm) (b := 0) (by omega) (by omega)).mpr z))
      refine lv_aload_n hx hb dX3_isWhole_29 rfl (lv_at hl 0 rfl) ?_
      refine va_get (D := D) (ci := 3) (v := .long nw) (C := RX3) (T := TX3) (N := 18) hx hb hts (fun w h => lw_in w (inX3 w h)) hown hK hP 0 rfl rfl 17 (by decide) (hts _ (lw_in _ t_305)) (fun _ h9 => h9) rfl dX3_isWhole_30 ?_
      refine lv_aload_n hx hb dX3_isWhole_33 rfl (lv_at hl 0 rfl) ?_
      refine ct_callV (As := []) (rest := [.long nw]) ⟨hx, hb, hml, hown, hts⟩ (k_E_last l D h k tx sz im cm nw nd kd pa be af mi np lf nm dp la so ro  nb ok0) (cwV 0 hts (gV lw_in t_442 t_400 t_401 t_26 t_402) rfl rfl rfl (by decide +kernel) ⟨Nat.le_of_ble_eq_true rfl, Nat.le_of_ble_eq_true rfl⟩) 0 rfl rfl hK hP hD hS hA rfl hl.1 rfl (Nat.le_of_ble_eq_true rfl) dX3_isWhole_34 ⟨Nat.zero_le _, Nat.zero_le _⟩ (fun H locs hP hD hS => ?_)
      refine W.eq (g2 := F0 m 37 ls [.long (laL kd pa af mi lf np 0 0), .long nw]) rfl ?_
      refine lv_land hx hb dX3_isWhole_37 ?_
      refine lv_lconst (v := 0) hx hb dX3_isWhole_38 (by decide) ?_
      refine W.lcmp hx hb dX3_isWhole_39 ?_
      refine lv_if_eq (tgt := 47) hx hb dX3_isWhole_40 (by decide) (fun c_40 => ?_) (fun c_40 => ?_)
      · have c_40 : (nw &&& (laL kd pa af mi lf np 0 0)) = 0 := (lg_cmp_eq _ _).mp c_40
        refine lv_iconst (v := 0) hx hb dX3_isWhole_47 (by decide) ?_
        exact ct_endi hx hb hr hlocks rfl hP hD hS rfl (by simp [bI, c_4, c_11, c_40]) dX3_isWhole_48
      · have c_40 : ¬ (nw &&& (laL kd pa af mi lf np 0 0)) = 0 := fun z => c_40 ((lg_cmp_eq _ _).mpr z)
        refine lv_iconst (v := 1) hx hb dX3_isWhole_43 (by decide) ?_
        refine lv_goto (tgt := 48) hx hb dX3_isWhole_44 (by decide) ?_
        exact ct_endi hx hb hr hlocks rfl hP hD hS rfl (by simp [bI, c_4, c_11, c_40]) dX3_isWhole_48
    · have c_11 : cm = 0 := (nI_eq (a := cm) (b := 0) (by omega) (by omega)).mp c_11
      refine lv_aload_n hx hb dX3_isWhole_14 rfl (lv_at hl 0 rfl) ?_
      refine va_get (D := D) (ci := 3) (v := .ref (h 6)) (C := RX3) (T := TX3) (N := 18) hx hb hts (fun w h => lw_in w (inX3 w h)) hown hK hP 0 rfl rfl 7 (by decide) (hts _ (lw_in _ t_295)) (fun _ h9 => h9) rfl dX3_isWhole_15 ?_
      refine lv_aload_n hx hb dX3_isWhole_18 rfl (lv_at hl 0 rfl) ?_
      refine va_get (D := D) (ci := 3) (v := .int (nI ro)) (C := RX3) (T := TX3) (N := 18) hx hb hts (fun w h => lw_in w (inX3 w h)) hown hK hP 0 rfl rfl 15 (by decide) (hts _ (lw_in _ t_303)) (fun _ h9 => h9) rfl dX3_isWhole_19 ?_
      refine wx_zald hx hb hK hP 6 5 rfl rfl (i := ro) (by have := hro c_4; omega) (by decide) dX3_isWhole_22 ?_
      refine lv_if_eq (tgt := 47) hx hb dX3_isWhole_23 (by decide) (fun c_23 => ?_) (fun c_23 => ?_)
      · have c_23 : (mi ro) = false := (bI_eq0 _).mp c_23
        refine lv_iconst (v := 0) hx hb dX3_isWhole_47 (by decide) ?_
        exact ct_endi hx hb hr hlocks rfl hP hD hS rfl (by simp [bI, c_4, c_11, c_23]) dX3_isWhole_48
      · have c_23 : (mi ro) = true := (bI_ne0 _).mp c_23
        refine lv_goto (tgt := 43) hx hb dX3_isWhole_26 (by decide) ?_
        refine lv_iconst (v := 1) hx hb dX3_isWhole_43 (by decide) ?_
        refine lv_goto (tgt := 48) hx hb dX3_isWhole_44 (by decide) ?_
        exact ct_endi hx hb hr hlocks rfl hP hD hS rfl (by simp [bI, c_4, c_11, c_23]) dX3_isWhole_48

set_option maxHeartbeats 4000000 in
set_option maxRecDepth 100000 in
theorem k_E_may (l : Launch) (D : va_G) (h : Nat → Nat) (k : Nat → ClassId) (tx : Nat → Int32) (sz : Nat) (im : Bool) (cm : Nat) (nw : Int64) (nd : Nat) (kd : Nat → Int32) (pa : Nat → Option Nat) (be : Nat → Option Nat) (af : Nat → Option Nat) (mi : Nat → Bool) (np : Nat) (lf : Nat → Nat) (nm : Nat → Int32) (dp : Nat) (la : Nat → Option Nat) (so : Nat → Int32) (ro : Nat)  (nb : Nat) (ok : okT nb pa be af np lf) (hro : im = true → ro < nb) (hcm : cm ≤ 600) :
    Ct l yX3_may wsX3_may (rmN 4) D vwCl (tyM k) [.ref (h 0)] (wM h k tx sz im cm nw (nd, kd, pa, be, af, mi, np, lf, nm, dp, la, so, ro)) (wM h k tx sz im cm nw (nd, kd, pa, be, af, mi, np, lf, nm, dp, la, so, ro)) (some (.int (myL (if cm = 0 then e_first kd pa be mi np lf im ro else abL nw (fun q => e_next kd pa be af mi np lf (nI q)) np 0 0) nm np 0 0))) := by
  refine Ct.of (cc := cX3_may) (maxL := 5) (ret := (some .int)) (lv := [(0, .ref (h 0))]) (by decide) rfl (Nat.le_of_ble_eq_true rfl) rfl ?_
  intro p e s m below meth c A ls hx hb hr hml hts hown hlocks hK hP hD hS hA hl
  have ok0 := ok
  obtain ⟨hnb, hnp, okP, okB, okA, okL⟩ := ok
  refine lv_aload_n hx hb dX3_may_0 rfl (lv_at hl 0 rfl) ?_
  refine lv_aload_n hx hb dX3_may_1 rfl (lv_at hl 0 rfl) ?_
  refine va_get (D := D) (ci := 3) (v := .long nw) (C := RX3) (T := TX3) (N := 18) hx hb hts (fun w h => lw_in w (inX3 w h)) hown hK hP 0 rfl rfl 17 (by decide) (hts _ (lw_in _ t_305)) (fun _ h9 => h9) rfl dX3_may_2 ?_
  refine ct_callV (As := [.long nw]) (rest := []) ⟨hx, hb, hml, hown, hts⟩ (k_E_able l D h k tx sz im cm nw nd kd pa be af mi np lf nm dp la so ro nw nb ok0 hro hcm) (cwV 1 hts (gV lw_in t_434 t_436 t_21 t_26 t_437) rfl rfl rfl (by decide +kernel) ⟨Nat.le_of_ble_eq_true rfl, Nat.le_of_ble_eq_true rfl⟩) 0 rfl rfl hK hP hD hS hA rfl hl.1 rfl (Nat.le_of_ble_eq_true rfl) dX3_may_5 ⟨Nat.zero_le _, Nat.zero_le _⟩ (fun H locs hP hD hS => ?_)
  refine W.eq (g2 := F0 m 8 ls [.long (if cm = 0 then e_first kd pa be mi np lf im ro else abL nw (fun q => e_next kd pa be af mi np lf (nI q)) np 0 0)]) rfl ?_
  refine lv_topl (fun b9 e_b => ?_)
  refine lv_lstore_n (lv' := [(1, .long b9), (0, .ref (h 0))]) hx hb dX3_may_8 rfl hl (by decide) rfl (fun ls hl => ?_)
  refine lv_iconst (v := 0) hx hb dX3_may_9 (by decide) ?_
  refine lv_istore_n (lv' := [(3, .int 0), (1, .long b9), (0, .ref (h 0))]) hx hb dX3_may_10 rfl hl (by decide) rfl (fun ls hl => ?_)
  refine lv_iconst (v := 0) hx hb dX3_may_11 (by decide) ?_
  refine lv_istore (lv' := [(4, .int 0), (3, .int 0), (1, .long b9), (0, .ref (h 0))]) hx hb dX3_may_12 hl (by decide) rfl (fun ls hl => ?_)
  have loop : ∀ (n : Nat) (i : Nat) (r : Int32), (i + n = np) → (myL b9 nm n i r = myL b9 nm np 0 0) → ∀ (H : Heap) (locs : List Loc), va_P D vwCl (wM h k tx sz im cm nw (nd, kd, pa, be, af, mi, np, lf, nm, dp, la, so, ro)) H → va_D A (wM h k tx sz im cm nw (nd, kd, pa, be, af, mi, np, lf, nm, dp, la, so, ro)) → va_S A s.heap H locs → ∀ ls : Array Slot, lv_has ls 5 [(4, .int (nI i)), (3, .int r), (1, .long b9), (0, .ref (h 0))] →
      W p l e (rmN 4) s m ([.ref (h 0)] : List Value).toArray below meth c H locs 0 0 (MQ below (CtQ D vwCl A (wM h k tx sz im cm nw (nd, kd, pa, be, af, mi, np, lf, nm, dp, la, so, ro)) (some (.int (myL (if cm = 0 then e_first kd pa be mi np lf im ro else abL nw (fun q => e_next kd pa be af mi np lf (nI q)) np 0 0) nm np 0 0)))) ([.ref (h 0)] : List Value).toArray s 0 0 A) (F0 m 14 ls []) := by
    intro n
    induction n with
    | zero =>
      intro i r hi he H locs hP hD hS ls hl
      refine lv_iload hx hb dX3_may_14 (lv_at hl 0 rfl) ?_
      refine lv_aload_n hx hb dX3_may_16 rfl (lv_at hl 3 rfl) ?_
      refine va_get (D := D) (ci := 3) (v := .int (nI np)) (C := RX3) (T := TX3) (N := 18) hx hb hts (fun w h => lw_in w (inX3 w h)) hown hK hP 0 rfl rfl 8 (by decide) (hts _ (lw_in _ t_296)) (fun _ h9 => h9) rfl dX3_may_17 ?_
      refine lv_icmp_ge (tgt := 56) hx hb dX3_may_20 (by decide) (fun c_20 => ?_) (fun c_20 => ?_)
      · have c_20 : np ≤ i := (nI_leI (a := np) (b := i) (by omega) (by omega)).mp c_20
        refine lv_iload_n hx hb dX3_may_56 rfl (lv_at hl 1 rfl) ?_
        exact ct_endi hx hb hr hlocks rfl hP hD hS rfl (by rw [← e_b, ← he]; rfl) dX3_may_57
      · have c_20 : i < np := Nat.lt_of_not_le (fun z => c_20 ((nI_leI (a := np) (b := i) (by omega) (by omega)).mpr z))
        exact absurd c_20 (by omega)
    | succ n ih =>
      intro i r hi he H locs hP hD hS ls hl
      refine lv_iload hx hb dX3_may_14 (lv_at hl 0 rfl) ?_
      refine lv_aload_n hx hb dX3_may_16 rfl (lv_at hl 3 rfl) ?_
      refine va_get (D := D) (ci := 3) (v := .int (nI np)) (C := RX3) (T := TX3) (N := 18) hx hb hts (fun w h => lw_in w (inX3 w h)) hown hK hP 0 rfl rfl 8 (by decide) (hts _ (lw_in _ t_296)) (fun _ h9 => h9) rfl dX3_may_17 ?_
      refine lv_icmp_ge (tgt := 56) hx hb dX3_may_20 (by decide) (fun c_20 => ?_) (fun c_20 => ?_)
      · have c_20 : np ≤ i := (nI_leI (a := np) (b := i) (by omega) (by omega)).mp c_20
        exact absurd c_20 (by omega)
      · have c_20 : i < np := Nat.lt_of_not_le (fun z => c_20 ((nI_leI (a := np) (b := i) (by omega) (by omega)).mpr z))
        refine lv_iload_n hx hb dX3_may_23 rfl (lv_at hl 1 rfl) ?_
        refine lv_lload_n hx hb dX3_may_24 rfl (lv_at hl 2 rfl) ?_
        refine lv_iload hx hb dX3_may_25 (lv_at hl 0 rfl) ?_
        refine lv_lshr (v := ((b9 : Int64) >>> ((nI i).toInt64 &&& 63))) hx hb dX3_may_27 rfl ?_
        refine lv_lconst (v := 1) hx hb dX3_may_28 (by decide) ?_
        refine lv_land hx hb dX3_may_29 ?_
        refine lv_lconst (v := 1) hx hb dX3_may_30 (by decide) ?_
        refine W.lcmp hx hb dX3_may_31 ?_
        refine lv_if_ne (tgt := 47) hx hb dX3_may_32 (by decide) (fun c_32 => ?_) (fun c_32 => ?_)
        · have c_32 : ¬ (((b9 : Int64) >>> ((nI i).toInt64 &&& 63)) &&& 1) = 1 := fun z => c_32 ((lg_cmp_eq _ _).mpr z)
          have c_32 : hB b9 i = false := hB_nr (by omega) c_32
          refine lv_iconst (v := 0) hx hb dX3_may_47 (by decide) ?_
          refine lv_ior hx hb dX3_may_48 ?_
          refine lv_istore_n (lv' := [(3, .int (r ||| 0)), (4, .int (nI i)), (1, .long b9), (0, .ref (h 0))]) hx hb dX3_may_49 rfl hl (by decide) rfl (fun ls hl => ?_)
          refine lv_iinc (v := nI (i + 1)) (lv' := [(4, .int (nI (i + 1))), (3, .int (r ||| 0)), (1, .long b9), (0, .ref (h 0))]) hx hb dX3_may_50 hl (k := 1) rfl (nI_1 _) (by decide) rfl (fun ls hl => ?_)
          refine lv_goto (tgt := 14) hx hb dX3_may_53 (by decide) ?_
          exact ih (i + 1) (r ||| 0) (by omega) (by rw [← he, myL, if_neg (bF c_32)]) _ _ hP hD hS _ (lv_sub hl [0, 1, 2, 3] rfl)
        · have c_32 : (((b9 : Int64) >>> ((nI i).toInt64 &&& 63)) &&& 1) = 1 := (lg_cmp_eq _ _).mp c_32
          have c_32 : hB b9 i = true := (hB_sr b9 (by omega)).mp c_32
          refine lv_iconst (v := 1) hx hb dX3_may_35 (by decide) ?_
          refine lv_aload_n hx hb dX3_may_36 rfl (lv_at hl 3 rfl) ?_
          refine va_get (D := D) (ci := 3) (v := .ref (h 8)) (C := RX3) (T := TX3) (N := 18) hx hb hts (fun w h => lw_in w (inX3 w h)) hown hK hP 0 rfl rfl 10 (by decide) (hts _ (lw_in _ t_298)) (fun _ h9 => h9) rfl dX3_may_37 ?_
          refine lv_iload hx hb dX3_may_40 (lv_at hl 0 rfl) ?_
          refine wx_iald hx hb hK hP 8 7 rfl rfl (i := i) (by omega) (by decide) dX3_may_42 ?_
          refine lv_ishl hx hb dX3_may_43 ?_
          refine lv_goto (tgt := 48) hx hb dX3_may_44 (by decide) ?_
          refine lv_ior hx hb dX3_may_48 ?_
          refine lv_istore_n (lv' := [(3, .int (r ||| (1 <<< ((nm i) &&& 31)))), (4, .int (nI i)), (1, .long b9), (0, .ref (h 0))]) hx hb dX3_may_49 rfl hl (by decide) rfl (fun ls hl => ?_)
          refine lv_iinc (v := nI (i + 1)) (lv' := [(4, .int (nI (i + 1))), (3, .int (r ||| (1 <<< ((nm i) &&& 31)))), (1, .long b9), (0, .ref (h 0))]) hx hb dX3_may_50 hl (k := 1) rfl (nI_1 _) (by decide) rfl (fun ls hl => ?_)
          refine lv_goto (tgt := 14) hx hb dX3_may_53 (by decide) ?_
          exact ih (i + 1) (r ||| (1 <<< ((nm i) &&& 31))) (by omega) (by rw [← he, myL, if_pos c_32]) _ _ hP hD hS _ (lv_sub hl [0, 1, 2, 3] rfl)
  exact loop np 0 0 (by omega) rfl _ _ hP hD hS _ (lv_sub hl [0, 1, 2, 3] rfl)

set_option maxHeartbeats 4000000 in
set_option maxRecDepth 100000 in
theorem k_E_again (l : Launch) (D : va_G) (h : Nat → Nat) (k : Nat → ClassId) (tx : Nat → Int32) (sz : Nat) (im : Bool) (cm : Nat) (nw : Int64) (T : TS)    :
    Ct l yX3_again wsX3_again (rmN 0) D vwCl (tyM k) [.ref (h 0)] (wM h k tx sz im cm nw T) (wM h k tx sz im 0 0 T) (some (.int (nI cm))) := by
  refine Ct.of (cc := cX3_again) (maxL := 2) (ret := (some .int)) (lv := [(0, .ref (h 0))]) (by decide) rfl (Nat.le_of_ble_eq_true rfl) rfl ?_
  intro p e s m below meth c A ls hx hb hr hml hts hown hlocks hK hP hD hS hA hl
  refine lv_aload_n hx hb dX3_again_0 rfl (lv_at hl 0 rfl) ?_
  refine va_get (D := D) (ci := 3) (v := .int (nI cm)) (C := RX3) (T := TX3) (N := 18) hx hb hts (fun w h => lw_in w (inX3 w h)) hown hK hP 0 rfl rfl 16 (by decide) (hts _ (lw_in _ t_304)) (fun _ h9 => h9) rfl dX3_again_1 ?_
  refine lv_istore_n (lv' := [(1, .int (nI cm)), (0, .ref (h 0))]) hx hb dX3_again_4 rfl hl (by decide) rfl (fun ls hl => ?_)
  refine lv_aload_n hx hb dX3_again_5 rfl (lv_at hl 1 rfl) ?_
  refine lv_iconst (v := 0) hx hb dX3_again_6 (by decide) ?_
  refine lv_eqi (show 0 = nI 0 from rfl) ?_
  refine va_put (D := D) (ci := 3) (v := .int (nI 0)) (ty := .int) (C := RX3) (T := TX3) (N := 18) hx hb hts (fun w h => lw_in w (inX3 w h)) tyX3 tyX3_ok nmX3 hown hK hP hD hS 0 rfl rfl 16 (by decide) (hts _ (lw_in _ t_304)) (fun _ h9 => h9) rfl (by decide +kernel) rfl rfl (Nat.le_of_ble_eq_true rfl) dX3_again_7 (fun H locs hP hD hS => ?_)
  have hP : va_P D vwCl (wM h k tx sz im 0 nw T) H := hP
  have hD : va_D A (wM h k tx sz im 0 nw T) := hD
  refine lv_aload_n hx hb dX3_again_10 rfl (lv_at hl 1 rfl) ?_
  refine lv_lconst (v := 0) hx hb dX3_again_11 (by decide) ?_
  refine va_put (D := D) (ci := 3) (v := .long 0) (ty := .long) (C := RX3) (T := TX3) (N := 18) hx hb hts (fun w h => lw_in w (inX3 w h)) tyX3 tyX3_ok nmX3 hown hK hP hD hS 0 rfl rfl 17 (by decide) (hts _ (lw_in _ t_305)) (fun _ h9 => h9) rfl (by decide +kernel) rfl rfl (Nat.le_of_ble_eq_true rfl) dX3_again_12 (fun H locs hP hD hS => ?_)
  have hP : va_P D vwCl (wM h k tx sz im 0 0 T) H := hP
  have hD : va_D A (wM h k tx sz im 0 0 T) := hD
  refine lv_iload_n hx hb dX3_again_15 rfl (lv_at hl 0 rfl) ?_
  exact ct_endi hx hb hr hlocks rfl hP hD hS rfl rfl dX3_again_16
