/-! The methods of the reference: parse (laid by program) -/
set_option maxHeartbeats 4000000 in
set_option maxRecDepth 100000 in
theorem k_E_put (l : Launch) (D : va_G) (h : Nat → Nat) (k : Nat → ClassId) (tx : Nat → Int32) (sz : Nat) (im : Bool) (cm : Nat) (nw : Int64) (T : TS) (v : Int64) (x : Int32)  (hsz : sz ≤ 300) :
    Ct l yX3_put wsX3_put (rmN 0) D vwCl (tyM k) [.ref (h 0), .long v, .int x] (wM h k tx sz im cm nw T) (wM h k (e_put tx sz v x).1 (e_put tx sz v x).2.1 im cm nw T) (some (.int (bI (e_put tx sz v x).2.2))) := by
  refine Ct.of (cc := cX3_put) (maxL := 5) (ret := (some .boolean)) (lv := [(0, .ref (h 0)), (1, .long v), (3, .int x)]) (by decide) rfl (Nat.le_of_ble_eq_true rfl) rfl ?_
  intro p e s m below meth c A ls hx hb hr hml hts hown hlocks hK hP hD hS hA hl
  refine lv_iload_n hx hb dX3_put_0 rfl (lv_at hl 2 rfl) ?_
  refine lv_iconst (v := 1) hx hb dX3_put_1 (by decide) ?_
  refine lv_icmp_lt (tgt := 23) hx hb dX3_put_2 (by decide) (fun c_2 => ?_) (fun c_2 => ?_)
  · have c_2 : x < 1 := c_2
    refine lv_iconst (v := 0) hx hb dX3_put_23 (by decide) ?_
    have e_24 : e_put tx sz v x = (tx, sz, false) := by unfold e_put; rw [if_pos c_2]
    exact ct_endi hx hb hr hlocks rfl hP hD hS (by rw [e_24]) (by rw [e_24]; rfl) dX3_put_24
  · have c_2 : ¬ x < 1 := c_2
    refine lv_iload_n hx hb dX3_put_5 rfl (lv_at hl 2 rfl) ?_
    refine lv_bipush (v := 8) hx hb dX3_put_6 (by decide) ?_
    refine lv_icmp_gt (tgt := 23) hx hb dX3_put_8 (by decide) (fun c_8 => ?_) (fun c_8 => ?_)
    · have c_8 : 8 < x := c_8
      refine lv_iconst (v := 0) hx hb dX3_put_23 (by decide) ?_
      have e_24 : e_put tx sz v x = (tx, sz, false) := by unfold e_put; rw [if_neg c_2, if_pos c_8]
      exact ct_endi hx hb hr hlocks rfl hP hD hS (by rw [e_24]) (by rw [e_24]; rfl) dX3_put_24
    · have c_8 : ¬ 8 < x := c_8
      obtain ⟨q, hq1, hq8, rfl⟩ : ∃ q : Nat, 1 ≤ q ∧ q ≤ 8 ∧ x = nI q := p_count c_2 c_8
      refine lv_aload_n hx hb dX3_put_11 rfl (lv_at hl 0 rfl) ?_
      refine va_get (D := D) (ci := 3) (v := .int (nI sz)) (C := RX3) (T := TX3) (N := 18) hx hb hts (fun w h => lw_in w (inX3 w h)) hown hK hP 0 rfl rfl 1 (by decide) (hts _ (lw_in _ t_289)) (fun _ h9 => h9) rfl dX3_put_12 ?_
      refine lv_iload_n hx hb dX3_put_15 rfl (lv_at hl 2 rfl) ?_
      refine lv_iadd hx hb dX3_put_16 ?_
      refine lv_eqi (show (nI sz + nI q) = nI (sz + q) from nI_add _ _) ?_
      refine lv_sipush (v := 300) hx hb dX3_put_17 (by decide) ?_
      refine lv_icmp_le (tgt := 25) hx hb dX3_put_20 (by decide) (fun c_20 => ?_) (fun c_20 => ?_)
      · have c_20 : (sz + q) ≤ 300 := (nI_leI (a := (sz + q)) (b := 300) (by omega) (by omega)).mp c_20
        refine lv_iconst (v := 0) hx hb dX3_put_25 (by decide) ?_
        refine lv_istore (lv' := [(4, .int 0), (0, .ref (h 0)), (1, .long v), (3, .int (nI q))]) hx hb dX3_put_26 hl (by decide) rfl (fun ls hl => ?_)
        have loop : ∀ (n : Nat) (k9 : Nat) (tx1 : Nat → Int32), (k9 + n = q) → (ptR v sz q n k9 tx1 = ptR v sz q q 0 tx) → ∀ (H : Heap) (locs : List Loc), va_P D vwCl (wM h k tx1 sz im cm nw T) H → va_D A (wM h k tx1 sz im cm nw T) → va_S A s.heap H locs → ∀ ls : Array Slot, lv_has ls 5 [(4, .int (nI k9)), (0, .ref (h 0)), (1, .long v), (3, .int (nI q))] →
            W p l e (rmN 0) s m ([.ref (h 0), .long v, .int (nI q)] : List Value).toArray below meth c H locs 0 0 (MQ below (CtQ D vwCl A (wM h k (e_put tx sz v (nI q)).1 (e_put tx sz v (nI q)).2.1 im cm nw T) (some (.int (bI (e_put tx sz v (nI q)).2.2)))) ([.ref (h 0), .long v, .int (nI q)] : List Value).toArray s 0 0 A) (F0 m 28 ls []) := by
          intro n
          induction n with
          | zero =>
            intro k9 tx1 hi he H locs hP hD hS ls hl
            refine lv_iload hx hb dX3_put_28 (lv_at hl 0 rfl) ?_
            refine lv_iload_n hx hb dX3_put_30 rfl (lv_at hl 3 rfl) ?_
            refine lv_icmp_ge (tgt := 68) hx hb dX3_put_31 (by decide) (fun c_31 => ?_) (fun c_31 => ?_)
            · have c_31 : q ≤ k9 := (nI_leI (a := q) (b := k9) (by omega) (by omega)).mp c_31
              refine lv_aload_n hx hb dX3_put_68 rfl (lv_at hl 1 rfl) ?_
              refine lv_aload_n hx hb dX3_put_69 rfl (lv_at hl 1 rfl) ?_
              refine va_get (D := D) (ci := 3) (v := .int (nI sz)) (C := RX3) (T := TX3) (N := 18) hx hb hts (fun w h => lw_in w (inX3 w h)) hown hK hP 0 rfl rfl 1 (by decide) (hts _ (lw_in _ t_289)) (fun _ h9 => h9) rfl dX3_put_70 ?_
              refine lv_iload_n hx hb dX3_put_73 rfl (lv_at hl 3 rfl) ?_
              refine lv_iadd hx hb dX3_put_74 ?_
              refine lv_eqi (show (nI sz + nI q) = nI (sz + q) from nI_add _ _) ?_
              refine va_put (D := D) (ci := 3) (v := .int (nI (sz + q))) (ty := .int) (C := RX3) (T := TX3) (N := 18) hx hb hts (fun w h => lw_in w (inX3 w h)) tyX3 tyX3_ok nmX3 hown hK hP hD hS 0 rfl rfl 1 (by decide) (hts _ (lw_in _ t_289)) (fun _ h9 => h9) rfl (by decide +kernel) rfl rfl (Nat.le_of_ble_eq_true rfl) dX3_put_75 (fun H locs hP hD hS => ?_)
              have hP : va_P D vwCl (wM h k tx1 (sz + q) im cm nw T) H := hP
              have hD : va_D A (wM h k tx1 (sz + q) im cm nw T) := hD
              refine lv_iconst (v := 1) hx hb dX3_put_78 (by decide) ?_
              have e_69 : e_put tx sz v (nI q) = (ptR v sz q q 0 tx, sz + q, true) := by unfold e_put; rw [if_neg c_2, if_neg c_8, nI_clamp (by omega), if_neg (by omega)]
              exact ct_endi hx hb hr hlocks rfl hP hD hS (by rw [e_69, ← he]; rfl) (by rw [e_69]; rfl) dX3_put_79
            · have c_31 : k9 < q := Nat.lt_of_not_le (fun z => c_31 ((nI_leI (a := q) (b := k9) (by omega) (by omega)).mpr z))
              exact absurd c_31 (by omega)
          | succ n ih =>
            intro k9 tx1 hi he H locs hP hD hS ls hl
            refine lv_iload hx hb dX3_put_28 (lv_at hl 0 rfl) ?_
            refine lv_iload_n hx hb dX3_put_30 rfl (lv_at hl 3 rfl) ?_
            refine lv_icmp_ge (tgt := 68) hx hb dX3_put_31 (by decide) (fun c_31 => ?_) (fun c_31 => ?_)
            · have c_31 : q ≤ k9 := (nI_leI (a := q) (b := k9) (by omega) (by omega)).mp c_31
              exact absurd c_31 (by omega)
            · have c_31 : k9 < q := Nat.lt_of_not_le (fun z => c_31 ((nI_leI (a := q) (b := k9) (by omega) (by omega)).mpr z))
              refine lv_aload_n hx hb dX3_put_34 rfl (lv_at hl 1 rfl) ?_
              refine va_get (D := D) (ci := 3) (v := .ref (h 1)) (C := RX3) (T := TX3) (N := 18) hx hb hts (fun w h => lw_in w (inX3 w h)) hown hK hP 0 rfl rfl 0 (by decide) (hts _ (lw_in _ t_288)) (fun _ h9 => h9) rfl dX3_put_35 ?_
              refine lv_aload_n hx hb dX3_put_38 rfl (lv_at hl 1 rfl) ?_
              refine va_get (D := D) (ci := 3) (v := .int (nI sz)) (C := RX3) (T := TX3) (N := 18) hx hb hts (fun w h => lw_in w (inX3 w h)) hown hK hP 0 rfl rfl 1 (by decide) (hts _ (lw_in _ t_289)) (fun _ h9 => h9) rfl dX3_put_39 ?_
              refine lv_iload hx hb dX3_put_42 (lv_at hl 0 rfl) ?_
              refine lv_iadd hx hb dX3_put_44 ?_
              refine lv_eqi (show (nI sz + nI k9) = nI (sz + k9) from nI_add _ _) ?_
              refine lv_lload_n hx hb dX3_put_45 rfl (lv_at hl 2 rfl) ?_
              refine lv_bipush (v := 8) hx hb dX3_put_46 (by decide) ?_
              refine lv_iload_n hx hb dX3_put_48 rfl (lv_at hl 3 rfl) ?_
              refine lv_iconst (v := 1) hx hb dX3_put_49 (by decide) ?_
              refine lv_isub hx hb dX3_put_50 ?_
              refine lv_iload hx hb dX3_put_51 (lv_at hl 0 rfl) ?_
              refine lv_isub hx hb dX3_put_53 ?_
              refine lv_imul hx hb dX3_put_54 ?_
              refine lv_lshr (v := ((v : Int64) >>> ((8 * ((nI q - 1) - nI k9)).toInt64 &&& 63))) hx hb dX3_put_55 rfl ?_
              refine lv_ldc2 (v := 255) hx hb hown (hts _ (lw_in _ t_347)) dX3_put_56 ?_
              refine lv_land hx hb dX3_put_59 ?_
              refine lv_l2i (v := (((v : Int64) >>> ((8 * ((nI q - 1) - nI k9)).toInt64 &&& 63)) &&& 255).toInt32) hx hb dX3_put_60 rfl ?_
              refine wx_iast hx hb hK hP hD hS 1 0 rfl rfl (i := (sz + k9)) (by omega) (by decide) dX3_put_61 (fun H locs hP hD hS => ?_)
              have hP : va_P D vwCl (wM h k (upd tx1 (sz + k9) ((((v : Int64) >>> ((8 * ((nI q - 1) - nI k9)).toInt64 &&& 63)) &&& 255).toInt32)) sz im cm nw T) H := hP
              have hD : va_D A (wM h k (upd tx1 (sz + k9) ((((v : Int64) >>> ((8 * ((nI q - 1) - nI k9)).toInt64 &&& 63)) &&& 255).toInt32)) sz im cm nw T) := hD
              refine lv_iinc (v := nI (k9 + 1)) (lv' := [(4, .int (nI (k9 + 1))), (0, .ref (h 0)), (1, .long v), (3, .int (nI q))]) hx hb dX3_put_62 hl (k := 0) rfl (nI_1 _) (by decide) rfl (fun ls hl => ?_)
              refine lv_goto (tgt := 28) hx hb dX3_put_65 (by decide) ?_
              exact ih (k9 + 1) (upd tx1 (sz + k9) ((((v : Int64) >>> ((8 * ((nI q - 1) - nI k9)).toInt64 &&& 63)) &&& 255).toInt32)) (by omega) (by rw [← he, ptR, byteR]) _ _ hP hD hS _ (lv_sub hl [0, 1, 2, 3] rfl)
        exact loop q 0 tx (by omega) rfl _ _ hP hD hS _ (lv_sub hl [0, 1, 2, 3] rfl)
      · have c_20 : 300 < (sz + q) := Nat.lt_of_not_le (fun z => c_20 ((nI_leI (a := (sz + q)) (b := 300) (by omega) (by omega)).mpr z))
        refine lv_iconst (v := 0) hx hb dX3_put_23 (by decide) ?_
        have e_24 : e_put tx sz v (nI q) = (tx, sz, false) := by unfold e_put; rw [if_neg c_2, if_neg c_8, nI_clamp (by omega), if_pos (by omega)]
        exact ct_endi hx hb hr hlocks rfl hP hD hS (by rw [e_24]) (by rw [e_24]; rfl) dX3_put_24

set_option maxHeartbeats 4000000 in
set_option maxRecDepth 100000 in
theorem k_E_close (l : Launch) (D : va_G) (h : Nat → Nat) (k : Nat → ClassId) (tx : Nat → Int32) (sz : Nat) (im : Bool) (cm : Nat) (nw : Int64) (nd : Nat) (kd : Nat → Int32) (pa : Nat → Option Nat) (be : Nat → Option Nat) (af : Nat → Option Nat) (mi : Nat → Bool) (np : Nat) (lf : Nat → Nat) (nm : Nat → Int32) (d : Nat) (la : Nat → Option Nat) (so : Nat → Int32) (ro : Nat)   (hnd : nd < 700) (hd : d < 12) (hla : ∀ w0, la d = some w0 → w0 < nd) (hbe : ∀ x y, x < nd → be x = some y → y < x) :
    Ct l yX3_close wsX3_close (rmN 1) D vwCl (tyM k) [.ref (h 0)] (wM h k tx sz im cm nw (nd, kd, pa, be, af, mi, np, lf, nm, (d + 1), la, so, ro)) (wM h k tx sz im cm nw (t_close (nd, kd, pa, be, af, mi, np, lf, nm, d + 1, la, so, ro) d)) (some (.int (nI nd))) := by
  refine Ct.of (cc := cX3_close) (maxL := 5) (ret := (some .int)) (lv := [(0, .ref (h 0))]) (by decide) rfl (Nat.le_of_ble_eq_true rfl) rfl ?_
  intro p e s m below meth c A ls hx hb hr hml hts hown hlocks hK hP hD hS hA hl
  refine lv_aload_n hx hb dX3_close_0 rfl (lv_at hl 0 rfl) ?_
  refine lv_aload_n hx hb dX3_close_1 rfl (lv_at hl 0 rfl) ?_
  refine va_get (D := D) (ci := 3) (v := .ref (h 10)) (C := RX3) (T := TX3) (N := 18) hx hb hts (fun w h => lw_in w (inX3 w h)) hown hK hP 0 rfl rfl 14 (by decide) (hts _ (lw_in _ t_302)) (fun _ h9 => h9) rfl dX3_close_2 ?_
  refine lv_aload_n hx hb dX3_close_5 rfl (lv_at hl 0 rfl) ?_
  refine va_get (D := D) (ci := 3) (v := .int (nI (d + 1))) (C := RX3) (T := TX3) (N := 18) hx hb hts (fun w h => lw_in w (inX3 w h)) hown hK hP 0 rfl rfl 12 (by decide) (hts _ (lw_in _ t_300)) (fun _ h9 => h9) rfl dX3_close_6 ?_
  refine lv_iconst (v := 1) hx hb dX3_close_9 (by decide) ?_
  refine lv_isub hx hb dX3_close_10 ?_
  refine lv_eqi (show (nI (d + 1) - 1) = nI d from nI_pred _) ?_
  refine wx_iald hx hb hK hP 10 9 rfl rfl (i := d) hd (by decide) dX3_close_11 ?_
  refine lv_iconst (v := 1) hx hb dX3_close_12 (by decide) ?_
  refine lv_icmp_ne (tgt := 20) hx hb dX3_close_13 (by decide) (fun c_13 => ?_) (fun c_13 => ?_)
  · have c_13 : ¬ (so d) = 1 := c_13
    refine lv_iconst (v := 2) hx hb dX3_close_20 (by decide) ?_
    refine ct_callV (As := [.int 2]) (rest := []) ⟨hx, hb, hml, hown, hts⟩ (k_E_node l D h k tx sz im cm nw nd kd pa be af mi np lf nm (d + 1) la so ro 2  (by omega)) (cwV 1 hts (gV lw_in t_364 t_366 t_13 t_26 t_367) rfl rfl rfl (by decide +kernel) ⟨Nat.le_of_ble_eq_true rfl, Nat.le_of_ble_eq_true rfl⟩) 0 rfl rfl hK hP hD hS hA rfl hl.1 rfl (Nat.le_of_ble_eq_true rfl) dX3_close_21 ⟨Nat.zero_le _, Nat.zero_le _⟩ (fun H locs hP hD hS => ?_)
    refine W.eq (g2 := F0 m 24 ls [.int (nI nd)]) rfl ?_
    have hP : va_P D vwCl (wM h k tx sz im cm nw ((nd + 1), (upd kd nd 2), (va_up pa nd none), (va_up be nd none), (va_up af nd none), (va_up mi nd (nkM 2)), np, lf, nm, (d + 1), la, so, ro)) H := hP
    have hD : va_D A (wM h k tx sz im cm nw ((nd + 1), (upd kd nd 2), (va_up pa nd none), (va_up be nd none), (va_up af nd none), (va_up mi nd (nkM 2)), np, lf, nm, (d + 1), la, so, ro)) := hD
    refine lv_istore_n (lv' := [(1, .int (nI nd)), (0, .ref (h 0))]) hx hb dX3_close_24 rfl hl (by decide) rfl (fun ls hl => ?_)
    refine lv_iconst (v := 1) hx hb dX3_close_25 (by decide) ?_
    refine lv_istore_n (lv' := [(2, .int 1), (1, .int (nI nd)), (0, .ref (h 0))]) hx hb dX3_close_26 rfl hl (by decide) rfl (fun ls hl => ?_)
    refine lv_iconst (v := 0) hx hb dX3_close_27 (by decide) ?_
    refine lv_istore_n (lv' := [(3, .int 0), (2, .int 1), (1, .int (nI nd)), (0, .ref (h 0))]) hx hb dX3_close_28 rfl hl (by decide) rfl (fun ls hl => ?_)
    refine lv_aload_n hx hb dX3_close_29 rfl (lv_at hl 3 rfl) ?_
    refine va_get (D := D) (ci := 3) (v := .ref (h 9)) (C := RX3) (T := TX3) (N := 18) hx hb hts (fun w h => lw_in w (inX3 w h)) hown hK hP 0 rfl rfl 13 (by decide) (hts _ (lw_in _ t_301)) (fun _ h9 => h9) rfl dX3_close_30 ?_
    refine lv_aload_n hx hb dX3_close_33 rfl (lv_at hl 3 rfl) ?_
    refine va_get (D := D) (ci := 3) (v := .int (nI (d + 1))) (C := RX3) (T := TX3) (N := 18) hx hb hts (fun w h => lw_in w (inX3 w h)) hown hK hP 0 rfl rfl 12 (by decide) (hts _ (lw_in _ t_300)) (fun _ h9 => h9) rfl dX3_close_34 ?_
    refine lv_iconst (v := 1) hx hb dX3_close_37 (by decide) ?_
    refine lv_isub hx hb dX3_close_38 ?_
    refine lv_eqi (show (nI (d + 1) - 1) = nI d from nI_pred _) ?_
    refine wx_pald hx hb hK hP 9 8 rfl rfl (i := d) hd (by decide) dX3_close_39 ?_
    refine lv_istore (lv' := [(4, .int (pI (la d))), (3, .int 0), (2, .int 1), (1, .int (nI nd)), (0, .ref (h 0))]) hx hb dX3_close_40 hl (by decide) rfl (fun ls hl => ?_)
    have loop2 : ∀ (g : Nat) (o : Option Nat) (pa1 : Nat → Option Nat) (a9 : Bool) (b9 : Bool), (∀ w0, o = some w0 → w0 < g ∧ w0 < nd) → (clL (va_up be nd none) (va_up mi nd (nkM 2)) nd g o pa1 a9 b9 = clL (va_up be nd none) (va_up mi nd (nkM 2)) nd 701 (la d) (va_up pa nd none) true false) → ∀ (H : Heap) (locs : List Loc), va_P D vwCl (wM h k tx sz im cm nw ((nd + 1), (upd kd nd 2), pa1, (va_up be nd none), (va_up af nd none), (va_up mi nd (nkM 2)), np, lf, nm, (d + 1), la, so, ro)) H → va_D A (wM h k tx sz im cm nw ((nd + 1), (upd kd nd 2), pa1, (va_up be nd none), (va_up af nd none), (va_up mi nd (nkM 2)), np, lf, nm, (d + 1), la, so, ro)) → va_S A s.heap H locs → ∀ ls : Array Slot, lv_has ls 5 [(4, .int (pI o)), (3, .int (bI b9)), (2, .int (bI a9)), (1, .int (nI nd)), (0, .ref (h 0))] →
        W p l e (rmN 1) s m ([.ref (h 0)] : List Value).toArray below meth c H locs 0 0 (MQ below (CtQ D vwCl A (wM h k tx sz im cm nw (t_close (nd, kd, pa, be, af, mi, np, lf, nm, d + 1, la, so, ro) d)) (some (.int (nI nd)))) ([.ref (h 0)] : List Value).toArray s 0 0 A) (F0 m 42 ls []) := by
      intro g
      induction g with
      | zero =>
        intro o pa1 a9 b9 ho hk H locs hP hD hS ls hl
        rcases o with _ | w0
        · have hl : lv_has ls 5 [(4, .int (-1)), (3, .int (bI b9)), (2, .int (bI a9)), (1, .int (nI nd)), (0, .ref (h 0))] := hl
          refine lv_iload hx hb dX3_close_42 (lv_at hl 0 rfl) ?_
          refine lv_if_lt (tgt := 107) hx hb dX3_close_44 (by decide) (fun c_44 => ?_) (fun c_44 => ?_)
          · refine lv_aload_n hx hb dX3_close_107 rfl (lv_at hl 4 rfl) ?_
            refine va_get (D := D) (ci := 3) (v := .ref (h 6)) (C := RX3) (T := TX3) (N := 18) hx hb hts (fun w h => lw_in w (inX3 w h)) hown hK hP 0 rfl rfl 7 (by decide) (hts _ (lw_in _ t_295)) (fun _ h9 => h9) rfl dX3_close_108 ?_
            refine lv_iload_n hx hb dX3_close_111 rfl (lv_at hl 3 rfl) ?_
            refine lv_aload_n hx hb dX3_close_112 rfl (lv_at hl 4 rfl) ?_
            refine va_get (D := D) (ci := 3) (v := .ref (h 2)) (C := RX3) (T := TX3) (N := 18) hx hb hts (fun w h => lw_in w (inX3 w h)) hown hK hP 0 rfl rfl 3 (by decide) (hts _ (lw_in _ t_291)) (fun _ h9 => h9) rfl dX3_close_113 ?_
            refine lv_iload_n hx hb dX3_close_116 rfl (lv_at hl 3 rfl) ?_
            refine wx_iald hx hb hK hP 2 1 rfl rfl (i := nd) hnd (by decide) dX3_close_117 ?_
            refine lv_iconst (v := 1) hx hb dX3_close_118 (by decide) ?_
            refine lv_icmp_ne (tgt := 126) hx hb dX3_close_119 (by decide) (fun c_119 => ?_) (fun c_119 => ?_)
            · have c_119 : ¬ ((upd kd nd 2) nd) = 1 := c_119
              refine lv_iload_n hx hb dX3_close_126 rfl (lv_at hl 2 rfl) ?_
              refine wx_zastB (x := a9) (g := (va_up mi nd (nkM 2))) hx hb hK hP hD hS 6 5 rfl rfl (i := nd) hnd (by decide) dX3_close_127 (fun H locs hP hD hS => ?_)
              have hP : va_P D vwCl (wM h k tx sz im cm nw ((nd + 1), (upd kd nd 2), pa1, (va_up be nd none), (va_up af nd none), (va_up (va_up mi nd (nkM 2)) nd a9), np, lf, nm, (d + 1), la, so, ro)) H := hP
              have hD : va_D A (wM h k tx sz im cm nw ((nd + 1), (upd kd nd 2), pa1, (va_up be nd none), (va_up af nd none), (va_up (va_up mi nd (nkM 2)) nd a9), np, lf, nm, (d + 1), la, so, ro)) := hD
              refine lv_aload_n hx hb dX3_close_128 rfl (lv_at hl 4 rfl) ?_
              refine lv_aload_n hx hb dX3_close_129 rfl (lv_at hl 4 rfl) ?_
              refine va_get (D := D) (ci := 3) (v := .int (nI (d + 1))) (C := RX3) (T := TX3) (N := 18) hx hb hts (fun w h => lw_in w (inX3 w h)) hown hK hP 0 rfl rfl 12 (by decide) (hts _ (lw_in _ t_300)) (fun _ h9 => h9) rfl dX3_close_130 ?_
              refine lv_iconst (v := 1) hx hb dX3_close_133 (by decide) ?_
              refine lv_isub hx hb dX3_close_134 ?_
              refine lv_eqi (show (nI (d + 1) - 1) = nI d from nI_pred _) ?_
              refine va_put (D := D) (ci := 3) (v := .int (nI d)) (ty := .int) (C := RX3) (T := TX3) (N := 18) hx hb hts (fun w h => lw_in w (inX3 w h)) tyX3 tyX3_ok nmX3 hown hK hP hD hS 0 rfl rfl 12 (by decide) (hts _ (lw_in _ t_300)) (fun _ h9 => h9) rfl (by decide +kernel) rfl rfl (Nat.le_of_ble_eq_true rfl) dX3_close_135 (fun H locs hP hD hS => ?_)
              have hP : va_P D vwCl (wM h k tx sz im cm nw ((nd + 1), (upd kd nd 2), pa1, (va_up be nd none), (va_up af nd none), (va_up (va_up mi nd (nkM 2)) nd a9), np, lf, nm, d, la, so, ro)) H := hP
              have hD : va_D A (wM h k tx sz im cm nw ((nd + 1), (upd kd nd 2), pa1, (va_up be nd none), (va_up af nd none), (va_up (va_up mi nd (nkM 2)) nd a9), np, lf, nm, d, la, so, ro)) := hD
              refine lv_iload_n hx hb dX3_close_138 rfl (lv_at hl 3 rfl) ?_
              have e_k : clK (so d) = 2 := by rw [clK, if_neg c_13]
              have e_c : clL (va_up be nd none) (va_up mi nd (nkM 2)) nd 701 (la d) (va_up pa nd none) true false = (pa1, a9, b9) := by rw [← hk]; rfl
              have e_t : t_close (nd, kd, pa, be, af, mi, np, lf, nm, d + 1, la, so, ro) d = ((nd + 1), (upd kd nd 2), pa1, (va_up be nd none), (va_up af nd none), (va_up (va_up mi nd (nkM 2)) nd a9), np, lf, nm, d, la, so, ro) := by
                simp only [t_close, e_k]
                rw [e_c]
                simp only [if_neg c_119]
              exact ct_endi hx hb hr hlocks rfl hP hD hS (by rw [e_t]) rfl dX3_close_139
            · have c_119 : ((upd kd nd 2) nd) = 1 := c_119
              refine lv_iload_n hx hb dX3_close_122 rfl (lv_at hl 1 rfl) ?_
              refine lv_goto (tgt := 127) hx hb dX3_close_123 (by decide) ?_
              refine wx_zastB (x := b9) (g := (va_up mi nd (nkM 2))) hx hb hK hP hD hS 6 5 rfl rfl (i := nd) hnd (by decide) dX3_close_127 (fun H locs hP hD hS => ?_)
              have hP : va_P D vwCl (wM h k tx sz im cm nw ((nd + 1), (upd kd nd 2), pa1, (va_up be nd none), (va_up af nd none), (va_up (va_up mi nd (nkM 2)) nd b9), np, lf, nm, (d + 1), la, so, ro)) H := hP
              have hD : va_D A (wM h k tx sz im cm nw ((nd + 1), (upd kd nd 2), pa1, (va_up be nd none), (va_up af nd none), (va_up (va_up mi nd (nkM 2)) nd b9), np, lf, nm, (d + 1), la, so, ro)) := hD
              refine lv_aload_n hx hb dX3_close_128 rfl (lv_at hl 4 rfl) ?_
              refine lv_aload_n hx hb dX3_close_129 rfl (lv_at hl 4 rfl) ?_
              refine va_get (D := D) (ci := 3) (v := .int (nI (d + 1))) (C := RX3) (T := TX3) (N := 18) hx hb hts (fun w h => lw_in w (inX3 w h)) hown hK hP 0 rfl rfl 12 (by decide) (hts _ (lw_in _ t_300)) (fun _ h9 => h9) rfl dX3_close_130 ?_
              refine lv_iconst (v := 1) hx hb dX3_close_133 (by decide) ?_
              refine lv_isub hx hb dX3_close_134 ?_
              refine lv_eqi (show (nI (d + 1) - 1) = nI d from nI_pred _) ?_
              refine va_put (D := D) (ci := 3) (v := .int (nI d)) (ty := .int) (C := RX3) (T := TX3) (N := 18) hx hb hts (fun w h => lw_in w (inX3 w h)) tyX3 tyX3_ok nmX3 hown hK hP hD hS 0 rfl rfl 12 (by decide) (hts _ (lw_in _ t_300)) (fun _ h9 => h9) rfl (by decide +kernel) rfl rfl (Nat.le_of_ble_eq_true rfl) dX3_close_135 (fun H locs hP hD hS => ?_)
              have hP : va_P D vwCl (wM h k tx sz im cm nw ((nd + 1), (upd kd nd 2), pa1, (va_up be nd none), (va_up af nd none), (va_up (va_up mi nd (nkM 2)) nd b9), np, lf, nm, d, la, so, ro)) H := hP
              have hD : va_D A (wM h k tx sz im cm nw ((nd + 1), (upd kd nd 2), pa1, (va_up be nd none), (va_up af nd none), (va_up (va_up mi nd (nkM 2)) nd b9), np, lf, nm, d, la, so, ro)) := hD
              refine lv_iload_n hx hb dX3_close_138 rfl (lv_at hl 3 rfl) ?_
              have e_k : clK (so d) = 2 := by rw [clK, if_neg c_13]
              have e_c : clL (va_up be nd none) (va_up mi nd (nkM 2)) nd 701 (la d) (va_up pa nd none) true false = (pa1, a9, b9) := by rw [← hk]; rfl
              have e_t : t_close (nd, kd, pa, be, af, mi, np, lf, nm, d + 1, la, so, ro) d = ((nd + 1), (upd kd nd 2), pa1, (va_up be nd none), (va_up af nd none), (va_up (va_up mi nd (nkM 2)) nd b9), np, lf, nm, d, la, so, ro) := by
                simp only [t_close, e_k]
                rw [e_c]
                simp only [if_pos c_119]
              exact ct_endi hx hb hr hlocks rfl hP hD hS (by rw [e_t]) rfl dX3_close_139
          · exact absurd (by decide) c_44
        · have hl : lv_has ls 5 [(4, .int (nI w0)), (3, .int (bI b9)), (2, .int (bI a9)), (1, .int (nI nd)), (0, .ref (h 0))] := hl
          exact absurd (ho w0 rfl).1 (Nat.not_lt_zero _)
      | succ g ih2 =>
        intro o pa1 a9 b9 ho hk H locs hP hD hS ls hl
        rcases o with _ | w0
        · have hl : lv_has ls 5 [(4, .int (-1)), (3, .int (bI b9)), (2, .int (bI a9)), (1, .int (nI nd)), (0, .ref (h 0))] := hl
          refine lv_iload hx hb dX3_close_42 (lv_at hl 0 rfl) ?_
          refine lv_if_lt (tgt := 107) hx hb dX3_close_44 (by decide) (fun c_44 => ?_) (fun c_44 => ?_)
          · refine lv_aload_n hx hb dX3_close_107 rfl (lv_at hl 4 rfl) ?_
            refine va_get (D := D) (ci := 3) (v := .ref (h 6)) (C := RX3) (T := TX3) (N := 18) hx hb hts (fun w h => lw_in w (inX3 w h)) hown hK hP 0 rfl rfl 7 (by decide) (hts _ (lw_in _ t_295)) (fun _ h9 => h9) rfl dX3_close_108 ?_
            refine lv_iload_n hx hb dX3_close_111 rfl (lv_at hl 3 rfl) ?_
            refine lv_aload_n hx hb dX3_close_112 rfl (lv_at hl 4 rfl) ?_
            refine va_get (D := D) (ci := 3) (v := .ref (h 2)) (C := RX3) (T := TX3) (N := 18) hx hb hts (fun w h => lw_in w (inX3 w h)) hown hK hP 0 rfl rfl 3 (by decide) (hts _ (lw_in _ t_291)) (fun _ h9 => h9) rfl dX3_close_113 ?_
            refine lv_iload_n hx hb dX3_close_116 rfl (lv_at hl 3 rfl) ?_
            refine wx_iald hx hb hK hP 2 1 rfl rfl (i := nd) hnd (by decide) dX3_close_117 ?_
            refine lv_iconst (v := 1) hx hb dX3_close_118 (by decide) ?_
            refine lv_icmp_ne (tgt := 126) hx hb dX3_close_119 (by decide) (fun c_119 => ?_) (fun c_119 => ?_)
            · have c_119 : ¬ ((upd kd nd 2) nd) = 1 := c_119
              refine lv_iload_n hx hb dX3_close_126 rfl (lv_at hl 2 rfl) ?_
              refine wx_zastB (x := a9) (g := (va_up mi nd (nkM 2))) hx hb hK hP hD hS 6 5 rfl rfl (i := nd) hnd (by decide) dX3_close_127 (fun H locs hP hD hS => ?_)
              have hP : va_P D vwCl (wM h k tx sz im cm nw ((nd + 1), (upd kd nd 2), pa1, (va_up be nd none), (va_up af nd none), (va_up (va_up mi nd (nkM 2)) nd a9), np, lf, nm, (d + 1), la, so, ro)) H := hP
              have hD : va_D A (wM h k tx sz im cm nw ((nd + 1), (upd kd nd 2), pa1, (va_up be nd none), (va_up af nd none), (va_up (va_up mi nd (nkM 2)) nd a9), np, lf, nm, (d + 1), la, so, ro)) := hD
              refine lv_aload_n hx hb dX3_close_128 rfl (lv_at hl 4 rfl) ?_
              refine lv_aload_n hx hb dX3_close_129 rfl (lv_at hl 4 rfl) ?_
              refine va_get (D := D) (ci := 3) (v := .int (nI (d + 1))) (C := RX3) (T := TX3) (N := 18) hx hb hts (fun w h => lw_in w (inX3 w h)) hown hK hP 0 rfl rfl 12 (by decide) (hts _ (lw_in _ t_300)) (fun _ h9 => h9) rfl dX3_close_130 ?_
              refine lv_iconst (v := 1) hx hb dX3_close_133 (by decide) ?_
              refine lv_isub hx hb dX3_close_134 ?_
              refine lv_eqi (show (nI (d + 1) - 1) = nI d from nI_pred _) ?_
              refine va_put (D := D) (ci := 3) (v := .int (nI d)) (ty := .int) (C := RX3) (T := TX3) (N := 18) hx hb hts (fun w h => lw_in w (inX3 w h)) tyX3 tyX3_ok nmX3 hown hK hP hD hS 0 rfl rfl 12 (by decide) (hts _ (lw_in _ t_300)) (fun _ h9 => h9) rfl (by decide +kernel) rfl rfl (Nat.le_of_ble_eq_true rfl) dX3_close_135 (fun H locs hP hD hS => ?_)
              have hP : va_P D vwCl (wM h k tx sz im cm nw ((nd + 1), (upd kd nd 2), pa1, (va_up be nd none), (va_up af nd none), (va_up (va_up mi nd (nkM 2)) nd a9), np, lf, nm, d, la, so, ro)) H := hP
              have hD : va_D A (wM h k tx sz im cm nw ((nd + 1), (upd kd nd 2), pa1, (va_up be nd none), (va_up af nd none), (va_up (va_up mi nd (nkM 2)) nd a9), np, lf, nm, d, la, so, ro)) := hD
              refine lv_iload_n hx hb dX3_close_138 rfl (lv_at hl 3 rfl) ?_
              have e_k : clK (so d) = 2 := by rw [clK, if_neg c_13]
              have e_c : clL (va_up be nd none) (va_up mi nd (nkM 2)) nd 701 (la d) (va_up pa nd none) true false = (pa1, a9, b9) := by rw [← hk]; rfl
              have e_t : t_close (nd, kd, pa, be, af, mi, np, lf, nm, d + 1, la, so, ro) d = ((nd + 1), (upd kd nd 2), pa1, (va_up be nd none), (va_up af nd none), (va_up (va_up mi nd (nkM 2)) nd a9), np, lf, nm, d, la, so, ro) := by
                simp only [t_close, e_k]
                rw [e_c]
                simp only [if_neg c_119]
              exact ct_endi hx hb hr hlocks rfl hP hD hS (by rw [e_t]) rfl dX3_close_139
            · have c_119 : ((upd kd nd 2) nd) = 1 := c_119
              refine lv_iload_n hx hb dX3_close_122 rfl (lv_at hl 1 rfl) ?_
              refine lv_goto (tgt := 127) hx hb dX3_close_123 (by decide) ?_
              refine wx_zastB (x := b9) (g := (va_up mi nd (nkM 2))) hx hb hK hP hD hS 6 5 rfl rfl (i := nd) hnd (by decide) dX3_close_127 (fun H locs hP hD hS => ?_)
              have hP : va_P D vwCl (wM h k tx sz im cm nw ((nd + 1), (upd kd nd 2), pa1, (va_up be nd none), (va_up af nd none), (va_up (va_up mi nd (nkM 2)) nd b9), np, lf, nm, (d + 1), la, so, ro)) H := hP
              have hD : va_D A (wM h k tx sz im cm nw ((nd + 1), (upd kd nd 2), pa1, (va_up be nd none), (va_up af nd none), (va_up (va_up mi nd (nkM 2)) nd b9), np, lf, nm, (d + 1), la, so, ro)) := hD
              refine lv_aload_n hx hb dX3_close_128 rfl (lv_at hl 4 rfl) ?_
              refine lv_aload_n hx hb dX3_close_129 rfl (lv_at hl 4 rfl) ?_
              refine va_get (D := D) (ci := 3) (v := .int (nI (d + 1))) (C := RX3) (T := TX3) (N := 18) hx hb hts (fun w h => lw_in w (inX3 w h)) hown hK hP 0 rfl rfl 12 (by decide) (hts _ (lw_in _ t_300)) (fun _ h9 => h9) rfl dX3_close_130 ?_
              refine lv_iconst (v := 1) hx hb dX3_close_133 (by decide) ?_
              refine lv_isub hx hb dX3_close_134 ?_
              refine lv_eqi (show (nI (d + 1) - 1) = nI d from nI_pred _) ?_
              refine va_put (D := D) (ci := 3) (v := .int (nI d)) (ty := .int) (C := RX3) (T := TX3) (N := 18) hx hb hts (fun w h => lw_in w (inX3 w h)) tyX3 tyX3_ok nmX3 hown hK hP hD hS 0 rfl rfl 12 (by decide) (hts _ (lw_in _ t_300)) (fun _ h9 => h9) rfl (by decide +kernel) rfl rfl (Nat.le_of_ble_eq_true rfl) dX3_close_135 (fun H locs hP hD hS => ?_)
              have hP : va_P D vwCl (wM h k tx sz im cm nw ((nd + 1), (upd kd nd 2), pa1, (va_up be nd none), (va_up af nd none), (va_up (va_up mi nd (nkM 2)) nd b9), np, lf, nm, d, la, so, ro)) H := hP
              have hD : va_D A (wM h k tx sz im cm nw ((nd + 1), (upd kd nd 2), pa1, (va_up be nd none), (va_up af nd none), (va_up (va_up mi nd (nkM 2)) nd b9), np, lf, nm, d, la, so, ro)) := hD
              refine lv_iload_n hx hb dX3_close_138 rfl (lv_at hl 3 rfl) ?_
              have e_k : clK (so d) = 2 := by rw [clK, if_neg c_13]
              have e_c : clL (va_up be nd none) (va_up mi nd (nkM 2)) nd 701 (la d) (va_up pa nd none) true false = (pa1, a9, b9) := by rw [← hk]; rfl
              have e_t : t_close (nd, kd, pa, be, af, mi, np, lf, nm, d + 1, la, so, ro) d = ((nd + 1), (upd kd nd 2), pa1, (va_up be nd none), (va_up af nd none), (va_up (va_up mi nd (nkM 2)) nd b9), np, lf, nm, d, la, so, ro) := by
                simp only [t_close, e_k]
                rw [e_c]
                simp only [if_pos c_119]
              exact ct_endi hx hb hr hlocks rfl hP hD hS (by rw [e_t]) rfl dX3_close_139
          · exact absurd (by decide) c_44
        · have hl : lv_has ls 5 [(4, .int (nI w0)), (3, .int (bI b9)), (2, .int (bI a9)), (1, .int (nI nd)), (0, .ref (h 0))] := hl
          have hz := ho w0 rfl
          refine lv_iload hx hb dX3_close_42 (lv_at hl 0 rfl) ?_
          refine lv_if_lt (tgt := 107) hx hb dX3_close_44 (by decide) (fun c_44 => ?_) (fun c_44 => ?_)
          · have c_44 : w0 < 0 := (nI_ltI (a := w0) (b := 0) (by omega) (by omega)).mp c_44
            exact absurd c_44 (Nat.not_lt_zero _)
          · have c_44 : 0 ≤ w0 := Nat.le_of_not_lt (fun z => c_44 ((nI_ltI (a := w0) (b := 0) (by omega) (by omega)).mpr z))
            refine lv_aload_n hx hb dX3_close_47 rfl (lv_at hl 4 rfl) ?_
            refine va_get (D := D) (ci := 3) (v := .ref (h 3)) (C := RX3) (T := TX3) (N := 18) hx hb hts (fun w h => lw_in w (inX3 w h)) hown hK hP 0 rfl rfl 4 (by decide) (hts _ (lw_in _ t_292)) (fun _ h9 => h9) rfl dX3_close_48 ?_
            refine lv_iload hx hb dX3_close_51 (lv_at hl 0 rfl) ?_
            refine lv_iload_n hx hb dX3_close_53 rfl (lv_at hl 3 rfl) ?_
            refine wx_past (x := some nd) (g := pa1) hx hb hK hP hD hS 3 2 rfl rfl (i := w0) (by omega) (by decide) dX3_close_54 (fun H locs hP hD hS => ?_)
            have hP : va_P D vwCl (wM h k tx sz im cm nw ((nd + 1), (upd kd nd 2), (va_up pa1 w0 (some nd)), (va_up be nd none), (va_up af nd none), (va_up mi nd (nkM 2)), np, lf, nm, (d + 1), la, so, ro)) H := hP
            have hD : va_D A (wM h k tx sz im cm nw ((nd + 1), (upd kd nd 2), (va_up pa1 w0 (some nd)), (va_up be nd none), (va_up af nd none), (va_up mi nd (nkM 2)), np, lf, nm, (d + 1), la, so, ro)) := hD
            refine lv_iload_n hx hb dX3_close_55 rfl (lv_at hl 2 rfl) ?_
            refine lv_if_eq (tgt := 73) hx hb dX3_close_56 (by decide) (fun c_56 => ?_) (fun c_56 => ?_)
            · have c_56 : a9 = false := (bI_eq0 _).mp c_56
              refine lv_iconst (v := 0) hx hb dX3_close_73 (by decide) ?_
              refine lv_istore_n (lv' := [(2, .int 0), (4, .int (nI w0)), (3, .int (bI b9)), (1, .int (nI nd)), (0, .ref (h 0))]) hx hb dX3_close_74 rfl hl (by decide) rfl (fun ls hl => ?_)
              refine lv_iload_n hx hb dX3_close_75 rfl (lv_at hl 2 rfl) ?_
              refine lv_if_ne (tgt := 89) hx hb dX3_close_76 (by decide) (fun c_76 => ?_) (fun c_76 => ?_)
              · have c_76 : b9 = true := (bI_ne0 _).mp c_76
                refine lv_iconst (v := 1) hx hb dX3_close_89 (by decide) ?_
                refine lv_goto (tgt := 94) hx hb dX3_close_90 (by decide) ?_
                refine lv_istore_n (lv' := [(3, .int 1), (2, .int 0), (4, .int (nI w0)), (1, .int (nI nd)), (0, .ref (h 0))]) hx hb dX3_close_94 rfl hl (by decide) rfl (fun ls hl => ?_)
                refine lv_aload_n hx hb dX3_close_95 rfl (lv_at hl 4 rfl) ?_
                refine va_get (D := D) (ci := 3) (v := .ref (h 4)) (C := RX3) (T := TX3) (N := 18) hx hb hts (fun w h => lw_in w (inX3 w h)) hown hK hP 0 rfl rfl 5 (by decide) (hts _ (lw_in _ t_293)) (fun _ h9 => h9) rfl dX3_close_96 ?_
                refine lv_iload hx hb dX3_close_99 (lv_at hl 2 rfl) ?_
                refine wx_pald hx hb hK hP 4 3 rfl rfl (i := w0) (by omega) (by decide) dX3_close_101 ?_
                refine lv_istore (lv' := [(4, .int (pI ((va_up be nd none) w0))), (3, .int 1), (2, .int 0), (1, .int (nI nd)), (0, .ref (h 0))]) hx hb dX3_close_102 hl (by decide) rfl (fun ls hl => ?_)
                refine lv_goto (tgt := 42) hx hb dX3_close_104 (by decide) ?_
                exact ih2 ((va_up be nd none) w0) (va_up pa1 w0 (some nd)) false true (fun y hy => by rw [va_up_ne _ _ (by omega)] at hy; have := hbe w0 y hz.2 hy; omega) (by rw [← hk, clL]; simp [c_56, c_76]) _ _ hP hD hS _ (lv_sub hl [0, 1, 2, 3, 4] rfl)
              · have c_76 : b9 = false := (bI_eq0 _).mp c_76
                refine lv_aload_n hx hb dX3_close_79 rfl (lv_at hl 4 rfl) ?_
                refine va_get (D := D) (ci := 3) (v := .ref (h 6)) (C := RX3) (T := TX3) (N := 18) hx hb hts (fun w h => lw_in w (inX3 w h)) hown hK hP 0 rfl rfl 7 (by decide) (hts _ (lw_in _ t_295)) (fun _ h9 => h9) rfl dX3_close_80 ?_
                refine lv_iload hx hb dX3_close_83 (lv_at hl 1 rfl) ?_
                refine wx_zald hx hb hK hP 6 5 rfl rfl (i := w0) (by omega) (by decide) dX3_close_85 ?_
                refine lv_if_eq (tgt := 93) hx hb dX3_close_86 (by decide) (fun c_86 => ?_) (fun c_86 => ?_)
                · have c_86 : ((va_up mi nd (nkM 2)) w0) = false := (bI_eq0 _).mp c_86
                  refine lv_iconst (v := 0) hx hb dX3_close_93 (by decide) ?_
                  refine lv_istore_n (lv' := [(3, .int 0), (2, .int 0), (4, .int (nI w0)), (1, .int (nI nd)), (0, .ref (h 0))]) hx hb dX3_close_94 rfl hl (by decide) rfl (fun ls hl => ?_)
                  refine lv_aload_n hx hb dX3_close_95 rfl (lv_at hl 4 rfl) ?_
                  refine va_get (D := D) (ci := 3) (v := .ref (h 4)) (C := RX3) (T := TX3) (N := 18) hx hb hts (fun w h => lw_in w (inX3 w h)) hown hK hP 0 rfl rfl 5 (by decide) (hts _ (lw_in _ t_293)) (fun _ h9 => h9) rfl dX3_close_96 ?_
                  refine lv_iload hx hb dX3_close_99 (lv_at hl 2 rfl) ?_
                  refine wx_pald hx hb hK hP 4 3 rfl rfl (i := w0) (by omega) (by decide) dX3_close_101 ?_
                  refine lv_istore (lv' := [(4, .int (pI ((va_up be nd none) w0))), (3, .int 0), (2, .int 0), (1, .int (nI nd)), (0, .ref (h 0))]) hx hb dX3_close_102 hl (by decide) rfl (fun ls hl => ?_)
                  refine lv_goto (tgt := 42) hx hb dX3_close_104 (by decide) ?_
                  exact ih2 ((va_up be nd none) w0) (va_up pa1 w0 (some nd)) false false (fun y hy => by rw [va_up_ne _ _ (by omega)] at hy; have := hbe w0 y hz.2 hy; omega) (by rw [← hk, clL]; simp [c_56, c_76, c_86]) _ _ hP hD hS _ (lv_sub hl [0, 1, 2, 3, 4] rfl)
                · have c_86 : ((va_up mi nd (nkM 2)) w0) = true := (bI_ne0 _).mp c_86
                  refine lv_iconst (v := 1) hx hb dX3_close_89 (by decide) ?_
                  refine lv_goto (tgt := 94) hx hb dX3_close_90 (by decide) ?_
                  refine lv_istore_n (lv' := [(3, .int 1), (2, .int 0), (4, .int (nI w0)), (1, .int (nI nd)), (0, .ref (h 0))]) hx hb dX3_close_94 rfl hl (by decide) rfl (fun ls hl => ?_)
                  refine lv_aload_n hx hb dX3_close_95 rfl (lv_at hl 4 rfl) ?_
                  refine va_get (D := D) (ci := 3) (v := .ref (h 4)) (C := RX3) (T := TX3) (N := 18) hx hb hts (fun w h => lw_in w (inX3 w h)) hown hK hP 0 rfl rfl 5 (by decide) (hts _ (lw_in _ t_293)) (fun _ h9 => h9) rfl dX3_close_96 ?_
                  refine lv_iload hx hb dX3_close_99 (lv_at hl 2 rfl) ?_
                  refine wx_pald hx hb hK hP 4 3 rfl rfl (i := w0) (by omega) (by decide) dX3_close_101 ?_
                  refine lv_istore (lv' := [(4, .int (pI ((va_up be nd none) w0))), (3, .int 1), (2, .int 0), (1, .int (nI nd)), (0, .ref (h 0))]) hx hb dX3_close_102 hl (by decide) rfl (fun ls hl => ?_)
                  refine lv_goto (tgt := 42) hx hb dX3_close_104 (by decide) ?_
                  exact ih2 ((va_up be nd none) w0) (va_up pa1 w0 (some nd)) false true (fun y hy => by rw [va_up_ne _ _ (by omega)] at hy; have := hbe w0 y hz.2 hy; omega) (by rw [← hk, clL]; simp [c_56, c_76, c_86]) _ _ hP hD hS _ (lv_sub hl [0, 1, 2, 3, 4] rfl)
            · have c_56 : a9 = true := (bI_ne0 _).mp c_56
              refine lv_aload_n hx hb dX3_close_59 rfl (lv_at hl 4 rfl) ?_
              refine va_get (D := D) (ci := 3) (v := .ref (h 6)) (C := RX3) (T := TX3) (N := 18) hx hb hts (fun w h => lw_in w (inX3 w h)) hown hK hP 0 rfl rfl 7 (by decide) (hts _ (lw_in _ t_295)) (fun _ h9 => h9) rfl dX3_close_60 ?_
              refine lv_iload hx hb dX3_close_63 (lv_at hl 0 rfl) ?_
              refine wx_zald hx hb hK hP 6 5 rfl rfl (i := w0) (by omega) (by decide) dX3_close_65 ?_
              refine lv_if_eq (tgt := 73) hx hb dX3_close_66 (by decide) (fun c_66 => ?_) (fun c_66 => ?_)
              · have c_66 : ((va_up mi nd (nkM 2)) w0) = false := (bI_eq0 _).mp c_66
                refine lv_iconst (v := 0) hx hb dX3_close_73 (by decide) ?_
                refine lv_istore_n (lv' := [(2, .int 0), (4, .int (nI w0)), (3, .int (bI b9)), (1, .int (nI nd)), (0, .ref (h 0))]) hx hb dX3_close_74 rfl hl (by decide) rfl (fun ls hl => ?_)
                refine lv_iload_n hx hb dX3_close_75 rfl (lv_at hl 2 rfl) ?_
                refine lv_if_ne (tgt := 89) hx hb dX3_close_76 (by decide) (fun c_76 => ?_) (fun c_76 => ?_)
                · have c_76 : b9 = true := (bI_ne0 _).mp c_76
                  refine lv_iconst (v := 1) hx hb dX3_close_89 (by decide) ?_
                  refine lv_goto (tgt := 94) hx hb dX3_close_90 (by decide) ?_
                  refine lv_istore_n (lv' := [(3, .int 1), (2, .int 0), (4, .int (nI w0)), (1, .int (nI nd)), (0, .ref (h 0))]) hx hb dX3_close_94 rfl hl (by decide) rfl (fun ls hl => ?_)
                  refine lv_aload_n hx hb dX3_close_95 rfl (lv_at hl 4 rfl) ?_
                  refine va_get (D := D) (ci := 3) (v := .ref (h 4)) (C := RX3) (T := TX3) (N := 18) hx hb hts (fun w h => lw_in w (inX3 w h)) hown hK hP 0 rfl rfl 5 (by decide) (hts _ (lw_in _ t_293)) (fun _ h9 => h9) rfl dX3_close_96 ?_
                  refine lv_iload hx hb dX3_close_99 (lv_at hl 2 rfl) ?_
                  refine wx_pald hx hb hK hP 4 3 rfl rfl (i := w0) (by omega) (by decide) dX3_close_101 ?_
                  refine lv_istore (lv' := [(4, .int (pI ((va_up be nd none) w0))), (3, .int 1), (2, .int 0), (1, .int (nI nd)), (0, .ref (h 0))]) hx hb dX3_close_102 hl (by decide) rfl (fun ls hl => ?_)
                  refine lv_goto (tgt := 42) hx hb dX3_close_104 (by decide) ?_
                  exact ih2 ((va_up be nd none) w0) (va_up pa1 w0 (some nd)) false true (fun y hy => by rw [va_up_ne _ _ (by omega)] at hy; have := hbe w0 y hz.2 hy; omega) (by rw [← hk, clL]; simp [c_56, c_66, c_76]) _ _ hP hD hS _ (lv_sub hl [0, 1, 2, 3, 4] rfl)
                · have c_76 : b9 = false := (bI_eq0 _).mp c_76
                  refine lv_aload_n hx hb dX3_close_79 rfl (lv_at hl 4 rfl) ?_
                  refine va_get (D := D) (ci := 3) (v := .ref (h 6)) (C := RX3) (T := TX3) (N := 18) hx hb hts (fun w h => lw_in w (inX3 w h)) hown hK hP 0 rfl rfl 7 (by decide) (hts _ (lw_in _ t_295)) (fun _ h9 => h9) rfl dX3_close_80 ?_
                  refine lv_iload hx hb dX3_close_83 (lv_at hl 1 rfl) ?_
                  refine wx_zald hx hb hK hP 6 5 rfl rfl (i := w0) (by omega) (by decide) dX3_close_85 ?_
                  refine lv_if_eq (tgt := 93) hx hb dX3_close_86 (by decide) (fun c_86 => ?_) (fun c_86 => ?_)
                  · have c_86 : ((va_up mi nd (nkM 2)) w0) = false := (bI_eq0 _).mp c_86
                    refine lv_iconst (v := 0) hx hb dX3_close_93 (by decide) ?_
                    refine lv_istore_n (lv' := [(3, .int 0), (2, .int 0), (4, .int (nI w0)), (1, .int (nI nd)), (0, .ref (h 0))]) hx hb dX3_close_94 rfl hl (by decide) rfl (fun ls hl => ?_)
                    refine lv_aload_n hx hb dX3_close_95 rfl (lv_at hl 4 rfl) ?_
                    refine va_get (D := D) (ci := 3) (v := .ref (h 4)) (C := RX3) (T := TX3) (N := 18) hx hb hts (fun w h => lw_in w (inX3 w h)) hown hK hP 0 rfl rfl 5 (by decide) (hts _ (lw_in _ t_293)) (fun _ h9 => h9) rfl dX3_close_96 ?_
                    refine lv_iload hx hb dX3_close_99 (lv_at hl 2 rfl) ?_
                    refine wx_pald hx hb hK hP 4 3 rfl rfl (i := w0) (by omega) (by decide) dX3_close_101 ?_
                    refine lv_istore (lv' := [(4, .int (pI ((va_up be nd none) w0))), (3, .int 0), (2, .int 0), (1, .int (nI nd)), (0, .ref (h 0))]) hx hb dX3_close_102 hl (by decide) rfl (fun ls hl => ?_)
                    refine lv_goto (tgt := 42) hx hb dX3_close_104 (by decide) ?_
                    exact ih2 ((va_up be nd none) w0) (va_up pa1 w0 (some nd)) false false (fun y hy => by rw [va_up_ne _ _ (by omega)] at hy; have := hbe w0 y hz.2 hy; omega) (by rw [← hk, clL]; simp [c_56, c_66, c_76, c_86]) _ _ hP hD hS _ (lv_sub hl [0, 1, 2, 3, 4] rfl)
                  · have c_86 : ((va_up mi nd (nkM 2)) w0) = true := (bI_ne0 _).mp c_86
                    exact absurd (c_66.symm.trans c_86) (by decide)
              · have c_66 : ((va_up mi nd (nkM 2)) w0) = true := (bI_ne0 _).mp c_66
                refine lv_iconst (v := 1) hx hb dX3_close_69 (by decide) ?_
                refine lv_goto (tgt := 74) hx hb dX3_close_70 (by decide) ?_
                refine lv_istore_n (lv' := [(2, .int 1), (4, .int (nI w0)), (3, .int (bI b9)), (1, .int (nI nd)), (0, .ref (h 0))]) hx hb dX3_close_74 rfl hl (by decide) rfl (fun ls hl => ?_)
                refine lv_iload_n hx hb dX3_close_75 rfl (lv_at hl 2 rfl) ?_
                refine lv_if_ne (tgt := 89) hx hb dX3_close_76 (by decide) (fun c_76 => ?_) (fun c_76 => ?_)
                · have c_76 : b9 = true := (bI_ne0 _).mp c_76
                  refine lv_iconst (v := 1) hx hb dX3_close_89 (by decide) ?_
                  refine lv_goto (tgt := 94) hx hb dX3_close_90 (by decide) ?_
                  refine lv_istore_n (lv' := [(3, .int 1), (2, .int 1), (4, .int (nI w0)), (1, .int (nI nd)), (0, .ref (h 0))]) hx hb dX3_close_94 rfl hl (by decide) rfl (fun ls hl => ?_)
                  refine lv_aload_n hx hb dX3_close_95 rfl (lv_at hl 4 rfl) ?_
                  refine va_get (D := D) (ci := 3) (v := .ref (h 4)) (C := RX3) (T := TX3) (N := 18) hx hb hts (fun w h => lw_in w (inX3 w h)) hown hK hP 0 rfl rfl 5 (by decide) (hts _ (lw_in _ t_293)) (fun _ h9 => h9) rfl dX3_close_96 ?_
                  refine lv_iload hx hb dX3_close_99 (lv_at hl 2 rfl) ?_
                  refine wx_pald hx hb hK hP 4 3 rfl rfl (i := w0) (by omega) (by decide) dX3_close_101 ?_
                  refine lv_istore (lv' := [(4, .int (pI ((va_up be nd none) w0))), (3, .int 1), (2, .int 1), (1, .int (nI nd)), (0, .ref (h 0))]) hx hb dX3_close_102 hl (by decide) rfl (fun ls hl => ?_)
                  refine lv_goto (tgt := 42) hx hb dX3_close_104 (by decide) ?_
                  exact ih2 ((va_up be nd none) w0) (va_up pa1 w0 (some nd)) true true (fun y hy => by rw [va_up_ne _ _ (by omega)] at hy; have := hbe w0 y hz.2 hy; omega) (by rw [← hk, clL]; simp [c_56, c_66, c_76]) _ _ hP hD hS _ (lv_sub hl [0, 1, 2, 3, 4] rfl)
                · have c_76 : b9 = false := (bI_eq0 _).mp c_76
                  refine lv_aload_n hx hb dX3_close_79 rfl (lv_at hl 4 rfl) ?_
                  refine va_get (D := D) (ci := 3) (v := .ref (h 6)) (C := RX3) (T := TX3) (N := 18) hx hb hts (fun w h => lw_in w (inX3 w h)) hown hK hP 0 rfl rfl 7 (by decide) (hts _ (lw_in _ t_295)) (fun _ h9 => h9) rfl dX3_close_80 ?_
                  refine lv_iload hx hb dX3_close_83 (lv_at hl 1 rfl) ?_
                  refine wx_zald hx hb hK hP 6 5 rfl rfl (i := w0) (by omega) (by decide) dX3_close_85 ?_
                  refine lv_if_eq (tgt := 93) hx hb dX3_close_86 (by decide) (fun c_86 => ?_) (fun c_86 => ?_)
                  · have c_86 : ((va_up mi nd (nkM 2)) w0) = false := (bI_eq0 _).mp c_86
                    exact absurd (c_66.symm.trans c_86) (by decide)
                  · have c_86 : ((va_up mi nd (nkM 2)) w0) = true := (bI_ne0 _).mp c_86
                    refine lv_iconst (v := 1) hx hb dX3_close_89 (by decide) ?_
                    refine lv_goto (tgt := 94) hx hb dX3_close_90 (by decide) ?_
                    refine lv_istore_n (lv' := [(3, .int 1), (2, .int 1), (4, .int (nI w0)), (1, .int (nI nd)), (0, .ref (h 0))]) hx hb dX3_close_94 rfl hl (by decide) rfl (fun ls hl => ?_)
                    refine lv_aload_n hx hb dX3_close_95 rfl (lv_at hl 4 rfl) ?_
                    refine va_get (D := D) (ci := 3) (v := .ref (h 4)) (C := RX3) (T := TX3) (N := 18) hx hb hts (fun w h => lw_in w (inX3 w h)) hown hK hP 0 rfl rfl 5 (by decide) (hts _ (lw_in _ t_293)) (fun _ h9 => h9) rfl dX3_close_96 ?_
                    refine lv_iload hx hb dX3_close_99 (lv_at hl 2 rfl) ?_
                    refine wx_pald hx hb hK hP 4 3 rfl rfl (i := w0) (by omega) (by decide) dX3_close_101 ?_
                    refine lv_istore (lv' := [(4, .int (pI ((va_up be nd none) w0))), (3, .int 1), (2, .int 1), (1, .int (nI nd)), (0, .ref (h 0))]) hx hb dX3_close_102 hl (by decide) rfl (fun ls hl => ?_)
                    refine lv_goto (tgt := 42) hx hb dX3_close_104 (by decide) ?_
                    exact ih2 ((va_up be nd none) w0) (va_up pa1 w0 (some nd)) true true (fun y hy => by rw [va_up_ne _ _ (by omega)] at hy; have := hbe w0 y hz.2 hy; omega) (by rw [← hk, clL]; simp [c_56, c_66, c_76, c_86]) _ _ hP hD hS _ (lv_sub hl [0, 1, 2, 3, 4] rfl)
    exact loop2 701 (la d) (va_up pa nd none) true false (fun y hy => by have := hla y hy; omega) rfl _ _ hP hD hS _ (lv_sub hl [0, 1, 2, 3, 4] rfl)
  · have c_13 : (so d) = 1 := c_13
    refine lv_iconst (v := 1) hx hb dX3_close_16 (by decide) ?_
    refine lv_goto (tgt := 21) hx hb dX3_close_17 (by decide) ?_
    refine ct_callV (As := [.int 1]) (rest := []) ⟨hx, hb, hml, hown, hts⟩ (k_E_node l D h k tx sz im cm nw nd kd pa be af mi np lf nm (d + 1) la so ro 1  (by omega)) (cwV 1 hts (gV lw_in t_364 t_366 t_13 t_26 t_367) rfl rfl rfl (by decide +kernel) ⟨Nat.le_of_ble_eq_true rfl, Nat.le_of_ble_eq_true rfl⟩) 0 rfl rfl hK hP hD hS hA rfl hl.1 rfl (Nat.le_of_ble_eq_true rfl) dX3_close_21 ⟨Nat.zero_le _, Nat.zero_le _⟩ (fun H locs hP hD hS => ?_)
    refine W.eq (g2 := F0 m 24 ls [.int (nI nd)]) rfl ?_
    have hP : va_P D vwCl (wM h k tx sz im cm nw ((nd + 1), (upd kd nd 1), (va_up pa nd none), (va_up be nd none), (va_up af nd none), (va_up mi nd (nkM 1)), np, lf, nm, (d + 1), la, so, ro)) H := hP
    have hD : va_D A (wM h k tx sz im cm nw ((nd + 1), (upd kd nd 1), (va_up pa nd none), (va_up be nd none), (va_up af nd none), (va_up mi nd (nkM 1)), np, lf, nm, (d + 1), la, so, ro)) := hD
    refine lv_istore_n (lv' := [(1, .int (nI nd)), (0, .ref (h 0))]) hx hb dX3_close_24 rfl hl (by decide) rfl (fun ls hl => ?_)
    refine lv_iconst (v := 1) hx hb dX3_close_25 (by decide) ?_
    refine lv_istore_n (lv' := [(2, .int 1), (1, .int (nI nd)), (0, .ref (h 0))]) hx hb dX3_close_26 rfl hl (by decide) rfl (fun ls hl => ?_)
    refine lv_iconst (v := 0) hx hb dX3_close_27 (by decide) ?_
    refine lv_istore_n (lv' := [(3, .int 0), (2, .int 1), (1, .int (nI nd)), (0, .ref (h 0))]) hx hb dX3_close_28 rfl hl (by decide) rfl (fun ls hl => ?_)
    refine lv_aload_n hx hb dX3_close_29 rfl (lv_at hl 3 rfl) ?_
    refine va_get (D := D) (ci := 3) (v := .ref (h 9)) (C := RX3) (T := TX3) (N := 18) hx hb hts (fun w h => lw_in w (inX3 w h)) hown hK hP 0 rfl rfl 13 (by decide) (hts _ (lw_in _ t_301)) (fun _ h9 => h9) rfl dX3_close_30 ?_
    refine lv_aload_n hx hb dX3_close_33 rfl (lv_at hl 3 rfl) ?_
    refine va_get (D := D) (ci := 3) (v := .int (nI (d + 1))) (C := RX3) (T := TX3) (N := 18) hx hb hts (fun w h => lw_in w (inX3 w h)) hown hK hP 0 rfl rfl 12 (by decide) (hts _ (lw_in _ t_300)) (fun _ h9 => h9) rfl dX3_close_34 ?_
    refine lv_iconst (v := 1) hx hb dX3_close_37 (by decide) ?_
    refine lv_isub hx hb dX3_close_38 ?_
    refine lv_eqi (show (nI (d + 1) - 1) = nI d from nI_pred _) ?_
    refine wx_pald hx hb hK hP 9 8 rfl rfl (i := d) hd (by decide) dX3_close_39 ?_
    refine lv_istore (lv' := [(4, .int (pI (la d))), (3, .int 0), (2, .int 1), (1, .int (nI nd)), (0, .ref (h 0))]) hx hb dX3_close_40 hl (by decide) rfl (fun ls hl => ?_)
    have loop2 : ∀ (g : Nat) (o : Option Nat) (pa1 : Nat → Option Nat) (a9 : Bool) (b9 : Bool), (∀ w0, o = some w0 → w0 < g ∧ w0 < nd) → (clL (va_up be nd none) (va_up mi nd (nkM 1)) nd g o pa1 a9 b9 = clL (va_up be nd none) (va_up mi nd (nkM 1)) nd 701 (la d) (va_up pa nd none) true false) → ∀ (H : Heap) (locs : List Loc), va_P D vwCl (wM h k tx sz im cm nw ((nd + 1), (upd kd nd 1), pa1, (va_up be nd none), (va_up af nd none), (va_up mi nd (nkM 1)), np, lf, nm, (d + 1), la, so, ro)) H → va_D A (wM h k tx sz im cm nw ((nd + 1), (upd kd nd 1), pa1, (va_up be nd none), (va_up af nd none), (va_up mi nd (nkM 1)), np, lf, nm, (d + 1), la, so, ro)) → va_S A s.heap H locs → ∀ ls : Array Slot, lv_has ls 5 [(4, .int (pI o)), (3, .int (bI b9)), (2, .int (bI a9)), (1, .int (nI nd)), (0, .ref (h 0))] →
        W p l e (rmN 1) s m ([.ref (h 0)] : List Value).toArray below meth c H locs 0 0 (MQ below (CtQ D vwCl A (wM h k tx sz im cm nw (t_close (nd, kd, pa, be, af, mi, np, lf, nm, d + 1, la, so, ro) d)) (some (.int (nI nd)))) ([.ref (h 0)] : List Value).toArray s 0 0 A) (F0 m 42 ls []) := by
      intro g
      induction g with
      | zero =>
        intro o pa1 a9 b9 ho hk H locs hP hD hS ls hl
        rcases o with _ | w0
        · have hl : lv_has ls 5 [(4, .int (-1)), (3, .int (bI b9)), (2, .int (bI a9)), (1, .int (nI nd)), (0, .ref (h 0))] := hl
          refine lv_iload hx hb dX3_close_42 (lv_at hl 0 rfl) ?_
          refine lv_if_lt (tgt := 107) hx hb dX3_close_44 (by decide) (fun c_44 => ?_) (fun c_44 => ?_)
          · refine lv_aload_n hx hb dX3_close_107 rfl (lv_at hl 4 rfl) ?_
            refine va_get (D := D) (ci := 3) (v := .ref (h 6)) (C := RX3) (T := TX3) (N := 18) hx hb hts (fun w h => lw_in w (inX3 w h)) hown hK hP 0 rfl rfl 7 (by decide) (hts _ (lw_in _ t_295)) (fun _ h9 => h9) rfl dX3_close_108 ?_
            refine lv_iload_n hx hb dX3_close_111 rfl (lv_at hl 3 rfl) ?_
            refine lv_aload_n hx hb dX3_close_112 rfl (lv_at hl 4 rfl) ?_
            refine va_get (D := D) (ci := 3) (v := .ref (h 2)) (C := RX3) (T := TX3) (N := 18) hx hb hts (fun w h => lw_in w (inX3 w h)) hown hK hP 0 rfl rfl 3 (by decide) (hts _ (lw_in _ t_291)) (fun _ h9 => h9) rfl dX3_close_113 ?_
            refine lv_iload_n hx hb dX3_close_116 rfl (lv_at hl 3 rfl) ?_
            refine wx_iald hx hb hK hP 2 1 rfl rfl (i := nd) hnd (by decide) dX3_close_117 ?_
            refine lv_iconst (v := 1) hx hb dX3_close_118 (by decide) ?_
            refine lv_icmp_ne (tgt := 126) hx hb dX3_close_119 (by decide) (fun c_119 => ?_) (fun c_119 => ?_)
            · have c_119 : ¬ ((upd kd nd 1) nd) = 1 := c_119
              refine lv_iload_n hx hb dX3_close_126 rfl (lv_at hl 2 rfl) ?_
              refine wx_zastB (x := a9) (g := (va_up mi nd (nkM 1))) hx hb hK hP hD hS 6 5 rfl rfl (i := nd) hnd (by decide) dX3_close_127 (fun H locs hP hD hS => ?_)
              have hP : va_P D vwCl (wM h k tx sz im cm nw ((nd + 1), (upd kd nd 1), pa1, (va_up be nd none), (va_up af nd none), (va_up (va_up mi nd (nkM 1)) nd a9), np, lf, nm, (d + 1), la, so, ro)) H := hP
              have hD : va_D A (wM h k tx sz im cm nw ((nd + 1), (upd kd nd 1), pa1, (va_up be nd none), (va_up af nd none), (va_up (va_up mi nd (nkM 1)) nd a9), np, lf, nm, (d + 1), la, so, ro)) := hD
              refine lv_aload_n hx hb dX3_close_128 rfl (lv_at hl 4 rfl) ?_
              refine lv_aload_n hx hb dX3_close_129 rfl (lv_at hl 4 rfl) ?_
              refine va_get (D := D) (ci := 3) (v := .int (nI (d + 1))) (C := RX3) (T := TX3) (N := 18) hx hb hts (fun w h => lw_in w (inX3 w h)) hown hK hP 0 rfl rfl 12 (by decide) (hts _ (lw_in _ t_300)) (fun _ h9 => h9) rfl dX3_close_130 ?_
              refine lv_iconst (v := 1) hx hb dX3_close_133 (by decide) ?_
              refine lv_isub hx hb dX3_close_134 ?_
              refine lv_eqi (show (nI (d + 1) - 1) = nI d from nI_pred _) ?_
              refine va_put (D := D) (ci := 3) (v := .int (nI d)) (ty := .int) (C := RX3) (T := TX3) (N := 18) hx hb hts (fun w h => lw_in w (inX3 w h)) tyX3 tyX3_ok nmX3 hown hK hP hD hS 0 rfl rfl 12 (by decide) (hts _ (lw_in _ t_300)) (fun _ h9 => h9) rfl (by decide +kernel) rfl rfl (Nat.le_of_ble_eq_true rfl) dX3_close_135 (fun H locs hP hD hS => ?_)
              have hP : va_P D vwCl (wM h k tx sz im cm nw ((nd + 1), (upd kd nd 1), pa1, (va_up be nd none), (va_up af nd none), (va_up (va_up mi nd (nkM 1)) nd a9), np, lf, nm, d, la, so, ro)) H := hP
              have hD : va_D A (wM h k tx sz im cm nw ((nd + 1), (upd kd nd 1), pa1, (va_up be nd none), (va_up af nd none), (va_up (va_up mi nd (nkM 1)) nd a9), np, lf, nm, d, la, so, ro)) := hD
              refine lv_iload_n hx hb dX3_close_138 rfl (lv_at hl 3 rfl) ?_
              have e_k : clK (so d) = 1 := by rw [clK, if_pos c_13]
              have e_c : clL (va_up be nd none) (va_up mi nd (nkM 1)) nd 701 (la d) (va_up pa nd none) true false = (pa1, a9, b9) := by rw [← hk]; rfl
              have e_t : t_close (nd, kd, pa, be, af, mi, np, lf, nm, d + 1, la, so, ro) d = ((nd + 1), (upd kd nd 1), pa1, (va_up be nd none), (va_up af nd none), (va_up (va_up mi nd (nkM 1)) nd a9), np, lf, nm, d, la, so, ro) := by
                simp only [t_close, e_k]
                rw [e_c]
                simp only [if_neg c_119]
              exact ct_endi hx hb hr hlocks rfl hP hD hS (by rw [e_t]) rfl dX3_close_139
            · have c_119 : ((upd kd nd 1) nd) = 1 := c_119
              refine lv_iload_n hx hb dX3_close_122 rfl (lv_at hl 1 rfl) ?_
              refine lv_goto (tgt := 127) hx hb dX3_close_123 (by decide) ?_
              refine wx_zastB (x := b9) (g := (va_up mi nd (nkM 1))) hx hb hK hP hD hS 6 5 rfl rfl (i := nd) hnd (by decide) dX3_close_127 (fun H locs hP hD hS => ?_)
              have hP : va_P D vwCl (wM h k tx sz im cm nw ((nd + 1), (upd kd nd 1), pa1, (va_up be nd none), (va_up af nd none), (va_up (va_up mi nd (nkM 1)) nd b9), np, lf, nm, (d + 1), la, so, ro)) H := hP
              have hD : va_D A (wM h k tx sz im cm nw ((nd + 1), (upd kd nd 1), pa1, (va_up be nd none), (va_up af nd none), (va_up (va_up mi nd (nkM 1)) nd b9), np, lf, nm, (d + 1), la, so, ro)) := hD
              refine lv_aload_n hx hb dX3_close_128 rfl (lv_at hl 4 rfl) ?_
              refine lv_aload_n hx hb dX3_close_129 rfl (lv_at hl 4 rfl) ?_
              refine va_get (D := D) (ci := 3) (v := .int (nI (d + 1))) (C := RX3) (T := TX3) (N := 18) hx hb hts (fun w h => lw_in w (inX3 w h)) hown hK hP 0 rfl rfl 12 (by decide) (hts _ (lw_in _ t_300)) (fun _ h9 => h9) rfl dX3_close_130 ?_
              refine lv_iconst (v := 1) hx hb dX3_close_133 (by decide) ?_
              refine lv_isub hx hb dX3_close_134 ?_
              refine lv_eqi (show (nI (d + 1) - 1) = nI d from nI_pred _) ?_
              refine va_put (D := D) (ci := 3) (v := .int (nI d)) (ty := .int) (C := RX3) (T := TX3) (N := 18) hx hb hts (fun w h => lw_in w (inX3 w h)) tyX3 tyX3_ok nmX3 hown hK hP hD hS 0 rfl rfl 12 (by decide) (hts _ (lw_in _ t_300)) (fun _ h9 => h9) rfl (by decide +kernel) rfl rfl (Nat.le_of_ble_eq_true rfl) dX3_close_135 (fun H locs hP hD hS => ?_)
              have hP : va_P D vwCl (wM h k tx sz im cm nw ((nd + 1), (upd kd nd 1), pa1, (va_up be nd none), (va_up af nd none), (va_up (va_up mi nd (nkM 1)) nd b9), np, lf, nm, d, la, so, ro)) H := hP
              have hD : va_D A (wM h k tx sz im cm nw ((nd + 1), (upd kd nd 1), pa1, (va_up be nd none), (va_up af nd none), (va_up (va_up mi nd (nkM 1)) nd b9), np, lf, nm, d, la, so, ro)) := hD
              refine lv_iload_n hx hb dX3_close_138 rfl (lv_at hl 3 rfl) ?_
              have e_k : clK (so d) = 1 := by rw [clK, if_pos c_13]
              have e_c : clL (va_up be nd none) (va_up mi nd (nkM 1)) nd 701 (la d) (va_up pa nd none) true false = (pa1, a9, b9) := by rw [← hk]; rfl
              have e_t : t_close (nd, kd, pa, be, af, mi, np, lf, nm, d + 1, la, so, ro) d = ((nd + 1), (upd kd nd 1), pa1, (va_up be nd none), (va_up af nd none), (va_up (va_up mi nd (nkM 1)) nd b9), np, lf, nm, d, la, so, ro) := by
                simp only [t_close, e_k]
                rw [e_c]
                simp only [if_pos c_119]
              exact ct_endi hx hb hr hlocks rfl hP hD hS (by rw [e_t]) rfl dX3_close_139
          · exact absurd (by decide) c_44
        · have hl : lv_has ls 5 [(4, .int (nI w0)), (3, .int (bI b9)), (2, .int (bI a9)), (1, .int (nI nd)), (0, .ref (h 0))] := hl
          exact absurd (ho w0 rfl).1 (Nat.not_lt_zero _)
      | succ g ih2 =>
        intro o pa1 a9 b9 ho hk H locs hP hD hS ls hl
        rcases o with _ | w0
        · have hl : lv_has ls 5 [(4, .int (-1)), (3, .int (bI b9)), (2, .int (bI a9)), (1, .int (nI nd)), (0, .ref (h 0))] := hl
          refine lv_iload hx hb dX3_close_42 (lv_at hl 0 rfl) ?_
          refine lv_if_lt (tgt := 107) hx hb dX3_close_44 (by decide) (fun c_44 => ?_) (fun c_44 => ?_)
          · refine lv_aload_n hx hb dX3_close_107 rfl (lv_at hl 4 rfl) ?_
            refine va_get (D := D) (ci := 3) (v := .ref (h 6)) (C := RX3) (T := TX3) (N := 18) hx hb hts (fun w h => lw_in w (inX3 w h)) hown hK hP 0 rfl rfl 7 (by decide) (hts _ (lw_in _ t_295)) (fun _ h9 => h9) rfl dX3_close_108 ?_
            refine lv_iload_n hx hb dX3_close_111 rfl (lv_at hl 3 rfl) ?_
            refine lv_aload_n hx hb dX3_close_112 rfl (lv_at hl 4 rfl) ?_
            refine va_get (D := D) (ci := 3) (v := .ref (h 2)) (C := RX3) (T := TX3) (N := 18) hx hb hts (fun w h => lw_in w (inX3 w h)) hown hK hP 0 rfl rfl 3 (by decide) (hts _ (lw_in _ t_291)) (fun _ h9 => h9) rfl dX3_close_113 ?_
            refine lv_iload_n hx hb dX3_close_116 rfl (lv_at hl 3 rfl) ?_
            refine wx_iald hx hb hK hP 2 1 rfl rfl (i := nd) hnd (by decide) dX3_close_117 ?_
            refine lv_iconst (v := 1) hx hb dX3_close_118 (by decide) ?_
            refine lv_icmp_ne (tgt := 126) hx hb dX3_close_119 (by decide) (fun c_119 => ?_) (fun c_119 => ?_)
            · have c_119 : ¬ ((upd kd nd 1) nd) = 1 := c_119
              refine lv_iload_n hx hb dX3_close_126 rfl (lv_at hl 2 rfl) ?_
              refine wx_zastB (x := a9) (g := (va_up mi nd (nkM 1))) hx hb hK hP hD hS 6 5 rfl rfl (i := nd) hnd (by decide) dX3_close_127 (fun H locs hP hD hS => ?_)
              have hP : va_P D vwCl (wM h k tx sz im cm nw ((nd + 1), (upd kd nd 1), pa1, (va_up be nd none), (va_up af nd none), (va_up (va_up mi nd (nkM 1)) nd a9), np, lf, nm, (d + 1), la, so, ro)) H := hP
              have hD : va_D A (wM h k tx sz im cm nw ((nd + 1), (upd kd nd 1), pa1, (va_up be nd none), (va_up af nd none), (va_up (va_up mi nd (nkM 1)) nd a9), np, lf, nm, (d + 1), la, so, ro)) := hD
              refine lv_aload_n hx hb dX3_close_128 rfl (lv_at hl 4 rfl) ?_
              refine lv_aload_n hx hb dX3_close_129 rfl (lv_at hl 4 rfl) ?_
              refine va_get (D := D) (ci := 3) (v := .int (nI (d + 1))) (C := RX3) (T := TX3) (N := 18) hx hb hts (fun w h => lw_in w (inX3 w h)) hown hK hP 0 rfl rfl 12 (by decide) (hts _ (lw_in _ t_300)) (fun _ h9 => h9) rfl dX3_close_130 ?_
              refine lv_iconst (v := 1) hx hb dX3_close_133 (by decide) ?_
              refine lv_isub hx hb dX3_close_134 ?_
              refine lv_eqi (show (nI (d + 1) - 1) = nI d from nI_pred _) ?_
              refine va_put (D := D) (ci := 3) (v := .int (nI d)) (ty := .int) (C := RX3) (T := TX3) (N := 18) hx hb hts (fun w h => lw_in w (inX3 w h)) tyX3 tyX3_ok nmX3 hown hK hP hD hS 0 rfl rfl 12 (by decide) (hts _ (lw_in _ t_300)) (fun _ h9 => h9) rfl (by decide +kernel) rfl rfl (Nat.le_of_ble_eq_true rfl) dX3_close_135 (fun H locs hP hD hS => ?_)
              have hP : va_P D vwCl (wM h k tx sz im cm nw ((nd + 1), (upd kd nd 1), pa1, (va_up be nd none), (va_up af nd none), (va_up (va_up mi nd (nkM 1)) nd a9), np, lf, nm, d, la, so, ro)) H := hP
              have hD : va_D A (wM h k tx sz im cm nw ((nd + 1), (upd kd nd 1), pa1, (va_up be nd none), (va_up af nd none), (va_up (va_up mi nd (nkM 1)) nd a9), np, lf, nm, d, la, so, ro)) := hD
              refine lv_iload_n hx hb dX3_close_138 rfl (lv_at hl 3 rfl) ?_
              have e_k : clK (so d) = 1 := by rw [clK, if_pos c_13]
              have e_c : clL (va_up be nd none) (va_up mi nd (nkM 1)) nd 701 (la d) (va_up pa nd none) true false = (pa1, a9, b9) := by rw [← hk]; rfl
              have e_t : t_close (nd, kd, pa, be, af, mi, np, lf, nm, d + 1, la, so, ro) d = ((nd + 1), (upd kd nd 1), pa1, (va_up be nd none), (va_up af nd none), (va_up (va_up mi nd (nkM 1)) nd a9), np, lf, nm, d, la, so, ro) := by
                simp only [t_close, e_k]
                rw [e_c]
                simp only [if_neg c_119]
              exact ct_endi hx hb hr hlocks rfl hP hD hS (by rw [e_t]) rfl dX3_close_139
            · have c_119 : ((upd kd nd 1) nd) = 1 := c_119
              refine lv_iload_n hx hb dX3_close_122 rfl (lv_at hl 1 rfl) ?_
              refine lv_goto (tgt := 127) hx hb dX3_close_123 (by decide) ?_
              refine wx_zastB (x := b9) (g := (va_up mi nd (nkM 1))) hx hb hK hP hD hS 6 5 rfl rfl (i := nd) hnd (by decide) dX3_close_127 (fun H locs hP hD hS => ?_)
              have hP : va_P D vwCl (wM h k tx sz im cm nw ((nd + 1), (upd kd nd 1), pa1, (va_up be nd none), (va_up af nd none), (va_up (va_up mi nd (nkM 1)) nd b9), np, lf, nm, (d + 1), la, so, ro)) H := hP
              have hD : va_D A (wM h k tx sz im cm nw ((nd + 1), (upd kd nd 1), pa1, (va_up be nd none), (va_up af nd none), (va_up (va_up mi nd (nkM 1)) nd b9), np, lf, nm, (d + 1), la, so, ro)) := hD
              refine lv_aload_n hx hb dX3_close_128 rfl (lv_at hl 4 rfl) ?_
              refine lv_aload_n hx hb dX3_close_129 rfl (lv_at hl 4 rfl) ?_
              refine va_get (D := D) (ci := 3) (v := .int (nI (d + 1))) (C := RX3) (T := TX3) (N := 18) hx hb hts (fun w h => lw_in w (inX3 w h)) hown hK hP 0 rfl rfl 12 (by decide) (hts _ (lw_in _ t_300)) (fun _ h9 => h9) rfl dX3_close_130 ?_
              refine lv_iconst (v := 1) hx hb dX3_close_133 (by decide) ?_
              refine lv_isub hx hb dX3_close_134 ?_
              refine lv_eqi (show (nI (d + 1) - 1) = nI d from nI_pred _) ?_
              refine va_put (D := D) (ci := 3) (v := .int (nI d)) (ty := .int) (C := RX3) (T := TX3) (N := 18) hx hb hts (fun w h => lw_in w (inX3 w h)) tyX3 tyX3_ok nmX3 hown hK hP hD hS 0 rfl rfl 12 (by decide) (hts _ (lw_in _ t_300)) (fun _ h9 => h9) rfl (by decide +kernel) rfl rfl (Nat.le_of_ble_eq_true rfl) dX3_close_135 (fun H locs hP hD hS => ?_)
              have hP : va_P D vwCl (wM h k tx sz im cm nw ((nd + 1), (upd kd nd 1), pa1, (va_up be nd none), (va_up af nd none), (va_up (va_up mi nd (nkM 1)) nd b9), np, lf, nm, d, la, so, ro)) H := hP
              have hD : va_D A (wM h k tx sz im cm nw ((nd + 1), (upd kd nd 1), pa1, (va_up be nd none), (va_up af nd none), (va_up (va_up mi nd (nkM 1)) nd b9), np, lf, nm, d, la, so, ro)) := hD
              refine lv_iload_n hx hb dX3_close_138 rfl (lv_at hl 3 rfl) ?_
              have e_k : clK (so d) = 1 := by rw [clK, if_pos c_13]
              have e_c : clL (va_up be nd none) (va_up mi nd (nkM 1)) nd 701 (la d) (va_up pa nd none) true false = (pa1, a9, b9) := by rw [← hk]; rfl
              have e_t : t_close (nd, kd, pa, be, af, mi, np, lf, nm, d + 1, la, so, ro) d = ((nd + 1), (upd kd nd 1), pa1, (va_up be nd none), (va_up af nd none), (va_up (va_up mi nd (nkM 1)) nd b9), np, lf, nm, d, la, so, ro) := by
                simp only [t_close, e_k]
                rw [e_c]
                simp only [if_pos c_119]
              exact ct_endi hx hb hr hlocks rfl hP hD hS (by rw [e_t]) rfl dX3_close_139
          · exact absurd (by decide) c_44
        · have hl : lv_has ls 5 [(4, .int (nI w0)), (3, .int (bI b9)), (2, .int (bI a9)), (1, .int (nI nd)), (0, .ref (h 0))] := hl
          have hz := ho w0 rfl
          refine lv_iload hx hb dX3_close_42 (lv_at hl 0 rfl) ?_
          refine lv_if_lt (tgt := 107) hx hb dX3_close_44 (by decide) (fun c_44 => ?_) (fun c_44 => ?_)
          · have c_44 : w0 < 0 := (nI_ltI (a := w0) (b := 0) (by omega) (by omega)).mp c_44
            exact absurd c_44 (Nat.not_lt_zero _)
          · have c_44 : 0 ≤ w0 := Nat.le_of_not_lt (fun z => c_44 ((nI_ltI (a := w0) (b := 0) (by omega) (by omega)).mpr z))
            refine lv_aload_n hx hb dX3_close_47 rfl (lv_at hl 4 rfl) ?_
            refine va_get (D := D) (ci := 3) (v := .ref (h 3)) (C := RX3) (T := TX3) (N := 18) hx hb hts (fun w h => lw_in w (inX3 w h)) hown hK hP 0 rfl rfl 4 (by decide) (hts _ (lw_in _ t_292)) (fun _ h9 => h9) rfl dX3_close_48 ?_
            refine lv_iload hx hb dX3_close_51 (lv_at hl 0 rfl) ?_
            refine lv_iload_n hx hb dX3_close_53 rfl (lv_at hl 3 rfl) ?_
            refine wx_past (x := some nd) (g := pa1) hx hb hK hP hD hS 3 2 rfl rfl (i := w0) (by omega) (by decide) dX3_close_54 (fun H locs hP hD hS => ?_)
            have hP : va_P D vwCl (wM h k tx sz im cm nw ((nd + 1), (upd kd nd 1), (va_up pa1 w0 (some nd)), (va_up be nd none), (va_up af nd none), (va_up mi nd (nkM 1)), np, lf, nm, (d + 1), la, so, ro)) H := hP
            have hD : va_D A (wM h k tx sz im cm nw ((nd + 1), (upd kd nd 1), (va_up pa1 w0 (some nd)), (va_up be nd none), (va_up af nd none), (va_up mi nd (nkM 1)), np, lf, nm, (d + 1), la, so, ro)) := hD
            refine lv_iload_n hx hb dX3_close_55 rfl (lv_at hl 2 rfl) ?_
            refine lv_if_eq (tgt := 73) hx hb dX3_close_56 (by decide) (fun c_56 => ?_) (fun c_56 => ?_)
            · have c_56 : a9 = false := (bI_eq0 _).mp c_56
              refine lv_iconst (v := 0) hx hb dX3_close_73 (by decide) ?_
              refine lv_istore_n (lv' := [(2, .int 0), (4, .int (nI w0)), (3, .int (bI b9)), (1, .int (nI nd)), (0, .ref (h 0))]) hx hb dX3_close_74 rfl hl (by decide) rfl (fun ls hl => ?_)
              refine lv_iload_n hx hb dX3_close_75 rfl (lv_at hl 2 rfl) ?_
              refine lv_if_ne (tgt := 89) hx hb dX3_close_76 (by decide) (fun c_76 => ?_) (fun c_76 => ?_)
              · have c_76 : b9 = true := (bI_ne0 _).mp c_76
                refine lv_iconst (v := 1) hx hb dX3_close_89 (by decide) ?_
                refine lv_goto (tgt := 94) hx hb dX3_close_90 (by decide) ?_
                refine lv_istore_n (lv' := [(3, .int 1), (2, .int 0), (4, .int (nI w0)), (1, .int (nI nd)), (0, .ref (h 0))]) hx hb dX3_close_94 rfl hl (by decide) rfl (fun ls hl => ?_)
                refine lv_aload_n hx hb dX3_close_95 rfl (lv_at hl 4 rfl) ?_
                refine va_get (D := D) (ci := 3) (v := .ref (h 4)) (C := RX3) (T := TX3) (N := 18) hx hb hts (fun w h => lw_in w (inX3 w h)) hown hK hP 0 rfl rfl 5 (by decide) (hts _ (lw_in _ t_293)) (fun _ h9 => h9) rfl dX3_close_96 ?_
                refine lv_iload hx hb dX3_close_99 (lv_at hl 2 rfl) ?_
                refine wx_pald hx hb hK hP 4 3 rfl rfl (i := w0) (by omega) (by decide) dX3_close_101 ?_
                refine lv_istore (lv' := [(4, .int (pI ((va_up be nd none) w0))), (3, .int 1), (2, .int 0), (1, .int (nI nd)), (0, .ref (h 0))]) hx hb dX3_close_102 hl (by decide) rfl (fun ls hl => ?_)
                refine lv_goto (tgt := 42) hx hb dX3_close_104 (by decide) ?_
                exact ih2 ((va_up be nd none) w0) (va_up pa1 w0 (some nd)) false true (fun y hy => by rw [va_up_ne _ _ (by omega)] at hy; have := hbe w0 y hz.2 hy; omega) (by rw [← hk, clL]; simp [c_56, c_76]) _ _ hP hD hS _ (lv_sub hl [0, 1, 2, 3, 4] rfl)
              · have c_76 : b9 = false := (bI_eq0 _).mp c_76
                refine lv_aload_n hx hb dX3_close_79 rfl (lv_at hl 4 rfl) ?_
                refine va_get (D := D) (ci := 3) (v := .ref (h 6)) (C := RX3) (T := TX3) (N := 18) hx hb hts (fun w h => lw_in w (inX3 w h)) hown hK hP 0 rfl rfl 7 (by decide) (hts _ (lw_in _ t_295)) (fun _ h9 => h9) rfl dX3_close_80 ?_
                refine lv_iload hx hb dX3_close_83 (lv_at hl 1 rfl) ?_
                refine wx_zald hx hb hK hP 6 5 rfl rfl (i := w0) (by omega) (by decide) dX3_close_85 ?_
                refine lv_if_eq (tgt := 93) hx hb dX3_close_86 (by decide) (fun c_86 => ?_) (fun c_86 => ?_)
                · have c_86 : ((va_up mi nd (nkM 1)) w0) = false := (bI_eq0 _).mp c_86
                  refine lv_iconst (v := 0) hx hb dX3_close_93 (by decide) ?_
                  refine lv_istore_n (lv' := [(3, .int 0), (2, .int 0), (4, .int (nI w0)), (1, .int (nI nd)), (0, .ref (h 0))]) hx hb dX3_close_94 rfl hl (by decide) rfl (fun ls hl => ?_)
                  refine lv_aload_n hx hb dX3_close_95 rfl (lv_at hl 4 rfl) ?_
                  refine va_get (D := D) (ci := 3) (v := .ref (h 4)) (C := RX3) (T := TX3) (N := 18) hx hb hts (fun w h => lw_in w (inX3 w h)) hown hK hP 0 rfl rfl 5 (by decide) (hts _ (lw_in _ t_293)) (fun _ h9 => h9) rfl dX3_close_96 ?_
                  refine lv_iload hx hb dX3_close_99 (lv_at hl 2 rfl) ?_
                  refine wx_pald hx hb hK hP 4 3 rfl rfl (i := w0) (by omega) (by decide) dX3_close_101 ?_
                  refine lv_istore (lv' := [(4, .int (pI ((va_up be nd none) w0))), (3, .int 0), (2, .int 0), (1, .int (nI nd)), (0, .ref (h 0))]) hx hb dX3_close_102 hl (by decide) rfl (fun ls hl => ?_)
                  refine lv_goto (tgt := 42) hx hb dX3_close_104 (by decide) ?_
                  exact ih2 ((va_up be nd none) w0) (va_up pa1 w0 (some nd)) false false (fun y hy => by rw [va_up_ne _ _ (by omega)] at hy; have := hbe w0 y hz.2 hy; omega) (by rw [← hk, clL]; simp [c_56, c_76, c_86]) _ _ hP hD hS _ (lv_sub hl [0, 1, 2, 3, 4] rfl)
                · have c_86 : ((va_up mi nd (nkM 1)) w0) = true := (bI_ne0 _).mp c_86
                  refine lv_iconst (v := 1) hx hb dX3_close_89 (by decide) ?_
                  refine lv_goto (tgt := 94) hx hb dX3_close_90 (by decide) ?_
                  refine lv_istore_n (lv' := [(3, .int 1), (2, .int 0), (4, .int (nI w0)), (1, .int (nI nd)), (0, .ref (h 0))]) hx hb dX3_close_94 rfl hl (by decide) rfl (fun ls hl => ?_)
                  refine lv_aload_n hx hb dX3_close_95 rfl (lv_at hl 4 rfl) ?_
                  refine va_get (D := D) (ci := 3) (v := .ref (h 4)) (C := RX3) (T := TX3) (N := 18) hx hb hts (fun w h => lw_in w (inX3 w h)) hown hK hP 0 rfl rfl 5 (by decide) (hts _ (lw_in _ t_293)) (fun _ h9 => h9) rfl dX3_close_96 ?_
                  refine lv_iload hx hb dX3_close_99 (lv_at hl 2 rfl) ?_
                  refine wx_pald hx hb hK hP 4 3 rfl rfl (i := w0) (by omega) (by decide) dX3_close_101 ?_
                  refine lv_istore (lv' := [(4, .int (pI ((va_up be nd none) w0))), (3, .int 1), (2, .int 0), (1, .int (nI nd)), (0, .ref (h 0))]) hx hb dX3_close_102 hl (by decide) rfl (fun ls hl => ?_)
                  refine lv_goto (tgt := 42) hx hb dX3_close_104 (by decide) ?_
                  exact ih2 ((va_up be nd none) w0) (va_up pa1 w0 (some nd)) false true (fun y hy => by rw [va_up_ne _ _ (by omega)] at hy; have := hbe w0 y hz.2 hy; omega) (by rw [← hk, clL]; simp [c_56, c_76, c_86]) _ _ hP hD hS _ (lv_sub hl [0, 1, 2, 3, 4] rfl)
            · have c_56 : a9 = true := (bI_ne0 _).mp c_56
              refine lv_aload_n hx hb dX3_close_59 rfl (lv_at hl 4 rfl) ?_
              refine va_get (D := D) (ci := 3) (v := .ref (h 6)) (C := RX3) (T := TX3) (N := 18) hx hb hts (fun w h => lw_in w (inX3 w h)) hown hK hP 0 rfl rfl 7 (by decide) (hts _ (lw_in _ t_295)) (fun _ h9 => h9) rfl dX3_close_60 ?_
              refine lv_iload hx hb dX3_close_63 (lv_at hl 0 rfl) ?_
              refine wx_zald hx hb hK hP 6 5 rfl rfl (i := w0) (by omega) (by decide) dX3_close_65 ?_
              refine lv_if_eq (tgt := 73) hx hb dX3_close_66 (by decide) (fun c_66 => ?_) (fun c_66 => ?_)
              · have c_66 : ((va_up mi nd (nkM 1)) w0) = false := (bI_eq0 _).mp c_66
                refine lv_iconst (v := 0) hx hb dX3_close_73 (by decide) ?_
                refine lv_istore_n (lv' := [(2, .int 0), (4, .int (nI w0)), (3, .int (bI b9)), (1, .int (nI nd)), (0, .ref (h 0))]) hx hb dX3_close_74 rfl hl (by decide) rfl (fun ls hl => ?_)
                refine lv_iload_n hx hb dX3_close_75 rfl (lv_at hl 2 rfl) ?_
                refine lv_if_ne (tgt := 89) hx hb dX3_close_76 (by decide) (fun c_76 => ?_) (fun c_76 => ?_)
                · have c_76 : b9 = true := (bI_ne0 _).mp c_76
                  refine lv_iconst (v := 1) hx hb dX3_close_89 (by decide) ?_
                  refine lv_goto (tgt := 94) hx hb dX3_close_90 (by decide) ?_
                  refine lv_istore_n (lv' := [(3, .int 1), (2, .int 0), (4, .int (nI w0)), (1, .int (nI nd)), (0, .ref (h 0))]) hx hb dX3_close_94 rfl hl (by decide) rfl (fun ls hl => ?_)
                  refine lv_aload_n hx hb dX3_close_95 rfl (lv_at hl 4 rfl) ?_
                  refine va_get (D := D) (ci := 3) (v := .ref (h 4)) (C := RX3) (T := TX3) (N := 18) hx hb hts (fun w h => lw_in w (inX3 w h)) hown hK hP 0 rfl rfl 5 (by decide) (hts _ (lw_in _ t_293)) (fun _ h9 => h9) rfl dX3_close_96 ?_
                  refine lv_iload hx hb dX3_close_99 (lv_at hl 2 rfl) ?_
                  refine wx_pald hx hb hK hP 4 3 rfl rfl (i := w0) (by omega) (by decide) dX3_close_101 ?_
                  refine lv_istore (lv' := [(4, .int (pI ((va_up be nd none) w0))), (3, .int 1), (2, .int 0), (1, .int (nI nd)), (0, .ref (h 0))]) hx hb dX3_close_102 hl (by decide) rfl (fun ls hl => ?_)
                  refine lv_goto (tgt := 42) hx hb dX3_close_104 (by decide) ?_
                  exact ih2 ((va_up be nd none) w0) (va_up pa1 w0 (some nd)) false true (fun y hy => by rw [va_up_ne _ _ (by omega)] at hy; have := hbe w0 y hz.2 hy; omega) (by rw [← hk, clL]; simp [c_56, c_66, c_76]) _ _ hP hD hS _ (lv_sub hl [0, 1, 2, 3, 4] rfl)
                · have c_76 : b9 = false := (bI_eq0 _).mp c_76
                  refine lv_aload_n hx hb dX3_close_79 rfl (lv_at hl 4 rfl) ?_
                  refine va_get (D := D) (ci := 3) (v := .ref (h 6)) (C := RX3) (T := TX3) (N := 18) hx hb hts (fun w h => lw_in w (inX3 w h)) hown hK hP 0 rfl rfl 7 (by decide) (hts _ (lw_in _ t_295)) (fun _ h9 => h9) rfl dX3_close_80 ?_
                  refine lv_iload hx hb dX3_close_83 (lv_at hl 1 rfl) ?_
                  refine wx_zald hx hb hK hP 6 5 rfl rfl (i := w0) (by omega) (by decide) dX3_close_85 ?_
                  refine lv_if_eq (tgt := 93) hx hb dX3_close_86 (by decide) (fun c_86 => ?_) (fun c_86 => ?_)
                  · have c_86 : ((va_up mi nd (nkM 1)) w0) = false := (bI_eq0 _).mp c_86
                    refine lv_iconst (v := 0) hx hb dX3_close_93 (by decide) ?_
                    refine lv_istore_n (lv' := [(3, .int 0), (2, .int 0), (4, .int (nI w0)), (1, .int (nI nd)), (0, .ref (h 0))]) hx hb dX3_close_94 rfl hl (by decide) rfl (fun ls hl => ?_)
                    refine lv_aload_n hx hb dX3_close_95 rfl (lv_at hl 4 rfl) ?_
                    refine va_get (D := D) (ci := 3) (v := .ref (h 4)) (C := RX3) (T := TX3) (N := 18) hx hb hts (fun w h => lw_in w (inX3 w h)) hown hK hP 0 rfl rfl 5 (by decide) (hts _ (lw_in _ t_293)) (fun _ h9 => h9) rfl dX3_close_96 ?_
                    refine lv_iload hx hb dX3_close_99 (lv_at hl 2 rfl) ?_
                    refine wx_pald hx hb hK hP 4 3 rfl rfl (i := w0) (by omega) (by decide) dX3_close_101 ?_
                    refine lv_istore (lv' := [(4, .int (pI ((va_up be nd none) w0))), (3, .int 0), (2, .int 0), (1, .int (nI nd)), (0, .ref (h 0))]) hx hb dX3_close_102 hl (by decide) rfl (fun ls hl => ?_)
                    refine lv_goto (tgt := 42) hx hb dX3_close_104 (by decide) ?_
                    exact ih2 ((va_up be nd none) w0) (va_up pa1 w0 (some nd)) false false (fun y hy => by rw [va_up_ne _ _ (by omega)] at hy; have := hbe w0 y hz.2 hy; omega) (by rw [← hk, clL]; simp [c_56, c_66, c_76, c_86]) _ _ hP hD hS _ (lv_sub hl [0, 1, 2, 3, 4] rfl)
                  · have c_86 : ((va_up mi nd (nkM 1)) w0) = true := (bI_ne0 _).mp c_86
                    exact absurd (c_66.symm.trans c_86) (by decide)
              · have c_66 : ((va_up mi nd (nkM 1)) w0) = true := (bI_ne0 _).mp c_66
                refine lv_iconst (v := 1) hx hb dX3_close_69 (by decide) ?_
                refine lv_goto (tgt := 74) hx hb dX3_close_70 (by decide) ?_
                refine lv_istore_n (lv' := [(2, .int 1), (4, .int (nI w0)), (3, .int (bI b9)), (1, .int (nI nd)), (0, .ref (h 0))]) hx hb dX3_close_74 rfl hl (by decide) rfl (fun ls hl => ?_)
                refine lv_iload_n hx hb dX3_close_75 rfl (lv_at hl 2 rfl) ?_
                refine lv_if_ne (tgt := 89) hx hb dX3_close_76 (by decide) (fun c_76 => ?_) (fun c_76 => ?_)
                · have c_76 : b9 = true := (bI_ne0 _).mp c_76
                  refine lv_iconst (v := 1) hx hb dX3_close_89 (by decide) ?_
                  refine lv_goto (tgt := 94) hx hb dX3_close_90 (by decide) ?_
                  refine lv_istore_n (lv' := [(3, .int 1), (2, .int 1), (4, .int (nI w0)), (1, .int (nI nd)), (0, .ref (h 0))]) hx hb dX3_close_94 rfl hl (by decide) rfl (fun ls hl => ?_)
                  refine lv_aload_n hx hb dX3_close_95 rfl (lv_at hl 4 rfl) ?_
                  refine va_get (D := D) (ci := 3) (v := .ref (h 4)) (C := RX3) (T := TX3) (N := 18) hx hb hts (fun w h => lw_in w (inX3 w h)) hown hK hP 0 rfl rfl 5 (by decide) (hts _ (lw_in _ t_293)) (fun _ h9 => h9) rfl dX3_close_96 ?_
                  refine lv_iload hx hb dX3_close_99 (lv_at hl 2 rfl) ?_
                  refine wx_pald hx hb hK hP 4 3 rfl rfl (i := w0) (by omega) (by decide) dX3_close_101 ?_
                  refine lv_istore (lv' := [(4, .int (pI ((va_up be nd none) w0))), (3, .int 1), (2, .int 1), (1, .int (nI nd)), (0, .ref (h 0))]) hx hb dX3_close_102 hl (by decide) rfl (fun ls hl => ?_)
                  refine lv_goto (tgt := 42) hx hb dX3_close_104 (by decide) ?_
                  exact ih2 ((va_up be nd none) w0) (va_up pa1 w0 (some nd)) true true (fun y hy => by rw [va_up_ne _ _ (by omega)] at hy; have := hbe w0 y hz.2 hy; omega) (by rw [← hk, clL]; simp [c_56, c_66, c_76]) _ _ hP hD hS _ (lv_sub hl [0, 1, 2, 3, 4] rfl)
                · have c_76 : b9 = false := (bI_eq0 _).mp c_76
                  refine lv_aload_n hx hb dX3_close_79 rfl (lv_at hl 4 rfl) ?_
                  refine va_get (D := D) (ci := 3) (v := .ref (h 6)) (C := RX3) (T := TX3) (N := 18) hx hb hts (fun w h => lw_in w (inX3 w h)) hown hK hP 0 rfl rfl 7 (by decide) (hts _ (lw_in _ t_295)) (fun _ h9 => h9) rfl dX3_close_80 ?_
                  refine lv_iload hx hb dX3_close_83 (lv_at hl 1 rfl) ?_
                  refine wx_zald hx hb hK hP 6 5 rfl rfl (i := w0) (by omega) (by decide) dX3_close_85 ?_
                  refine lv_if_eq (tgt := 93) hx hb dX3_close_86 (by decide) (fun c_86 => ?_) (fun c_86 => ?_)
                  · have c_86 : ((va_up mi nd (nkM 1)) w0) = false := (bI_eq0 _).mp c_86
                    exact absurd (c_66.symm.trans c_86) (by decide)
                  · have c_86 : ((va_up mi nd (nkM 1)) w0) = true := (bI_ne0 _).mp c_86
                    refine lv_iconst (v := 1) hx hb dX3_close_89 (by decide) ?_
                    refine lv_goto (tgt := 94) hx hb dX3_close_90 (by decide) ?_
                    refine lv_istore_n (lv' := [(3, .int 1), (2, .int 1), (4, .int (nI w0)), (1, .int (nI nd)), (0, .ref (h 0))]) hx hb dX3_close_94 rfl hl (by decide) rfl (fun ls hl => ?_)
                    refine lv_aload_n hx hb dX3_close_95 rfl (lv_at hl 4 rfl) ?_
                    refine va_get (D := D) (ci := 3) (v := .ref (h 4)) (C := RX3) (T := TX3) (N := 18) hx hb hts (fun w h => lw_in w (inX3 w h)) hown hK hP 0 rfl rfl 5 (by decide) (hts _ (lw_in _ t_293)) (fun _ h9 => h9) rfl dX3_close_96 ?_
                    refine lv_iload hx hb dX3_close_99 (lv_at hl 2 rfl) ?_
                    refine wx_pald hx hb hK hP 4 3 rfl rfl (i := w0) (by omega) (by decide) dX3_close_101 ?_
                    refine lv_istore (lv' := [(4, .int (pI ((va_up be nd none) w0))), (3, .int 1), (2, .int 1), (1, .int (nI nd)), (0, .ref (h 0))]) hx hb dX3_close_102 hl (by decide) rfl (fun ls hl => ?_)
                    refine lv_goto (tgt := 42) hx hb dX3_close_104 (by decide) ?_
                    exact ih2 ((va_up be nd none) w0) (va_up pa1 w0 (some nd)) true true (fun y hy => by rw [va_up_ne _ _ (by omega)] at hy; have := hbe w0 y hz.2 hy; omega) (by rw [← hk, clL]; simp [c_56, c_66, c_76, c_86]) _ _ hP hD hS _ (lv_sub hl [0, 1, 2, 3, 4] rfl)
    exact loop2 701 (la d) (va_up pa nd none) true false (fun y hy => by have := hla y hy; omega) rfl _ _ hP hD hS _ (lv_sub hl [0, 1, 2, 3, 4] rfl)
