/-! The methods of the reference: parse (laid by program) -/
set_option maxHeartbeats 4000000 in
set_option maxRecDepth 100000 in
theorem k_E_put (l : Launch) (D : va_G) (h : Nat → Nat) (k : Nat → ClassId) (tx : Nat → Int32) (sz : Nat) (im : Bool) (cm : Nat) (nw : Int64) (T : TS) (v : Int64) (x : Int32)  (hsz : sz ≤ 300) :
    Ct l yX3_put wsX3_put (rmN 0) D vwCl (tyM k) [.ref (h 0), .long v, .int x] (wM h k tx sz im cm nw T) (wM h k (e_put tx sz v x).1 (e_put tx sz v x).2.1 im cm nw T) (some (.int (bI (e_put tx sz v x).2.2))) := by
  refine Ct.of (cc := cX3_put) (maxL := 5) (ret := (some .boolean)) (lv := [(0, .ref (h 0)), (1, .long v), (3, .int x)]) (by decide) rfl (Nat.le_of_ble_eq_true rfl) rfl ?_
  intro p e s m below meth c A ls hx hb hr hml hts hown hlocks hK hP hD hS hA hl
  refine lv_iload_n hx hb dX3_put_0 rfl (lv_at hl 2 rfl) ?_
  refine lv_iconst (v := 1) hx hb dX3_put_1 (by decide) ?_
  refine lv_icmp_lt (tgt := 23) hx hb dX3_put_2 (by decide) (fun c_2 => ?_) (fun c_2 => ?_)
  · have c_2 : x < 1 := c_2
    refine lv_iconst (v := 0) hx hb dX3_put_23 (by decide) ?_
    have e_24 : e_put tx sz v x = (tx, sz, false) := by unfold e_put; rw [if_pos c_2]
    exact ct_endi hx hb hr hlocks rfl hP hD hS (by rw [e_24]) (by rw [e_24]; rfl) dX3_put_24
  · have c_2 : ¬ x < 1 := c_2
    refine lv_iload_n hx hb dX3_put_5 rfl (lv_at hl 2 rfl) ?_
    refine lv_bipush (v := 8) hx hb dX3_put_6 (by decide) ?_
    refine lv_icmp_gt (tgt := 23) hx hb dX3_put_8 (by decide) (fun c_8 => ?_) (fun c_8 => ?_)
    · have c_8 : 8 < x := c_8
      refine lv_iconst (v := 0) hx hb dX3_put_23 (by decide) ?_
      have e_24 : e_put tx sz v x = (tx, sz, false) := by unfold e_put; rw [if_neg c_2, if_pos c_8]
      exact ct_endi hx hb hr hlocks rfl hP hD hS (by rw [e_24]) (by rw [e_24]; rfl) dX3_put_24
    · have c_8 : ¬ 8 < x := c_8
      obtain ⟨q, hq1, hq8, rfl⟩ : ∃ q : Nat, 1 ≤ q ∧ q ≤ 8 ∧ x = nI q := p_count c_2 c_8
      refine lv_aload_n hx hb dX3_put_11 rfl (lv_at hl 0 rfl) ?_
      refine va_get (D := D) (ci := 3) (v := .int (nI sz)) (C := RX3) (T := TX3) (N := 18) hx hb hts (fun w h => lw_in w (inX3 w h)) hown hK hP 0 rfl rfl 1 (by decide) (hts _ (lw_in _ t_289)) (fun _ h9 => h9) rfl dX3_put_12 ?_
      refine lv_iload_n hx hb dX3_put_15 rfl (lv_at hl 2 rfl) ?_
      refine lv_iadd hx hb dX3_put_16 ?_
      refine lv_eqi (show (nI sz + nI q) = nI (sz + q) from nI_add _ _) ?_
      refine lv_sipush (v := 300) hx hb dX3_put_17 (by decide) ?_
      refine lv_icmp_le (tgt := 25) hx hb dX3_put_20 (by decide) (fun c_20 => ?_) (fun c_20 => ?_)
      · have c_20 : (sz + q) ≤ 300 := (nI_leI (a := (sz + q)) (b := 300) (by omega) (by omega)).mp c_20
        refine lv_iconst (v := 0) hx hb dX3_put_25 (by decide) ?_
        refine lv_istore (lv' := [(4, .int 0), (0, .ref (h 0)), (1, .long v), (3, .int (nI q))]) hx hb dX3_put_26 hl (by decide) rfl (fun ls hl => ?_)
        have loop : ∀ (n : Nat) (k9 : Nat) (tx1 : Nat → Int32), (k9 + n = q) → (ptR v sz q n k9 tx1 = ptR v sz q q 0 tx) → ∀ (H : Heap) (locs : List Loc), va_P D vwCl (wM h k tx1 sz im cm nw T) H → va_D A (wM h k tx1 sz im cm nw T) → va_S A s.heap H locs → ∀ ls : Array Slot, lv_has ls 5 [(4, .int (nI k9)), (0, .ref (h 0)), (1, .long v), (3, .int (nI q))] →
            W p l e (rmN 0) s m ([.ref (h 0), .long v, .int (nI q)] : List Value).toArray below meth c H locs 0 0 (MQ below (CtQ D vwCl A (wM h k (e_put tx sz v (nI q)).1 (e_put tx sz v (nI q)).2.1 im cm nw T) (some (.int (bI (e_put tx sz v (nI q)).2.2)))) ([.ref (h 0), .long v, .int (nI q)] : List Value).toArray s 0 0 A) (F0 m 28 ls []) := by
          intro n
          induction n with
          | zero =>
            intro k9 tx1 hi he H locs hP hD hS ls hl
            refine lv_iload hx hb dX3_put_28 (lv_at hl 0 rfl) ?_
            refine lv_iload_n hx hb dX3_put_30 rfl (lv_at hl 3 rfl) ?_
            refine lv_icmp_ge (tgt := 68) hx hb dX3_put_31 (by decide) (fun c_31 => ?_) (fun c_31 => ?_)
            · have c_31 : q ≤ k9 := (nI_leI (a := q) (b := k9) (by omega) (by omega)).mp c_31
              refine lv_aload_n hx hb dX3_put_68 rfl (lv_at hl 1 rfl) ?_
              refine lv_aload_n hx hb dX3_put_69 rfl (lv_at hl 1 rfl) ?_
              refine va_get (D := D) (ci := 3) (v := .int (nI sz)) (C := RX3) (T := TX3) (N := 18) hx hb hts (fun w h => lw_in w (inX3 w h)) hown hK hP 0 rfl rfl 1 (by decide) (hts _ (lw_in _ t_289)) (fun _ h9 => h9) rfl dX3_put_70 ?_
              refine lv_iload_n hx hb dX3_put_73 rfl (lv_at hl 3 rfl) ?_
              refine lv_iadd hx hb dX3_put_74 ?_
              refine lv_eqi (show (nI sz + nI q) = nI (sz + q) from nI_add _ _) ?_
              refine va_put (D := D) (ci := 3) (v := .int (nI (sz + q))) (ty := .int) (C := RX3) (T := TX3) (N := 18) hx hb hts (fun w h => lw_in w (inX3 w h)) tyX3 tyX3_ok nmX3 hown hK hP hD hS 0 rfl rfl 1 (by decide) (hts _ (lw_in _ t_289)) (fun _ h9 => h9) rfl (by decide +kernel) rfl rfl (Nat.le_of_ble_eq_true rfl) dX3_put_75 (fun H locs hP hD hS => ?_)
              have hP : va_P D vwCl (wM h k tx1 (sz + q) im cm nw T) H := hP
              have hD : va_D A (wM h k tx1 (sz + q) im cm nw T) := hD
              refine lv_iconst (v := 1) hx hb dX3_put_78 (by decide) ?_
              have e_69 : e_put tx sz v (nI q) = (ptR v sz q q 0 tx, sz + q, true) := by unfold e_put; rw [if_neg c_2, if_neg c_8, nI_clamp (by omega), if_neg (by omega)]
              exact ct_endi hx hb hr hlocks rfl hP hD hS (by rw [e_69, ← he]; rfl) (by rw [e_69]; rfl) dX3_put_79
            · have c_31 : k9 < q := Nat.lt_of_not_le (fun z => c_31 ((nI_leI (a := q) (b := k9) (by omega) (by omega)).mpr z))
              exact absurd c_31 (by omega)
          | succ n ih =>
            intro k9 tx1 hi he H locs hP hD hS ls hl
            refine lv_iload hx hb dX3_put_28 (lv_at hl 0 rfl) ?_
            refine lv_iload_n hx hb dX3_put_30 rfl (lv_at hl 3 rfl) ?_
            refine lv_icmp_ge (tgt := 68) hx hb dX3_put_31 (by decide) (fun c_31 => ?_) (fun c_31 => ?_)
            · have c_31 : q ≤ k9 := (nI_leI (a := q) (b := k9) (by omega) (by omega)).mp c_31
              exact absurd c_31 (by omega)
            · have c_31 : k9 < q := Nat.lt_of_not_le (fun z => c_31 ((nI_leI (a := q) (b := k9) (by omega) (by omega)).mpr z))
              refine lv_aload_n hx hb dX3_put_34 rfl (lv_at hl 1 rfl) ?_
              refine va_get (D := D) (ci := 3) (v := .ref (h 1)) (C := RX3) (T := TX3) (N := 18) hx hb hts (fun w h => lw_in w (inX3 w h)) hown hK hP 0 rfl rfl 0 (by decide) (hts _ (lw_in _ t_288)) (fun _ h9 => h9) rfl dX3_put_35 ?_
              refine lv_aload_n hx hb dX3_put_38 rfl (lv_at hl 1 rfl) ?_
              refine va_get (D := D) (ci := 3) (v := .int (nI sz)) (C := RX3) (T := TX3) (N := 18) hx hb hts (fun w h => lw_in w (inX3 w h)) hown hK hP 0 rfl rfl 1 (by decide) (hts _ (lw_in _ t_289)) (fun _ h9 => h9) rfl dX3_put_39 ?_
              refine lv_iload hx hb dX3_put_42 (lv_at hl 0 rfl) ?_
              refine lv_iadd hx hb dX3_put_44 ?_
              refine lv_eqi (show (nI sz + nI k9) = nI (sz + k9) from nI_add _ _) ?_
              refine lv_lload_n hx hb dX3_put_45 rfl (lv_at hl 2 rfl) ?_
              refine lv_bipush (v := 8) hx hb dX3_put_46 (by decide) ?_
              refine lv_iload_n hx hb dX3_put_48 rfl (lv_at hl 3 rfl) ?_
              refine lv_iconst (v := 1) hx hb dX3_put_49 (by decide) ?_
              refine lv_isub hx hb dX3_put_50 ?_
              refine lv_iload hx hb dX3_put_51 (lv_at hl 0 rfl) ?_
              refine lv_isub hx hb dX3_put_53 ?_
              refine lv_imul hx hb dX3_put_54 ?_
              refine lv_lshr (v := ((v : Int64) >>> ((8 * ((nI q - 1) - nI k9)).toInt64 &&& 63))) hx hb dX3_put_55 rfl ?_
              refine lv_ldc2 (v := 255) hx hb hown (hts _ (lw_in _ t_347)) dX3_put_56 ?_
              refine lv_land hx hb dX3_put_59 ?_
              refine lv_l2i (v := (((v : Int64) >>> ((8 * ((nI q - 1) - nI k9)).toInt64 &&& 63)) &&& 255).toInt32) hx hb dX3_put_60 rfl ?_
              refine wx_iast hx hb hK hP hD hS 1 0 rfl rfl (i := (sz + k9)) (by omega) (by decide) dX3_put_61 (fun H locs hP hD hS => ?_)
              have hP : va_P D vwCl (wM h k (upd tx1 (sz + k9) ((((v : Int64) >>> ((8 * ((nI q - 1) - nI k9)).toInt64 &&& 63)) &&& 255).toInt32)) sz im cm nw T) H := hP
              have hD : va_D A (wM h k (upd tx1 (sz + k9) ((((v : Int64) >>> ((8 * ((nI q - 1) - nI k9)).toInt64 &&& 63)) &&& 255).toInt32)) sz im cm nw T) := hD
              refine lv_iinc (v := nI (k9 + 1)) (lv' := [(4, .int (nI (k9 + 1))), (0, .ref (h 0)), (1, .long v), (3, .int (nI q))]) hx hb dX3_put_62 hl (k := 0) rfl (nI_1 _) (by decide) rfl (fun ls hl => ?_)
              refine lv_goto (tgt := 28) hx hb dX3_put_65 (by decide) ?_
              exact ih (k9 + 1) (upd tx1 (sz + k9) ((((v : Int64) >>> ((8 * ((nI q - 1) - nI k9)).toInt64 &&& 63)) &&& 255).toInt32)) (by omega) (by rw [← he, ptR, byteR]) _ _ hP hD hS _ (lv_sub hl [0, 1, 2, 3] rfl)
        exact loop q 0 tx (by omega) rfl _ _ hP hD hS _ (lv_sub hl [0, 1, 2, 3] rfl)
      · have c_20 : 300 < (sz + q) := Nat.lt_of_not_le (fun z => c_20 ((nI_leI (a := (sz + q)) (b := 300) (by omega) (by omega)).mpr z))
        refine lv_iconst (v := 0) hx hb dX3_put_23 (by decide) ?_
        have e_24 : e_put tx sz v (nI q) = (tx, sz, false) := by unfold e_put; rw [if_neg c_2, if_neg c_8, nI_clamp (by omega), if_pos (by omega)]
        exact ct_endi hx hb hr hlocks rfl hP hD hS (by rw [e_24]) (by rw [e_24]; rfl) dX3_put_24

set_option maxHeartbeats 4000000 in
set_option maxRecDepth 100000 in
theorem k_E_close (l : Launch) (D : va_G) (h : Nat → Nat) (k : Nat → ClassId) (tx : Nat → Int32) (sz : Nat) (im : Bool) (cm : Nat) (nw : Int64) (nd : Nat) (kd : Nat → Int32) (pa : Nat → Option Nat) (be : Nat → Option Nat) (af : Nat → Option Nat) (mi : Nat → Bool) (np : Nat) (lf : Nat → Nat) (nm : Nat → Int32) (d : Nat) (la : Nat → Option Nat) (so : Nat → Int32) (ro : Nat)   (hnd : nd < 700) (hd : d < 12) (hla : ∀ w0, la d = some w0 → w0 < nd) (hbe : ∀ x y, x < nd → be x = some y → y < x) :
    Ct l yX3_close wsX3_close (rmN 1) D vwCl (tyM k) [.ref (h 0)] (wM h k tx sz im cm nw (nd, kd, pa, be, af, mi, np, lf, nm, (d + 1), la, so, ro)) (wM h k tx sz im cm nw (t_close (nd, kd, pa, be, af, mi, np, lf, nm, d + 1, la, so, ro) d)) (some (.int (nI nd))) := by
  refine Ct.of (cc := cX3_close) (maxL := 5) (ret := (some .int)) (lv := [(0, .ref (h 0))]) (by decide) rfl (Nat.le_of_ble_eq_true rfl) rfl ?_
  intro p e s m below meth c A ls hx hb hr hml hts hown hlocks hK hP hD hS hA hl
  refine lv_aload_n hx hb dX3_close_0 rfl (lv_at hl 0 rfl) ?_
  refine lv_aload_n hx hb dX3_close_1 rfl (lv_at hl 0 rfl) ?_
  refine va_get (D := D) (ci := 3) (v := .ref (h 10)) (C := RX3) (T := TX3) (N := 18) hx hb hts (fun w h => lw_in w (inX3 w h)) hown hK hP 0 rfl rfl 14 (by decide) (hts _ (lw_in _ t_302)) (fun _ h9 => h9) rfl dX3_close_2 ?_
  refine lv_aload_n hx hb dX3_close_5 rfl (lv_at hl 0 rfl) ?_
  refine va_get (D := D) (ci := 3) (v := .int (nI (d + 1))) (C := RX3) (T := TX3) (N := 18) hx hb hts (fun w h => lw_in w (inX3 w h)) hown hK hP 0 rfl rfl 12 (by decide) (hts _ (lw_in _ t_300)) (fun _ h9 => h9) rfl dX3_close_6 ?_
  refine lv_iconst (v := 1) hx hb dX3_close_9 (by decide) ?_
  refine lv_isub hx hb dX3_close_10 ?_
  refine lv_eqi (show (nI (d + 1) - 1) = nI d from nI_pred _) ?_
  refine wx_iald hx hb hK hP 10 9 rfl rfl (i := d) hd (by decide) dX3_close_11 ?_
  refine lv_iconst (v := 1) hx hb dX3_close_12 (by decide) ?_
  refine lv_icmp_ne (tgt := 20) hx hb dX3_close_13 (by decide) (fun c_13 => ?_) (fun c_13 => ?_)
  · have c_13 : ¬ (so d) = 1 := c_13
    refine lv_iconst (v := 2) hx hb dX3_close_20 (by decide) ?_
    refine ct_callV (As := [.int 2]) (rest := []) ⟨hx, hb, hml, hown, hts⟩ (k_E_node l D h k tx sz im cm nw nd kd pa be af mi np lf nm (d + 1) la so ro 2  (by omega)) (cwV 1 hts (gV lw_in t_364 t_366 t_13 t_26 t_367) rfl rfl rfl (by decide +kernel) ⟨Nat.le_of_ble_eq_true rfl, Nat.le_of_ble_eq_true rfl⟩) 0 rfl rfl hK hP hD hS hA rfl hl.1 rfl (Nat.le_of_ble_eq_true rfl) dX3_close_21 ⟨Nat.zero_le _, Nat.zero_le _⟩ (fun H locs hP hD hS => ?_)
    refine W.eq (g2 := F0 m 24 ls [.int (nI nd)]) rfl ?_
    have hP : va_P D vwCl (wM h k tx sz im cm nw ((nd + 1), (upd kd nd 2), (va_up pa nd none), (va_up be nd none), (va_up af nd none), (va_up mi nd (nkM 2)), np, lf, nm, (d + 1), la, so, ro)) H := hP
    have hD : va_D A (wM h k tx sz im cm nw ((nd + 1), (upd kd nd 2), (va_up pa nd none), (va_up be nd none), (va_up af nd none), (va_up mi nd (nkM 2)), np, lf, nm, (d + 1), la, so, ro)) := hD
    refine lv_istore_n (lv' := [(1, .int (nI nd)), (0, .ref (h 0))]) hx hb dX3_close_24 rfl hl (by decide) rfl (fun ls hl => ?_)
    refine lv_iconst (v := 1) hx hb dX3_close_25 (by decide) ?_
    refine lv_istore_n (lv' := [(2, .int 1), (1, .int (nI nd)), (0, .ref (h 0))]) hx hb dX3_close_26 rfl hl (by decide) rfl (fun ls hl => ?_)
    refine lv_iconst (v := 0) hx hb dX3_close_27 (by decide) ?_
    refine lv_istore_n (lv' := [(3, .int 0), (2, .int 1), (1, .int (nI nd)), (0, .ref (h 0))]) hx hb dX3_close_28 rfl hl (by decide) rfl (fun ls hl => ?_)
    refine lv_aload_n hx hb dX3_close_29 rfl (lv_at hl 3 rfl) ?_
    refine va_get (D := D) (ci := 3) (v := .ref (h 9)) (C := RX3) (T := TX3) (N := 18) hx hb hts (fun w h => lw_in w (inX3 w h)) hown hK hP 0 rfl rfl 13 (by decide) (hts _ (lw_in _ t_301)) (fun _ h9 => h9) rfl dX3_close_30 ?_
    refine lv_aload_n hx hb dX3_close_33 rfl (lv_at hl 3 rfl) ?_
    refine va_get (D := D) (ci := 3) (v := .int (nI (d + 1))) (C := RX3) (T := TX3) (N := 18) hx hb hts (fun w h => lw_in w (inX3 w h)) hown hK hP 0 rfl rfl 12 (by decide) (hts _ (lw_in _ t_300)) (fun _ h9 => h9) rfl dX3_close_34 ?_
    refine lv_iconst (v := 1) hx hb dX3_close_37 (by decide) ?_
    refine lv_isub hx hb dX3_close_38 ?_
    refine lv_eqi (show (nI (d + 1) - 1) = nI d from nI_pred _) ?_
    refine wx_pald hx hb hK hP 9 8 rfl rfl (i := d) hd (by decide) dX3_close_39 ?_
    refine lv_istore (lv' := [(4, .int (pI (la d))), (3, .int 0), (2, .int 1), (1, .int (nI nd)), (0, .ref (h 0))]) hx hb dX3_close_40 hl (by decide) rfl (fun ls hl => ?_)
    have loop2 : ∀ (g : Nat) (o : Option Nat) (pa1 : Nat → Option Nat) (a9 : Bool) (b9 : Bool), (∀ w0, o = some w0 → w0 < g ∧ w0 < nd) → (clL (va_up be nd none) (va_up mi nd (nkM 2)) nd g o pa1 a9 b9 = clL (va_up be nd none) (va_up mi nd (nkM 2)) nd 701 (la d) (va_up pa nd none) true false) → ∀ (H : Heap) (locs : List Loc), va_P D vwCl (wM h k tx sz im cm nw ((nd + 1), (upd kd nd 2), pa1, (va_up be nd none), (va_up af nd none), (va_up mi nd (nkM 2)), np, lf, nm, (d + 1), la, so, ro)) H → va_D A (wM h k tx sz im cm nw ((nd + 1), (upd kd nd 2), pa1, (va_up be nd none), (va_up af nd none), (va_up mi nd (nkM 2)), np, lf, nm, (d + 1), la, so, ro)) → va_S A s.heap H locs → ∀ ls : Array Slot, lv_has ls 5 [(4, .int (pI o)), (3, .int (bI b9)), (2, .int (bI a9)), (1, .int (nI nd)), (0, .ref (h 0))] →
        W p l e (rmN 1) s m ([.ref (h 0)] : List Value).toArray below meth c H locs 0 0 (MQ below (CtQ D vwCl A (wM h k tx sz im cm nw (t_close (nd, kd, pa, be, af, mi, np, lf, nm, d + 1, la, so, ro) d)) (some (.int (nI nd)))) ([.ref (h 0)] : List Value).toArray s 0 0 A) (F0 m 42 ls []) := by
      intro g
      induction g with
      | zero =>
        intro o pa1 a9 b9 ho hk H locs hP hD hS ls hl
        rcases o with _ | w0
        · have hl : lv_has ls 5 [(4, .int (-1)), (3, .int (bI b9)), (2, .int (bI a9)), (1, .int (nI nd)), (0, .ref (h 0))] := hl
          refine lv_iload hx hb dX3_close_42 (lv_at hl 0 rfl) ?_
          refine lv_if_lt (tgt := 107) hx hb dX3_close_44 (by decide) (fun c_44 => ?_) (fun c_44 => ?_)
          · refine lv_aload_n hx hb dX3_close_107 rfl (lv_at hl 4 rfl) ?_
            refine va_get (D := D) (ci := 3) (v := .ref (h 6)) (C := RX3) (T := TX3) (N := 18) hx hb hts (fun w h => lw_in w (inX3 w h)) hown hK hP 0 rfl rfl 7 (by decide) (hts _ (lw_in _ t_295)) (fun _ h9 => h9) rfl dX3_close_108 ?_
            refine lv_iload_n hx hb dX3_close_111 rfl (lv_at hl 3 rfl) ?_
            refine lv_aload_n hx hb dX3_close_112 rfl (lv_at hl 4 rfl) ?_
            refine va_get (D := D) (ci := 3) (v := .ref (h 2)) (C := RX3) (T := TX3) (N := 18) hx hb hts (fun w h => lw_in w (inX3 w h)) hown hK hP 0 rfl rfl 3 (by decide) (hts _ (lw_in _ t_291)) (fun _ h9 => h9) rfl dX3_close_113 ?_
            refine lv_iload_n hx hb dX3_close_116 rfl (lv_at hl 3 rfl) ?_
            refine wx_iald hx hb hK hP 2 1 rfl rfl (i := nd) hnd (by decide) dX3_close_117 ?_
            refine lv_iconst (v := 1) hx hb dX3_close_118 (by decide) ?_
            refine lv_icmp_ne (tgt := 126) hx hb dX3_close_119 (by decide) (fun c_119 => ?_) (fun c_119 => ?_)
            · have c_119 : ¬ ((upd kd nd 2) nd) = 1 := c_119
              refine lv_iload_n hx hb dX3_close_126 rfl (lv_at hl 2 rfl) ?_
              refine wx_zastB (x := a9) (g := (va_up mi nd (nkM 2))) hx hb hK hP hD hS 6 5 rfl rfl (i := nd) hnd (by decide) dX3_close_127 (fun H locs hP hD hS => ?_)
              have hP : va_P D vwCl (wM h k tx sz im cm nw ((nd + 1), (upd kd nd 2), pa1, (va_up be nd none), (va_up af nd none), (va_up (va_up mi nd (nkM 2)) nd a9), np, lf, nm, (d + 1), la, so, ro)) H := hP
              have hD : va_D A (wM h k tx sz im cm nw ((nd + 1), (upd kd nd 2), pa1, (va_up be nd none), (va_up af nd none), (va_up (va_up mi nd (nkM 2)) nd a9), np, lf, nm, (d + 1), la, so, ro)) := hD
              refine lv_aload_n hx hb dX3_close_128 rfl (lv_at hl 4 rfl) ?_
              refine lv_aload_n hx hb dX3_close_129 rfl (lv_at hl 4 rfl) ?_
              refine va_get (D := D) (ci := 3) (v := .int (nI (d + 1))) (C := RX3) (T := TX3) (N := 18) hx hb hts (fun w h => lw_in w (inX3 w h)) hown hK hP 0 rfl rfl 12 (by decide) (hts _ (lw_in _ t_300)) (fun _ h9 => h9) rfl dX3_close_130 ?_
              refine lv_iconst (v := 1) hx hb dX3_close_133 (by decide) ?_
              refine lv_isub hx hb dX3_close_134 ?_
              refine lv_eqi (show (nI (d + 1) - 1) = nI d from nI_pred _) ?_
              refine va_put (D := D) (ci := 3) (v := .int (nI d)) (ty := .int) (C := RX3) (T := TX3) (N := 18) hx hb hts (fun w h => lw_in w (inX3 w h)) tyX3 tyX3_ok nmX3 hown hK hP hD hS 0 rfl rfl 12 (by decide) (hts _ (lw_in _ t_300)) (fun _ h9 => h9) rfl (by decide +kernel) rfl rfl (Nat.le_of_ble_eq_true rfl) dX3_close_135 (fun H locs hP hD hS => ?_)
              have hP : va_P D vwCl (wM h k tx sz im cm nw ((nd + 1), (upd kd nd 2), pa1, (va_up be nd none), (va_up af nd none), (va_up (va_up mi nd (nkM 2)) nd a9), np, lf, nm, d, la, so, ro)) H := hP
              have hD : va_D A (wM h k tx sz im cm nw ((nd + 1), (upd kd nd 2), pa1, (va_up be nd none), (va_up af nd none), (va_up (va_up mi nd (nkM 2)) nd a9), np, lf, nm, d, la, so, ro)) := hD
              refine lv_iload_n hx hb dX3_close_138 rfl (lv_at hl 3 rfl) ?_
              have e_k : clK (so d) = 2 := by rw [clK, if_neg c_13]
              have e_c : clL (va_up be nd none) (va_up mi nd (nkM 2)) nd 701 (la d) (va_up pa nd none) true false = (pa1, a9, b9) := by rw [← hk]; rfl
              have e_t : t_close (nd, kd, pa, be, af, mi, np, lf, nm, d + 1, la, so, ro) d = ((nd + 1), (upd kd nd 2), pa1, (va_up be nd none), (va_up af nd none), (va_up (va_up mi nd (nkM 2)) nd a9), np, lf, nm, d, la, so, ro) := by
                simp only [t_close, e_k]
                rw [e_c]
                simp only [if_neg c_119]
              exact ct_endi hx hb hr hlocks rfl hP hD hS (by rw [e_t]) rfl dX3_close_139
            · have c_119 : ((upd kd nd 2) nd) = 1 := c_119
              refine lv_iload_n hx hb dX3_close_122 rfl (lv_at hl 1 rfl) ?_
              refine lv_goto (tgt := 127) hx hb dX3_close_123 (by decide) ?_
              refine wx_zastB (x := b9) (g := (va_up mi nd (nkM 2))) hx hb hK hP hD hS 6 5 rfl rfl (i := nd) hnd (by decide) dX3_close_127 (fun H locs hP hD hS => ?_)
              have hP : va_P D vwCl (wM h k tx sz im cm nw ((nd + 1), (upd kd nd 2), pa1, (va_up be nd none), (va_up af nd none), (va_up (va_up mi nd (nkM 2)) nd b9), np, lf, nm, (d + 1), la, so, ro)) H := hP
              have hD : va_D A (wM h k tx sz im cm nw ((nd + 1), (upd kd nd 2), pa1, (va_up be nd none), (va_up af nd none), (va_up (va_up mi nd (nkM 2)) nd b9), np, lf, nm, (d + 1), la, so, ro)) := hD
              refine lv_aload_n hx hb dX3_close_128 rfl (lv_at hl 4 rfl) ?_
              refine lv_aload_n hx hb dX3_close_129 rfl (lv_at hl 4 rfl) ?_
              refine va_get (D := D) (ci := 3) (v := .int (nI (d + 1))) (C := RX3) (T := TX3) (N := 18) hx hb hts (fun w h => lw_in w (inX3 w h)) hown hK hP 0 rfl rfl 12 (by decide) (hts _ (lw_in _ t_300)) (fun _ h9 => h9) rfl dX3_close_130 ?_
              refine lv_iconst (v := 1) hx hb dX3_close_133 (by decide) ?_
              refine lv_isub hx hb dX3_close_134 ?_
              refine lv_eqi (show (nI (d + 1) - 1) = nI d from nI_pred _) ?_
              refine va_put (D := D) (ci := 3) (v := .int (nI d)) (ty := .int) (C := RX3) (T := TX3) (N := 18) hx hb hts (fun w h => lw_in w (inX3 w h)) tyX3 tyX3_ok nmX3 hown hK hP hD hS 0 rfl rfl 12 (by decide) (hts _ (lw_in _ t_300)) (fun _ h9 => h9) rfl (by decide +kernel) rfl rfl (Nat.le_of_ble_eq_true rfl) dX3_close_135 (fun H locs hP hD hS => ?_)
              have hP : va_P D vwCl (wM h k tx sz im cm nw ((nd + 1), (upd kd nd 2), pa1, (va_up be nd none), (va_up af nd none), (va_up (va_up mi nd (nkM 2)) nd b9), np, lf, nm, d, la, so, ro)) H := hP
              have hD : va_D A (wM h k tx sz im cm nw ((nd + 1), (upd kd nd 2), pa1, (va_up be nd none), (va_up af nd none), (va_up (va_up mi nd (nkM 2)) nd b9), np, lf, nm, d, la, so, ro)) := hD
              refine lv_iload_n hx hb dX3_close_138 rfl (lv_at hl 3 rfl) ?_
              have e_k : clK (so d) = 2 := by rw [clK, if_neg c_13]
              have e_c : clL (va_up be nd none) (va_up mi nd (nkM 2)) nd 701 (la d) (va_up pa nd none) true false = (pa1, a9, b9) := by rw [← hk]; rfl
              have e_t : t_close (nd, kd, pa, be, af, mi, np, lf, nm, d + 1, la, so, ro) d = ((nd + 1), (upd kd nd 2), pa1, (va_up be nd none), (va_up af nd none), (va_up (va_up mi nd (nkM 2)) nd b9), np, lf, nm, d, la, so, ro) := by
                simp only [t_close, e_k]
                rw [e_c]
                simp only [if_pos c_119]
              exact ct_endi hx hb hr hlocks rfl hP hD hS (by rw [e_t]) rfl dX3_close_139
          · exact absurd (by decide) c_44
        · have hl : lv_has ls 5 [(4, .int (nI w0)), (3, .int (bI b9)), (2, .int (bI a9)), (1, .int (nI nd)), (0, .ref (h 0))] := hl
          exact absurd (ho w0 rfl).1 (Nat.not_lt_zero _)
      | succ g ih2 =>
        intro o pa1 a9 b9 ho hk H locs hP hD hS ls hl
        rcases o with _ | w0
        · have hl : lv_has ls 5 [(4, .int (-1)), (3, .int (bI b9)), (2, .int (bI a9)), (1, .int (nI nd)), (0, .ref (h 0))] := hl
          refine lv_iload hx hb dX3_close_42 (lv_at hl 0 rfl) ?_
          refine lv_if_lt (tgt := 107) hx hb dX3_close_44 (by decide) (fun c_44 => ?_) (fun c_44 => ?_)
          · refine lv_aload_n hx hb dX3_close_107 rfl (lv_at hl 4 rfl) ?_
            refine va_get (D := D) (ci := 3) (v := .ref (h 6)) (C := RX3) (T := TX3) (N := 18) hx hb hts (fun w h => lw_in w (inX3 w h)) hown hK hP 0 rfl rfl 7 (by decide) (hts _ (lw_in _ t_295)) (fun _ h9 => h9) rfl dX3_close_108 ?_
            refine lv_iload_n hx hb dX3_close_111 rfl (lv_at hl 3 rfl) ?_
            refine lv_aload_n hx hb dX3_close_112 rfl (lv_at hl 4 rfl) ?_
            refine va_get (D := D) (ci := 3) (v := .ref (h 2)) (C := RX3) (T := TX3) (N := 18) hx hb hts (fun w h => lw_in w (inX3 w h)) hown hK hP 0 rfl rfl 3 (by decide) (hts _ (lw_in _ t_291)) (fun _ h9 => h9) rfl dX3_close_113 ?_
            refine lv_iload_n hx hb dX3_close_116 rfl (lv_at hl 3 rfl) ?_
            refine wx_iald hx hb hK hP 2 1 rfl rfl (i := nd) hnd (by decide) dX3_close_117 ?_
            refine lv_iconst (v := 1) hx hb dX3_close_118 (by decide) ?_
            refine lv_icmp_ne (tgt := 126) hx hb dX3_close_119 (by decide) (fun c_119 => ?_) (fun c_119 => ?_)
            · have c_119 : ¬ ((upd kd nd 2) nd) = 1 := c_119
              refine lv_iload_n hx hb dX3_close_126 rfl (lv_at hl 2 rfl) ?_
              refine wx_zastB (x := a9) (g := (va_up mi nd (nkM 2))) hx hb hK hP hD hS 6 5 rfl rfl (i := nd) hnd (by decide) dX3_close_127 (fun H locs hP hD hS => ?_)
              have hP : va_P D vwCl (wM h k tx sz im cm nw ((nd + 1), (upd kd nd 2), pa1, (va_up be nd none), (va_up af nd none), (va_up (va_up mi nd (nkM 2)) nd a9), np, lf, nm, (d + 1), la, so, ro)) H := hP
              have hD : va_D A (wM h k tx sz im cm nw ((nd + 1), (upd kd nd 2), pa1, (va_up be nd none), (va_up af nd none), (va_up (va_up mi nd (nkM 2)) nd a9), np, lf, nm, (d + 1), la, so, ro)) := hD
              refine lv_aload_n hx hb dX3_close_128 rfl (lv_at hl 4 rfl) ?_
              refine lv_aload_n hx hb dX3_close_129 rfl (lv_at hl 4 rfl) ?_
              refine va_get (D := D) (ci := 3) (v := .int (nI (d + 1))) (C := RX3) (T := TX3) (N := 18) hx hb hts (fun w h => lw_in w (inX3 w h)) hown hK hP 0 rfl rfl 12 (by decide) (hts _ (lw_in _ t_300)) (fun _ h9 => h9) rfl dX3_close_130 ?_
              refine lv_iconst (v := 1) hx hb dX3_close_133 (by decide) ?_
              refine lv_isub hx hb dX3_close_134 ?_
              refine lv_eqi (show (nI (d + 1) - 1) = nI d from nI_pred _) ?_
              refine va_put (D := D) (ci := 3) (v := .int (nI d)) (ty := .int) (C := RX3) (T := TX3) (N := 18) hx hb hts (fun w h => lw_in w (inX3 w h)) tyX3 tyX3_ok nmX3 hown hK hP hD hS 0 rfl rfl 12 (by decide) (hts _ (lw_in _ t_300)) (fun _ h9 => h9) rfl (by decide +kernel) rfl rfl (Nat.le_of_ble_eq_true rfl) dX3_close_135 (fun H locs hP hD hS => ?_)
              have hP : va_P D vwCl (wM h k tx sz im cm nw ((nd + 1), (upd kd nd 2), pa1, (va_up be nd none), (va_up af nd none), (va_up (va_up mi nd (nkM 2)) nd a9), np, lf, nm, d, la, so, ro)) H := hP
              have hD : va_D A (wM h k tx sz im cm nw ((nd + 1), (upd kd nd 2), pa1, (va_up be nd none), (va_up af nd none), (va_up (va_up mi nd (nkM 2)) nd a9), np, lf, nm, d, la, so, ro)) := hD
              refine lv_iload_n hx hb dX3_close_138 rfl (lv_at hl 3 rfl) ?_
              have e_k : clK (so d) = 2 := by rw [clK, if_neg c_13]
              have e_c : clL (va_up be nd none) (va_up mi nd (nkM 2)) nd 701 (la d) (va_up pa nd none) true false = (pa1, a9, b9) := by rw [← hk]; rfl
              have e_t : t_close (nd, kd, pa, be, af, mi, np, lf, nm, d + 1, la, so, ro) d = ((nd + 1), (upd kd nd 2), pa1, (va_up be nd none), (va_up af nd none), (va_up (va_up mi nd (nkM 2)) nd a9), np, lf, nm, d, la, so, ro) := by
                simp only [t_close, e_k]
                rw [e_c]
                simp only [if_neg c_119]
              exact ct_endi hx hb hr hlocks rfl hP hD hS (by rw [e_t]) rfl dX3_close_139
            · have c_119 : ((upd kd nd 2) nd) = 1 := c_119
              refine lv_iload_n hx hb dX3_close_122 rfl (lv_at hl 1 rfl) ?_
              refine lv_goto (tgt := 127) hx hb dX3_close_123 (by decide) ?_
              refine wx_zastB (x := b9) (g := (va_up mi nd (nkM 2))) hx hb hK hP hD hS 6 5 rfl rfl (i := nd) hnd (by decide) dX3_close_127 (fun H locs hP hD hS => ?_)
              have hP : va_P D vwCl (wM h k tx sz im cm nw ((nd + 1), (upd kd nd 2), pa1, (va_up be nd none), (va_up af nd none), (va_up (va_up mi nd (nkM 2)) nd b9), np, lf, nm, (d + 1), la, so, ro)) H := hP
              have hD : va_D A (wM h k tx sz im cm nw ((nd + 1), (upd kd nd 2), pa1, (va_up be nd none), (va_up af nd none), (va_up (va_up mi nd (nkM 2)) nd b9), np, lf, nm, (d + 1), la, so, ro)) := hD
              refine lv_aload_n hx hb dX3_close_128 rfl (lv_at hl 4 rfl) ?_
              refine lv_aload_n hx hb dX3_close_129 rfl (lv_at hl 4 rfl) ?_
              refine va_get (D := D) (ci := 3) (v := .int (nI (d + 1))) (C := RX3) (T := TX3) (N := 18) hx hb hts (fun w h => lw_in w (inX3 w h)) hown hK hP 0 rfl rfl 12 (by decide) (hts _ (lw_in _ t_300)) (fun _ h9 => h9) rfl dX3_close_130 ?_
              refine lv_iconst (v := 1) hx hb dX3_close_133 (by decide) ?_
              refine lv_isub hx hb dX3_close_134 ?_
              refine lv_eqi (show (nI (d + 1) - 1) = nI d from nI_pred _) ?_
              refine va_put (D := D) (ci := 3) (v := .int (nI d)) (ty := .int) (C := RX3) (T := TX3) (N := 18) hx hb hts (fun w h => lw_in w (inX3 w h)) tyX3 tyX3_ok nmX3 hown hK hP hD hS 0 rfl rfl 12 (by decide) (hts _ (lw_in _ t_300)) (fun _ h9 => h9) rfl (by decide +kernel) rfl rfl (Nat.le_of_ble_eq_true rfl) dX3_close_135 (fun H locs hP hD hS => ?_)
              have hP : va_P D vwCl (wM h k tx sz im cm nw ((nd + 1), (upd kd nd 2), pa1, (va_up be nd none), (va_up af nd none), (va_up (va_up mi nd (nkM 2)) nd b9), np, lf, nm, d, la, so, ro)) H := hP
              have hD : va_D A (wM h k tx sz im cm nw ((nd + 1), (upd kd nd 2), pa1, (va_up be nd none), (va_up af nd none), (va_up (va_up mi nd (nkM 2)) nd b9), np, lf, nm, d, la, so, ro)) := hD
              refine lv_iload_n hx hb dX3_close_138 rfl (lv_at hl 3 rfl) ?_
              have e_k : clK (so d) = 2 := by rw [clK, if_neg c_13]
              have e_c : clL (va_up be nd none) (va_up mi nd (nkM 2)) nd 701 (la d) (va_up pa nd none) true false = (pa1, a9, b9) := by rw [← hk]; rfl
              have e_t : t_close (nd, kd, pa, be, af, mi, np, lf, nm, d + 1, la, so, ro) d = ((nd + 1), (upd kd nd 2), pa1, (va_up be nd none), (va_up af nd none), (va_up (va_up mi nd (nkM 2)) nd b9), np, lf, nm, d, la, so, ro) := by
                simp only [t_close, e_k]
                rw [e_c]
                simp only [if_pos c_119]
              exact ct_endi hx hb hr hlocks rfl hP hD hS (by rw [e_t]) rfl dX3_close_139
          · exact absurd (by decide) c_44
        · have hl : lv_has ls 5 [(4, .int (nI w0)), (3, .int (bI b9)), (2, .int (bI a9)), (1, .int (nI nd)), (0, .ref (h 0))] := hl
          have hz := ho w0 rfl
          refine lv_iload hx hb dX3_close_42 (lv_at hl 0 rfl) ?_
          refine lv_if_lt (tgt := 107) hx hb dX3_close_44 (by decide) (fun c_44 => ?_) (fun c_44 => ?_)
          · have c_44 : w0 < 0 := (nI_ltI (a := w0) (b := 0) (by omega) (by omega)).mp c_44
            exact absurd c_44 (Nat.not_lt_zero _)
          · have c_44 : 0 ≤ w0 := Nat.le_of_not_lt (fun z => c_44 ((nI_ltI (a := w0) (b := 0) (by omega) (by omega)).mpr z))
            refine lv_aload_n hx hb dX3_close_47 rfl (lv_at hl 4 rfl) ?_
            refine va_get (D := D) (ci := 3) (v := .ref (h 3)) (C := RX3) (T := TX3) (N := 18) hx hb hts (fun w h => lw_in w (inX3 w h)) hown hK hP 0 rfl rfl 4 (by decide) (hts _ (lw_in _ t_292)) (fun _ h9 => h9) rfl dX3_close_48 ?_
            refine lv_iload hx hb dX3_close_51 (lv_at hl 0 rfl) ?_
            refine lv_iload_n hx hb dX3_close_53 rfl (lv_at hl 3 rfl) ?_
            refine wx_past (x := some nd) (g := pa1) hx hb hK hP hD hS 3 2 rfl rfl (i := w0) (by omega) (by decide) dX3_close_54 (fun H locs hP hD hS => ?_)
            have hP : va_P D vwCl (wM h k tx sz im cm nw ((nd + 1), (upd kd nd 2), (va_up pa1 w0 (some nd)), (va_up be nd none), (va_up af nd none), (va_up mi nd (nkM 2)), np, lf, nm, (d + 1), la, so, ro)) H := hP
            have hD : va_D A (wM h k tx sz im cm nw ((nd + 1), (upd kd nd 2), (va_up pa1 w0 (some nd)), (va_up be nd none), (va_up af nd none), (va_up mi nd (nkM 2)), np, lf, nm, (d + 1), la, so, ro)) := hD
            refine lv_iload_n hx hb dX3_close_55 rfl (lv_at hl 2 rfl) ?_
            refine lv_if_eq (tgt := 73) hx hb dX3_close_56 (by decide) (fun c_56 => ?_) (fun c_56 => ?_)
            · have c_56 : a9 = false := (bI_eq0 _).mp c_56
              refine lv_iconst (v := 0) hx hb dX3_close_73 (by decide) ?_
              refine lv_istore_n (lv' := [(2, .int 0), (4, .int (nI w0)), (3, .int (bI b9)), (1, .int (nI nd)), (0, .ref (h 0))]) hx hb dX3_close_74 rfl hl (by decide) rfl (fun ls hl => ?_)
              refine lv_iload_n hx hb dX3_close_75 rfl (lv_at hl 2 rfl) ?_
              refine lv_if_ne (tgt := 89) hx hb dX3_close_76 (by decide) (fun c_76 => ?_) (fun c_76 => ?_)
              · have c_76 : b9 = true := (bI_ne0 _).mp c_76
                refine lv_iconst (v := 1) hx hb dX3_close_89 (by decide) ?_
                refine lv_goto (tgt := 94) hx hb dX3_close_90 (by decide) ?_
                refine lv_istore_n (lv' := [(3, .int 1), (2, .int 0), (4, .int (nI w0)), (1, .int (nI nd)), (0, .ref (h 0))]) hx hb dX3_close_94 rfl hl (by decide) rfl (fun ls hl => ?_)
                refine lv_aload_n hx hb dX3_close_95 rfl (lv_at hl 4 rfl) ?_
                refine va_get (D := D) (ci := 3) (v := .ref (h 4)) (C := RX3) (T := TX3) (N := 18) hx hb hts (fun w h => lw_in w (inX3 w h)) hown hK hP 0 rfl rfl 5 (by decide) (hts _ (lw_in _ t_293)) (fun _ h9 => h9) rfl dX3_close_96 ?_
                refine lv_iload hx hb dX3_close_99 (lv_at hl 2 rfl) ?_
                refine wx_pald hx hb hK hP 4 3 rfl rfl (i := w0) (by omega) (by decide) dX3_close_101 ?_
                refine lv_istore (lv' := [(4, .int (pI ((va_up be nd none) w0))), (3, .int 1), (2, .int 0), (1, .int (nI nd)), (0, .ref (h 0))]) hx hb dX3_close_102 hl (by decide) rfl (fun ls hl => ?_)
                refine lv_goto (tgt := 42) hx hb dX3_close_104 (by decide) ?_
                exact ih2 ((va_up be nd none) w0) (va_up pa1 w0 (some nd)) false true (fun y hy => by rw [va_up_ne _ _ (by omega)] at hy; have := hbe w0 y hz.2 hy; omega) (by rw [← hk, clL]; simp [c_56, c_76]) _ _ hP hD hS _ (lv_sub hl [0, 1, 2, 3, 4] rfl)
              · have c_76 : b9 = false := (bI_eq0 _).mp c_76
                refine lv_aload_n hx hb dX3_close_79 rfl (lv_at hl 4 rfl) ?_
                refine va_get (D := D) (ci := 3) (v := .ref (h 6)) (C := RX3) (T := TX3) (N := 18) hx hb hts (fun w h => lw_in w (inX3 w h)) hown hK hP 0 rfl rfl 7 (by decide) (hts _ (lw_in _ t_295)) (fun _ h9 => h9) rfl dX3_close_80 ?_
                refine lv_iload hx hb dX3_close_83 (lv_at hl 1 rfl) ?_
                refine wx_zald hx hb hK hP 6 5 rfl rfl (i := w0) (by omega) (by decide) dX3_close_85 ?_
                refine lv_if_eq (tgt := 93) hx hb dX3_close_86 (by decide) (fun c_86 => ?_) (fun c_86 => ?_)
                · have c_86 : ((va_up mi nd (nkM 2)) w0) = false := (bI_eq0 _).mp c_86
                  refine lv_iconst (v := 0) hx hb dX3_close_93 (by decide) ?_
                  refine lv_istore_n (lv' := [(3, .int 0), (2, .int 0), (4, .int (nI w0)), (1, .int (nI nd)), (0, .ref (h 0))]) hx hb dX3_close_94 rfl hl (by decide) rfl (fun ls hl => ?_)
                  refine lv_aload_n hx hb dX3_close_95 rfl (lv_at hl 4 rfl) ?_
                  refine va_get (D := D) (ci := 3) (v := .ref (h 4)) (C := RX3) (T := TX3) (N := 18) hx hb hts (fun w h => lw_in w (inX3 w h)) hown hK hP 0 rfl rfl 5 (by decide) (hts _ (lw_in _ t_293)) (fun _ h9 => h9) rfl dX3_close_96 ?_
                  refine lv_iload hx hb dX3_close_99 (lv_at hl 2 rfl) ?_
                  refine wx_pald hx hb hK hP 4 3 rfl rfl (i := w0) (by omega) (by decide) dX3_close_101 ?_
                  refine lv_istore (lv' := [(4, .int (pI ((va_up be nd none) w0))), (3, .int 0), (2, .int 0), (1, .int (nI nd)), (0, .ref (h 0))]) hx hb dX3_close_102 hl (by decide) rfl (fun ls hl => ?_)
                  refine lv_goto (tgt := 42) hx hb dX3_close_104 (by decide) ?_
                  exact ih2 ((va_up be nd none) w0) (va_up pa1 w0 (some nd)) false false (fun y hy => by rw [va_up_ne _ _ (by omega)] at hy; have := hbe w0 y hz.2 hy; omega) (by rw [← hk, clL]; simp [c_56, c_76, c_86]) _ _ hP hD hS _ (lv_sub hl [0, 1, 2, 3, 4] rfl)
                · have c_86 : ((va_up mi nd (nkM 2)) w0) = true := (bI_ne0 _).mp c_86
                  refine lv_iconst (v := 1) hx hb dX3_close_89 (by decide) ?_
                  refine lv_goto (tgt := 94) hx hb dX3_close_90 (by decide) ?_
                  refine lv_istore_n (lv' := [(3, .int 1), (2, .int 0), (4, .int (nI w0)), (1, .int (nI nd)), (0, .ref (h 0))]) hx hb dX3_close_94 rfl hl (by decide) rfl (fun ls hl => ?_)
                  refine lv_aload_n hx hb dX3_close_95 rfl (lv_at hl 4 rfl) ?_
                  refine va_get (D := D) (ci := 3) (v := .ref (h 4)) (C := RX3) (T := TX3) (N := 18) hx hb hts (fun w h => lw_in w (inX3 w h)) hown hK hP 0 rfl rfl 5 (by decide) (hts _ (lw_in _ t_293)) (fun _ h9 => h9) rfl dX3_close_96 ?_
                  refine lv_iload hx hb dX3_close_99 (lv_at hl 2 rfl) ?_
                  refine wx_pald hx hb hK hP 4 3 rfl rfl (i := w0) (by omega) (by decide) dX3_close_101 ?_
                  refine lv_istore (lv' := [(4, .int (pI ((va_up be nd none) w0))), (3, .int 1), (2, .int 0), (1, .int (nI nd)), (0, .ref (h 0))]) hx hb dX3_close_102 hl (by decide) rfl (fun ls hl => ?_)
                  refine lv_goto (tgt := 42) hx hb dX3_close_104 (by decide) ?_
                  exact ih2 ((va_up be nd none) w0) (va_up pa1 w0 (some nd)) false true (fun y hy => by rw [va_up_ne _ _ (by omega)] at hy; have := hbe w0 y hz.2 hy; omega) (by rw [← hk, clL]; simp [c_56, c_76, c_86]) _ _ hP hD hS _ (lv_sub hl [0, 1, 2, 3, 4] rfl)
            · have c_56 : a9 = true := (bI_ne0 _).mp c_56
              refine lv_aload_n hx hb dX3_close_59 rfl (lv_at hl 4 rfl) ?_
              refine va_get (D := D) (ci := 3) (v := .ref (h 6)) (C := RX3) (T := TX3) (N := 18) hx hb hts (fun w h => lw_in w (inX3 w h)) hown hK hP 0 rfl rfl 7 (by decide) (hts _ (lw_in _ t_295)) (fun _ h9 => h9) rfl dX3_close_60 ?_
              refine lv_iload hx hb dX3_close_63 (lv_at hl 0 rfl) ?_
              refine wx_zald hx hb hK hP 6 5 rfl rfl (i := w0) (by omega) (by decide) dX3_close_65 ?_
              refine lv_if_eq (tgt := 73) hx hb dX3_close_66 (by decide) (fun c_66 => ?_) (fun c_66 => ?_)
              · have c_66 : ((va_up mi nd (nkM 2)) w0) = false := (bI_eq0 _).mp c_66
                refine lv_iconst (v := 0) hx hb dX3_close_73 (by decide) ?_
                refine lv_istore_n (lv' := [(2, .int 0), (4, .int (nI w0)), (3, .int (bI b9)), (1, .int (nI nd)), (0, .ref (h 0))]) hx hb dX3_close_74 rfl hl (by decide) rfl (fun ls hl => ?_)
                refine lv_iload_n hx hb dX3_close_75 rfl (lv_at hl 2 rfl) ?_
                refine lv_if_ne (tgt := 89) hx hb dX3_close_76 (by decide) (fun c_76 => ?_) (fun c_76 => ?_)
                · have c_76 : b9 = true := (bI_ne0 _).mp c_76
                  refine lv_iconst (v := 1) hx hb dX3_close_89 (by decide) ?_
                  refine lv_goto (tgt := 94) hx hb dX3_close_90 (by decide) ?_
                  refine lv_istore_n (lv' := [(3, .int 1), (2, .int 0), (4, .int (nI w0)), (1, .int (nI nd)), (0, .ref (h 0))]) hx hb dX3_close_94 rfl hl (by decide) rfl (fun ls hl => ?_)
                  refine lv_aload_n hx hb dX3_close_95 rfl (lv_at hl 4 rfl) ?_
                  refine va_get (D := D) (ci := 3) (v := .ref (h 4)) (C := RX3) (T := TX3) (N := 18) hx hb hts (fun w h => lw_in w (inX3 w h)) hown hK hP 0 rfl rfl 5 (by decide) (hts _ (lw_in _ t_293)) (fun _ h9 => h9) rfl dX3_close_96 ?_
                  refine lv_iload hx hb dX3_close_99 (lv_at hl 2 rfl) ?_
                  refine wx_pald hx hb hK hP 4 3 rfl rfl (i := w0) (by omega) (by decide) dX3_close_101 ?_
                  refine lv_istore (lv' := [(4, .int (pI ((va_up be nd none) w0))), (3, .int 1), (2, .int 0), (1, .int (nI nd)), (0, .ref (h 0))]) hx hb dX3_close_102 hl (by decide) rfl (fun ls hl => ?_)
                  refine lv_goto (tgt := 42) hx hb dX3_close_104 (by decide) ?_
                  exact ih2 ((va_up be nd none) w0) (va_up pa1 w0 (some nd)) false true (fun y hy => by rw [va_up_ne _ _ (by omega)] at hy; have := hbe w0 y hz.2 hy; omega) (by rw [← hk, clL]; simp [c_56, c_66, c_76]) _ _ hP hD hS _ (lv_sub hl [0, 1, 2, 3, 4] rfl)
                · have c_76 : b9 = false := (bI_eq0 _).mp c_76
                  refine lv_aload_n hx hb dX3_close_79 rfl (lv_at hl 4 rfl) ?_
                  refine va_get (D := D) (ci := 3) (v := .ref (h 6)) (C := RX3) (T := TX3) (N := 18) hx hb hts (fun w h => lw_in w (inX3 w h)) hown hK hP 0 rfl rfl 7 (by decide) (hts _ (lw_in _ t_295)) (fun _ h9 => h9) rfl dX3_close_80 ?_
                  refine lv_iload hx hb dX3_close_83 (lv_at hl 1 rfl) ?_
                  refine wx_zald hx hb hK hP 6 5 rfl rfl (i := w0) (by omega) (by decide) dX3_close_85 ?_
                  refine lv_if_eq (tgt := 93) hx hb dX3_close_86 (by decide) (fun c_86 => ?_) (fun c_86 => ?_)
                  · have c_86 : ((va_up mi nd (nkM 2)) w0) = false := (bI_eq0 _).mp c_86
                    refine lv_iconst (v := 0) hx hb dX3_close_93 (by decide) ?_
                    refine lv_istore_n (lv' := [(3, .int 0), (2, .int 0), (4, .int (nI w0)), (1, .int (nI nd)), (0, .ref (h 0))]) hx hb dX3_close_94 rfl hl (by decide) rfl (fun ls hl => ?_)
                    refine lv_aload_n hx hb dX3_close_95 rfl (lv_at hl 4 rfl) ?_
                    refine va_get (D := D) (ci := 3) (v := .ref (h 4)) (C := RX3) (T := TX3) (N := 18) hx hb hts (fun w h => lw_in w (inX3 w h)) hown hK hP 0 rfl rfl 5 (by decide) (hts _ (lw_in _ t_293)) (fun _ h9 => h9) rfl dX3_close_96 ?_
                    refine lv_iload hx hb dX3_close_99 (lv_at hl 2 rfl) ?_
                    refine wx_pald hx hb hK hP 4 3 rfl rfl (i := w0) (by omega) (by decide) dX3_close_101 ?_
                    refine lv_istore (lv' := [(4, .int (pI ((va_up be nd none) w0))), (3, .int 0), (2, .int 0), (1, .int (nI nd)), (0, .ref (h 0))]) hx hb dX3_close_102 hl (by decide) rfl (fun ls hl => ?_)
                    refine lv_goto (tgt := 42) hx hb dX3_close_104 (by decide) ?_
                    exact ih2 ((va_up be nd none) w0) (va_up pa1 w0 (some nd)) false false (fun y hy => by rw [va_up_ne _ _ (by omega)] at hy; have := hbe w0 y hz.2 hy; omega) (by rw [← hk, clL]; simp [c_56, c_66, c_76, c_86]) _ _ hP hD hS _ (lv_sub hl [0, 1, 2, 3, 4] rfl)
                  · have c_86 : ((va_up mi nd (nkM 2)) w0) = true := (bI_ne0 _).mp c_86
                    exact absurd (c_66.symm.trans c_86) (by decide)
              · have c_66 : ((va_up mi nd (nkM 2)) w0) = true := (bI_ne0 _).mp c_66
                refine lv_iconst (v := 1) hx hb dX3_close_69 (by decide) ?_
                refine lv_goto (tgt := 74) hx hb dX3_close_70 (by decide) ?_
                refine lv_istore_n (lv' := [(2, .int 1), (4, .int (nI w0)), (3, .int (bI b9)), (1, .int (nI nd)), (0, .ref (h 0))]) hx hb dX3_close_74 rfl hl (by decide) rfl (fun ls hl => ?_)
                refine lv_iload_n hx hb dX3_close_75 rfl (lv_at hl 2 rfl) ?_
                refine lv_if_ne (tgt := 89) hx hb dX3_close_76 (by decide) (fun c_76 => ?_) (fun c_76 => ?_)
                · have c_76 : b9 = true := (bI_ne0 _).mp c_76
                  refine lv_iconst (v := 1) hx hb dX3_close_89 (by decide) ?_
                  refine lv_goto (tgt := 94) hx hb dX3_close_90 (by decide) ?_
                  refine lv_istore_n (lv' := [(3, .int 1), (2, .int 1), (4, .int (nI w0)), (1, .int (nI nd)), (0, .ref (h 0))]) hx hb dX3_close_94 rfl hl (by decide) rfl (fun ls hl => ?_)
                  refine lv_aload_n hx hb dX3_close_95 rfl (lv_at hl 4 rfl) ?_
                  refine va_get (D := D) (ci := 3) (v := .ref (h 4)) (C := RX3) (T := TX3) (N := 18) hx hb hts (fun w h => lw_in w (inX3 w h)) hown hK hP 0 rfl rfl 5 (by decide) (hts _ (lw_in _ t_293)) (fun _ h9 => h9) rfl dX3_close_96 ?_
                  refine lv_iload hx hb dX3_close_99 (lv_at hl 2 rfl) ?_
                  refine wx_pald hx hb hK hP 4 3 rfl rfl (i := w0) (by omega) (by decide) dX3_close_101 ?_
                  refine lv_istore (lv' := [(4, .int (pI ((va_up be nd none) w0))), (3, .int 1), (2, .int 1), (1, .int (nI nd)), (0, .ref (h 0))]) hx hb dX3_close_102 hl (by decide) rfl (fun ls hl => ?_)
                  refine lv_goto (tgt := 42) hx hb dX3_close_104 (by decide) ?_
                  exact ih2 ((va_up be nd none) w0) (va_up pa1 w0 (some nd)) true true (fun y hy => by rw [va_up_ne _ _ (by omega)] at hy; have := hbe w0 y hz.2 hy; omega) (by rw [← hk, clL]; simp [c_56, c_66, c_76]) _ _ hP hD hS _ (lv_sub hl [0, 1, 2, 3, 4] rfl)
                · have c_76 : b9 = false := (bI_eq0 _).mp c_76
                  refine lv_aload_n hx hb dX3_close_79 rfl (lv_at hl 4 rfl) ?_
                  refine va_get (D := D) (ci := 3) (v := .ref (h 6)) (C := RX3) (T := TX3) (N := 18) hx hb hts (fun w h => lw_in w (inX3 w h)) hown hK hP 0 rfl rfl 7 (by decide) (hts _ (lw_in _ t_295)) (fun _ h9 => h9) rfl dX3_close_80 ?_
                  refine lv_iload hx hb dX3_close_83 (lv_at hl 1 rfl) ?_
                  refine wx_zald hx hb hK hP 6 5 rfl rfl (i := w0) (by omega) (by decide) dX3_close_85 ?_
                  refine lv_if_eq (tgt := 93) hx hb dX3_close_86 (by decide) (fun c_86 => ?_) (fun c_86 => ?_)
                  · have c_86 : ((va_up mi nd (nkM 2)) w0) = false := (bI_eq0 _).mp c_86
                    exact absurd (c_66.symm.trans c_86) (by decide)
                  · have c_86 : ((va_up mi nd (nkM 2)) w0) = true := (bI_ne0 _).mp c_86
                    refine lv_iconst (v := 1) hx hb dX3_close_89 (by decide) ?_
                    refine lv_goto (tgt := 94) hx hb dX3_close_90 (by decide) ?_
                    refine lv_istore_n (lv' := [(3, .int 1), (2, .int 1), (4, .int (nI w0)), (1, .int (nI nd)), (0, .ref (h 0))]) hx hb dX3_close_94 rfl hl (by decide) rfl (fun ls hl => ?_)
                    refine lv_aload_n hx hb dX3_close_95 rfl (lv_at hl 4 rfl) ?_
                    refine va_get (D := D) (ci := 3) (v := .ref (h 4)) (C := RX3) (T := TX3) (N := 18) hx hb hts (fun w h => lw_in w (inX3 w h)) hown hK hP 0 rfl rfl 5 (by decide) (hts _ (lw_in _ t_293)) (fun _ h9 => h9) rfl dX3_close_96 ?_
                    refine lv_iload hx hb dX3_close_99 (lv_at hl 2 rfl) ?_
                    refine wx_pald hx hb hK hP 4 3 rfl rfl (i := w0) (by omega) (by decide) dX3_close_101 ?_
                    refine lv_istore (lv' := [(4, .int (pI ((va_up be nd none) w0))), (3, .int 1), (2, .int 1), (1, .int (nI nd)), (0, .ref (h 0))]) hx hb dX3_close_102 hl (by decide) rfl (fun ls hl => ?_)
                    refine lv_goto (tgt := 42) hx hb dX3_close_104 (by decide) ?_
                    exact ih2 ((va_up be nd none) w0) (va_up pa1 w0 (some nd)) true true (fun y hy => by rw [va_up_ne _ _ (by omega)] at hy; have := hbe w0 y hz.2 hy; omega) (by rw [← hk, clL]; simp [c_56, c_66, c_76, c_86]) _ _ hP hD hS _ (lv_sub hl [0, 1, 2, 3, 4] rfl)
    exact loop2 701 (la d) (va_up pa nd none) true false (fun y hy => by have := hla y hy; omega) rfl _ _ hP hD hS _ (lv_sub hl [0, 1, 2, 3, 4] rfl)
  · have c_13 : (so d) = 1 := c_13
    refine lv_iconst (v := 1) hx hb dX3_close_16 (by decide) ?_
    refine lv_goto (tgt := 21) hx hb dX3_close_17 (by decide) ?_
    refine ct_callV (As := [.int 1]) (rest := []) ⟨hx, hb, hml, hown, hts⟩ (k_E_node l D h k tx sz im cm nw nd kd pa be af mi np lf nm (d + 1) la so ro 1  (by omega)) (cwV 1 hts (gV lw_in t_364 t_366 t_13 t_26 t_367) rfl rfl rfl (by decide +kernel) ⟨Nat.le_of_ble_eq_true rfl, Nat.le_of_ble_eq_true rfl⟩) 0 rfl rfl hK hP hD hS hA rfl hl.1 rfl (Nat.le_of_ble_eq_true rfl) dX3_close_21 ⟨Nat.zero_le _, Nat.zero_le _⟩ (fun H locs hP hD hS => ?_)
    refine W.eq (g2 := F0 m 24 ls [.int (nI nd)]) rfl ?_
    have hP : va_P D vwCl (wM h k tx sz im cm nw ((nd + 1), (upd kd nd 1), (va_up pa nd none), (va_up be nd none), (va_up af nd none), (va_up mi nd (nkM 1)), np, lf, nm, (d + 1), la, so, ro)) H := hP
    have hD : va_D A (wM h k tx sz im cm nw ((nd + 1), (upd kd nd 1), (va_up pa nd none), (va_up be nd none), (va_up af nd none), (va_up mi nd (nkM 1)), np, lf, nm, (d + 1), la, so, ro)) := hD
    refine lv_istore_n (lv' := [(1, .int (nI nd)), (0, .ref (h 0))]) hx hb dX3_close_24 rfl hl (by decide) rfl (fun ls hl => ?_)
    refine lv_iconst (v := 1) hx hb dX3_close_25 (by decide) ?_
    refine lv_istore_n (lv' := [(2, .int 1), (1, .int (nI nd)), (0, .ref (h 0))]) hx hb dX3_close_26 rfl hl (by decide) rfl (fun ls hl => ?_)
    refine lv_iconst (v := 0) hx hb dX3_close_27 (by decide) ?_
    refine lv_istore_n (lv' := [(3, .int 0), (2, .int 1), (1, .int (nI nd)), (0, .ref (h 0))]) hx hb dX3_close_28 rfl hl (by decide) rfl (fun ls hl => ?_)
    refine lv_aload_n hx hb dX3_close_29 rfl (lv_at hl 3 rfl) ?_
    refine va_get (D := D) (ci := 3) (v := .ref (h 9)) (C := RX3) (T := TX3) (N := 18) hx hb hts (fun w h => lw_in w (inX3 w h)) hown hK hP 0 rfl rfl 13 (by decide) (hts _ (lw_in _ t_301)) (fun _ h9 => h9) rfl dX3_close_30 ?_
    refine lv_aload_n hx hb dX3_close_33 rfl (lv_at hl 3 rfl) ?_
    refine va_get (D := D) (ci := 3) (v := .int (nI (d + 1))) (C := RX3) (T := TX3) (N := 18) hx hb hts (fun w h => lw_in w (inX3 w h)) hown hK hP 0 rfl rfl 12 (by decide) (hts _ (lw_in _ t_300)) (fun _ h9 => h9) rfl dX3_close_34 ?_
    refine lv_iconst (v := 1) hx hb dX3_close_37 (by decide) ?_
    refine lv_isub hx hb dX3_close_38 ?_
    refine lv_eqi (show (nI (d + 1) - 1) = nI d from nI_pred _) ?_
    refine wx_pald hx hb hK hP 9 8 rfl rfl (i := d) hd (by decide) dX3_close_39 ?_
    refine lv_istore (lv' := [(4, .int (pI (la d))), (3, .int 0), (2, .int 1), (1, .int (nI nd)), (0, .ref (h 0))]) hx hb dX3_close_40 hl (by decide) rfl (fun ls hl => ?_)
    have loop2 : ∀ (g : Nat) (o : Option Nat) (pa1 : Nat → Option Nat) (a9 : Bool) (b9 : Bool), (∀ w0, o = some w0 → w0 < g ∧ w0 < nd) → (clL (va_up be nd none) (va_up mi nd (nkM 1)) nd g o pa1 a9 b9 = clL (va_up be nd none) (va_up mi nd (nkM 1)) nd 701 (la d) (va_up pa nd none) true false) → ∀ (H : Heap) (locs : List Loc), va_P D vwCl (wM h k tx sz im cm nw ((nd + 1), (upd kd nd 1), pa1, (va_up be nd none), (va_up af nd none), (va_up mi nd (nkM 1)), np, lf, nm, (d + 1), la, so, ro)) H → va_D A (wM h k tx sz im cm nw ((nd + 1), (upd kd nd 1), pa1, (va_up be nd none), (va_up af nd none), (va_up mi nd (nkM 1)), np, lf, nm, (d + 1), la, so, ro)) → va_S A s.heap H locs → ∀ ls : Array Slot, lv_has ls 5 [(4, .int (pI o)), (3, .int (bI b9)), (2, .int (bI a9)), (1, .int (nI nd)), (0, .ref (h 0))] →
        W p l e (rmN 1) s m ([.ref (h 0)] : List Value).toArray below meth c H locs 0 0 (MQ below (CtQ D vwCl A (wM h k tx sz im cm nw (t_close (nd, kd, pa, be, af, mi, np, lf, nm, d + 1, la, so, ro) d)) (some (.int (nI nd)))) ([.ref (h 0)] : List Value).toArray s 0 0 A) (F0 m 42 ls []) := by
      intro g
      induction g with
      | zero =>
        intro o pa1 a9 b9 ho hk H locs hP hD hS ls hl
        rcases o with _ | w0
        · have hl : lv_has ls 5 [(4, .int (-1)), (3, .int (bI b9)), (2, .int (bI a9)), (1, .int (nI nd)), (0, .ref (h 0))] := hl
          refine lv_iload hx hb dX3_close_42 (lv_at hl 0 rfl) ?_
          refine lv_if_lt (tgt := 107) hx hb dX3_close_44 (by decide) (fun c_44 => ?_) (fun c_44 => ?_)
          · refine lv_aload_n hx hb dX3_close_107 rfl (lv_at hl 4 rfl) ?_
            refine va_get (D := D) (ci := 3) (v := .ref (h 6)) (C := RX3) (T := TX3) (N := 18) hx hb hts (fun w h => lw_in w (inX3 w h)) hown hK hP 0 rfl rfl 7 (by decide) (hts _ (lw_in _ t_295)) (fun _ h9 => h9) rfl dX3_close_108 ?_
            refine lv_iload_n hx hb dX3_close_111 rfl (lv_at hl 3 rfl) ?_
            refine lv_aload_n hx hb dX3_close_112 rfl (lv_at hl 4 rfl) ?_
            refine va_get (D := D) (ci := 3) (v := .ref (h 2)) (C := RX3) (T := TX3) (N := 18) hx hb hts (fun w h => lw_in w (inX3 w h)) hown hK hP 0 rfl rfl 3 (by decide) (hts _ (lw_in _ t_291)) (fun _ h9 => h9) rfl dX3_close_113 ?_
            refine lv_iload_n hx hb dX3_close_116 rfl (lv_at hl 3 rfl) ?_
            refine wx_iald hx hb hK hP 2 1 rfl rfl (i := nd) hnd (by decide) dX3_close_117 ?_
            refine lv_iconst (v := 1) hx hb dX3_close_118 (by decide) ?_
            refine lv_icmp_ne (tgt := 126) hx hb dX3_close_119 (by decide) (fun c_119 => ?_) (fun c_119 => ?_)
            · have c_119 : ¬ ((upd kd nd 1) nd) = 1 := c_119
              refine lv_iload_n hx hb dX3_close_126 rfl (lv_at hl 2 rfl) ?_
              refine wx_zastB (x := a9) (g := (va_up mi nd (nkM 1))) hx hb hK hP hD hS 6 5 rfl rfl (i := nd) hnd (by decide) dX3_close_127 (fun H locs hP hD hS => ?_)
              have hP : va_P D vwCl (wM h k tx sz im cm nw ((nd + 1), (upd kd nd 1), pa1, (va_up be nd none), (va_up af nd none), (va_up (va_up mi nd (nkM 1)) nd a9), np, lf, nm, (d + 1), la, so, ro)) H := hP
              have hD : va_D A (wM h k tx sz im cm nw ((nd + 1), (upd kd nd 1), pa1, (va_up be nd none), (va_up af nd none), (va_up (va_up mi nd (nkM 1)) nd a9), np, lf, nm, (d + 1), la, so, ro)) := hD
              refine lv_aload_n hx hb dX3_close_128 rfl (lv_at hl 4 rfl) ?_
              refine lv_aload_n hx hb dX3_close_129 rfl (lv_at hl 4 rfl) ?_
              refine va_get (D := D) (ci := 3) (v := .int (nI (d + 1))) (C := RX3) (T := TX3) (N := 18) hx hb hts (fun w h => lw_in w (inX3 w h)) hown hK hP 0 rfl rfl 12 (by decide) (hts _ (lw_in _ t_300)) (fun _ h9 => h9) rfl dX3_close_130 ?_
              refine lv_iconst (v := 1) hx hb dX3_close_133 (by decide) ?_
              refine lv_isub hx hb dX3_close_134 ?_
              refine lv_eqi (show (nI (d + 1) - 1) = nI d from nI_pred _) ?_
              refine va_put (D := D) (ci := 3) (v := .int (nI d)) (ty := .int) (C := RX3) (T := TX3) (N := 18) hx hb hts (fun w h => lw_in w (inX3 w h)) tyX3 tyX3_ok nmX3 hown hK hP hD hS 0 rfl rfl 12 (by decide) (hts _ (lw_in _ t_300)) (fun _ h9 => h9) rfl (by decide +kernel) rfl rfl (Nat.le_of_ble_eq_true rfl) dX3_close_135 (fun H locs hP hD hS => ?_)
              have hP : va_P D vwCl (wM h k tx sz im cm nw ((nd + 1), (upd kd nd 1), pa1, (va_up be nd none), (va_up af nd none), (va_up (va_up mi nd (nkM 1)) nd a9), np, lf, nm, d, la, so, ro)) H := hP
              have hD : va_D A (wM h k tx sz im cm nw ((nd + 1), (upd kd nd 1), pa1, (va_up be nd none), (va_up af nd none), (va_up (va_up mi nd (nkM 1)) nd a9), np, lf, nm, d, la, so, ro)) := hD
              refine lv_iload_n hx hb dX3_close_138 rfl (lv_at hl 3 rfl) ?_
              have e_k : clK (so d) = 1 := by rw [clK, if_pos c_13]
              have e_c : clL (va_up be nd none) (va_up mi nd (nkM 1)) nd 701 (la d) (va_up pa nd none) true false = (pa1, a9, b9) := by rw [← hk]; rfl
              have e_t : t_close (nd, kd, pa, be, af, mi, np, lf, nm, d + 1, la, so, ro) d = ((nd + 1), (upd kd nd 1), pa1, (va_up be nd none), (va_up af nd none), (va_up (va_up mi nd (nkM 1)) nd a9), np, lf, nm, d, la, so, ro) := by
                simp only [t_close, e_k]
                rw [e_c]
                simp only [if_neg c_119]
              exact ct_endi hx hb hr hlocks rfl hP hD hS (by rw [e_t]) rfl dX3_close_139
            · have c_119 : ((upd kd nd 1) nd) = 1 := c_119
              refine lv_iload_n hx hb dX3_close_122 rfl (lv_at hl 1 rfl) ?_
              refine lv_goto (tgt := 127) hx hb dX3_close_123 (by decide) ?_
              refine wx_zastB (x := b9) (g := (va_up mi nd (nkM 1))) hx hb hK hP hD hS 6 5 rfl rfl (i := nd) hnd (by decide) dX3_close_127 (fun H locs hP hD hS => ?_)
              have hP : va_P D vwCl (wM h k tx sz im cm nw ((nd + 1), (upd kd nd 1), pa1, (va_up be nd none), (va_up af nd none), (va_up (va_up mi nd (nkM 1)) nd b9), np, lf, nm, (d + 1), la, so, ro)) H := hP
              have hD : va_D A (wM h k tx sz im cm nw ((nd + 1), (upd kd nd 1), pa1, (va_up be nd none), (va_up af nd none), (va_up (va_up mi nd (nkM 1)) nd b9), np, lf, nm, (d + 1), la, so, ro)) := hD
              refine lv_aload_n hx hb dX3_close_128 rfl (lv_at hl 4 rfl) ?_
              refine lv_aload_n hx hb dX3_close_129 rfl (lv_at hl 4 rfl) ?_
              refine va_get (D := D) (ci := 3) (v := .int (nI (d + 1))) (C := RX3) (T := TX3) (N := 18) hx hb hts (fun w h => lw_in w (inX3 w h)) hown hK hP 0 rfl rfl 12 (by decide) (hts _ (lw_in _ t_300)) (fun _ h9 => h9) rfl dX3_close_130 ?_
              refine lv_iconst (v := 1) hx hb dX3_close_133 (by decide) ?_
              refine lv_isub hx hb dX3_close_134 ?_
              refine lv_eqi (show (nI (d + 1) - 1) = nI d from nI_pred _) ?_
              refine va_put (D := D) (ci := 3) (v := .int (nI d)) (ty := .int) (C := RX3) (T := TX3) (N := 18) hx hb hts (fun w h => lw_in w (inX3 w h)) tyX3 tyX3_ok nmX3 hown hK hP hD hS 0 rfl rfl 12 (by decide) (hts _ (lw_in _ t_300)) (fun _ h9 => h9) rfl (by decide +kernel) rfl rfl (Nat.le_of_ble_eq_true rfl) dX3_close_135 (fun H locs hP hD hS => ?_)
              have hP : va_P D vwCl (wM h k tx sz im cm nw ((nd + 1), (upd kd nd 1), pa1, (va_up be nd none), (va_up af nd none), (va_up (va_up mi nd (nkM 1)) nd b9), np, lf, nm, d, la, so, ro)) H := hP
              have hD : va_D A (wM h k tx sz im cm nw ((nd + 1), (upd kd nd 1), pa1, (va_up be nd none), (va_up af nd none), (va_up (va_up mi nd (nkM 1)) nd b9), np, lf, nm, d, la, so, ro)) := hD
              refine lv_iload_n hx hb dX3_close_138 rfl (lv_at hl 3 rfl) ?_
              have e_k : clK (so d) = 1 := by rw [clK, if_pos c_13]
              have e_c : clL (va_up be nd none) (va_up mi nd (nkM 1)) nd 701 (la d) (va_up pa nd none) true false = (pa1, a9, b9) := by rw [← hk]; rfl
              have e_t : t_close (nd, kd, pa, be, af, mi, np, lf, nm, d + 1, la, so, ro) d = ((nd + 1), (upd kd nd 1), pa1, (va_up be nd none), (va_up af nd none), (va_up (va_up mi nd (nkM 1)) nd b9), np, lf, nm, d, la, so, ro) := by
                simp only [t_close, e_k]
                rw [e_c]
                simp only [if_pos c_119]
              exact ct_endi hx hb hr hlocks rfl hP hD hS (by rw [e_t]) rfl dX3_close_139
          · exact absurd (by decide) c_44
        · have hl : lv_has ls 5 [(4, .int (nI w0)), (3, .int (bI b9)), (2, .int (bI a9)), (1, .int (nI nd)), (0, .ref (h 0))] := hl
          exact absurd (ho w0 rfl).1 (Nat.not_lt_zero _)
      | succ g ih2 =>
        intro o pa1 a9 b9 ho hk H locs hP hD hS ls hl
        rcases o with _ | w0
        · have hl : lv_has ls 5 [(4, .int (-1)), (3, .int (bI b9)), (2, .int (bI a9)), (1, .int (nI nd)), (0, .ref (h 0))] := hl
          refine lv_iload hx hb dX3_close_42 (lv_at hl 0 rfl) ?_
          refine lv_if_lt (tgt := 107) hx hb dX3_close_44 (by decide) (fun c_44 => ?_) (fun c_44 => ?_)
          · refine lv_aload_n hx hb dX3_close_107 rfl (lv_at hl 4 rfl) ?_
            refine va_get (D := D) (ci := 3) (v := .ref (h 6)) (C := RX3) (T := TX3) (N := 18) hx hb hts (fun w h => lw_in w (inX3 w h)) hown hK hP 0 rfl rfl 7 (by decide) (hts _ (lw_in _ t_295)) (fun _ h9 => h9) rfl dX3_close_108 ?_
            refine lv_iload_n hx hb dX3_close_111 rfl (lv_at hl 3 rfl) ?_
            refine lv_aload_n hx hb dX3_close_112 rfl (lv_at hl 4 rfl) ?_
            refine va_get (D := D) (ci := 3) (v := .ref (h 2)) (C := RX3) (T := TX3) (N := 18) hx hb hts (fun w h => lw_in w (inX3 w h)) hown hK hP 0 rfl rfl 3 (by decide) (hts _ (lw_in _ t_291)) (fun _ h9 => h9) rfl dX3_close_113 ?_
            refine lv_iload_n hx hb dX3_close_116 rfl (lv_at hl 3 rfl) ?_
            refine wx_iald hx hb hK hP 2 1 rfl rfl (i := nd) hnd (by decide) dX3_close_117 ?_
            refine lv_iconst (v := 1) hx hb dX3_close_118 (by decide) ?_
            refine lv_icmp_ne (tgt := 126) hx hb dX3_close_119 (by decide) (fun c_119 => ?_) (fun c_119 => ?_)
            · have c_119 : ¬ ((upd kd nd 1) nd) = 1 := c_119
              refine lv_iload_n hx hb dX3_close_126 rfl (lv_at hl 2 rfl) ?_
              refine wx_zastB (x := a9) (g := (va_up mi nd (nkM 1))) hx hb hK hP hD hS 6 5 rfl rfl (i := nd) hnd (by decide) dX3_close_127 (fun H locs hP hD hS => ?_)
              have hP : va_P D vwCl (wM h k tx sz im cm nw ((nd + 1), (upd kd nd 1), pa1, (va_up be nd none), (va_up af nd none), (va_up (va_up mi nd (nkM 1)) nd a9), np, lf, nm, (d + 1), la, so, ro)) H := hP
              have hD : va_D A (wM h k tx sz im cm nw ((nd + 1), (upd kd nd 1), pa1, (va_up be nd none), (va_up af nd none), (va_up (va_up mi nd (nkM 1)) nd a9), np, lf, nm, (d + 1), la, so, ro)) := hD
              refine lv_aload_n hx hb dX3_close_128 rfl (lv_at hl 4 rfl) ?_
              refine lv_aload_n hx hb dX3_close_129 rfl (lv_at hl 4 rfl) ?_
              refine va_get (D := D) (ci := 3) (v := .int (nI (d + 1))) (C := RX3) (T := TX3) (N := 18) hx hb hts (fun w h => lw_in w (inX3 w h)) hown hK hP 0 rfl rfl 12 (by decide) (hts _ (lw_in _ t_300)) (fun _ h9 => h9) rfl dX3_close_130 ?_
              refine lv_iconst (v := 1) hx hb dX3_close_133 (by decide) ?_
              refine lv_isub hx hb dX3_close_134 ?_
              refine lv_eqi (show (nI (d + 1) - 1) = nI d from nI_pred _) ?_
              refine va_put (D := D) (ci := 3) (v := .int (nI d)) (ty := .int) (C := RX3) (T := TX3) (N := 18) hx hb hts (fun w h => lw_in w (inX3 w h)) tyX3 tyX3_ok nmX3 hown hK hP hD hS 0 rfl rfl 12 (by decide) (hts _ (lw_in _ t_300)) (fun _ h9 => h9) rfl (by decide +kernel) rfl rfl (Nat.le_of_ble_eq_true rfl) dX3_close_135 (fun H locs hP hD hS => ?_)
              have hP : va_P D vwCl (wM h k tx sz im cm nw ((nd + 1), (upd kd nd 1), pa1, (va_up be nd none), (va_up af nd none), (va_up (va_up mi nd (nkM 1)) nd a9), np, lf, nm, d, la, so, ro)) H := hP
              have hD : va_D A (wM h k tx sz im cm nw ((nd + 1), (upd kd nd 1), pa1, (va_up be nd none), (va_up af nd none), (va_up (va_up mi nd (nkM 1)) nd a9), np, lf, nm, d, la, so, ro)) := hD
              refine lv_iload_n hx hb dX3_close_138 rfl (lv_at hl 3 rfl) ?_
              have e_k : clK (so d) = 1 := by rw [clK, if_pos c_13]
              have e_c : clL (va_up be nd none) (va_up mi nd (nkM 1)) nd 701 (la d) (va_up pa nd none) true false = (pa1, a9, b9) := by rw [← hk]; rfl
              have e_t : t_close (nd, kd, pa, be, af, mi, np, lf, nm, d + 1, la, so, ro) d = ((nd + 1), (upd kd nd 1), pa1, (va_up be nd none), (va_up af nd none), (va_up (va_up mi nd (nkM 1)) nd a9), np, lf, nm, d, la, so, ro) := by
                simp only [t_close, e_k]
                rw [e_c]
                simp only [if_neg c_119]
              exact ct_endi hx hb hr hlocks rfl hP hD hS (by rw [e_t]) rfl dX3_close_139
            · have c_119 : ((upd kd nd 1) nd) = 1 := c_119
              refine lv_iload_n hx hb dX3_close_122 rfl (lv_at hl 1 rfl) ?_
              refine lv_goto (tgt := 127) hx hb dX3_close_123 (by decide) ?_
              refine wx_zastB (x := b9) (g := (va_up mi nd (nkM 1))) hx hb hK hP hD hS 6 5 rfl rfl (i := nd) hnd (by decide) dX3_close_127 (fun H locs hP hD hS => ?_)
              have hP : va_P D vwCl (wM h k tx sz im cm nw ((nd + 1), (upd kd nd 1), pa1, (va_up be nd none), (va_up af nd none), (va_up (va_up mi nd (nkM 1)) nd b9), np, lf, nm, (d + 1), la, so, ro)) H := hP
              have hD : va_D A (wM h k tx sz im cm nw ((nd + 1), (upd kd nd 1), pa1, (va_up be nd none), (va_up af nd none), (va_up (va_up mi nd (nkM 1)) nd b9), np, lf, nm, (d + 1), la, so, ro)) := hD
              refine lv_aload_n hx hb dX3_close_128 rfl (lv_at hl 4 rfl) ?_
              refine lv_aload_n hx hb dX3_close_129 rfl (lv_at hl 4 rfl) ?_
              refine va_get (D := D) (ci := 3) (v := .int (nI (d + 1))) (C := RX3) (T := TX3) (N := 18) hx hb hts (fun w h => lw_in w (inX3 w h)) hown hK hP 0 rfl rfl 12 (by decide) (hts _ (lw_in _ t_300)) (fun _ h9 => h9) rfl dX3_close_130 ?_
              refine lv_iconst (v := 1) hx hb dX3_close_133 (by decide) ?_
              refine lv_isub hx hb dX3_close_134 ?_
              refine lv_eqi (show (nI (d + 1) - 1) = nI d from nI_pred _) ?_
              refine va_put (D := D) (ci := 3) (v := .int (nI d)) (ty := .int) (C := RX3) (T := TX3) (N := 18) hx hb hts (fun w h => lw_in w (inX3 w h)) tyX3 tyX3_ok nmX3 hown hK hP hD hS 0 rfl rfl 12 (by decide) (hts _ (lw_in _ t_300)) (fun _ h9 => h9) rfl (by decide +kernel) rfl rfl (Nat.le_of_ble_eq_true rfl) dX3_close_135 (fun H locs hP hD hS => ?_)
              have hP : va_P D vwCl (wM h k tx sz im cm nw ((nd + 1), (upd kd nd 1), pa1, (va_up be nd none), (va_up af nd none), (va_up (va_up mi nd (nkM 1)) nd b9), np, lf, nm, d, la, so, ro)) H := hP
              have hD : va_D A (wM h k tx sz im cm nw ((nd + 1), (upd kd nd 1), pa1, (va_up be nd none), (va_up af nd none), (va_up (va_up mi nd (nkM 1)) nd b9), np, lf, nm, d, la, so, ro)) := hD
              refine lv_iload_n hx hb dX3_close_138 rfl (lv_at hl 3 rfl) ?_
              have e_k : clK (so d) = 1 := by rw [clK, if_pos c_13]
              have e_c : clL (va_up be nd none) (va_up mi nd (nkM 1)) nd 701 (la d) (va_up pa nd none) true false = (pa1, a9, b9) := by rw [← hk]; rfl
              have e_t : t_close (nd, kd, pa, be, af, mi, np, lf, nm, d + 1, la, so, ro) d = ((nd + 1), (upd kd nd 1), pa1, (va_up be nd none), (va_up af nd none), (va_up (va_up mi nd (nkM 1)) nd b9), np, lf, nm, d, la, so, ro) := by
                simp only [t_close, e_k]
                rw [e_c]
                simp only [if_pos c_119]
              exact ct_endi hx hb hr hlocks rfl hP hD hS (by rw [e_t]) rfl dX3_close_139
          · exact absurd (by decide) c_44
        · have hl : lv_has ls 5 [(4, .int (nI w0)), (3, .int (bI b9)), (2, .int (bI a9)), (1, .int (nI nd)), (0, .ref (h 0))] := hl
          have hz := ho w0 rfl
          refine lv_iload hx hb dX3_close_42 (lv_at hl 0 rfl) ?_
          refine lv_if_lt (tgt := 107) hx hb dX3_close_44 (by decide) (fun c_44 => ?_) (fun c_44 => ?_)
          · have c_44 : w0 < 0 := (nI_ltI (a := w0) (b := 0) (by omega) (by omega)).mp c_44
            exact absurd c_44 (Nat.not_lt_zero _)
          · have c_44 : 0 ≤ w0 := Nat.le_of_not_lt (fun z => c_44 ((nI_ltI (a := w0) (b := 0) (by omega) (by omega)).mpr z))
            refine lv_aload_n hx hb dX3_close_47 rfl (lv_at hl 4 rfl) ?_
            refine va_get (D := D) (ci := 3) (v := .ref (h 3)) (C := RX3) (T := TX3) (N := 18) hx hb hts (fun w h => lw_in w (inX3 w h)) hown hK hP 0 rfl rfl 4 (by decide) (hts _ (lw_in _ t_292)) (fun _ h9 => h9) rfl dX3_close_48 ?_
            refine lv_iload hx hb dX3_close_51 (lv_at hl 0 rfl) ?_
            refine lv_iload_n hx hb dX3_close_53 rfl (lv_at hl 3 rfl) ?_
            refine wx_past (x := some nd) (g := pa1) hx hb hK hP hD hS 3 2 rfl rfl (i := w0) (by omega) (by decide) dX3_close_54 (fun H locs hP hD hS => ?_)
            have hP : va_P D vwCl (wM h k tx sz im cm nw ((nd + 1), (upd kd nd 1), (va_up pa1 w0 (some nd)), (va_up be nd none), (va_up af nd none), (va_up mi nd (nkM 1)), np, lf, nm, (d + 1), la, so, ro)) H := hP
            have hD : va_D A (wM h k tx sz im cm nw ((nd + 1), (upd kd nd 1), (va_up pa1 w0 (some nd)), (va_up be nd none), (va_up af nd none), (va_up mi nd (nkM 1)), np, lf, nm, (d + 1), la, so, ro)) := hD
            refine lv_iload_n hx hb dX3_close_55 rfl (lv_at hl 2 rfl) ?_
            refine lv_if_eq (tgt := 73) hx hb dX3_close_56 (by decide) (fun c_56 => ?_) (fun c_56 => ?_)
            · have c_56 : a9 = false := (bI_eq0 _).mp c_56
              refine lv_iconst (v := 0) hx hb dX3_close_73 (by decide) ?_
              refine lv_istore_n (lv' := [(2, .int 0), (4, .int (nI w0)), (3, .int (bI b9)), (1, .int (nI nd)), (0, .ref (h 0))]) hx hb dX3_close_74 rfl hl (by decide) rfl (fun ls hl => ?_)
              refine lv_iload_n hx hb dX3_close_75 rfl (lv_at hl 2 rfl) ?_
              refine lv_if_ne (tgt := 89) hx hb dX3_close_76 (by decide) (fun c_76 => ?_) (fun c_76 => ?_)
              · have c_76 : b9 = true := (bI_ne0 _).mp c_76
                refine lv_iconst (v := 1) hx hb dX3_close_89 (by decide) ?_
                refine lv_goto (tgt := 94) hx hb dX3_close_90 (by decide) ?_
                refine lv_istore_n (lv' := [(3, .int 1), (2, .int 0), (4, .int (nI w0)), (1, .int (nI nd)), (0, .ref (h 0))]) hx hb dX3_close_94 rfl hl (by decide) rfl (fun ls hl => ?_)
                refine lv_aload_n hx hb dX3_close_95 rfl (lv_at hl 4 rfl) ?_
                refine va_get (D := D) (ci := 3) (v := .ref (h 4)) (C := RX3) (T := TX3) (N := 18) hx hb hts (fun w h => lw_in w (inX3 w h)) hown hK hP 0 rfl rfl 5 (by decide) (hts _ (lw_in _ t_293)) (fun _ h9 => h9) rfl dX3_close_96 ?_
                refine lv_iload hx hb dX3_close_99 (lv_at hl 2 rfl) ?_
                refine wx_pald hx hb hK hP 4 3 rfl rfl (i := w0) (by omega) (by decide) dX3_close_101 ?_
                refine lv_istore (lv' := [(4, .int (pI ((va_up be nd none) w0))), (3, .int 1), (2, .int 0), (1, .int (nI nd)), (0, .ref (h 0))]) hx hb dX3_close_102 hl (by decide) rfl (fun ls hl => ?_)
                refine lv_goto (tgt := 42) hx hb dX3_close_104 (by decide) ?_
                exact ih2 ((va_up be nd none) w0) (va_up pa1 w0 (some nd)) false true (fun y hy => by rw [va_up_ne _ _ (by omega)] at hy; have := hbe w0 y hz.2 hy; omega) (by rw [← hk, clL]; simp [c_56, c_76]) _ _ hP hD hS _ (lv_sub hl [0, 1, 2, 3, 4] rfl)
              · have c_76 : b9 = false := (bI_eq0 _).mp c_76
                refine lv_aload_n hx hb dX3_close_79 rfl (lv_at hl 4 rfl) ?_
                refine va_get (D := D) (ci := 3) (v := .ref (h 6)) (C := RX3) (T := TX3) (N := 18) hx hb hts (fun w h => lw_in w (inX3 w h)) hown hK hP 0 rfl rfl 7 (by decide) (hts _ (lw_in _ t_295)) (fun _ h9 => h9) rfl dX3_close_80 ?_
                refine lv_iload hx hb dX3_close_83 (lv_at hl 1 rfl) ?_
                refine wx_zald hx hb hK hP 6 5 rfl rfl (i := w0) (by omega) (by decide) dX3_close_85 ?_
                refine lv_if_eq (tgt := 93) hx hb dX3_close_86 (by decide) (fun c_86 => ?_) (fun c_86 => ?_)
                · have c_86 : ((va_up mi nd (nkM 1)) w0) = false := (bI_eq0 _).mp c_86
                  refine lv_iconst (v := 0) hx hb dX3_close_93 (by decide) ?_
                  refine lv_istore_n (lv' := [(3, .int 0), (2, .int 0), (4, .int (nI w0)), (1, .int (nI nd)), (0, .ref (h 0))]) hx hb dX3_close_94 rfl hl (by decide) rfl (fun ls hl => ?_)
                  refine lv_aload_n hx hb dX3_close_95 rfl (lv_at hl 4 rfl) ?_
                  refine va_get (D := D) (ci := 3) (v := .ref (h 4)) (C := RX3) (T := TX3) (N := 18) hx hb hts (fun w h => lw_in w (inX3 w h)) hown hK hP 0 rfl rfl 5 (by decide) (hts _ (lw_in _ t_293)) (fun _ h9 => h9) rfl dX3_close_96 ?_
                  refine lv_iload hx hb dX3_close_99 (lv_at hl 2 rfl) ?_
                  refine wx_pald hx hb hK hP 4 3 rfl rfl (i := w0) (by omega) (by decide) dX3_close_101 ?_
                  refine lv_istore (lv' := [(4, .int (pI ((va_up be nd none) w0))), (3, .int 0), (2, .int 0), (1, .int (nI nd)), (0, .ref (h 0))]) hx hb dX3_close_102 hl (by decide) rfl (fun ls hl => ?_)
                  refine lv_goto (tgt := 42) hx hb dX3_close_104 (by decide) ?_
                  exact ih2 ((va_up be nd none) w0) (va_up pa1 w0 (some nd)) false false (fun y hy => by rw [va_up_ne _ _ (by omega)] at hy; have := hbe w0 y hz.2 hy; omega) (by rw [← hk, clL]; simp [c_56, c_76, c_86]) _ _ hP hD hS _ (lv_sub hl [0, 1, 2, 3, 4] rfl)
                · have c_86 : ((va_up mi nd (nkM 1)) w0) = true := (bI_ne0 _).mp c_86
                  refine lv_iconst (v := 1) hx hb dX3_close_89 (by decide) ?_
                  refine lv_goto (tgt := 94) hx hb dX3_close_90 (by decide) ?_
                  refine lv_istore_n (lv' := [(3, .int 1), (2, .int 0), (4, .int (nI w0)), (1, .int (nI nd)), (0, .ref (h 0))]) hx hb dX3_close_94 rfl hl (by decide) rfl (fun ls hl => ?_)
                  refine lv_aload_n hx hb dX3_close_95 rfl (lv_at hl 4 rfl) ?_
                  refine va_get (D := D) (ci := 3) (v := .ref (h 4)) (C := RX3) (T := TX3) (N := 18) hx hb hts (fun w h => lw_in w (inX3 w h)) hown hK hP 0 rfl rfl 5 (by decide) (hts _ (lw_in _ t_293)) (fun _ h9 => h9) rfl dX3_close_96 ?_
                  refine lv_iload hx hb dX3_close_99 (lv_at hl 2 rfl) ?_
                  refine wx_pald hx hb hK hP 4 3 rfl rfl (i := w0) (by omega) (by decide) dX3_close_101 ?_
                  refine lv_istore (lv' := [(4, .int (pI ((va_up be nd none) w0))), (3, .int 1), (2, .int 0), (1, .int (nI nd)), (0, .ref (h 0))]) hx hb dX3_close_102 hl (by decide) rfl (fun ls hl => ?_)
                  refine lv_goto (tgt := 42) hx hb dX3_close_104 (by decide) ?_
                  exact ih2 ((va_up be nd none) w0) (va_up pa1 w0 (some nd)) false true (fun y hy => by rw [va_up_ne _ _ (by omega)] at hy; have := hbe w0 y hz.2 hy; omega) (by rw [← hk, clL]; simp [c_56, c_76, c_86]) _ _ hP hD hS _ (lv_sub hl [0, 1, 2, 3, 4] rfl)
            · have c_56 : a9 = true := (bI_ne0 _).mp c_56
              refine lv_aload_n hx hb dX3_close_59 rfl (lv_at hl 4 rfl) ?_
              refine va_get (D := D) (ci := 3) (v := .ref (h 6)) (C := RX3) (T := TX3) (N := 18) hx hb hts (fun w h => lw_in w (inX3 w h)) hown hK hP 0 rfl rfl 7 (by decide) (hts _ (lw_in _ t_295)) (fun _ h9 => h9) rfl dX3_close_60 ?_
              refine lv_iload hx hb dX3_close_63 (lv_at hl 0 rfl) ?_
              refine wx_zald hx hb hK hP 6 5 rfl rfl (i := w0) (by omega) (by decide) dX3_close_65 ?_
              refine lv_if_eq (tgt := 73) hx hb dX3_close_66 (by decide) (fun c_66 => ?_) (fun c_66 => ?_)
              · have c_66 : ((va_up mi nd (nkM 1)) w0) = false := (bI_eq0 _).mp c_66
                refine lv_iconst (v := 0) hx hb dX3_close_73 (by decide) ?_
                refine lv_istore_n (lv' := [(2, .int 0), (4, .int (nI w0)), (3, .int (bI b9)), (1, .int (nI nd)), (0, .ref (h 0))]) hx hb dX3_close_74 rfl hl (by decide) rfl (fun ls hl => ?_)
                refine lv_iload_n hx hb dX3_close_75 rfl (lv_at hl 2 rfl) ?_
                refine lv_if_ne (tgt := 89) hx hb dX3_close_76 (by decide) (fun c_76 => ?_) (fun c_76 => ?_)
                · have c_76 : b9 = true := (bI_ne0 _).mp c_76
                  refine lv_iconst (v := 1) hx hb dX3_close_89 (by decide) ?_
                  refine lv_goto (tgt := 94) hx hb dX3_close_90 (by decide) ?_
                  refine lv_istore_n (lv' := [(3, .int 1), (2, .int 0), (4, .int (nI w0)), (1, .int (nI nd)), (0, .ref (h 0))]) hx hb dX3_close_94 rfl hl (by decide) rfl (fun ls hl => ?_)
                  refine lv_aload_n hx hb dX3_close_95 rfl (lv_at hl 4 rfl) ?_
                  refine va_get (D := D) (ci := 3) (v := .ref (h 4)) (C := RX3) (T := TX3) (N := 18) hx hb hts (fun w h => lw_in w (inX3 w h)) hown hK hP 0 rfl rfl 5 (by decide) (hts _ (lw_in _ t_293)) (fun _ h9 => h9) rfl dX3_close_96 ?_
                  refine lv_iload hx hb dX3_close_99 (lv_at hl 2 rfl) ?_
                  refine wx_pald hx hb hK hP 4 3 rfl rfl (i := w0) (by omega) (by decide) dX3_close_101 ?_
                  refine lv_istore (lv' := [(4, .int (pI ((va_up be nd none) w0))), (3, .int 1), (2, .int 0), (1, .int (nI nd)), (0, .ref (h 0))]) hx hb dX3_close_102 hl (by decide) rfl (fun ls hl => ?_)
                  refine lv_goto (tgt := 42) hx hb dX3_close_104 (by decide) ?_
                  exact ih2 ((va_up be nd none) w0) (va_up pa1 w0 (some nd)) false true (fun y hy => by rw [va_up_ne _ _ (by omega)] at hy; have := hbe w0 y hz.2 hy; omega) (by rw [← hk, clL]; simp [c_56, c_66, c_76]) _ _ hP hD hS _ (lv_sub hl [0, 1, 2, 3, 4] rfl)
                · have c_76 : b9 = false := (bI_eq0 _).mp c_76
                  refine lv_aload_n hx hb dX3_close_79 rfl (lv_at hl 4 rfl) ?_
                  refine va_get (D := D) (ci := 3) (v := .ref (h 6)) (C := RX3) (T := TX3) (N := 18) hx hb hts (fun w h => lw_in w (inX3 w h)) hown hK hP 0 rfl rfl 7 (by decide) (hts _ (lw_in _ t_295)) (fun _ h9 => h9) rfl dX3_close_80 ?_
                  refine lv_iload hx hb dX3_close_83 (lv_at hl 1 rfl) ?_
                  refine wx_zald hx hb hK hP 6 5 rfl rfl (i := w0) (by omega) (by decide) dX3_close_85 ?_
                  refine lv_if_eq (tgt := 93) hx hb dX3_close_86 (by decide) (fun c_86 => ?_) (fun c_86 => ?_)
                  · have c_86 : ((va_up mi nd (nkM 1)) w0) = false := (bI_eq0 _).mp c_86
                    refine lv_iconst (v := 0) hx hb dX3_close_93 (by decide) ?_
                    refine lv_istore_n (lv' := [(3, .int 0), (2, .int 0), (4, .int (nI w0)), (1, .int (nI nd)), (0, .ref (h 0))]) hx hb dX3_close_94 rfl hl (by decide) rfl (fun ls hl => ?_)
                    refine lv_aload_n hx hb dX3_close_95 rfl (lv_at hl 4 rfl) ?_
                    refine va_get (D := D) (ci := 3) (v := .ref (h 4)) (C := RX3) (T := TX3) (N := 18) hx hb hts (fun w h => lw_in w (inX3 w h)) hown hK hP 0 rfl rfl 5 (by decide) (hts _ (lw_in _ t_293)) (fun _ h9 => h9) rfl dX3_close_96 ?_
                    refine lv_iload hx hb dX3_close_99 (lv_at hl 2 rfl) ?_
                    refine wx_pald hx hb hK hP 4 3 rfl rfl (i := w0) (by omega) (by decide) dX3_close_101 ?_
                    refine lv_istore (lv' := [(4, .int (pI ((va_up be nd none) w0))), (3, .int 0), (2, .int 0), (1, .int (nI nd)), (0, .ref (h 0))]) hx hb dX3_close_102 hl (by decide) rfl (fun ls hl => ?_)
                    refine lv_goto (tgt := 42) hx hb dX3_close_104 (by decide) ?_
                    exact ih2 ((va_up be nd none) w0) (va_up pa1 w0 (some nd)) false false (fun y hy => by rw [va_up_ne _ _ (by omega)] at hy; have := hbe w0 y hz.2 hy; omega) (by rw [← hk, clL]; simp [c_56, c_66, c_76, c_86]) _ _ hP hD hS _ (lv_sub hl [0, 1, 2, 3, 4] rfl)
                  · have c_86 : ((va_up mi nd (nkM 1)) w0) = true := (bI_ne0 _).mp c_86
                    exact absurd (c_66.symm.trans c_86) (by decide)
              · have c_66 : ((va_up mi nd (nkM 1)) w0) = true := (bI_ne0 _).mp c_66
                refine lv_iconst (v := 1) hx hb dX3_close_69 (by decide) ?_
                refine lv_goto (tgt := 74) hx hb dX3_close_70 (by decide) ?_
                refine lv_istore_n (lv' := [(2, .int 1), (4, .int (nI w0)), (3, .int (bI b9)), (1, .int (nI nd)), (0, .ref (h 0))]) hx hb dX3_close_74 rfl hl (by decide) rfl (fun ls hl => ?_)
                refine lv_iload_n hx hb dX3_close_75 rfl (lv_at hl 2 rfl) ?_
                refine lv_if_ne (tgt := 89) hx hb dX3_close_76 (by decide) (fun c_76 => ?_) (fun c_76 => ?_)
                · have c_76 : b9 = true := (bI_ne0 _).mp c_76
                  refine lv_iconst (v := 1) hx hb dX3_close_89 (by decide) ?_
                  refine lv_goto (tgt := 94) hx hb dX3_close_90 (by decide) ?_
                  refine lv_istore_n (lv' := [(3, .int 1), (2, .int 1), (4, .int (nI w0)), (1, .int (nI nd)), (0, .ref (h 0))]) hx hb dX3_close_94 rfl hl (by decide) rfl (fun ls hl => ?_)
                  refine lv_aload_n hx hb dX3_close_95 rfl (lv_at hl 4 rfl) ?_
                  refine va_get (D := D) (ci := 3) (v := .ref (h 4)) (C := RX3) (T := TX3) (N := 18) hx hb hts (fun w h => lw_in w (inX3 w h)) hown hK hP 0 rfl rfl 5 (by decide) (hts _ (lw_in _ t_293)) (fun _ h9 => h9) rfl dX3_close_96 ?_
                  refine lv_iload hx hb dX3_close_99 (lv_at hl 2 rfl) ?_
                  refine wx_pald hx hb hK hP 4 3 rfl rfl (i := w0) (by omega) (by decide) dX3_close_101 ?_
                  refine lv_istore (lv' := [(4, .int (pI ((va_up be nd none) w0))), (3, .int 1), (2, .int 1), (1, .int (nI nd)), (0, .ref (h 0))]) hx hb dX3_close_102 hl (by decide) rfl (fun ls hl => ?_)
                  refine lv_goto (tgt := 42) hx hb dX3_close_104 (by decide) ?_
                  exact ih2 ((va_up be nd none) w0) (va_up pa1 w0 (some nd)) true true (fun y hy => by rw [va_up_ne _ _ (by omega)] at hy; have := hbe w0 y hz.2 hy; omega) (by rw [← hk, clL]; simp [c_56, c_66, c_76]) _ _ hP hD hS _ (lv_sub hl [0, 1, 2, 3, 4] rfl)
                · have c_76 : b9 = false := (bI_eq0 _).mp c_76
                  refine lv_aload_n hx hb dX3_close_79 rfl (lv_at hl 4 rfl) ?_
                  refine va_get (D := D) (ci := 3) (v := .ref (h 6)) (C := RX3) (T := TX3) (N := 18) hx hb hts (fun w h => lw_in w (inX3 w h)) hown hK hP 0 rfl rfl 7 (by decide) (hts _ (lw_in _ t_295)) (fun _ h9 => h9) rfl dX3_close_80 ?_
                  refine lv_iload hx hb dX3_close_83 (lv_at hl 1 rfl) ?_
                  refine wx_zald hx hb hK hP 6 5 rfl rfl (i := w0) (by omega) (by decide) dX3_close_85 ?_
                  refine lv_if_eq (tgt := 93) hx hb dX3_close_86 (by decide) (fun c_86 => ?_) (fun c_86 => ?_)
                  · have c_86 : ((va_up mi nd (nkM 1)) w0) = false := (bI_eq0 _).mp c_86
                    exact absurd (c_66.symm.trans c_86) (by decide)
                  · have c_86 : ((va_up mi nd (nkM 1)) w0) = true := (bI_ne0 _).mp c_86
                    refine lv_iconst (v := 1) hx hb dX3_close_89 (by decide) ?_
                    refine lv_goto (tgt := 94) hx hb dX3_close_90 (by decide) ?_
                    refine lv_istore_n (lv' := [(3, .int 1), (2, .int 1), (4, .int (nI w0)), (1, .int (nI nd)), (0, .ref (h 0))]) hx hb dX3_close_94 rfl hl (by decide) rfl (fun ls hl => ?_)
                    refine lv_aload_n hx hb dX3_close_95 rfl (lv_at hl 4 rfl) ?_
                    refine va_get (D := D) (ci := 3) (v := .ref (h 4)) (C := RX3) (T := TX3) (N := 18) hx hb hts (fun w h => lw_in w (inX3 w h)) hown hK hP 0 rfl rfl 5 (by decide) (hts _ (lw_in _ t_293)) (fun _ h9 => h9) rfl dX3_close_96 ?_
                    refine lv_iload hx hb dX3_close_99 (lv_at hl 2 rfl) ?_
                    refine wx_pald hx hb hK hP 4 3 rfl rfl (i := w0) (by omega) (by decide) dX3_close_101 ?_
                    refine lv_istore (lv' := [(4, .int (pI ((va_up be nd none) w0))), (3, .int 1), (2, .int 1), (1, .int (nI nd)), (0, .ref (h 0))]) hx hb dX3_close_102 hl (by decide) rfl (fun ls hl => ?_)
                    refine lv_goto (tgt := 42) hx hb dX3_close_104 (by decide) ?_
                    exact ih2 ((va_up be nd none) w0) (va_up pa1 w0 (some nd)) true true (fun y hy => by rw [va_up_ne _ _ (by omega)] at hy; have := hbe w0 y hz.2 hy; omega) (by rw [← hk, clL]; simp [c_56, c_66, c_76, c_86]) _ _ hP hD hS _ (lv_sub hl [0, 1, 2, 3, 4] rfl)
    exact loop2 701 (la d) (va_up pa nd none) true false (fun y hy => by have := hla y hy; omega) rfl _ _ hP hD hS _ (lv_sub hl [0, 1, 2, 3, 4] rfl)

set_option maxHeartbeats 4000000 in
set_option maxRecDepth 100000 in
theorem k_E_parse (l : Launch) (D : va_G) (h : Nat → Nat) (k : Nat → ClassId) (tx : Nat → Int32) (sz : Nat) (im : Bool) (cm : Nat) (nw : Int64) (kd : Nat → Int32) (pa : Nat → Option Nat) (be : Nat → Option Nat) (af : Nat → Option Nat) (mi : Nat → Bool) (lf : Nat → Nat) (nm : Nat → Int32) (la : Nat → Option Nat) (so : Nat → Int32) (ro : Nat)   (hsz : sz ≤ 300) :
    Ct l yX3_parse wsX3_parse (rmN 2) D vwCl (tyM k) [.ref (h 0)] (wM h k tx sz im cm nw (0, kd, pa, be, af, mi, 0, lf, nm, 0, la, so, ro)) (wM h k tx sz im cm nw (e_parse tx sz (0, kd, pa, be, af, mi, 0, lf, nm, 0, la, so, ro)).1) (some (.int ((e_parse tx sz (0, kd, pa, be, af, mi, 0, lf, nm, 0, la, so, ro)).2))) := by
  refine Ct.of (cc := cX3_parse) (maxL := 5) (ret := (some .int)) (lv := [(0, .ref (h 0))]) (by decide) rfl (Nat.le_of_ble_eq_true rfl) rfl ?_
  intro p e s m below meth c A ls hx hb hr hml hts hown hlocks hK hP hD hS hA hl
  have loop : ∀ (f : Nat) (i : Nat) (part : Bool) (T1 : TS), (okP T1 i) → (i ≤ sz) → (302 ≤ f + i) → (paL tx sz f i part T1 = e_parse tx sz (0, kd, pa, be, af, mi, 0, lf, nm, 0, la, so, ro)) → ∀ (H : Heap) (locs : List Loc), va_P D vwCl (wM h k tx sz im cm nw T1) H → va_D A (wM h k tx sz im cm nw T1) → va_S A s.heap H locs → ∀ ls : Array Slot, lv_has ls 5 [(2, .int (bI part)), (1, .int (nI i)), (0, .ref (h 0))] →
      W p l e (rmN 2) s m ([.ref (h 0)] : List Value).toArray below meth c H locs 0 0 (MQ below (CtQ D vwCl A (wM h k tx sz im cm nw (e_parse tx sz (0, kd, pa, be, af, mi, 0, lf, nm, 0, la, so, ro)).1) (some (.int ((e_parse tx sz (0, kd, pa, be, af, mi, 0, lf, nm, 0, la, so, ro)).2)))) ([.ref (h 0)] : List Value).toArray s 0 0 A) (F0 m 21 ls []) := by
    intro f
    induction f with
    | zero =>
      intro i part T1 ok hi hf he H locs hP hD hS ls hl
      exact absurd hf (by omega)
    | succ f ih =>
      intro i part T1 ok hi hf he H locs hP hD hS ls hl
      obtain ⟨nd1, kd1, pa1, be1, af1, mi1, np1, lf1, nm1, dp1, la1, so1, ro1⟩ := T1
      have hdp1 : dp1 ≤ 12 := ok.2.2.1
      refine lv_aload_n hx hb dX3_parse_21 rfl (lv_at hl 2 rfl) ?_
      refine va_get (D := D) (ci := 3) (v := .int (nI dp1)) (C := RX3) (T := TX3) (N := 18) hx hb hts (fun w h => lw_in w (inX3 w h)) hown hK hP 0 rfl rfl 12 (by decide) (hts _ (lw_in _ t_300)) (fun _ h9 => h9) rfl dX3_parse_22 ?_
      refine lv_if_le (tgt := 357) hx hb dX3_parse_25 (by decide) (fun c_25 => ?_) (fun c_25 => ?_)
      · have c_25 : dp1 ≤ 0 := (nI_leI (a := dp1) (b := 0) (by omega) (by omega)).mp c_25
        refine lv_iload_n hx hb dX3_parse_357 rfl (lv_at hl 1 rfl) ?_
        refine lv_aload_n hx hb dX3_parse_358 rfl (lv_at hl 2 rfl) ?_
        refine va_get (D := D) (ci := 3) (v := .int (nI sz)) (C := RX3) (T := TX3) (N := 18) hx hb hts (fun w h => lw_in w (inX3 w h)) hown hK hP 0 rfl rfl 1 (by decide) (hts _ (lw_in _ t_289)) (fun _ h9 => h9) rfl dX3_parse_359 ?_
        refine lv_icmp_ge (tgt := 371) hx hb dX3_parse_362 (by decide) (fun c_362 => ?_) (fun c_362 => ?_)
        · have c_362 : sz ≤ i := (nI_leI (a := sz) (b := i) (by omega) (by omega)).mp c_362
          refine lv_aload_n hx hb dX3_parse_371 rfl (lv_at hl 2 rfl) ?_
          refine va_get (D := D) (ci := 3) (v := .int (nI np1)) (C := RX3) (T := TX3) (N := 18) hx hb hts (fun w h => lw_in w (inX3 w h)) hown hK hP 0 rfl rfl 8 (by decide) (hts _ (lw_in _ t_296)) (fun _ h9 => h9) rfl dX3_parse_372 ?_
          have e_w : e_parse tx sz (0, kd, pa, be, af, mi, 0, lf, nm, 0, la, so, ro) = ((nd1, kd1, pa1, be1, af1, mi1, np1, lf1, nm1, dp1, la1, so1, ro1), nI np1) := by rw [← he, paL, if_pos (show dp1 = 0 by omega), if_neg (Nat.not_lt.mpr c_362)]
          exact ct_endi hx hb hr hlocks rfl hP hD hS (by rw [e_w]) (by rw [e_w]) dX3_parse_375
        · have c_362 : i < sz := Nat.lt_of_not_le (fun z => c_362 ((nI_leI (a := sz) (b := i) (by omega) (by omega)).mpr z))
          refine lv_iconst (v := -1) hx hb dX3_parse_365 (by decide) ?_
          refine lv_iload_n hx hb dX3_parse_366 rfl (lv_at hl 1 rfl) ?_
          refine lv_isub hx hb dX3_parse_367 ?_
          refine lv_goto (tgt := 375) hx hb dX3_parse_368 (by decide) ?_
          have e_w : e_parse tx sz (0, kd, pa, be, af, mi, 0, lf, nm, 0, la, so, ro) = ((nd1, kd1, pa1, be1, af1, mi1, np1, lf1, nm1, dp1, la1, so1, ro1), ((-1) - nI i)) := by rw [← he, paL, if_pos (show dp1 = 0 by omega), if_pos c_362]
          exact ct_endi hx hb hr hlocks rfl hP hD hS (by rw [e_w]) (by rw [e_w]) dX3_parse_375
      · have c_25 : 0 < dp1 := Nat.lt_of_not_le (fun z => c_25 ((nI_leI (a := dp1) (b := 0) (by omega) (by omega)).mpr z))
        obtain ⟨d, rfl⟩ : ∃ d, dp1 = d + 1 := ⟨dp1 - 1, by omega⟩
        have hd12 : d + 1 ≤ 12 := ok.2.2.1
        have he1 : t_go (paL tx sz f) (t_turn tx sz (nd1, kd1, pa1, be1, af1, mi1, np1, lf1, nm1, (d + 1), la1, so1, ro1) d (skL tx sz 301 i) part (atF tx sz (skL tx sz 301 i))) = e_parse tx sz (0, kd, pa, be, af, mi, 0, lf, nm, 0, la, so, ro) := by rw [← he, paL, if_neg (show ¬ d + 1 = 0 by omega)]; rfl
        have loop2 : ∀ (g : Nat) (i1 : Nat), (i1 ≤ sz) → (301 ≤ g + i1) → (i ≤ i1) → (skL tx sz g i1 = skL tx sz 301 i) → ∀ (H : Heap) (locs : List Loc), va_P D vwCl (wM h k tx sz im cm nw (nd1, kd1, pa1, be1, af1, mi1, np1, lf1, nm1, (d + 1), la1, so1, ro1)) H → va_D A (wM h k tx sz im cm nw (nd1, kd1, pa1, be1, af1, mi1, np1, lf1, nm1, (d + 1), la1, so1, ro1)) → va_S A s.heap H locs → ∀ ls : Array Slot, lv_has ls 5 [(1, .int (nI i1)), (2, .int (bI part)), (0, .ref (h 0))] →
            W p l e (rmN 2) s m ([.ref (h 0)] : List Value).toArray below meth c H locs 0 0 (MQ below (CtQ D vwCl A (wM h k tx sz im cm nw (e_parse tx sz (0, kd, pa, be, af, mi, 0, lf, nm, 0, la, so, ro)).1) (some (.int ((e_parse tx sz (0, kd, pa, be, af, mi, 0, lf, nm, 0, la, so, ro)).2)))) ([.ref (h 0)] : List Value).toArray s 0 0 A) (F0 m 28 ls []) := by
          intro g
          induction g with
          | zero =>
            intro i1 hi1 hg hii hk H locs hP hD hS ls hl
            exact absurd hg (by omega)
          | succ g ih2 =>
            intro i1 hi1 hg hii hk H locs hP hD hS ls hl
            refine lv_aload_n hx hb dX3_parse_28 rfl (lv_at hl 2 rfl) ?_
            refine lv_iload_n hx hb dX3_parse_29 rfl (lv_at hl 0 rfl) ?_
            refine ct_callV (As := [.int (nI i1)]) (rest := []) ⟨hx, hb, hml, hown, hts⟩ (k_E_at l D h k tx sz im cm nw (nd1, kd1, pa1, be1, af1, mi1, np1, lf1, nm1, (d + 1), la1, so1, ro1) i1  hsz (by omega)) (cwV 1 hts (gV lw_in t_356 t_358 t_11 t_26 t_359) rfl rfl rfl (by decide +kernel) ⟨Nat.le_of_ble_eq_true rfl, Nat.le_of_ble_eq_true rfl⟩) 0 rfl rfl hK hP hD hS hA rfl hl.1 rfl (Nat.le_of_ble_eq_true rfl) dX3_parse_30 ⟨Nat.zero_le _, Nat.zero_le _⟩ (fun H locs hP hD hS => ?_)
            refine W.eq (g2 := F0 m 33 ls [.int (atF tx sz i1)]) rfl ?_
            refine lv_bipush (v := 32) hx hb dX3_parse_33 (by decide) ?_
            refine lv_icmp_ne (tgt := 45) hx hb dX3_parse_35 (by decide) (fun c_35 => ?_) (fun c_35 => ?_)
            · have c_35 : ¬ (atF tx sz i1) = 32 := c_35
              have e_i : skL tx sz 301 i = i1 := by rw [← hk, skL, if_neg c_35]
              have he2 : t_go (paL tx sz f) (t_turn tx sz (nd1, kd1, pa1, be1, af1, mi1, np1, lf1, nm1, (d + 1), la1, so1, ro1) d i1 part (atF tx sz i1)) = e_parse tx sz (0, kd, pa, be, af, mi, 0, lf, nm, 0, la, so, ro) := by rw [← he1, e_i]
              have ok1 := okP_mono ok hii
              have hnp : np1 ≤ 60 := ok.2.1
              have hnd : nd1 ≤ i := ok.1
              refine lv_aload_n hx hb dX3_parse_45 rfl (lv_at hl 2 rfl) ?_
              refine lv_iload_n hx hb dX3_parse_46 rfl (lv_at hl 0 rfl) ?_
              refine ct_callV (As := [.int (nI i1)]) (rest := []) ⟨hx, hb, hml, hown, hts⟩ (k_E_at l D h k tx sz im cm nw (nd1, kd1, pa1, be1, af1, mi1, np1, lf1, nm1, (d + 1), la1, so1, ro1) i1  hsz (by omega)) (cwV 1 hts (gV lw_in t_356 t_358 t_11 t_26 t_359) rfl rfl rfl (by decide +kernel) ⟨Nat.le_of_ble_eq_true rfl, Nat.le_of_ble_eq_true rfl⟩) 0 rfl rfl hK hP hD hS hA rfl hl.1 rfl (Nat.le_of_ble_eq_true rfl) dX3_parse_47 ⟨Nat.zero_le _, Nat.zero_le _⟩ (fun H locs hP hD hS => ?_)
              refine W.eq (g2 := F0 m 50 ls [.int (atF tx sz i1)]) rfl ?_
              refine lv_istore_n (lv' := [(3, .int (atF tx sz i1)), (1, .int (nI i1)), (2, .int (bI part)), (0, .ref (h 0))]) hx hb dX3_parse_50 rfl hl (by decide) rfl (fun ls hl => ?_)
              refine lv_iload_n hx hb dX3_parse_51 rfl (lv_at hl 2 rfl) ?_
              refine lv_if_eq (tgt := 81) hx hb dX3_parse_52 (by decide) (fun c_52 => ?_) (fun c_52 => ?_)
              · have c_52 : part = false := (bI_eq0 _).mp c_52
                refine lv_iload_n hx hb dX3_parse_81 rfl (lv_at hl 2 rfl) ?_
                refine lv_if_eq (tgt := 200) hx hb dX3_parse_82 (by decide) (fun c_82 => ?_) (fun c_82 => ?_)
                · have c_82 : part = false := (bI_eq0 _).mp c_82
                  refine lv_iload_n hx hb dX3_parse_200 rfl (lv_at hl 0 rfl) ?_
                  refine lv_bipush (v := 124) hx hb dX3_parse_201 (by decide) ?_
                  refine lv_icmp_eq (tgt := 212) hx hb dX3_parse_203 (by decide) (fun c_203 => ?_) (fun c_203 => ?_)
                  · have c_203 : (atF tx sz i1) = 124 := c_203
                    refine lv_iload_n hx hb dX3_parse_212 rfl (lv_at hl 0 rfl) ?_
                    refine lv_bipush (v := 124) hx hb dX3_parse_213 (by decide) ?_
                    refine lv_icmp_ne (tgt := 222) hx hb dX3_parse_215 (by decide) (fun c_215 => ?_) (fun c_215 => ?_)
                    · have c_215 : ¬ (atF tx sz i1) = 124 := c_215
                      exact absurd c_203 c_215
                    · have c_215 : (atF tx sz i1) = 124 := c_215
                      refine lv_iconst (v := 1) hx hb dX3_parse_218 (by decide) ?_
                      refine lv_goto (tgt := 223) hx hb dX3_parse_219 (by decide) ?_
                      refine lv_istore (lv' := [(4, .int 1), (3, .int (atF tx sz i1)), (1, .int (nI i1)), (2, .int (bI part)), (0, .ref (h 0))]) hx hb dX3_parse_223 hl (by decide) rfl (fun ls hl => ?_)
                      refine lv_aload_n hx hb dX3_parse_225 rfl (lv_at hl 4 rfl) ?_
                      refine va_get (D := D) (ci := 3) (v := .ref (h 10)) (C := RX3) (T := TX3) (N := 18) hx hb hts (fun w h => lw_in w (inX3 w h)) hown hK hP 0 rfl rfl 14 (by decide) (hts _ (lw_in _ t_302)) (fun _ h9 => h9) rfl dX3_parse_226 ?_
                      refine lv_aload_n hx hb dX3_parse_229 rfl (lv_at hl 4 rfl) ?_
                      refine va_get (D := D) (ci := 3) (v := .int (nI (d + 1))) (C := RX3) (T := TX3) (N := 18) hx hb hts (fun w h => lw_in w (inX3 w h)) hown hK hP 0 rfl rfl 12 (by decide) (hts _ (lw_in _ t_300)) (fun _ h9 => h9) rfl dX3_parse_230 ?_
                      refine lv_iconst (v := 1) hx hb dX3_parse_233 (by decide) ?_
                      refine lv_isub hx hb dX3_parse_234 ?_
                      refine lv_eqi (show (nI (d + 1) - 1) = nI d from nI_pred _) ?_
                      refine wx_iald hx hb hK hP 10 9 rfl rfl (i := d) (by omega) (by decide) dX3_parse_235 ?_
                      refine lv_if_lt (tgt := 259) hx hb dX3_parse_236 (by decide) (fun c_236 => ?_) (fun c_236 => ?_)
                      · have c_236 : (so1 d) < 0 := c_236
                        refine lv_aload_n hx hb dX3_parse_259 rfl (lv_at hl 4 rfl) ?_
                        refine va_get (D := D) (ci := 3) (v := .ref (h 10)) (C := RX3) (T := TX3) (N := 18) hx hb hts (fun w h => lw_in w (inX3 w h)) hown hK hP 0 rfl rfl 14 (by decide) (hts _ (lw_in _ t_302)) (fun _ h9 => h9) rfl dX3_parse_260 ?_
                        refine lv_aload_n hx hb dX3_parse_263 rfl (lv_at hl 4 rfl) ?_
                        refine va_get (D := D) (ci := 3) (v := .int (nI (d + 1))) (C := RX3) (T := TX3) (N := 18) hx hb hts (fun w h => lw_in w (inX3 w h)) hown hK hP 0 rfl rfl 12 (by decide) (hts _ (lw_in _ t_300)) (fun _ h9 => h9) rfl dX3_parse_264 ?_
                        refine lv_iconst (v := 1) hx hb dX3_parse_267 (by decide) ?_
                        refine lv_isub hx hb dX3_parse_268 ?_
                        refine lv_eqi (show (nI (d + 1) - 1) = nI d from nI_pred _) ?_
                        refine lv_iload hx hb dX3_parse_269 (lv_at hl 0 rfl) ?_
                        refine wx_iast hx hb hK hP hD hS 10 9 rfl rfl (i := d) (by omega) (by decide) dX3_parse_271 (fun H locs hP hD hS => ?_)
                        have hP : va_P D vwCl (wM h k tx sz im cm nw (nd1, kd1, pa1, be1, af1, mi1, np1, lf1, nm1, (d + 1), la1, (upd so1 d 1), ro1)) H := hP
                        have hD : va_D A (wM h k tx sz im cm nw (nd1, kd1, pa1, be1, af1, mi1, np1, lf1, nm1, (d + 1), la1, (upd so1 d 1), ro1)) := hD
                        refine lv_iload_n hx hb dX3_parse_272 rfl (lv_at hl 2 rfl) ?_
                        refine lv_iconst (v := 1) hx hb dX3_parse_273 (by decide) ?_
                        refine lv_iadd hx hb dX3_parse_274 ?_
                        refine lv_eqi (show (nI i1 + 1) = nI (i1 + 1) from nI_1 _) ?_
                        refine lv_istore_n (lv' := [(1, .int (nI (i1 + 1))), (4, .int 1), (3, .int (atF tx sz i1)), (2, .int (bI part)), (0, .ref (h 0))]) hx hb dX3_parse_275 rfl hl (by decide) rfl (fun ls hl => ?_)
                        refine lv_iconst (v := 1) hx hb dX3_parse_276 (by decide) ?_
                        refine lv_istore_n (lv' := [(2, .int 1), (1, .int (nI (i1 + 1))), (4, .int 1), (3, .int (atF tx sz i1)), (0, .ref (h 0))]) hx hb dX3_parse_277 rfl hl (by decide) rfl (fun ls hl => ?_)
                        refine lv_goto (tgt := 354) hx hb dX3_parse_278 (by decide) ?_
                        refine lv_goto (tgt := 21) hx hb dX3_parse_354 (by decide) ?_
                        have e_k : soK (atF tx sz i1) = 1 := by rw [soK, if_pos c_203]
                        have hlt := at_lt c_203 (by decide)
                        have e_t : t_turn tx sz (nd1, kd1, pa1, be1, af1, mi1, np1, lf1, nm1, (d + 1), la1, so1, ro1) d i1 part (atF tx sz i1) = .inl (t_sort (nd1, kd1, pa1, be1, af1, mi1, np1, lf1, nm1, (d + 1), la1, so1, ro1) d 1, i1 + 1, true) := by
                          rw [t_turn, if_neg (bF c_52), if_pos (Or.inl c_203)]
                          refine (if_neg (fun z9 => z9.1 c_236)).trans ?_
                          rw [e_k]
                        exact ih (i1 + 1) true (t_sort (nd1, kd1, pa1, be1, af1, mi1, np1, lf1, nm1, (d + 1), la1, so1, ro1) d 1) (okP_mono (okP_sort ok1) (Nat.le_succ _)) hlt (by omega) (by rw [← he2, e_t]; rfl) _ _ hP hD hS _ (lv_sub hl [0, 1, 4] rfl)
                      · have c_236 : ¬ (so1 d) < 0 := c_236
                        refine lv_aload_n hx hb dX3_parse_239 rfl (lv_at hl 4 rfl) ?_
                        refine va_get (D := D) (ci := 3) (v := .ref (h 10)) (C := RX3) (T := TX3) (N := 18) hx hb hts (fun w h => lw_in w (inX3 w h)) hown hK hP 0 rfl rfl 14 (by decide) (hts _ (lw_in _ t_302)) (fun _ h9 => h9) rfl dX3_parse_240 ?_
                        refine lv_aload_n hx hb dX3_parse_243 rfl (lv_at hl 4 rfl) ?_
                        refine va_get (D := D) (ci := 3) (v := .int (nI (d + 1))) (C := RX3) (T := TX3) (N := 18) hx hb hts (fun w h => lw_in w (inX3 w h)) hown hK hP 0 rfl rfl 12 (by decide) (hts _ (lw_in _ t_300)) (fun _ h9 => h9) rfl dX3_parse_244 ?_
                        refine lv_iconst (v := 1) hx hb dX3_parse_247 (by decide) ?_
                        refine lv_isub hx hb dX3_parse_248 ?_
                        refine lv_eqi (show (nI (d + 1) - 1) = nI d from nI_pred _) ?_
                        refine wx_iald hx hb hK hP 10 9 rfl rfl (i := d) (by omega) (by decide) dX3_parse_249 ?_
                        refine lv_iload hx hb dX3_parse_250 (lv_at hl 0 rfl) ?_
                        refine lv_icmp_eq (tgt := 259) hx hb dX3_parse_252 (by decide) (fun c_252 => ?_) (fun c_252 => ?_)
                        · have c_252 : (so1 d) = 1 := c_252
                          refine lv_aload_n hx hb dX3_parse_259 rfl (lv_at hl 4 rfl) ?_
                          refine va_get (D := D) (ci := 3) (v := .ref (h 10)) (C := RX3) (T := TX3) (N := 18) hx hb hts (fun w h => lw_in w (inX3 w h)) hown hK hP 0 rfl rfl 14 (by decide) (hts _ (lw_in _ t_302)) (fun _ h9 => h9) rfl dX3_parse_260 ?_
                          refine lv_aload_n hx hb dX3_parse_263 rfl (lv_at hl 4 rfl) ?_
                          refine va_get (D := D) (ci := 3) (v := .int (nI (d + 1))) (C := RX3) (T := TX3) (N := 18) hx hb hts (fun w h => lw_in w (inX3 w h)) hown hK hP 0 rfl rfl 12 (by decide) (hts _ (lw_in _ t_300)) (fun _ h9 => h9) rfl dX3_parse_264 ?_
                          refine lv_iconst (v := 1) hx hb dX3_parse_267 (by decide) ?_
                          refine lv_isub hx hb dX3_parse_268 ?_
                          refine lv_eqi (show (nI (d + 1) - 1) = nI d from nI_pred _) ?_
                          refine lv_iload hx hb dX3_parse_269 (lv_at hl 0 rfl) ?_
                          refine wx_iast hx hb hK hP hD hS 10 9 rfl rfl (i := d) (by omega) (by decide) dX3_parse_271 (fun H locs hP hD hS => ?_)
                          have hP : va_P D vwCl (wM h k tx sz im cm nw (nd1, kd1, pa1, be1, af1, mi1, np1, lf1, nm1, (d + 1), la1, (upd so1 d 1), ro1)) H := hP
                          have hD : va_D A (wM h k tx sz im cm nw (nd1, kd1, pa1, be1, af1, mi1, np1, lf1, nm1, (d + 1), la1, (upd so1 d 1), ro1)) := hD
                          refine lv_iload_n hx hb dX3_parse_272 rfl (lv_at hl 2 rfl) ?_
                          refine lv_iconst (v := 1) hx hb dX3_parse_273 (by decide) ?_
                          refine lv_iadd hx hb dX3_parse_274 ?_
                          refine lv_eqi (show (nI i1 + 1) = nI (i1 + 1) from nI_1 _) ?_
                          refine lv_istore_n (lv' := [(1, .int (nI (i1 + 1))), (4, .int 1), (3, .int (atF tx sz i1)), (2, .int (bI part)), (0, .ref (h 0))]) hx hb dX3_parse_275 rfl hl (by decide) rfl (fun ls hl => ?_)
                          refine lv_iconst (v := 1) hx hb dX3_parse_276 (by decide) ?_
                          refine lv_istore_n (lv' := [(2, .int 1), (1, .int (nI (i1 + 1))), (4, .int 1), (3, .int (atF tx sz i1)), (0, .ref (h 0))]) hx hb dX3_parse_277 rfl hl (by decide) rfl (fun ls hl => ?_)
                          refine lv_goto (tgt := 354) hx hb dX3_parse_278 (by decide) ?_
                          refine lv_goto (tgt := 21) hx hb dX3_parse_354 (by decide) ?_
                          have e_k : soK (atF tx sz i1) = 1 := by rw [soK, if_pos c_203]
                          have hlt := at_lt c_203 (by decide)
                          have e_t : t_turn tx sz (nd1, kd1, pa1, be1, af1, mi1, np1, lf1, nm1, (d + 1), la1, so1, ro1) d i1 part (atF tx sz i1) = .inl (t_sort (nd1, kd1, pa1, be1, af1, mi1, np1, lf1, nm1, (d + 1), la1, so1, ro1) d 1, i1 + 1, true) := by
                            rw [t_turn, if_neg (bF c_52), if_pos (Or.inl c_203)]
                            refine (if_neg (fun z9 => z9.2 (by rw [e_k]; exact c_252))).trans ?_
                            rw [e_k]
                          exact ih (i1 + 1) true (t_sort (nd1, kd1, pa1, be1, af1, mi1, np1, lf1, nm1, (d + 1), la1, so1, ro1) d 1) (okP_mono (okP_sort ok1) (Nat.le_succ _)) hlt (by omega) (by rw [← he2, e_t]; rfl) _ _ hP hD hS _ (lv_sub hl [0, 1, 4] rfl)
                        · have c_252 : ¬ (so1 d) = 1 := c_252
                          refine lv_iconst (v := -1) hx hb dX3_parse_255 (by decide) ?_
                          refine lv_iload_n hx hb dX3_parse_256 rfl (lv_at hl 2 rfl) ?_
                          refine lv_isub hx hb dX3_parse_257 ?_
                          have e_t : t_turn tx sz (nd1, kd1, pa1, be1, af1, mi1, np1, lf1, nm1, (d + 1), la1, so1, ro1) d i1 part (atF tx sz i1) = .inr ((nd1, kd1, pa1, be1, af1, mi1, np1, lf1, nm1, (d + 1), la1, so1, ro1), ((-1) - nI i1)) := by 
                            have e_k : soK (atF tx sz i1) = 1 := by rw [soK, if_pos c_203]
                            rw [t_turn, if_neg (bF c_52), if_pos (Or.inl c_203)]; exact if_pos ⟨c_236, by rw [e_k]; exact c_252⟩
                          have e_w : e_parse tx sz (0, kd, pa, be, af, mi, 0, lf, nm, 0, la, so, ro) = ((nd1, kd1, pa1, be1, af1, mi1, np1, lf1, nm1, (d + 1), la1, so1, ro1), ((-1) - nI i1)) := by rw [← he2, e_t]; rfl
                          exact ct_endi hx hb hr hlocks rfl hP hD hS (by rw [e_w]) (by rw [e_w]) dX3_parse_258
                  · have c_203 : ¬ (atF tx sz i1) = 124 := c_203
                    refine lv_iload_n hx hb dX3_parse_206 rfl (lv_at hl 0 rfl) ?_
                    refine lv_bipush (v := 44) hx hb dX3_parse_207 (by decide) ?_
                    refine lv_icmp_ne (tgt := 281) hx hb dX3_parse_209 (by decide) (fun c_209 => ?_) (fun c_209 => ?_)
                    · have c_209 : ¬ (atF tx sz i1) = 44 := c_209
                      refine lv_iload_n hx hb dX3_parse_281 rfl (lv_at hl 0 rfl) ?_
                      refine lv_bipush (v := 41) hx hb dX3_parse_282 (by decide) ?_
                      refine lv_icmp_ne (tgt := 350) hx hb dX3_parse_284 (by decide) (fun c_284 => ?_) (fun c_284 => ?_)
                      · have c_284 : ¬ (atF tx sz i1) = 41 := c_284
                        refine lv_iconst (v := -1) hx hb dX3_parse_350 (by decide) ?_
                        refine lv_iload_n hx hb dX3_parse_351 rfl (lv_at hl 1 rfl) ?_
                        refine lv_isub hx hb dX3_parse_352 ?_
                        have e_t : t_turn tx sz (nd1, kd1, pa1, be1, af1, mi1, np1, lf1, nm1, (d + 1), la1, so1, ro1) d i1 part (atF tx sz i1) = .inr ((nd1, kd1, pa1, be1, af1, mi1, np1, lf1, nm1, (d + 1), la1, so1, ro1), ((-1) - nI i1)) := by rw [t_turn, if_neg (bF c_52), if_neg (fun z9 => z9.elim c_203 c_209), if_neg c_284]
                        have e_w : e_parse tx sz (0, kd, pa, be, af, mi, 0, lf, nm, 0, la, so, ro) = ((nd1, kd1, pa1, be1, af1, mi1, np1, lf1, nm1, (d + 1), la1, so1, ro1), ((-1) - nI i1)) := by rw [← he2, e_t]; rfl
                        exact ct_endi hx hb hr hlocks rfl hP hD hS (by rw [e_w]) (by rw [e_w]) dX3_parse_353
                      · have c_284 : (atF tx sz i1) = 41 := c_284
                        rcases d with _ | d1
                        · have hP : va_P D vwCl (wM h k tx sz im cm nw (nd1, kd1, pa1, be1, af1, mi1, np1, lf1, nm1, (0 + 1), la1, so1, ro1)) H := hP
                          have hD : va_D A (wM h k tx sz im cm nw (nd1, kd1, pa1, be1, af1, mi1, np1, lf1, nm1, (0 + 1), la1, so1, ro1)) := hD
                          refine lv_aload_n hx hb dX3_parse_287 rfl (lv_at hl 3 rfl) ?_
                          refine ct_callV (As := []) (rest := []) ⟨hx, hb, hml, hown, hts⟩ (k_E_close l D h k tx sz im cm nw nd1 kd1 pa1 be1 af1 mi1 np1 lf1 nm1 0 la1 so1 ro1   (by omega) (by omega) (fun w0 hw => ok.2.2.2.1 0 w0 (Nat.lt_succ_self _) hw) (fun x y hx hy => ok.2.2.2.2 x y hx hy)) (cwV 0 hts (gV lw_in t_379 t_381 t_16 t_26 t_382) rfl rfl rfl (by decide +kernel) ⟨Nat.le_of_ble_eq_true rfl, Nat.le_of_ble_eq_true rfl⟩) 0 rfl rfl hK hP hD hS hA rfl hl.1 rfl (Nat.le_of_ble_eq_true rfl) dX3_parse_288 ⟨Nat.zero_le _, Nat.zero_le _⟩ (fun H locs hP hD hS => ?_)
                          refine W.eq (g2 := F0 m 291 ls [.int (nI nd1)]) rfl ?_
                          have hP : va_P D vwCl (wM h k tx sz im cm nw ((nd1 + 1), (upd kd1 nd1 (clK (so1 0))), (clL (va_up be1 nd1 none) (va_up mi1 nd1 (nkM (clK (so1 0)))) nd1 701 (la1 0) (va_up pa1 nd1 none) true false).1, (va_up be1 nd1 none), (va_up af1 nd1 none), (va_up (va_up mi1 nd1 (nkM (clK (so1 0)))) nd1 (if (upd kd1 nd1 (clK (so1 0))) nd1 = 1 then (clL (va_up be1 nd1 none) (va_up mi1 nd1 (nkM (clK (so1 0)))) nd1 701 (la1 0) (va_up pa1 nd1 none) true false).2.2 else (clL (va_up be1 nd1 none) (va_up mi1 nd1 (nkM (clK (so1 0)))) nd1 701 (la1 0) (va_up pa1 nd1 none) true false).2.1)), np1, lf1, nm1, 0, la1, so1, ro1)) H := hP
                          have hD : va_D A (wM h k tx sz im cm nw ((nd1 + 1), (upd kd1 nd1 (clK (so1 0))), (clL (va_up be1 nd1 none) (va_up mi1 nd1 (nkM (clK (so1 0)))) nd1 701 (la1 0) (va_up pa1 nd1 none) true false).1, (va_up be1 nd1 none), (va_up af1 nd1 none), (va_up (va_up mi1 nd1 (nkM (clK (so1 0)))) nd1 (if (upd kd1 nd1 (clK (so1 0))) nd1 = 1 then (clL (va_up be1 nd1 none) (va_up mi1 nd1 (nkM (clK (so1 0)))) nd1 701 (la1 0) (va_up pa1 nd1 none) true false).2.2 else (clL (va_up be1 nd1 none) (va_up mi1 nd1 (nkM (clK (so1 0)))) nd1 701 (la1 0) (va_up pa1 nd1 none) true false).2.1)), np1, lf1, nm1, 0, la1, so1, ro1)) := hD
                          generalize hC : clL (va_up be1 nd1 none) (va_up mi1 nd1 (nkM (clK (so1 0)))) nd1 701 (la1 0) (va_up pa1 nd1 none) true false = C3 at hP hD
                          obtain ⟨pa3, a3, b3⟩ := C3
                          have hP : va_P D vwCl (wM h k tx sz im cm nw ((nd1 + 1), (upd kd1 nd1 (clK (so1 0))), pa3, (va_up be1 nd1 none), (va_up af1 nd1 none), (va_up (va_up mi1 nd1 (nkM (clK (so1 0)))) nd1 (if (upd kd1 nd1 (clK (so1 0))) nd1 = 1 then b3 else a3)), np1, lf1, nm1, 0, la1, so1, ro1)) H := hP
                          have hD : va_D A (wM h k tx sz im cm nw ((nd1 + 1), (upd kd1 nd1 (clK (so1 0))), pa3, (va_up be1 nd1 none), (va_up af1 nd1 none), (va_up (va_up mi1 nd1 (nkM (clK (so1 0)))) nd1 (if (upd kd1 nd1 (clK (so1 0))) nd1 = 1 then b3 else a3)), np1, lf1, nm1, 0, la1, so1, ro1)) := hD
                          refine lv_istore (lv' := [(4, .int (nI nd1)), (3, .int (atF tx sz i1)), (1, .int (nI i1)), (2, .int (bI part)), (0, .ref (h 0))]) hx hb dX3_parse_291 hl (by decide) rfl (fun ls hl => ?_)
                          refine lv_iload_n hx hb dX3_parse_293 rfl (lv_at hl 2 rfl) ?_
                          refine lv_iconst (v := 1) hx hb dX3_parse_294 (by decide) ?_
                          refine lv_iadd hx hb dX3_parse_295 ?_
                          refine lv_eqi (show (nI i1 + 1) = nI (i1 + 1) from nI_1 _) ?_
                          refine lv_istore_n (lv' := [(1, .int (nI (i1 + 1))), (4, .int (nI nd1)), (3, .int (atF tx sz i1)), (2, .int (bI part)), (0, .ref (h 0))]) hx hb dX3_parse_296 rfl hl (by decide) rfl (fun ls hl => ?_)
                          refine lv_aload_n hx hb dX3_parse_297 rfl (lv_at hl 4 rfl) ?_
                          refine lv_iload_n hx hb dX3_parse_298 rfl (lv_at hl 0 rfl) ?_
                          refine ct_callV (As := [.int (nI (i1 + 1))]) (rest := []) ⟨hx, hb, hml, hown, hts⟩ (k_E_at l D h k tx sz im cm nw ((nd1 + 1), (upd kd1 nd1 (clK (so1 0))), pa3, (va_up be1 nd1 none), (va_up af1 nd1 none), (va_up (va_up mi1 nd1 (nkM (clK (so1 0)))) nd1 (if (upd kd1 nd1 (clK (so1 0))) nd1 = 1 then b3 else a3)), np1, lf1, nm1, 0, la1, so1, ro1) (i1 + 1)  hsz (by omega)) (cwV 1 hts (gV lw_in t_356 t_358 t_11 t_26 t_359) rfl rfl rfl (by decide +kernel) ⟨Nat.le_of_ble_eq_true rfl, Nat.le_of_ble_eq_true rfl⟩) 0 rfl rfl hK hP hD hS hA rfl hl.1 rfl (Nat.le_of_ble_eq_true rfl) dX3_parse_299 ⟨Nat.zero_le _, Nat.zero_le _⟩ (fun H locs hP hD hS => ?_)
                          refine W.eq (g2 := F0 m 302 ls [.int (atF tx sz (i1 + 1))]) rfl ?_
                          refine ct_callS (As := [.int (atF tx sz (i1 + 1))]) (rest := []) ⟨hx, hb, hml, hown, hts⟩ (k_E_isSign l D h k tx sz im cm nw ((nd1 + 1), (upd kd1 nd1 (clK (so1 0))), pa3, (va_up be1 nd1 none), (va_up af1 nd1 none), (va_up (va_up mi1 nd1 (nkM (clK (so1 0)))) nd1 (if (upd kd1 nd1 (clK (so1 0))) nd1 = 1 then b3 else a3)), np1, lf1, nm1, 0, la1, so1, ro1) (atF tx sz (i1 + 1))) (cwS 1 hts (gS lw_in t_368 t_369 t_26 t_370) rfl rfl rfl (by decide +kernel) ⟨Nat.le_of_ble_eq_true rfl, Nat.le_of_ble_eq_true rfl⟩) hK hP hD hS hA rfl hl.1 rfl (Nat.le_of_ble_eq_true rfl) dX3_parse_302 ⟨Nat.zero_le _, Nat.zero_le _⟩ (fun H locs hP hD hS => ?_)
                          refine W.eq (g2 := F0 m 305 ls [.int (bI (r_isSign (atF tx sz (i1 + 1))))]) rfl ?_
                          refine lv_if_eq (tgt := 325) hx hb dX3_parse_305 (by decide) (fun c_305 => ?_) (fun c_305 => ?_)
                          · have c_305 : (r_isSign (atF tx sz (i1 + 1))) = false := (bI_eq0 _).mp c_305
                            refine lv_aload_n hx hb dX3_parse_325 rfl (lv_at hl 4 rfl) ?_
                            refine va_get (D := D) (ci := 3) (v := .int (nI 0)) (C := RX3) (T := TX3) (N := 18) hx hb hts (fun w h => lw_in w (inX3 w h)) hown hK hP 0 rfl rfl 12 (by decide) (hts _ (lw_in _ t_300)) (fun _ h9 => h9) rfl dX3_parse_326 ?_
                            refine lv_if_le (tgt := 341) hx hb dX3_parse_329 (by decide) (fun c_329 => ?_) (fun c_329 => ?_)
                            · have c_329 : nI 0 ≤ 0 := c_329
                              refine lv_aload_n hx hb dX3_parse_341 rfl (lv_at hl 4 rfl) ?_
                              refine lv_iload hx hb dX3_parse_342 (lv_at hl 1 rfl) ?_
                              refine va_put (D := D) (ci := 3) (v := .int (nI nd1)) (ty := .int) (C := RX3) (T := TX3) (N := 18) hx hb hts (fun w h => lw_in w (inX3 w h)) tyX3 tyX3_ok nmX3 hown hK hP hD hS 0 rfl rfl 15 (by decide) (hts _ (lw_in _ t_303)) (fun _ h9 => h9) rfl (by decide +kernel) rfl rfl (Nat.le_of_ble_eq_true rfl) dX3_parse_344 (fun H locs hP hD hS => ?_)
                              have hP : va_P D vwCl (wM h k tx sz im cm nw ((nd1 + 1), (upd kd1 nd1 (clK (so1 0))), pa3, (va_up be1 nd1 none), (va_up af1 nd1 none), (va_up (va_up mi1 nd1 (nkM (clK (so1 0)))) nd1 (if (upd kd1 nd1 (clK (so1 0))) nd1 = 1 then b3 else a3)), np1, lf1, nm1, 0, la1, so1, nd1)) H := hP
                              have hD : va_D A (wM h k tx sz im cm nw ((nd1 + 1), (upd kd1 nd1 (clK (so1 0))), pa3, (va_up be1 nd1 none), (va_up af1 nd1 none), (va_up (va_up mi1 nd1 (nkM (clK (so1 0)))) nd1 (if (upd kd1 nd1 (clK (so1 0))) nd1 = 1 then b3 else a3)), np1, lf1, nm1, 0, la1, so1, nd1)) := hD
                              refine lv_goto (tgt := 354) hx hb dX3_parse_347 (by decide) ?_
                              refine lv_goto (tgt := 21) hx hb dX3_parse_354 (by decide) ?_
                              have hlt := at_lt c_284 (by decide)
                              have e_t : t_turn tx sz (nd1, kd1, pa1, be1, af1, mi1, np1, lf1, nm1, 0 + 1, la1, so1, ro1) 0 i1 part (atF tx sz i1) = .inl ((t_end tx sz (nd1, kd1, pa1, be1, af1, mi1, np1, lf1, nm1, 0 + 1, la1, so1, ro1) 0 i1).1, (t_end tx sz (nd1, kd1, pa1, be1, af1, mi1, np1, lf1, nm1, 0 + 1, la1, so1, ro1) 0 i1).2, false) := by rw [t_turn, if_neg (bF c_52), if_neg (fun z9 => z9.elim c_203 c_209), if_pos c_284]
                              have e_n : t_end tx sz (nd1, kd1, pa1, be1, af1, mi1, np1, lf1, nm1, 0 + 1, la1, so1, ro1) 0 i1 = (((nd1 + 1), (upd kd1 nd1 (clK (so1 0))), pa3, (va_up be1 nd1 none), (va_up af1 nd1 none), (va_up (va_up mi1 nd1 (nkM (clK (so1 0)))) nd1 (if (upd kd1 nd1 (clK (so1 0))) nd1 = 1 then b3 else a3)), np1, lf1, nm1, 0, la1, so1, nd1), (i1 + 1)) := by
                                simp only [t_end, t_part]
                                rw [if_neg (bF c_305)]
                                simp only [t_close]
                                rw [hC]
                                rfl
                              have okn := okP_end (tx := tx) (sz := sz) (d := 0) ok1 rfl hlt
                              rw [e_n] at e_t okn
                              exact ih (i1 + 1) part ((nd1 + 1), (upd kd1 nd1 (clK (so1 0))), pa3, (va_up be1 nd1 none), (va_up af1 nd1 none), (va_up (va_up mi1 nd1 (nkM (clK (so1 0)))) nd1 (if (upd kd1 nd1 (clK (so1 0))) nd1 = 1 then b3 else a3)), np1, lf1, nm1, 0, la1, so1, nd1) okn.1 okn.2.1 (by have := okn.2.2; simp only at this; omega) (by rw [← he2, e_t, c_52]; rfl) _ _ hP hD hS _ (lv_sub hl [3, 0, 4] rfl)
                            · have c_329 : ¬ nI 0 ≤ 0 := c_329
                              exact absurd (by decide) c_329
                          · have c_305 : (r_isSign (atF tx sz (i1 + 1))) = true := (bI_ne0 _).mp c_305
                            refine lv_aload_n hx hb dX3_parse_308 rfl (lv_at hl 4 rfl) ?_
                            refine lv_iload hx hb dX3_parse_309 (lv_at hl 1 rfl) ?_
                            refine lv_aload_n hx hb dX3_parse_311 rfl (lv_at hl 4 rfl) ?_
                            refine lv_iload_n hx hb dX3_parse_312 rfl (lv_at hl 0 rfl) ?_
                            refine ct_callV (As := [.int (nI (i1 + 1))]) (rest := [.int (nI nd1), .ref (h 0)]) ⟨hx, hb, hml, hown, hts⟩ (k_E_at l D h k tx sz im cm nw ((nd1 + 1), (upd kd1 nd1 (clK (so1 0))), pa3, (va_up be1 nd1 none), (va_up af1 nd1 none), (va_up (va_up mi1 nd1 (nkM (clK (so1 0)))) nd1 (if (upd kd1 nd1 (clK (so1 0))) nd1 = 1 then b3 else a3)), np1, lf1, nm1, 0, la1, so1, ro1) (i1 + 1)  hsz (by omega)) (cwV 1 hts (gV lw_in t_356 t_358 t_11 t_26 t_359) rfl rfl rfl (by decide +kernel) ⟨Nat.le_of_ble_eq_true rfl, Nat.le_of_ble_eq_true rfl⟩) 0 rfl rfl hK hP hD hS hA rfl hl.1 rfl (Nat.le_of_ble_eq_true rfl) dX3_parse_313 ⟨Nat.zero_le _, Nat.zero_le _⟩ (fun H locs hP hD hS => ?_)
                            refine W.eq (g2 := F0 m 316 ls [.int (atF tx sz (i1 + 1)), .int (nI nd1), .ref (h 0)]) rfl ?_
                            refine ct_callV (As := [.int (nI nd1), .int (atF tx sz (i1 + 1))]) (rest := []) ⟨hx, hb, hml, hown, hts⟩ (k_E_signed l D h k tx sz im cm nw (nd1 + 1) (upd kd1 nd1 (clK (so1 0))) pa3 (va_up be1 nd1 none) (va_up af1 nd1 none) (va_up (va_up mi1 nd1 (nkM (clK (so1 0)))) nd1 (if (upd kd1 nd1 (clK (so1 0))) nd1 = 1 then b3 else a3)) np1 lf1 nm1 0 la1 so1 ro1 nd1 (atF tx sz (i1 + 1))  (by omega) (by omega)) (cwV 2 hts (gV lw_in t_371 t_373 t_14 t_26 t_374) rfl rfl rfl (by decide +kernel) ⟨Nat.le_of_ble_eq_true rfl, Nat.le_of_ble_eq_true rfl⟩) 0 rfl rfl hK hP hD hS hA rfl hl.1 rfl (Nat.le_of_ble_eq_true rfl) dX3_parse_316 ⟨Nat.zero_le _, Nat.zero_le _⟩ (fun H locs hP hD hS => ?_)
                            refine W.eq (g2 := F0 m 319 ls [.int (nI (nd1 + 1))]) rfl ?_
                            have hP : va_P D vwCl (wM h k tx sz im cm nw (((nd1 + 1) + 1), (upd (upd kd1 nd1 (clK (so1 0))) (nd1 + 1) (sgK (atF tx sz (i1 + 1)))), (va_up (va_up pa3 (nd1 + 1) none) nd1 (some (nd1 + 1))), (va_up (va_up be1 nd1 none) (nd1 + 1) none), (va_up (va_up af1 nd1 none) (nd1 + 1) none), (sgM (va_up (va_up (va_up mi1 nd1 (nkM (clK (so1 0)))) nd1 (if (upd kd1 nd1 (clK (so1 0))) nd1 = 1 then b3 else a3)) (nd1 + 1) (nkM (sgK (atF tx sz (i1 + 1))))) (nd1 + 1) nd1 (atF tx sz (i1 + 1))), np1, lf1, nm1, 0, la1, so1, ro1)) H := hP
                            have hD : va_D A (wM h k tx sz im cm nw (((nd1 + 1) + 1), (upd (upd kd1 nd1 (clK (so1 0))) (nd1 + 1) (sgK (atF tx sz (i1 + 1)))), (va_up (va_up pa3 (nd1 + 1) none) nd1 (some (nd1 + 1))), (va_up (va_up be1 nd1 none) (nd1 + 1) none), (va_up (va_up af1 nd1 none) (nd1 + 1) none), (sgM (va_up (va_up (va_up mi1 nd1 (nkM (clK (so1 0)))) nd1 (if (upd kd1 nd1 (clK (so1 0))) nd1 = 1 then b3 else a3)) (nd1 + 1) (nkM (sgK (atF tx sz (i1 + 1))))) (nd1 + 1) nd1 (atF tx sz (i1 + 1))), np1, lf1, nm1, 0, la1, so1, ro1)) := hD
                            refine lv_istore (lv' := [(4, .int (nI (nd1 + 1))), (1, .int (nI (i1 + 1))), (3, .int (atF tx sz i1)), (2, .int (bI part)), (0, .ref (h 0))]) hx hb dX3_parse_319 hl (by decide) rfl (fun ls hl => ?_)
                            refine lv_iload_n hx hb dX3_parse_321 rfl (lv_at hl 1 rfl) ?_
                            refine lv_iconst (v := 1) hx hb dX3_parse_322 (by decide) ?_
                            refine lv_iadd hx hb dX3_parse_323 ?_
                            refine lv_eqi (show (nI (i1 + 1) + 1) = nI ((i1 + 1) + 1) from nI_1 _) ?_
                            refine lv_istore_n (lv' := [(1, .int (nI ((i1 + 1) + 1))), (4, .int (nI (nd1 + 1))), (3, .int (atF tx sz i1)), (2, .int (bI part)), (0, .ref (h 0))]) hx hb dX3_parse_324 rfl hl (by decide) rfl (fun ls hl => ?_)
                            refine lv_aload_n hx hb dX3_parse_325 rfl (lv_at hl 4 rfl) ?_
                            refine va_get (D := D) (ci := 3) (v := .int (nI 0)) (C := RX3) (T := TX3) (N := 18) hx hb hts (fun w h => lw_in w (inX3 w h)) hown hK hP 0 rfl rfl 12 (by decide) (hts _ (lw_in _ t_300)) (fun _ h9 => h9) rfl dX3_parse_326 ?_
                            refine lv_if_le (tgt := 341) hx hb dX3_parse_329 (by decide) (fun c_329 => ?_) (fun c_329 => ?_)
                            · have c_329 : nI 0 ≤ 0 := c_329
                              refine lv_aload_n hx hb dX3_parse_341 rfl (lv_at hl 4 rfl) ?_
                              refine lv_iload hx hb dX3_parse_342 (lv_at hl 1 rfl) ?_
                              refine va_put (D := D) (ci := 3) (v := .int (nI (nd1 + 1))) (ty := .int) (C := RX3) (T := TX3) (N := 18) hx hb hts (fun w h => lw_in w (inX3 w h)) tyX3 tyX3_ok nmX3 hown hK hP hD hS 0 rfl rfl 15 (by decide) (hts _ (lw_in _ t_303)) (fun _ h9 => h9) rfl (by decide +kernel) rfl rfl (Nat.le_of_ble_eq_true rfl) dX3_parse_344 (fun H locs hP hD hS => ?_)
                              have hP : va_P D vwCl (wM h k tx sz im cm nw (((nd1 + 1) + 1), (upd (upd kd1 nd1 (clK (so1 0))) (nd1 + 1) (sgK (atF tx sz (i1 + 1)))), (va_up (va_up pa3 (nd1 + 1) none) nd1 (some (nd1 + 1))), (va_up (va_up be1 nd1 none) (nd1 + 1) none), (va_up (va_up af1 nd1 none) (nd1 + 1) none), (sgM (va_up (va_up (va_up mi1 nd1 (nkM (clK (so1 0)))) nd1 (if (upd kd1 nd1 (clK (so1 0))) nd1 = 1 then b3 else a3)) (nd1 + 1) (nkM (sgK (atF tx sz (i1 + 1))))) (nd1 + 1) nd1 (atF tx sz (i1 + 1))), np1, lf1, nm1, 0, la1, so1, (nd1 + 1))) H := hP
                              have hD : va_D A (wM h k tx sz im cm nw (((nd1 + 1) + 1), (upd (upd kd1 nd1 (clK (so1 0))) (nd1 + 1) (sgK (atF tx sz (i1 + 1)))), (va_up (va_up pa3 (nd1 + 1) none) nd1 (some (nd1 + 1))), (va_up (va_up be1 nd1 none) (nd1 + 1) none), (va_up (va_up af1 nd1 none) (nd1 + 1) none), (sgM (va_up (va_up (va_up mi1 nd1 (nkM (clK (so1 0)))) nd1 (if (upd kd1 nd1 (clK (so1 0))) nd1 = 1 then b3 else a3)) (nd1 + 1) (nkM (sgK (atF tx sz (i1 + 1))))) (nd1 + 1) nd1 (atF tx sz (i1 + 1))), np1, lf1, nm1, 0, la1, so1, (nd1 + 1))) := hD
                              refine lv_goto (tgt := 354) hx hb dX3_parse_347 (by decide) ?_
                              refine lv_goto (tgt := 21) hx hb dX3_parse_354 (by decide) ?_
                              have hlt := at_lt c_284 (by decide)
                              have e_t : t_turn tx sz (nd1, kd1, pa1, be1, af1, mi1, np1, lf1, nm1, 0 + 1, la1, so1, ro1) 0 i1 part (atF tx sz i1) = .inl ((t_end tx sz (nd1, kd1, pa1, be1, af1, mi1, np1, lf1, nm1, 0 + 1, la1, so1, ro1) 0 i1).1, (t_end tx sz (nd1, kd1, pa1, be1, af1, mi1, np1, lf1, nm1, 0 + 1, la1, so1, ro1) 0 i1).2, false) := by rw [t_turn, if_neg (bF c_52), if_neg (fun z9 => z9.elim c_203 c_209), if_pos c_284]
                              have e_n : t_end tx sz (nd1, kd1, pa1, be1, af1, mi1, np1, lf1, nm1, 0 + 1, la1, so1, ro1) 0 i1 = ((((nd1 + 1) + 1), (upd (upd kd1 nd1 (clK (so1 0))) (nd1 + 1) (sgK (atF tx sz (i1 + 1)))), (va_up (va_up pa3 (nd1 + 1) none) nd1 (some (nd1 + 1))), (va_up (va_up be1 nd1 none) (nd1 + 1) none), (va_up (va_up af1 nd1 none) (nd1 + 1) none), (sgM (va_up (va_up (va_up mi1 nd1 (nkM (clK (so1 0)))) nd1 (if (upd kd1 nd1 (clK (so1 0))) nd1 = 1 then b3 else a3)) (nd1 + 1) (nkM (sgK (atF tx sz (i1 + 1))))) (nd1 + 1) nd1 (atF tx sz (i1 + 1))), np1, lf1, nm1, 0, la1, so1, (nd1 + 1)), ((i1 + 1) + 1)) := by
                                simp only [t_end, t_part]
                                rw [if_pos c_305]
                                simp only [t_close]
                                rw [hC]
                                rfl
                              have okn := okP_end (tx := tx) (sz := sz) (d := 0) ok1 rfl hlt
                              rw [e_n] at e_t okn
                              exact ih ((i1 + 1) + 1) part (((nd1 + 1) + 1), (upd (upd kd1 nd1 (clK (so1 0))) (nd1 + 1) (sgK (atF tx sz (i1 + 1)))), (va_up (va_up pa3 (nd1 + 1) none) nd1 (some (nd1 + 1))), (va_up (va_up be1 nd1 none) (nd1 + 1) none), (va_up (va_up af1 nd1 none) (nd1 + 1) none), (sgM (va_up (va_up (va_up mi1 nd1 (nkM (clK (so1 0)))) nd1 (if (upd kd1 nd1 (clK (so1 0))) nd1 = 1 then b3 else a3)) (nd1 + 1) (nkM (sgK (atF tx sz (i1 + 1))))) (nd1 + 1) nd1 (atF tx sz (i1 + 1))), np1, lf1, nm1, 0, la1, so1, (nd1 + 1)) okn.1 okn.2.1 (by have := okn.2.2; simp only at this; omega) (by rw [← he2, e_t, c_52]; rfl) _ _ hP hD hS _ (lv_sub hl [3, 0, 4] rfl)
                            · have c_329 : ¬ nI 0 ≤ 0 := c_329
                              exact absurd (by decide) c_329
                        · have hP : va_P D vwCl (wM h k tx sz im cm nw (nd1, kd1, pa1, be1, af1, mi1, np1, lf1, nm1, ((d1 + 1) + 1), la1, so1, ro1)) H := hP
                          have hD : va_D A (wM h k tx sz im cm nw (nd1, kd1, pa1, be1, af1, mi1, np1, lf1, nm1, ((d1 + 1) + 1), la1, so1, ro1)) := hD
                          refine lv_aload_n hx hb dX3_parse_287 rfl (lv_at hl 3 rfl) ?_
                          refine ct_callV (As := []) (rest := []) ⟨hx, hb, hml, hown, hts⟩ (k_E_close l D h k tx sz im cm nw nd1 kd1 pa1 be1 af1 mi1 np1 lf1 nm1 (d1 + 1) la1 so1 ro1   (by omega) (by omega) (fun w0 hw => ok.2.2.2.1 (d1 + 1) w0 (Nat.lt_succ_self _) hw) (fun x y hx hy => ok.2.2.2.2 x y hx hy)) (cwV 0 hts (gV lw_in t_379 t_381 t_16 t_26 t_382) rfl rfl rfl (by decide +kernel) ⟨Nat.le_of_ble_eq_true rfl, Nat.le_of_ble_eq_true rfl⟩) 0 rfl rfl hK hP hD hS hA rfl hl.1 rfl (Nat.le_of_ble_eq_true rfl) dX3_parse_288 ⟨Nat.zero_le _, Nat.zero_le _⟩ (fun H locs hP hD hS => ?_)
                          refine W.eq (g2 := F0 m 291 ls [.int (nI nd1)]) rfl ?_
                          have hP : va_P D vwCl (wM h k tx sz im cm nw ((nd1 + 1), (upd kd1 nd1 (clK (so1 (d1 + 1)))), (clL (va_up be1 nd1 none) (va_up mi1 nd1 (nkM (clK (so1 (d1 + 1))))) nd1 701 (la1 (d1 + 1)) (va_up pa1 nd1 none) true false).1, (va_up be1 nd1 none), (va_up af1 nd1 none), (va_up (va_up mi1 nd1 (nkM (clK (so1 (d1 + 1))))) nd1 (if (upd kd1 nd1 (clK (so1 (d1 + 1)))) nd1 = 1 then (clL (va_up be1 nd1 none) (va_up mi1 nd1 (nkM (clK (so1 (d1 + 1))))) nd1 701 (la1 (d1 + 1)) (va_up pa1 nd1 none) true false).2.2 else (clL (va_up be1 nd1 none) (va_up mi1 nd1 (nkM (clK (so1 (d1 + 1))))) nd1 701 (la1 (d1 + 1)) (va_up pa1 nd1 none) true false).2.1)), np1, lf1, nm1, (d1 + 1), la1, so1, ro1)) H := hP
                          have hD : va_D A (wM h k tx sz im cm nw ((nd1 + 1), (upd kd1 nd1 (clK (so1 (d1 + 1)))), (clL (va_up be1 nd1 none) (va_up mi1 nd1 (nkM (clK (so1 (d1 + 1))))) nd1 701 (la1 (d1 + 1)) (va_up pa1 nd1 none) true false).1, (va_up be1 nd1 none), (va_up af1 nd1 none), (va_up (va_up mi1 nd1 (nkM (clK (so1 (d1 + 1))))) nd1 (if (upd kd1 nd1 (clK (so1 (d1 + 1)))) nd1 = 1 then (clL (va_up be1 nd1 none) (va_up mi1 nd1 (nkM (clK (so1 (d1 + 1))))) nd1 701 (la1 (d1 + 1)) (va_up pa1 nd1 none) true false).2.2 else (clL (va_up be1 nd1 none) (va_up mi1 nd1 (nkM (clK (so1 (d1 + 1))))) nd1 701 (la1 (d1 + 1)) (va_up pa1 nd1 none) true false).2.1)), np1, lf1, nm1, (d1 + 1), la1, so1, ro1)) := hD
                          generalize hC : clL (va_up be1 nd1 none) (va_up mi1 nd1 (nkM (clK (so1 (d1 + 1))))) nd1 701 (la1 (d1 + 1)) (va_up pa1 nd1 none) true false = C3 at hP hD
                          obtain ⟨pa3, a3, b3⟩ := C3
                          have hP : va_P D vwCl (wM h k tx sz im cm nw ((nd1 + 1), (upd kd1 nd1 (clK (so1 (d1 + 1)))), pa3, (va_up be1 nd1 none), (va_up af1 nd1 none), (va_up (va_up mi1 nd1 (nkM (clK (so1 (d1 + 1))))) nd1 (if (upd kd1 nd1 (clK (so1 (d1 + 1)))) nd1 = 1 then b3 else a3)), np1, lf1, nm1, (d1 + 1), la1, so1, ro1)) H := hP
                          have hD : va_D A (wM h k tx sz im cm nw ((nd1 + 1), (upd kd1 nd1 (clK (so1 (d1 + 1)))), pa3, (va_up be1 nd1 none), (va_up af1 nd1 none), (va_up (va_up mi1 nd1 (nkM (clK (so1 (d1 + 1))))) nd1 (if (upd kd1 nd1 (clK (so1 (d1 + 1)))) nd1 = 1 then b3 else a3)), np1, lf1, nm1, (d1 + 1), la1, so1, ro1)) := hD
                          refine lv_istore (lv' := [(4, .int (nI nd1)), (3, .int (atF tx sz i1)), (1, .int (nI i1)), (2, .int (bI part)), (0, .ref (h 0))]) hx hb dX3_parse_291 hl (by decide) rfl (fun ls hl => ?_)
                          refine lv_iload_n hx hb dX3_parse_293 rfl (lv_at hl 2 rfl) ?_
                          refine lv_iconst (v := 1) hx hb dX3_parse_294 (by decide) ?_
                          refine lv_iadd hx hb dX3_parse_295 ?_
                          refine lv_eqi (show (nI i1 + 1) = nI (i1 + 1) from nI_1 _) ?_
                          refine lv_istore_n (lv' := [(1, .int (nI (i1 + 1))), (4, .int (nI nd1)), (3, .int (atF tx sz i1)), (2, .int (bI part)), (0, .ref (h 0))]) hx hb dX3_parse_296 rfl hl (by decide) rfl (fun ls hl => ?_)
                          refine lv_aload_n hx hb dX3_parse_297 rfl (lv_at hl 4 rfl) ?_
                          refine lv_iload_n hx hb dX3_parse_298 rfl (lv_at hl 0 rfl) ?_
                          refine ct_callV (As := [.int (nI (i1 + 1))]) (rest := []) ⟨hx, hb, hml, hown, hts⟩ (k_E_at l D h k tx sz im cm nw ((nd1 + 1), (upd kd1 nd1 (clK (so1 (d1 + 1)))), pa3, (va_up be1 nd1 none), (va_up af1 nd1 none), (va_up (va_up mi1 nd1 (nkM (clK (so1 (d1 + 1))))) nd1 (if (upd kd1 nd1 (clK (so1 (d1 + 1)))) nd1 = 1 then b3 else a3)), np1, lf1, nm1, (d1 + 1), la1, so1, ro1) (i1 + 1)  hsz (by omega)) (cwV 1 hts (gV lw_in t_356 t_358 t_11 t_26 t_359) rfl rfl rfl (by decide +kernel) ⟨Nat.le_of_ble_eq_true rfl, Nat.le_of_ble_eq_true rfl⟩) 0 rfl rfl hK hP hD hS hA rfl hl.1 rfl (Nat.le_of_ble_eq_true rfl) dX3_parse_299 ⟨Nat.zero_le _, Nat.zero_le _⟩ (fun H locs hP hD hS => ?_)
                          refine W.eq (g2 := F0 m 302 ls [.int (atF tx sz (i1 + 1))]) rfl ?_
                          refine ct_callS (As := [.int (atF tx sz (i1 + 1))]) (rest := []) ⟨hx, hb, hml, hown, hts⟩ (k_E_isSign l D h k tx sz im cm nw ((nd1 + 1), (upd kd1 nd1 (clK (so1 (d1 + 1)))), pa3, (va_up be1 nd1 none), (va_up af1 nd1 none), (va_up (va_up mi1 nd1 (nkM (clK (so1 (d1 + 1))))) nd1 (if (upd kd1 nd1 (clK (so1 (d1 + 1)))) nd1 = 1 then b3 else a3)), np1, lf1, nm1, (d1 + 1), la1, so1, ro1) (atF tx sz (i1 + 1))) (cwS 1 hts (gS lw_in t_368 t_369 t_26 t_370) rfl rfl rfl (by decide +kernel) ⟨Nat.le_of_ble_eq_true rfl, Nat.le_of_ble_eq_true rfl⟩) hK hP hD hS hA rfl hl.1 rfl (Nat.le_of_ble_eq_true rfl) dX3_parse_302 ⟨Nat.zero_le _, Nat.zero_le _⟩ (fun H locs hP hD hS => ?_)
                          refine W.eq (g2 := F0 m 305 ls [.int (bI (r_isSign (atF tx sz (i1 + 1))))]) rfl ?_
                          refine lv_if_eq (tgt := 325) hx hb dX3_parse_305 (by decide) (fun c_305 => ?_) (fun c_305 => ?_)
                          · have c_305 : (r_isSign (atF tx sz (i1 + 1))) = false := (bI_eq0 _).mp c_305
                            refine lv_aload_n hx hb dX3_parse_325 rfl (lv_at hl 4 rfl) ?_
                            refine va_get (D := D) (ci := 3) (v := .int (nI (d1 + 1))) (C := RX3) (T := TX3) (N := 18) hx hb hts (fun w h => lw_in w (inX3 w h)) hown hK hP 0 rfl rfl 12 (by decide) (hts _ (lw_in _ t_300)) (fun _ h9 => h9) rfl dX3_parse_326 ?_
                            refine lv_if_le (tgt := 341) hx hb dX3_parse_329 (by decide) (fun c_329 => ?_) (fun c_329 => ?_)
                            · have c_329 : (d1 + 1) ≤ 0 := (nI_leI (a := (d1 + 1)) (b := 0) (by omega) (by omega)).mp c_329
                              exact absurd c_329 (by omega)
                            · have c_329 : 0 < (d1 + 1) := Nat.lt_of_not_le (fun z => c_329 ((nI_leI (a := (d1 + 1)) (b := 0) (by omega) (by omega)).mpr z))
                              refine lv_aload_n hx hb dX3_parse_332 rfl (lv_at hl 4 rfl) ?_
                              refine lv_iload hx hb dX3_parse_333 (lv_at hl 1 rfl) ?_
                              refine ct_callV (As := [.int (nI nd1)]) (rest := []) ⟨hx, hb, hml, hown, hts⟩ (k_E_add l D h k tx sz im cm nw (nd1 + 1) (upd kd1 nd1 (clK (so1 (d1 + 1)))) pa3 (va_up be1 nd1 none) (va_up af1 nd1 none) (va_up (va_up mi1 nd1 (nkM (clK (so1 (d1 + 1))))) nd1 (if (upd kd1 nd1 (clK (so1 (d1 + 1)))) nd1 = 1 then b3 else a3)) np1 lf1 nm1 d1 la1 so1 ro1 nd1  (by omega) (by omega) (fun w0 hw => by have := ok.2.2.2.1 d1 w0 (by simp only; omega) hw; simp only at this; omega)) (cwV 1 hts (gV lw_in t_375 t_377 t_15 t_26 t_378) rfl rfl rfl (by decide +kernel) ⟨Nat.le_of_ble_eq_true rfl, Nat.le_of_ble_eq_true rfl⟩) 0 rfl rfl hK hP hD hS hA rfl hl.1 rfl (Nat.le_of_ble_eq_true rfl) dX3_parse_335 ⟨Nat.zero_le _, Nat.zero_le _⟩ (fun H locs hP hD hS => ?_)
                              refine W.eq (g2 := F0 m 338 ls []) rfl ?_
                              have hP : va_P D vwCl (wM h k tx sz im cm nw ((nd1 + 1), (upd kd1 nd1 (clK (so1 (d1 + 1)))), pa3, (va_up (va_up be1 nd1 none) nd1 (la1 d1)), (afA (va_up af1 nd1 none) (la1 d1) nd1), (va_up (va_up mi1 nd1 (nkM (clK (so1 (d1 + 1))))) nd1 (if (upd kd1 nd1 (clK (so1 (d1 + 1)))) nd1 = 1 then b3 else a3)), np1, lf1, nm1, (d1 + 1), (va_up la1 d1 (some nd1)), so1, ro1)) H := hP
                              have hD : va_D A (wM h k tx sz im cm nw ((nd1 + 1), (upd kd1 nd1 (clK (so1 (d1 + 1)))), pa3, (va_up (va_up be1 nd1 none) nd1 (la1 d1)), (afA (va_up af1 nd1 none) (la1 d1) nd1), (va_up (va_up mi1 nd1 (nkM (clK (so1 (d1 + 1))))) nd1 (if (upd kd1 nd1 (clK (so1 (d1 + 1)))) nd1 = 1 then b3 else a3)), np1, lf1, nm1, (d1 + 1), (va_up la1 d1 (some nd1)), so1, ro1)) := hD
                              refine lv_goto (tgt := 347) hx hb dX3_parse_338 (by decide) ?_
                              refine lv_goto (tgt := 354) hx hb dX3_parse_347 (by decide) ?_
                              refine lv_goto (tgt := 21) hx hb dX3_parse_354 (by decide) ?_
                              have hlt := at_lt c_284 (by decide)
                              have e_t : t_turn tx sz (nd1, kd1, pa1, be1, af1, mi1, np1, lf1, nm1, (d1 + 1) + 1, la1, so1, ro1) (d1 + 1) i1 part (atF tx sz i1) = .inl ((t_end tx sz (nd1, kd1, pa1, be1, af1, mi1, np1, lf1, nm1, (d1 + 1) + 1, la1, so1, ro1) (d1 + 1) i1).1, (t_end tx sz (nd1, kd1, pa1, be1, af1, mi1, np1, lf1, nm1, (d1 + 1) + 1, la1, so1, ro1) (d1 + 1) i1).2, false) := by rw [t_turn, if_neg (bF c_52), if_neg (fun z9 => z9.elim c_203 c_209), if_pos c_284]
                              have e_n : t_end tx sz (nd1, kd1, pa1, be1, af1, mi1, np1, lf1, nm1, (d1 + 1) + 1, la1, so1, ro1) (d1 + 1) i1 = (((nd1 + 1), (upd kd1 nd1 (clK (so1 (d1 + 1)))), pa3, (va_up (va_up be1 nd1 none) nd1 (la1 d1)), (afA (va_up af1 nd1 none) (la1 d1) nd1), (va_up (va_up mi1 nd1 (nkM (clK (so1 (d1 + 1))))) nd1 (if (upd kd1 nd1 (clK (so1 (d1 + 1)))) nd1 = 1 then b3 else a3)), np1, lf1, nm1, (d1 + 1), (va_up la1 d1 (some nd1)), so1, ro1), (i1 + 1)) := by
                                simp only [t_end, t_part]
                                rw [if_neg (bF c_305)]
                                simp only [t_close]
                                rw [hC]
                                rfl
                              have okn := okP_end (tx := tx) (sz := sz) (d := (d1 + 1)) ok1 rfl hlt
                              rw [e_n] at e_t okn
                              exact ih (i1 + 1) part ((nd1 + 1), (upd kd1 nd1 (clK (so1 (d1 + 1)))), pa3, (va_up (va_up be1 nd1 none) nd1 (la1 d1)), (afA (va_up af1 nd1 none) (la1 d1) nd1), (va_up (va_up mi1 nd1 (nkM (clK (so1 (d1 + 1))))) nd1 (if (upd kd1 nd1 (clK (so1 (d1 + 1)))) nd1 = 1 then b3 else a3)), np1, lf1, nm1, (d1 + 1), (va_up la1 d1 (some nd1)), so1, ro1) okn.1 okn.2.1 (by have := okn.2.2; simp only at this; omega) (by rw [← he2, e_t, c_52]; rfl) _ _ hP hD hS _ (lv_sub hl [3, 0, 4] rfl)
                          · have c_305 : (r_isSign (atF tx sz (i1 + 1))) = true := (bI_ne0 _).mp c_305
                            refine lv_aload_n hx hb dX3_parse_308 rfl (lv_at hl 4 rfl) ?_
                            refine lv_iload hx hb dX3_parse_309 (lv_at hl 1 rfl) ?_
                            refine lv_aload_n hx hb dX3_parse_311 rfl (lv_at hl 4 rfl) ?_
                            refine lv_iload_n hx hb dX3_parse_312 rfl (lv_at hl 0 rfl) ?_
                            refine ct_callV (As := [.int (nI (i1 + 1))]) (rest := [.int (nI nd1), .ref (h 0)]) ⟨hx, hb, hml, hown, hts⟩ (k_E_at l D h k tx sz im cm nw ((nd1 + 1), (upd kd1 nd1 (clK (so1 (d1 + 1)))), pa3, (va_up be1 nd1 none), (va_up af1 nd1 none), (va_up (va_up mi1 nd1 (nkM (clK (so1 (d1 + 1))))) nd1 (if (upd kd1 nd1 (clK (so1 (d1 + 1)))) nd1 = 1 then b3 else a3)), np1, lf1, nm1, (d1 + 1), la1, so1, ro1) (i1 + 1)  hsz (by omega)) (cwV 1 hts (gV lw_in t_356 t_358 t_11 t_26 t_359) rfl rfl rfl (by decide +kernel) ⟨Nat.le_of_ble_eq_true rfl, Nat.le_of_ble_eq_true rfl⟩) 0 rfl rfl hK hP hD hS hA rfl hl.1 rfl (Nat.le_of_ble_eq_true rfl) dX3_parse_313 ⟨Nat.zero_le _, Nat.zero_le _⟩ (fun H locs hP hD hS => ?_)
                            refine W.eq (g2 := F0 m 316 ls [.int (atF tx sz (i1 + 1)), .int (nI nd1), .ref (h 0)]) rfl ?_
                            refine ct_callV (As := [.int (nI nd1), .int (atF tx sz (i1 + 1))]) (rest := []) ⟨hx, hb, hml, hown, hts⟩ (k_E_signed l D h k tx sz im cm nw (nd1 + 1) (upd kd1 nd1 (clK (so1 (d1 + 1)))) pa3 (va_up be1 nd1 none) (va_up af1 nd1 none) (va_up (va_up mi1 nd1 (nkM (clK (so1 (d1 + 1))))) nd1 (if (upd kd1 nd1 (clK (so1 (d1 + 1)))) nd1 = 1 then b3 else a3)) np1 lf1 nm1 (d1 + 1) la1 so1 ro1 nd1 (atF tx sz (i1 + 1))  (by omega) (by omega)) (cwV 2 hts (gV lw_in t_371 t_373 t_14 t_26 t_374) rfl rfl rfl (by decide +kernel) ⟨Nat.le_of_ble_eq_true rfl, Nat.le_of_ble_eq_true rfl⟩) 0 rfl rfl hK hP hD hS hA rfl hl.1 rfl (Nat.le_of_ble_eq_true rfl) dX3_parse_316 ⟨Nat.zero_le _, Nat.zero_le _⟩ (fun H locs hP hD hS => ?_)
                            refine W.eq (g2 := F0 m 319 ls [.int (nI (nd1 + 1))]) rfl ?_
                            have hP : va_P D vwCl (wM h k tx sz im cm nw (((nd1 + 1) + 1), (upd (upd kd1 nd1 (clK (so1 (d1 + 1)))) (nd1 + 1) (sgK (atF tx sz (i1 + 1)))), (va_up (va_up pa3 (nd1 + 1) none) nd1 (some (nd1 + 1))), (va_up (va_up be1 nd1 none) (nd1 + 1) none), (va_up (va_up af1 nd1 none) (nd1 + 1) none), (sgM (va_up (va_up (va_up mi1 nd1 (nkM (clK (so1 (d1 + 1))))) nd1 (if (upd kd1 nd1 (clK (so1 (d1 + 1)))) nd1 = 1 then b3 else a3)) (nd1 + 1) (nkM (sgK (atF tx sz (i1 + 1))))) (nd1 + 1) nd1 (atF tx sz (i1 + 1))), np1, lf1, nm1, (d1 + 1), la1, so1, ro1)) H := hP
                            have hD : va_D A (wM h k tx sz im cm nw (((nd1 + 1) + 1), (upd (upd kd1 nd1 (clK (so1 (d1 + 1)))) (nd1 + 1) (sgK (atF tx sz (i1 + 1)))), (va_up (va_up pa3 (nd1 + 1) none) nd1 (some (nd1 + 1))), (va_up (va_up be1 nd1 none) (nd1 + 1) none), (va_up (va_up af1 nd1 none) (nd1 + 1) none), (sgM (va_up (va_up (va_up mi1 nd1 (nkM (clK (so1 (d1 + 1))))) nd1 (if (upd kd1 nd1 (clK (so1 (d1 + 1)))) nd1 = 1 then b3 else a3)) (nd1 + 1) (nkM (sgK (atF tx sz (i1 + 1))))) (nd1 + 1) nd1 (atF tx sz (i1 + 1))), np1, lf1, nm1, (d1 + 1), la1, so1, ro1)) := hD
                            refine lv_istore (lv' := [(4, .int (nI (nd1 + 1))), (1, .int (nI (i1 + 1))), (3, .int (atF tx sz i1)), (2, .int (bI part)), (0, .ref (h 0))]) hx hb dX3_parse_319 hl (by decide) rfl (fun ls hl => ?_)
                            refine lv_iload_n hx hb dX3_parse_321 rfl (lv_at hl 1 rfl) ?_
                            refine lv_iconst (v := 1) hx hb dX3_parse_322 (by decide) ?_
                            refine lv_iadd hx hb dX3_parse_323 ?_
                            refine lv_eqi (show (nI (i1 + 1) + 1) = nI ((i1 + 1) + 1) from nI_1 _) ?_
                            refine lv_istore_n (lv' := [(1, .int (nI ((i1 + 1) + 1))), (4, .int (nI (nd1 + 1))), (3, .int (atF tx sz i1)), (2, .int (bI part)), (0, .ref (h 0))]) hx hb dX3_parse_324 rfl hl (by decide) rfl (fun ls hl => ?_)
                            refine lv_aload_n hx hb dX3_parse_325 rfl (lv_at hl 4 rfl) ?_
                            refine va_get (D := D) (ci := 3) (v := .int (nI (d1 + 1))) (C := RX3) (T := TX3) (N := 18) hx hb hts (fun w h => lw_in w (inX3 w h)) hown hK hP 0 rfl rfl 12 (by decide) (hts _ (lw_in _ t_300)) (fun _ h9 => h9) rfl dX3_parse_326 ?_
                            refine lv_if_le (tgt := 341) hx hb dX3_parse_329 (by decide) (fun c_329 => ?_) (fun c_329 => ?_)
                            · have c_329 : (d1 + 1) ≤ 0 := (nI_leI (a := (d1 + 1)) (b := 0) (by omega) (by omega)).mp c_329
                              exact absurd c_329 (by omega)
                            · have c_329 : 0 < (d1 + 1) := Nat.lt_of_not_le (fun z => c_329 ((nI_leI (a := (d1 + 1)) (b := 0) (by omega) (by omega)).mpr z))
                              refine lv_aload_n hx hb dX3_parse_332 rfl (lv_at hl 4 rfl) ?_
                              refine lv_iload hx hb dX3_parse_333 (lv_at hl 1 rfl) ?_
                              refine ct_callV (As := [.int (nI (nd1 + 1))]) (rest := []) ⟨hx, hb, hml, hown, hts⟩ (k_E_add l D h k tx sz im cm nw ((nd1 + 1) + 1) (upd (upd kd1 nd1 (clK (so1 (d1 + 1)))) (nd1 + 1) (sgK (atF tx sz (i1 + 1)))) (va_up (va_up pa3 (nd1 + 1) none) nd1 (some (nd1 + 1))) (va_up (va_up be1 nd1 none) (nd1 + 1) none) (va_up (va_up af1 nd1 none) (nd1 + 1) none) (sgM (va_up (va_up (va_up mi1 nd1 (nkM (clK (so1 (d1 + 1))))) nd1 (if (upd kd1 nd1 (clK (so1 (d1 + 1)))) nd1 = 1 then b3 else a3)) (nd1 + 1) (nkM (sgK (atF tx sz (i1 + 1))))) (nd1 + 1) nd1 (atF tx sz (i1 + 1))) np1 lf1 nm1 d1 la1 so1 ro1 (nd1 + 1)  (by omega) (by omega) (fun w0 hw => by have := ok.2.2.2.1 d1 w0 (by simp only; omega) hw; simp only at this; omega)) (cwV 1 hts (gV lw_in t_375 t_377 t_15 t_26 t_378) rfl rfl rfl (by decide +kernel) ⟨Nat.le_of_ble_eq_true rfl, Nat.le_of_ble_eq_true rfl⟩) 0 rfl rfl hK hP hD hS hA rfl hl.1 rfl (Nat.le_of_ble_eq_true rfl) dX3_parse_335 ⟨Nat.zero_le _, Nat.zero_le _⟩ (fun H locs hP hD hS => ?_)
                              refine W.eq (g2 := F0 m 338 ls []) rfl ?_
                              have hP : va_P D vwCl (wM h k tx sz im cm nw (((nd1 + 1) + 1), (upd (upd kd1 nd1 (clK (so1 (d1 + 1)))) (nd1 + 1) (sgK (atF tx sz (i1 + 1)))), (va_up (va_up pa3 (nd1 + 1) none) nd1 (some (nd1 + 1))), (va_up (va_up (va_up be1 nd1 none) (nd1 + 1) none) (nd1 + 1) (la1 d1)), (afA (va_up (va_up af1 nd1 none) (nd1 + 1) none) (la1 d1) (nd1 + 1)), (sgM (va_up (va_up (va_up mi1 nd1 (nkM (clK (so1 (d1 + 1))))) nd1 (if (upd kd1 nd1 (clK (so1 (d1 + 1)))) nd1 = 1 then b3 else a3)) (nd1 + 1) (nkM (sgK (atF tx sz (i1 + 1))))) (nd1 + 1) nd1 (atF tx sz (i1 + 1))), np1, lf1, nm1, (d1 + 1), (va_up la1 d1 (some (nd1 + 1))), so1, ro1)) H := hP
                              have hD : va_D A (wM h k tx sz im cm nw (((nd1 + 1) + 1), (upd (upd kd1 nd1 (clK (so1 (d1 + 1)))) (nd1 + 1) (sgK (atF tx sz (i1 + 1)))), (va_up (va_up pa3 (nd1 + 1) none) nd1 (some (nd1 + 1))), (va_up (va_up (va_up be1 nd1 none) (nd1 + 1) none) (nd1 + 1) (la1 d1)), (afA (va_up (va_up af1 nd1 none) (nd1 + 1) none) (la1 d1) (nd1 + 1)), (sgM (va_up (va_up (va_up mi1 nd1 (nkM (clK (so1 (d1 + 1))))) nd1 (if (upd kd1 nd1 (clK (so1 (d1 + 1)))) nd1 = 1 then b3 else a3)) (nd1 + 1) (nkM (sgK (atF tx sz (i1 + 1))))) (nd1 + 1) nd1 (atF tx sz (i1 + 1))), np1, lf1, nm1, (d1 + 1), (va_up la1 d1 (some (nd1 + 1))), so1, ro1)) := hD
                              refine lv_goto (tgt := 347) hx hb dX3_parse_338 (by decide) ?_
                              refine lv_goto (tgt := 354) hx hb dX3_parse_347 (by decide) ?_
                              refine lv_goto (tgt := 21) hx hb dX3_parse_354 (by decide) ?_
                              have hlt := at_lt c_284 (by decide)
                              have e_t : t_turn tx sz (nd1, kd1, pa1, be1, af1, mi1, np1, lf1, nm1, (d1 + 1) + 1, la1, so1, ro1) (d1 + 1) i1 part (atF tx sz i1) = .inl ((t_end tx sz (nd1, kd1, pa1, be1, af1, mi1, np1, lf1, nm1, (d1 + 1) + 1, la1, so1, ro1) (d1 + 1) i1).1, (t_end tx sz (nd1, kd1, pa1, be1, af1, mi1, np1, lf1, nm1, (d1 + 1) + 1, la1, so1, ro1) (d1 + 1) i1).2, false) := by rw [t_turn, if_neg (bF c_52), if_neg (fun z9 => z9.elim c_203 c_209), if_pos c_284]
                              have e_n : t_end tx sz (nd1, kd1, pa1, be1, af1, mi1, np1, lf1, nm1, (d1 + 1) + 1, la1, so1, ro1) (d1 + 1) i1 = ((((nd1 + 1) + 1), (upd (upd kd1 nd1 (clK (so1 (d1 + 1)))) (nd1 + 1) (sgK (atF tx sz (i1 + 1)))), (va_up (va_up pa3 (nd1 + 1) none) nd1 (some (nd1 + 1))), (va_up (va_up (va_up be1 nd1 none) (nd1 + 1) none) (nd1 + 1) (la1 d1)), (afA (va_up (va_up af1 nd1 none) (nd1 + 1) none) (la1 d1) (nd1 + 1)), (sgM (va_up (va_up (va_up mi1 nd1 (nkM (clK (so1 (d1 + 1))))) nd1 (if (upd kd1 nd1 (clK (so1 (d1 + 1)))) nd1 = 1 then b3 else a3)) (nd1 + 1) (nkM (sgK (atF tx sz (i1 + 1))))) (nd1 + 1) nd1 (atF tx sz (i1 + 1))), np1, lf1, nm1, (d1 + 1), (va_up la1 d1 (some (nd1 + 1))), so1, ro1), ((i1 + 1) + 1)) := by
                                simp only [t_end, t_part]
                                rw [if_pos c_305]
                                simp only [t_close]
                                rw [hC]
                                rfl
                              have okn := okP_end (tx := tx) (sz := sz) (d := (d1 + 1)) ok1 rfl hlt
                              rw [e_n] at e_t okn
                              exact ih ((i1 + 1) + 1) part (((nd1 + 1) + 1), (upd (upd kd1 nd1 (clK (so1 (d1 + 1)))) (nd1 + 1) (sgK (atF tx sz (i1 + 1)))), (va_up (va_up pa3 (nd1 + 1) none) nd1 (some (nd1 + 1))), (va_up (va_up (va_up be1 nd1 none) (nd1 + 1) none) (nd1 + 1) (la1 d1)), (afA (va_up (va_up af1 nd1 none) (nd1 + 1) none) (la1 d1) (nd1 + 1)), (sgM (va_up (va_up (va_up mi1 nd1 (nkM (clK (so1 (d1 + 1))))) nd1 (if (upd kd1 nd1 (clK (so1 (d1 + 1)))) nd1 = 1 then b3 else a3)) (nd1 + 1) (nkM (sgK (atF tx sz (i1 + 1))))) (nd1 + 1) nd1 (atF tx sz (i1 + 1))), np1, lf1, nm1, (d1 + 1), (va_up la1 d1 (some (nd1 + 1))), so1, ro1) okn.1 okn.2.1 (by have := okn.2.2; simp only at this; omega) (by rw [← he2, e_t, c_52]; rfl) _ _ hP hD hS _ (lv_sub hl [3, 0, 4] rfl)
                    · have c_209 : (atF tx sz i1) = 44 := c_209
                      refine lv_iload_n hx hb dX3_parse_212 rfl (lv_at hl 0 rfl) ?_
                      refine lv_bipush (v := 124) hx hb dX3_parse_213 (by decide) ?_
                      refine lv_icmp_ne (tgt := 222) hx hb dX3_parse_215 (by decide) (fun c_215 => ?_) (fun c_215 => ?_)
                      · have c_215 : ¬ (atF tx sz i1) = 124 := c_215
                        refine lv_iconst (v := 2) hx hb dX3_parse_222 (by decide) ?_
                        refine lv_istore (lv' := [(4, .int 2), (3, .int (atF tx sz i1)), (1, .int (nI i1)), (2, .int (bI part)), (0, .ref (h 0))]) hx hb dX3_parse_223 hl (by decide) rfl (fun ls hl => ?_)
                        refine lv_aload_n hx hb dX3_parse_225 rfl (lv_at hl 4 rfl) ?_
                        refine va_get (D := D) (ci := 3) (v := .ref (h 10)) (C := RX3) (T := TX3) (N := 18) hx hb hts (fun w h => lw_in w (inX3 w h)) hown hK hP 0 rfl rfl 14 (by decide) (hts _ (lw_in _ t_302)) (fun _ h9 => h9) rfl dX3_parse_226 ?_
                        refine lv_aload_n hx hb dX3_parse_229 rfl (lv_at hl 4 rfl) ?_
                        refine va_get (D := D) (ci := 3) (v := .int (nI (d + 1))) (C := RX3) (T := TX3) (N := 18) hx hb hts (fun w h => lw_in w (inX3 w h)) hown hK hP 0 rfl rfl 12 (by decide) (hts _ (lw_in _ t_300)) (fun _ h9 => h9) rfl dX3_parse_230 ?_
                        refine lv_iconst (v := 1) hx hb dX3_parse_233 (by decide) ?_
                        refine lv_isub hx hb dX3_parse_234 ?_
                        refine lv_eqi (show (nI (d + 1) - 1) = nI d from nI_pred _) ?_
                        refine wx_iald hx hb hK hP 10 9 rfl rfl (i := d) (by omega) (by decide) dX3_parse_235 ?_
                        refine lv_if_lt (tgt := 259) hx hb dX3_parse_236 (by decide) (fun c_236 => ?_) (fun c_236 => ?_)
                        · have c_236 : (so1 d) < 0 := c_236
                          refine lv_aload_n hx hb dX3_parse_259 rfl (lv_at hl 4 rfl) ?_
                          refine va_get (D := D) (ci := 3) (v := .ref (h 10)) (C := RX3) (T := TX3) (N := 18) hx hb hts (fun w h => lw_in w (inX3 w h)) hown hK hP 0 rfl rfl 14 (by decide) (hts _ (lw_in _ t_302)) (fun _ h9 => h9) rfl dX3_parse_260 ?_
                          refine lv_aload_n hx hb dX3_parse_263 rfl (lv_at hl 4 rfl) ?_
                          refine va_get (D := D) (ci := 3) (v := .int (nI (d + 1))) (C := RX3) (T := TX3) (N := 18) hx hb hts (fun w h => lw_in w (inX3 w h)) hown hK hP 0 rfl rfl 12 (by decide) (hts _ (lw_in _ t_300)) (fun _ h9 => h9) rfl dX3_parse_264 ?_
                          refine lv_iconst (v := 1) hx hb dX3_parse_267 (by decide) ?_
                          refine lv_isub hx hb dX3_parse_268 ?_
                          refine lv_eqi (show (nI (d + 1) - 1) = nI d from nI_pred _) ?_
                          refine lv_iload hx hb dX3_parse_269 (lv_at hl 0 rfl) ?_
                          refine wx_iast hx hb hK hP hD hS 10 9 rfl rfl (i := d) (by omega) (by decide) dX3_parse_271 (fun H locs hP hD hS => ?_)
                          have hP : va_P D vwCl (wM h k tx sz im cm nw (nd1, kd1, pa1, be1, af1, mi1, np1, lf1, nm1, (d + 1), la1, (upd so1 d 2), ro1)) H := hP
                          have hD : va_D A (wM h k tx sz im cm nw (nd1, kd1, pa1, be1, af1, mi1, np1, lf1, nm1, (d + 1), la1, (upd so1 d 2), ro1)) := hD
                          refine lv_iload_n hx hb dX3_parse_272 rfl (lv_at hl 2 rfl) ?_
                          refine lv_iconst (v := 1) hx hb dX3_parse_273 (by decide) ?_
                          refine lv_iadd hx hb dX3_parse_274 ?_
                          refine lv_eqi (show (nI i1 + 1) = nI (i1 + 1) from nI_1 _) ?_
                          refine lv_istore_n (lv' := [(1, .int (nI (i1 + 1))), (4, .int 2), (3, .int (atF tx sz i1)), (2, .int (bI part)), (0, .ref (h 0))]) hx hb dX3_parse_275 rfl hl (by decide) rfl (fun ls hl => ?_)
                          refine lv_iconst (v := 1) hx hb dX3_parse_276 (by decide) ?_
                          refine lv_istore_n (lv' := [(2, .int 1), (1, .int (nI (i1 + 1))), (4, .int 2), (3, .int (atF tx sz i1)), (0, .ref (h 0))]) hx hb dX3_parse_277 rfl hl (by decide) rfl (fun ls hl => ?_)
                          refine lv_goto (tgt := 354) hx hb dX3_parse_278 (by decide) ?_
                          refine lv_goto (tgt := 21) hx hb dX3_parse_354 (by decide) ?_
                          have e_k : soK (atF tx sz i1) = 2 := by rw [soK, if_neg c_203]
                          have hlt := at_lt c_209 (by decide)
                          have e_t : t_turn tx sz (nd1, kd1, pa1, be1, af1, mi1, np1, lf1, nm1, (d + 1), la1, so1, ro1) d i1 part (atF tx sz i1) = .inl (t_sort (nd1, kd1, pa1, be1, af1, mi1, np1, lf1, nm1, (d + 1), la1, so1, ro1) d 2, i1 + 1, true) := by
                            rw [t_turn, if_neg (bF c_52), if_pos (Or.inr c_209)]
                            refine (if_neg (fun z9 => z9.1 c_236)).trans ?_
                            rw [e_k]
                          exact ih (i1 + 1) true (t_sort (nd1, kd1, pa1, be1, af1, mi1, np1, lf1, nm1, (d + 1), la1, so1, ro1) d 2) (okP_mono (okP_sort ok1) (Nat.le_succ _)) hlt (by omega) (by rw [← he2, e_t]; rfl) _ _ hP hD hS _ (lv_sub hl [0, 1, 4] rfl)
                        · have c_236 : ¬ (so1 d) < 0 := c_236
                          refine lv_aload_n hx hb dX3_parse_239 rfl (lv_at hl 4 rfl) ?_
                          refine va_get (D := D) (ci := 3) (v := .ref (h 10)) (C := RX3) (T := TX3) (N := 18) hx hb hts (fun w h => lw_in w (inX3 w h)) hown hK hP 0 rfl rfl 14 (by decide) (hts _ (lw_in _ t_302)) (fun _ h9 => h9) rfl dX3_parse_240 ?_
                          refine lv_aload_n hx hb dX3_parse_243 rfl (lv_at hl 4 rfl) ?_
                          refine va_get (D := D) (ci := 3) (v := .int (nI (d + 1))) (C := RX3) (T := TX3) (N := 18) hx hb hts (fun w h => lw_in w (inX3 w h)) hown hK hP 0 rfl rfl 12 (by decide) (hts _ (lw_in _ t_300)) (fun _ h9 => h9) rfl dX3_parse_244 ?_
                          refine lv_iconst (v := 1) hx hb dX3_parse_247 (by decide) ?_
                          refine lv_isub hx hb dX3_parse_248 ?_
                          refine lv_eqi (show (nI (d + 1) - 1) = nI d from nI_pred _) ?_
                          refine wx_iald hx hb hK hP 10 9 rfl rfl (i := d) (by omega) (by decide) dX3_parse_249 ?_
                          refine lv_iload hx hb dX3_parse_250 (lv_at hl 0 rfl) ?_
                          refine lv_icmp_eq (tgt := 259) hx hb dX3_parse_252 (by decide) (fun c_252 => ?_) (fun c_252 => ?_)
                          · have c_252 : (so1 d) = 2 := c_252
                            refine lv_aload_n hx hb dX3_parse_259 rfl (lv_at hl 4 rfl) ?_
                            refine va_get (D := D) (ci := 3) (v := .ref (h 10)) (C := RX3) (T := TX3) (N := 18) hx hb hts (fun w h => lw_in w (inX3 w h)) hown hK hP 0 rfl rfl 14 (by decide) (hts _ (lw_in _ t_302)) (fun _ h9 => h9) rfl dX3_parse_260 ?_
                            refine lv_aload_n hx hb dX3_parse_263 rfl (lv_at hl 4 rfl) ?_
                            refine va_get (D := D) (ci := 3) (v := .int (nI (d + 1))) (C := RX3) (T := TX3) (N := 18) hx hb hts (fun w h => lw_in w (inX3 w h)) hown hK hP 0 rfl rfl 12 (by decide) (hts _ (lw_in _ t_300)) (fun _ h9 => h9) rfl dX3_parse_264 ?_
                            refine lv_iconst (v := 1) hx hb dX3_parse_267 (by decide) ?_
                            refine lv_isub hx hb dX3_parse_268 ?_
                            refine lv_eqi (show (nI (d + 1) - 1) = nI d from nI_pred _) ?_
                            refine lv_iload hx hb dX3_parse_269 (lv_at hl 0 rfl) ?_
                            refine wx_iast hx hb hK hP hD hS 10 9 rfl rfl (i := d) (by omega) (by decide) dX3_parse_271 (fun H locs hP hD hS => ?_)
                            have hP : va_P D vwCl (wM h k tx sz im cm nw (nd1, kd1, pa1, be1, af1, mi1, np1, lf1, nm1, (d + 1), la1, (upd so1 d 2), ro1)) H := hP
                            have hD : va_D A (wM h k tx sz im cm nw (nd1, kd1, pa1, be1, af1, mi1, np1, lf1, nm1, (d + 1), la1, (upd so1 d 2), ro1)) := hD
                            refine lv_iload_n hx hb dX3_parse_272 rfl (lv_at hl 2 rfl) ?_
                            refine lv_iconst (v := 1) hx hb dX3_parse_273 (by decide) ?_
                            refine lv_iadd hx hb dX3_parse_274 ?_
                            refine lv_eqi (show (nI i1 + 1) = nI (i1 + 1) from nI_1 _) ?_
                            refine lv_istore_n (lv' := [(1, .int (nI (i1 + 1))), (4, .int 2), (3, .int (atF tx sz i1)), (2, .int (bI part)), (0, .ref (h 0))]) hx hb dX3_parse_275 rfl hl (by decide) rfl (fun ls hl => ?_)
                            refine lv_iconst (v := 1) hx hb dX3_parse_276 (by decide) ?_
                            refine lv_istore_n (lv' := [(2, .int 1), (1, .int (nI (i1 + 1))), (4, .int 2), (3, .int (atF tx sz i1)), (0, .ref (h 0))]) hx hb dX3_parse_277 rfl hl (by decide) rfl (fun ls hl => ?_)
                            refine lv_goto (tgt := 354) hx hb dX3_parse_278 (by decide) ?_
                            refine lv_goto (tgt := 21) hx hb dX3_parse_354 (by decide) ?_
                            have e_k : soK (atF tx sz i1) = 2 := by rw [soK, if_neg c_203]
                            have hlt := at_lt c_209 (by decide)
                            have e_t : t_turn tx sz (nd1, kd1, pa1, be1, af1, mi1, np1, lf1, nm1, (d + 1), la1, so1, ro1) d i1 part (atF tx sz i1) = .inl (t_sort (nd1, kd1, pa1, be1, af1, mi1, np1, lf1, nm1, (d + 1), la1, so1, ro1) d 2, i1 + 1, true) := by
                              rw [t_turn, if_neg (bF c_52), if_pos (Or.inr c_209)]
                              refine (if_neg (fun z9 => z9.2 (by rw [e_k]; exact c_252))).trans ?_
                              rw [e_k]
                            exact ih (i1 + 1) true (t_sort (nd1, kd1, pa1, be1, af1, mi1, np1, lf1, nm1, (d + 1), la1, so1, ro1) d 2) (okP_mono (okP_sort ok1) (Nat.le_succ _)) hlt (by omega) (by rw [← he2, e_t]; rfl) _ _ hP hD hS _ (lv_sub hl [0, 1, 4] rfl)
                          · have c_252 : ¬ (so1 d) = 2 := c_252
                            refine lv_iconst (v := -1) hx hb dX3_parse_255 (by decide) ?_
                            refine lv_iload_n hx hb dX3_parse_256 rfl (lv_at hl 2 rfl) ?_
                            refine lv_isub hx hb dX3_parse_257 ?_
                            have e_t : t_turn tx sz (nd1, kd1, pa1, be1, af1, mi1, np1, lf1, nm1, (d + 1), la1, so1, ro1) d i1 part (atF tx sz i1) = .inr ((nd1, kd1, pa1, be1, af1, mi1, np1, lf1, nm1, (d + 1), la1, so1, ro1), ((-1) - nI i1)) := by 
                              have e_k : soK (atF tx sz i1) = 2 := by rw [soK, if_neg c_203]
                              rw [t_turn, if_neg (bF c_52), if_pos (Or.inr c_209)]; exact if_pos ⟨c_236, by rw [e_k]; exact c_252⟩
                            have e_w : e_parse tx sz (0, kd, pa, be, af, mi, 0, lf, nm, 0, la, so, ro) = ((nd1, kd1, pa1, be1, af1, mi1, np1, lf1, nm1, (d + 1), la1, so1, ro1), ((-1) - nI i1)) := by rw [← he2, e_t]; rfl
                            exact ct_endi hx hb hr hlocks rfl hP hD hS (by rw [e_w]) (by rw [e_w]) dX3_parse_258
                      · have c_215 : (atF tx sz i1) = 124 := c_215
                        exact absurd c_215 c_203
                · have c_82 : part = true := (bI_ne0 _).mp c_82
                  exact absurd (c_52.symm.trans c_82) (by decide)
              · have c_52 : part = true := (bI_ne0 _).mp c_52
                refine lv_iload_n hx hb dX3_parse_55 rfl (lv_at hl 0 rfl) ?_
                refine lv_bipush (v := 40) hx hb dX3_parse_56 (by decide) ?_
                refine lv_icmp_ne (tgt := 81) hx hb dX3_parse_58 (by decide) (fun c_58 => ?_) (fun c_58 => ?_)
                · have c_58 : ¬ (atF tx sz i1) = 40 := c_58
                  refine lv_iload_n hx hb dX3_parse_81 rfl (lv_at hl 2 rfl) ?_
                  refine lv_if_eq (tgt := 200) hx hb dX3_parse_82 (by decide) (fun c_82 => ?_) (fun c_82 => ?_)
                  · have c_82 : part = false := (bI_eq0 _).mp c_82
                    exact absurd (c_52.symm.trans c_82) (by decide)
                  · have c_82 : part = true := (bI_ne0 _).mp c_82
                    refine lv_iload_n hx hb dX3_parse_85 rfl (lv_at hl 0 rfl) ?_
                    refine lv_bipush (v := 97) hx hb dX3_parse_86 (by decide) ?_
                    refine lv_icmp_lt (tgt := 97) hx hb dX3_parse_88 (by decide) (fun c_88 => ?_) (fun c_88 => ?_)
                    · have c_88 : (atF tx sz i1) < 97 := c_88
                      refine lv_iconst (v := -1) hx hb dX3_parse_97 (by decide) ?_
                      refine lv_iload_n hx hb dX3_parse_98 rfl (lv_at hl 1 rfl) ?_
                      refine lv_isub hx hb dX3_parse_99 ?_
                      have e_t : t_turn tx sz (nd1, kd1, pa1, be1, af1, mi1, np1, lf1, nm1, (d + 1), la1, so1, ro1) d i1 part (atF tx sz i1) = .inr ((nd1, kd1, pa1, be1, af1, mi1, np1, lf1, nm1, (d + 1), la1, so1, ro1), ((-1) - nI i1)) := by rw [t_turn, if_pos c_52, if_neg c_58, if_pos c_88]
                      have e_w : e_parse tx sz (0, kd, pa, be, af, mi, 0, lf, nm, 0, la, so, ro) = ((nd1, kd1, pa1, be1, af1, mi1, np1, lf1, nm1, (d + 1), la1, so1, ro1), ((-1) - nI i1)) := by rw [← he2, e_t]; rfl
                      exact ct_endi hx hb hr hlocks rfl hP hD hS (by rw [e_w]) (by rw [e_w]) dX3_parse_100
                    · have c_88 : ¬ (atF tx sz i1) < 97 := c_88
                      refine lv_iload_n hx hb dX3_parse_91 rfl (lv_at hl 0 rfl) ?_
                      refine lv_bipush (v := 122) hx hb dX3_parse_92 (by decide) ?_
                      refine lv_icmp_le (tgt := 101) hx hb dX3_parse_94 (by decide) (fun c_94 => ?_) (fun c_94 => ?_)
                      · have c_94 : (atF tx sz i1) ≤ 122 := c_94
                        refine lv_aload_n hx hb dX3_parse_101 rfl (lv_at hl 3 rfl) ?_
                        refine va_get (D := D) (ci := 3) (v := .int (nI np1)) (C := RX3) (T := TX3) (N := 18) hx hb hts (fun w h => lw_in w (inX3 w h)) hown hK hP 0 rfl rfl 8 (by decide) (hts _ (lw_in _ t_296)) (fun _ h9 => h9) rfl dX3_parse_102 ?_
                        refine lv_bipush (v := 60) hx hb dX3_parse_105 (by decide) ?_
                        refine lv_icmp_ne (tgt := 116) hx hb dX3_parse_107 (by decide) (fun c_107 => ?_) (fun c_107 => ?_)
                        · have c_107 : ¬ np1 = 60 := id (fun z => c_107 ((nI_eq (a := np1) (b := 60) (by omega) (by omega)).mpr z))
                          refine lv_aload_n hx hb dX3_parse_116 rfl (lv_at hl 3 rfl) ?_
                          refine lv_iconst (v := 0) hx hb dX3_parse_117 (by decide) ?_
                          refine ct_callV (As := [.int 0]) (rest := []) ⟨hx, hb, hml, hown, hts⟩ (k_E_node l D h k tx sz im cm nw nd1 kd1 pa1 be1 af1 mi1 np1 lf1 nm1 (d + 1) la1 so1 ro1 0  (by omega)) (cwV 1 hts (gV lw_in t_364 t_366 t_13 t_26 t_367) rfl rfl rfl (by decide +kernel) ⟨Nat.le_of_ble_eq_true rfl, Nat.le_of_ble_eq_true rfl⟩) 0 rfl rfl hK hP hD hS hA rfl hl.1 rfl (Nat.le_of_ble_eq_true rfl) dX3_parse_118 ⟨Nat.zero_le _, Nat.zero_le _⟩ (fun H locs hP hD hS => ?_)
                          refine W.eq (g2 := F0 m 121 ls [.int (nI nd1)]) rfl ?_
                          have hP : va_P D vwCl (wM h k tx sz im cm nw ((nd1 + 1), (upd kd1 nd1 0), (va_up pa1 nd1 none), (va_up be1 nd1 none), (va_up af1 nd1 none), (va_up mi1 nd1 (nkM 0)), np1, lf1, nm1, (d + 1), la1, so1, ro1)) H := hP
                          have hD : va_D A (wM h k tx sz im cm nw ((nd1 + 1), (upd kd1 nd1 0), (va_up pa1 nd1 none), (va_up be1 nd1 none), (va_up af1 nd1 none), (va_up mi1 nd1 (nkM 0)), np1, lf1, nm1, (d + 1), la1, so1, ro1)) := hD
                          refine lv_istore (lv' := [(4, .int (nI nd1)), (3, .int (atF tx sz i1)), (1, .int (nI i1)), (2, .int (bI part)), (0, .ref (h 0))]) hx hb dX3_parse_121 hl (by decide) rfl (fun ls hl => ?_)
                          refine lv_aload_n hx hb dX3_parse_123 rfl (lv_at hl 4 rfl) ?_
                          refine va_get (D := D) (ci := 3) (v := .ref (h 7)) (C := RX3) (T := TX3) (N := 18) hx hb hts (fun w h => lw_in w (inX3 w h)) hown hK hP 0 rfl rfl 9 (by decide) (hts _ (lw_in _ t_297)) (fun _ h9 => h9) rfl dX3_parse_124 ?_
                          refine lv_aload_n hx hb dX3_parse_127 rfl (lv_at hl 4 rfl) ?_
                          refine va_get (D := D) (ci := 3) (v := .int (nI np1)) (C := RX3) (T := TX3) (N := 18) hx hb hts (fun w h => lw_in w (inX3 w h)) hown hK hP 0 rfl rfl 8 (by decide) (hts _ (lw_in _ t_296)) (fun _ h9 => h9) rfl dX3_parse_128 ?_
                          refine lv_iload hx hb dX3_parse_131 (lv_at hl 0 rfl) ?_
                          refine wx_nast (x := nd1) (g := lf1) hx hb hK hP hD hS 7 6 rfl rfl (i := np1) (Nat.lt_of_le_of_ne hnp c_107) (by decide) dX3_parse_133 (fun H locs hP hD hS => ?_)
                          have hP : va_P D vwCl (wM h k tx sz im cm nw ((nd1 + 1), (upd kd1 nd1 0), (va_up pa1 nd1 none), (va_up be1 nd1 none), (va_up af1 nd1 none), (va_up mi1 nd1 (nkM 0)), np1, (va_up lf1 np1 nd1), nm1, (d + 1), la1, so1, ro1)) H := hP
                          have hD : va_D A (wM h k tx sz im cm nw ((nd1 + 1), (upd kd1 nd1 0), (va_up pa1 nd1 none), (va_up be1 nd1 none), (va_up af1 nd1 none), (va_up mi1 nd1 (nkM 0)), np1, (va_up lf1 np1 nd1), nm1, (d + 1), la1, so1, ro1)) := hD
                          refine lv_aload_n hx hb dX3_parse_134 rfl (lv_at hl 4 rfl) ?_
                          refine va_get (D := D) (ci := 3) (v := .ref (h 8)) (C := RX3) (T := TX3) (N := 18) hx hb hts (fun w h => lw_in w (inX3 w h)) hown hK hP 0 rfl rfl 10 (by decide) (hts _ (lw_in _ t_298)) (fun _ h9 => h9) rfl dX3_parse_135 ?_
                          refine lv_aload_n hx hb dX3_parse_138 rfl (lv_at hl 4 rfl) ?_
                          refine va_get (D := D) (ci := 3) (v := .int (nI np1)) (C := RX3) (T := TX3) (N := 18) hx hb hts (fun w h => lw_in w (inX3 w h)) hown hK hP 0 rfl rfl 8 (by decide) (hts _ (lw_in _ t_296)) (fun _ h9 => h9) rfl dX3_parse_139 ?_
                          refine lv_iload_n hx hb dX3_parse_142 rfl (lv_at hl 1 rfl) ?_
                          refine lv_bipush (v := 97) hx hb dX3_parse_143 (by decide) ?_
                          refine lv_isub hx hb dX3_parse_145 ?_
                          refine wx_iast hx hb hK hP hD hS 8 7 rfl rfl (i := np1) (Nat.lt_of_le_of_ne hnp c_107) (by decide) dX3_parse_146 (fun H locs hP hD hS => ?_)
                          have hP : va_P D vwCl (wM h k tx sz im cm nw ((nd1 + 1), (upd kd1 nd1 0), (va_up pa1 nd1 none), (va_up be1 nd1 none), (va_up af1 nd1 none), (va_up mi1 nd1 (nkM 0)), np1, (va_up lf1 np1 nd1), (upd nm1 np1 ((atF tx sz i1) - 97)), (d + 1), la1, so1, ro1)) H := hP
                          have hD : va_D A (wM h k tx sz im cm nw ((nd1 + 1), (upd kd1 nd1 0), (va_up pa1 nd1 none), (va_up be1 nd1 none), (va_up af1 nd1 none), (va_up mi1 nd1 (nkM 0)), np1, (va_up lf1 np1 nd1), (upd nm1 np1 ((atF tx sz i1) - 97)), (d + 1), la1, so1, ro1)) := hD
                          refine lv_aload_n hx hb dX3_parse_147 rfl (lv_at hl 4 rfl) ?_
                          refine lv_aload_n hx hb dX3_parse_148 rfl (lv_at hl 4 rfl) ?_
                          refine va_get (D := D) (ci := 3) (v := .int (nI np1)) (C := RX3) (T := TX3) (N := 18) hx hb hts (fun w h => lw_in w (inX3 w h)) hown hK hP 0 rfl rfl 8 (by decide) (hts _ (lw_in _ t_296)) (fun _ h9 => h9) rfl dX3_parse_149 ?_
                          refine lv_iconst (v := 1) hx hb dX3_parse_152 (by decide) ?_
                          refine lv_iadd hx hb dX3_parse_153 ?_
                          refine lv_eqi (show (nI np1 + 1) = nI (np1 + 1) from nI_1 _) ?_
                          refine va_put (D := D) (ci := 3) (v := .int (nI (np1 + 1))) (ty := .int) (C := RX3) (T := TX3) (N := 18) hx hb hts (fun w h => lw_in w (inX3 w h)) tyX3 tyX3_ok nmX3 hown hK hP hD hS 0 rfl rfl 8 (by decide) (hts _ (lw_in _ t_296)) (fun _ h9 => h9) rfl (by decide +kernel) rfl rfl (Nat.le_of_ble_eq_true rfl) dX3_parse_154 (fun H locs hP hD hS => ?_)
                          have hP : va_P D vwCl (wM h k tx sz im cm nw ((nd1 + 1), (upd kd1 nd1 0), (va_up pa1 nd1 none), (va_up be1 nd1 none), (va_up af1 nd1 none), (va_up mi1 nd1 (nkM 0)), (np1 + 1), (va_up lf1 np1 nd1), (upd nm1 np1 ((atF tx sz i1) - 97)), (d + 1), la1, so1, ro1)) H := hP
                          have hD : va_D A (wM h k tx sz im cm nw ((nd1 + 1), (upd kd1 nd1 0), (va_up pa1 nd1 none), (va_up be1 nd1 none), (va_up af1 nd1 none), (va_up mi1 nd1 (nkM 0)), (np1 + 1), (va_up lf1 np1 nd1), (upd nm1 np1 ((atF tx sz i1) - 97)), (d + 1), la1, so1, ro1)) := hD
                          refine lv_iload_n hx hb dX3_parse_157 rfl (lv_at hl 2 rfl) ?_
                          refine lv_iconst (v := 1) hx hb dX3_parse_158 (by decide) ?_
                          refine lv_iadd hx hb dX3_parse_159 ?_
                          refine lv_eqi (show (nI i1 + 1) = nI (i1 + 1) from nI_1 _) ?_
                          refine lv_istore_n (lv' := [(1, .int (nI (i1 + 1))), (4, .int (nI nd1)), (3, .int (atF tx sz i1)), (2, .int (bI part)), (0, .ref (h 0))]) hx hb dX3_parse_160 rfl hl (by decide) rfl (fun ls hl => ?_)
                          refine lv_aload_n hx hb dX3_parse_161 rfl (lv_at hl 4 rfl) ?_
                          refine lv_iload_n hx hb dX3_parse_162 rfl (lv_at hl 0 rfl) ?_
                          refine ct_callV (As := [.int (nI (i1 + 1))]) (rest := []) ⟨hx, hb, hml, hown, hts⟩ (k_E_at l D h k tx sz im cm nw ((nd1 + 1), (upd kd1 nd1 0), (va_up pa1 nd1 none), (va_up be1 nd1 none), (va_up af1 nd1 none), (va_up mi1 nd1 (nkM 0)), (np1 + 1), (va_up lf1 np1 nd1), (upd nm1 np1 ((atF tx sz i1) - 97)), (d + 1), la1, so1, ro1) (i1 + 1)  hsz (by omega)) (cwV 1 hts (gV lw_in t_356 t_358 t_11 t_26 t_359) rfl rfl rfl (by decide +kernel) ⟨Nat.le_of_ble_eq_true rfl, Nat.le_of_ble_eq_true rfl⟩) 0 rfl rfl hK hP hD hS hA rfl hl.1 rfl (Nat.le_of_ble_eq_true rfl) dX3_parse_163 ⟨Nat.zero_le _, Nat.zero_le _⟩ (fun H locs hP hD hS => ?_)
                          refine W.eq (g2 := F0 m 166 ls [.int (atF tx sz (i1 + 1))]) rfl ?_
                          refine ct_callS (As := [.int (atF tx sz (i1 + 1))]) (rest := []) ⟨hx, hb, hml, hown, hts⟩ (k_E_isSign l D h k tx sz im cm nw ((nd1 + 1), (upd kd1 nd1 0), (va_up pa1 nd1 none), (va_up be1 nd1 none), (va_up af1 nd1 none), (va_up mi1 nd1 (nkM 0)), (np1 + 1), (va_up lf1 np1 nd1), (upd nm1 np1 ((atF tx sz i1) - 97)), (d + 1), la1, so1, ro1) (atF tx sz (i1 + 1))) (cwS 1 hts (gS lw_in t_368 t_369 t_26 t_370) rfl rfl rfl (by decide +kernel) ⟨Nat.le_of_ble_eq_true rfl, Nat.le_of_ble_eq_true rfl⟩) hK hP hD hS hA rfl hl.1 rfl (Nat.le_of_ble_eq_true rfl) dX3_parse_166 ⟨Nat.zero_le _, Nat.zero_le _⟩ (fun H locs hP hD hS => ?_)
                          refine W.eq (g2 := F0 m 169 ls [.int (bI (r_isSign (atF tx sz (i1 + 1))))]) rfl ?_
                          refine lv_if_eq (tgt := 189) hx hb dX3_parse_169 (by decide) (fun c_169 => ?_) (fun c_169 => ?_)
                          · have c_169 : (r_isSign (atF tx sz (i1 + 1))) = false := (bI_eq0 _).mp c_169
                            refine lv_aload_n hx hb dX3_parse_189 rfl (lv_at hl 4 rfl) ?_
                            refine lv_iload hx hb dX3_parse_190 (lv_at hl 1 rfl) ?_
                            refine ct_callV (As := [.int (nI nd1)]) (rest := []) ⟨hx, hb, hml, hown, hts⟩ (k_E_add l D h k tx sz im cm nw (nd1 + 1) (upd kd1 nd1 0) (va_up pa1 nd1 none) (va_up be1 nd1 none) (va_up af1 nd1 none) (va_up mi1 nd1 (nkM 0)) (np1 + 1) (va_up lf1 np1 nd1) (upd nm1 np1 ((atF tx sz i1) - 97)) d la1 so1 ro1 nd1  (by omega) (by omega) (fun w0 hw => by have := ok.2.2.2.1 d w0 (by simp only; omega) hw; simp only at this; omega)) (cwV 1 hts (gV lw_in t_375 t_377 t_15 t_26 t_378) rfl rfl rfl (by decide +kernel) ⟨Nat.le_of_ble_eq_true rfl, Nat.le_of_ble_eq_true rfl⟩) 0 rfl rfl hK hP hD hS hA rfl hl.1 rfl (Nat.le_of_ble_eq_true rfl) dX3_parse_192 ⟨Nat.zero_le _, Nat.zero_le _⟩ (fun H locs hP hD hS => ?_)
                            refine W.eq (g2 := F0 m 195 ls []) rfl ?_
                            have hP : va_P D vwCl (wM h k tx sz im cm nw ((nd1 + 1), (upd kd1 nd1 0), (va_up pa1 nd1 none), (va_up (va_up be1 nd1 none) nd1 (la1 d)), (afA (va_up af1 nd1 none) (la1 d) nd1), (va_up mi1 nd1 (nkM 0)), (np1 + 1), (va_up lf1 np1 nd1), (upd nm1 np1 ((atF tx sz i1) - 97)), (d + 1), (va_up la1 d (some nd1)), so1, ro1)) H := hP
                            have hD : va_D A (wM h k tx sz im cm nw ((nd1 + 1), (upd kd1 nd1 0), (va_up pa1 nd1 none), (va_up (va_up be1 nd1 none) nd1 (la1 d)), (afA (va_up af1 nd1 none) (la1 d) nd1), (va_up mi1 nd1 (nkM 0)), (np1 + 1), (va_up lf1 np1 nd1), (upd nm1 np1 ((atF tx sz i1) - 97)), (d + 1), (va_up la1 d (some nd1)), so1, ro1)) := hD
                            refine lv_iconst (v := 0) hx hb dX3_parse_195 (by decide) ?_
                            refine lv_istore_n (lv' := [(2, .int 0), (1, .int (nI (i1 + 1))), (4, .int (nI nd1)), (3, .int (atF tx sz i1)), (0, .ref (h 0))]) hx hb dX3_parse_196 rfl hl (by decide) rfl (fun ls hl => ?_)
                            refine lv_goto (tgt := 354) hx hb dX3_parse_197 (by decide) ?_
                            refine lv_goto (tgt := 21) hx hb dX3_parse_354 (by decide) ?_
                            have hlt := at_ge c_88
                            have e_t : t_turn tx sz (nd1, kd1, pa1, be1, af1, mi1, np1, lf1, nm1, (d + 1), la1, so1, ro1) d i1 part (atF tx sz i1) = .inl ((t_name tx sz (nd1, kd1, pa1, be1, af1, mi1, np1, lf1, nm1, (d + 1), la1, so1, ro1) d i1 (atF tx sz i1)).1, (t_name tx sz (nd1, kd1, pa1, be1, af1, mi1, np1, lf1, nm1, (d + 1), la1, so1, ro1) d i1 (atF tx sz i1)).2, false) := by rw [t_turn, if_pos c_52, if_neg c_58, if_neg c_88, if_neg (Int32.not_lt.mpr c_94)]; exact if_neg c_107
                            have e_n : t_name tx sz (nd1, kd1, pa1, be1, af1, mi1, np1, lf1, nm1, (d + 1), la1, so1, ro1) d i1 (atF tx sz i1) = (((nd1 + 1), (upd kd1 nd1 0), (va_up pa1 nd1 none), (va_up (va_up be1 nd1 none) nd1 (la1 d)), (afA (va_up af1 nd1 none) (la1 d) nd1), (va_up mi1 nd1 (nkM 0)), (np1 + 1), (va_up lf1 np1 nd1), (upd nm1 np1 ((atF tx sz i1) - 97)), (d + 1), (va_up la1 d (some nd1)), so1, ro1), (i1 + 1)) := by
                              simp only [t_name, t_part]
                              rw [if_neg (bF c_169)]
                              rfl
                            have okn := okP_name (tx := tx) (sz := sz) (d := d) (c := atF tx sz i1) ok1 rfl (Nat.lt_of_le_of_ne hnp c_107) hlt
                            rw [e_n] at e_t okn
                            exact ih (i1 + 1) false ((nd1 + 1), (upd kd1 nd1 0), (va_up pa1 nd1 none), (va_up (va_up be1 nd1 none) nd1 (la1 d)), (afA (va_up af1 nd1 none) (la1 d) nd1), (va_up mi1 nd1 (nkM 0)), (np1 + 1), (va_up lf1 np1 nd1), (upd nm1 np1 ((atF tx sz i1) - 97)), (d + 1), (va_up la1 d (some nd1)), so1, ro1) okn.1 okn.2.1 (by have := okn.2.2; simp only at this; omega) (by rw [← he2, e_t]; rfl) _ _ hP hD hS _ (lv_sub hl [0, 1, 4] rfl)
                          · have c_169 : (r_isSign (atF tx sz (i1 + 1))) = true := (bI_ne0 _).mp c_169
                            refine lv_aload_n hx hb dX3_parse_172 rfl (lv_at hl 4 rfl) ?_
                            refine lv_iload hx hb dX3_parse_173 (lv_at hl 1 rfl) ?_
                            refine lv_aload_n hx hb dX3_parse_175 rfl (lv_at hl 4 rfl) ?_
                            refine lv_iload_n hx hb dX3_parse_176 rfl (lv_at hl 0 rfl) ?_
                            refine ct_callV (As := [.int (nI (i1 + 1))]) (rest := [.int (nI nd1), .ref (h 0)]) ⟨hx, hb, hml, hown, hts⟩ (k_E_at l D h k tx sz im cm nw ((nd1 + 1), (upd kd1 nd1 0), (va_up pa1 nd1 none), (va_up be1 nd1 none), (va_up af1 nd1 none), (va_up mi1 nd1 (nkM 0)), (np1 + 1), (va_up lf1 np1 nd1), (upd nm1 np1 ((atF tx sz i1) - 97)), (d + 1), la1, so1, ro1) (i1 + 1)  hsz (by omega)) (cwV 1 hts (gV lw_in t_356 t_358 t_11 t_26 t_359) rfl rfl rfl (by decide +kernel) ⟨Nat.le_of_ble_eq_true rfl, Nat.le_of_ble_eq_true rfl⟩) 0 rfl rfl hK hP hD hS hA rfl hl.1 rfl (Nat.le_of_ble_eq_true rfl) dX3_parse_177 ⟨Nat.zero_le _, Nat.zero_le _⟩ (fun H locs hP hD hS => ?_)
                            refine W.eq (g2 := F0 m 180 ls [.int (atF tx sz (i1 + 1)), .int (nI nd1), .ref (h 0)]) rfl ?_
                            refine ct_callV (As := [.int (nI nd1), .int (atF tx sz (i1 + 1))]) (rest := []) ⟨hx, hb, hml, hown, hts⟩ (k_E_signed l D h k tx sz im cm nw (nd1 + 1) (upd kd1 nd1 0) (va_up pa1 nd1 none) (va_up be1 nd1 none) (va_up af1 nd1 none) (va_up mi1 nd1 (nkM 0)) (np1 + 1) (va_up lf1 np1 nd1) (upd nm1 np1 ((atF tx sz i1) - 97)) (d + 1) la1 so1 ro1 nd1 (atF tx sz (i1 + 1))  (by omega) (by omega)) (cwV 2 hts (gV lw_in t_371 t_373 t_14 t_26 t_374) rfl rfl rfl (by decide +kernel) ⟨Nat.le_of_ble_eq_true rfl, Nat.le_of_ble_eq_true rfl⟩) 0 rfl rfl hK hP hD hS hA rfl hl.1 rfl (Nat.le_of_ble_eq_true rfl) dX3_parse_180 ⟨Nat.zero_le _, Nat.zero_le _⟩ (fun H locs hP hD hS => ?_)
                            refine W.eq (g2 := F0 m 183 ls [.int (nI (nd1 + 1))]) rfl ?_
                            have hP : va_P D vwCl (wM h k tx sz im cm nw (((nd1 + 1) + 1), (upd (upd kd1 nd1 0) (nd1 + 1) (sgK (atF tx sz (i1 + 1)))), (va_up (va_up (va_up pa1 nd1 none) (nd1 + 1) none) nd1 (some (nd1 + 1))), (va_up (va_up be1 nd1 none) (nd1 + 1) none), (va_up (va_up af1 nd1 none) (nd1 + 1) none), (sgM (va_up (va_up mi1 nd1 (nkM 0)) (nd1 + 1) (nkM (sgK (atF tx sz (i1 + 1))))) (nd1 + 1) nd1 (atF tx sz (i1 + 1))), (np1 + 1), (va_up lf1 np1 nd1), (upd nm1 np1 ((atF tx sz i1) - 97)), (d + 1), la1, so1, ro1)) H := hP
                            have hD : va_D A (wM h k tx sz im cm nw (((nd1 + 1) + 1), (upd (upd kd1 nd1 0) (nd1 + 1) (sgK (atF tx sz (i1 + 1)))), (va_up (va_up (va_up pa1 nd1 none) (nd1 + 1) none) nd1 (some (nd1 + 1))), (va_up (va_up be1 nd1 none) (nd1 + 1) none), (va_up (va_up af1 nd1 none) (nd1 + 1) none), (sgM (va_up (va_up mi1 nd1 (nkM 0)) (nd1 + 1) (nkM (sgK (atF tx sz (i1 + 1))))) (nd1 + 1) nd1 (atF tx sz (i1 + 1))), (np1 + 1), (va_up lf1 np1 nd1), (upd nm1 np1 ((atF tx sz i1) - 97)), (d + 1), la1, so1, ro1)) := hD
                            refine lv_istore (lv' := [(4, .int (nI (nd1 + 1))), (1, .int (nI (i1 + 1))), (3, .int (atF tx sz i1)), (2, .int (bI part)), (0, .ref (h 0))]) hx hb dX3_parse_183 hl (by decide) rfl (fun ls hl => ?_)
                            refine lv_iload_n hx hb dX3_parse_185 rfl (lv_at hl 1 rfl) ?_
                            refine lv_iconst (v := 1) hx hb dX3_parse_186 (by decide) ?_
                            refine lv_iadd hx hb dX3_parse_187 ?_
                            refine lv_eqi (show (nI (i1 + 1) + 1) = nI ((i1 + 1) + 1) from nI_1 _) ?_
                            refine lv_istore_n (lv' := [(1, .int (nI ((i1 + 1) + 1))), (4, .int (nI (nd1 + 1))), (3, .int (atF tx sz i1)), (2, .int (bI part)), (0, .ref (h 0))]) hx hb dX3_parse_188 rfl hl (by decide) rfl (fun ls hl => ?_)
                            refine lv_aload_n hx hb dX3_parse_189 rfl (lv_at hl 4 rfl) ?_
                            refine lv_iload hx hb dX3_parse_190 (lv_at hl 1 rfl) ?_
                            refine ct_callV (As := [.int (nI (nd1 + 1))]) (rest := []) ⟨hx, hb, hml, hown, hts⟩ (k_E_add l D h k tx sz im cm nw ((nd1 + 1) + 1) (upd (upd kd1 nd1 0) (nd1 + 1) (sgK (atF tx sz (i1 + 1)))) (va_up (va_up (va_up pa1 nd1 none) (nd1 + 1) none) nd1 (some (nd1 + 1))) (va_up (va_up be1 nd1 none) (nd1 + 1) none) (va_up (va_up af1 nd1 none) (nd1 + 1) none) (sgM (va_up (va_up mi1 nd1 (nkM 0)) (nd1 + 1) (nkM (sgK (atF tx sz (i1 + 1))))) (nd1 + 1) nd1 (atF tx sz (i1 + 1))) (np1 + 1) (va_up lf1 np1 nd1) (upd nm1 np1 ((atF tx sz i1) - 97)) d la1 so1 ro1 (nd1 + 1)  (by omega) (by omega) (fun w0 hw => by have := ok.2.2.2.1 d w0 (by simp only; omega) hw; simp only at this; omega)) (cwV 1 hts (gV lw_in t_375 t_377 t_15 t_26 t_378) rfl rfl rfl (by decide +kernel) ⟨Nat.le_of_ble_eq_true rfl, Nat.le_of_ble_eq_true rfl⟩) 0 rfl rfl hK hP hD hS hA rfl hl.1 rfl (Nat.le_of_ble_eq_true rfl) dX3_parse_192 ⟨Nat.zero_le _, Nat.zero_le _⟩ (fun H locs hP hD hS => ?_)
                            refine W.eq (g2 := F0 m 195 ls []) rfl ?_
                            have hP : va_P D vwCl (wM h k tx sz im cm nw (((nd1 + 1) + 1), (upd (upd kd1 nd1 0) (nd1 + 1) (sgK (atF tx sz (i1 + 1)))), (va_up (va_up (va_up pa1 nd1 none) (nd1 + 1) none) nd1 (some (nd1 + 1))), (va_up (va_up (va_up be1 nd1 none) (nd1 + 1) none) (nd1 + 1) (la1 d)), (afA (va_up (va_up af1 nd1 none) (nd1 + 1) none) (la1 d) (nd1 + 1)), (sgM (va_up (va_up mi1 nd1 (nkM 0)) (nd1 + 1) (nkM (sgK (atF tx sz (i1 + 1))))) (nd1 + 1) nd1 (atF tx sz (i1 + 1))), (np1 + 1), (va_up lf1 np1 nd1), (upd nm1 np1 ((atF tx sz i1) - 97)), (d + 1), (va_up la1 d (some (nd1 + 1))), so1, ro1)) H := hP
                            have hD : va_D A (wM h k tx sz im cm nw (((nd1 + 1) + 1), (upd (upd kd1 nd1 0) (nd1 + 1) (sgK (atF tx sz (i1 + 1)))), (va_up (va_up (va_up pa1 nd1 none) (nd1 + 1) none) nd1 (some (nd1 + 1))), (va_up (va_up (va_up be1 nd1 none) (nd1 + 1) none) (nd1 + 1) (la1 d)), (afA (va_up (va_up af1 nd1 none) (nd1 + 1) none) (la1 d) (nd1 + 1)), (sgM (va_up (va_up mi1 nd1 (nkM 0)) (nd1 + 1) (nkM (sgK (atF tx sz (i1 + 1))))) (nd1 + 1) nd1 (atF tx sz (i1 + 1))), (np1 + 1), (va_up lf1 np1 nd1), (upd nm1 np1 ((atF tx sz i1) - 97)), (d + 1), (va_up la1 d (some (nd1 + 1))), so1, ro1)) := hD
                            refine lv_iconst (v := 0) hx hb dX3_parse_195 (by decide) ?_
                            refine lv_istore_n (lv' := [(2, .int 0), (1, .int (nI ((i1 + 1) + 1))), (4, .int (nI (nd1 + 1))), (3, .int (atF tx sz i1)), (0, .ref (h 0))]) hx hb dX3_parse_196 rfl hl (by decide) rfl (fun ls hl => ?_)
                            refine lv_goto (tgt := 354) hx hb dX3_parse_197 (by decide) ?_
                            refine lv_goto (tgt := 21) hx hb dX3_parse_354 (by decide) ?_
                            have hlt := at_ge c_88
                            have e_t : t_turn tx sz (nd1, kd1, pa1, be1, af1, mi1, np1, lf1, nm1, (d + 1), la1, so1, ro1) d i1 part (atF tx sz i1) = .inl ((t_name tx sz (nd1, kd1, pa1, be1, af1, mi1, np1, lf1, nm1, (d + 1), la1, so1, ro1) d i1 (atF tx sz i1)).1, (t_name tx sz (nd1, kd1, pa1, be1, af1, mi1, np1, lf1, nm1, (d + 1), la1, so1, ro1) d i1 (atF tx sz i1)).2, false) := by rw [t_turn, if_pos c_52, if_neg c_58, if_neg c_88, if_neg (Int32.not_lt.mpr c_94)]; exact if_neg c_107
                            have e_n : t_name tx sz (nd1, kd1, pa1, be1, af1, mi1, np1, lf1, nm1, (d + 1), la1, so1, ro1) d i1 (atF tx sz i1) = ((((nd1 + 1) + 1), (upd (upd kd1 nd1 0) (nd1 + 1) (sgK (atF tx sz (i1 + 1)))), (va_up (va_up (va_up pa1 nd1 none) (nd1 + 1) none) nd1 (some (nd1 + 1))), (va_up (va_up (va_up be1 nd1 none) (nd1 + 1) none) (nd1 + 1) (la1 d)), (afA (va_up (va_up af1 nd1 none) (nd1 + 1) none) (la1 d) (nd1 + 1)), (sgM (va_up (va_up mi1 nd1 (nkM 0)) (nd1 + 1) (nkM (sgK (atF tx sz (i1 + 1))))) (nd1 + 1) nd1 (atF tx sz (i1 + 1))), (np1 + 1), (va_up lf1 np1 nd1), (upd nm1 np1 ((atF tx sz i1) - 97)), (d + 1), (va_up la1 d (some (nd1 + 1))), so1, ro1), ((i1 + 1) + 1)) := by
                              simp only [t_name, t_part]
                              rw [if_pos c_169]
                              rfl
                            have okn := okP_name (tx := tx) (sz := sz) (d := d) (c := atF tx sz i1) ok1 rfl (Nat.lt_of_le_of_ne hnp c_107) hlt
                            rw [e_n] at e_t okn
                            exact ih ((i1 + 1) + 1) false (((nd1 + 1) + 1), (upd (upd kd1 nd1 0) (nd1 + 1) (sgK (atF tx sz (i1 + 1)))), (va_up (va_up (va_up pa1 nd1 none) (nd1 + 1) none) nd1 (some (nd1 + 1))), (va_up (va_up (va_up be1 nd1 none) (nd1 + 1) none) (nd1 + 1) (la1 d)), (afA (va_up (va_up af1 nd1 none) (nd1 + 1) none) (la1 d) (nd1 + 1)), (sgM (va_up (va_up mi1 nd1 (nkM 0)) (nd1 + 1) (nkM (sgK (atF tx sz (i1 + 1))))) (nd1 + 1) nd1 (atF tx sz (i1 + 1))), (np1 + 1), (va_up lf1 np1 nd1), (upd nm1 np1 ((atF tx sz i1) - 97)), (d + 1), (va_up la1 d (some (nd1 + 1))), so1, ro1) okn.1 okn.2.1 (by have := okn.2.2; simp only at this; omega) (by rw [← he2, e_t]; rfl) _ _ hP hD hS _ (lv_sub hl [0, 1, 4] rfl)
                        · have c_107 : np1 = 60 := (nI_eq (a := np1) (b := 60) (by omega) (by omega)).mp c_107
                          refine lv_sipush (v := -1000) hx hb dX3_parse_110 (by decide) ?_
                          refine lv_iload_n hx hb dX3_parse_113 rfl (lv_at hl 1 rfl) ?_
                          refine lv_isub hx hb dX3_parse_114 ?_
                          have e_t : t_turn tx sz (nd1, kd1, pa1, be1, af1, mi1, np1, lf1, nm1, (d + 1), la1, so1, ro1) d i1 part (atF tx sz i1) = .inr ((nd1, kd1, pa1, be1, af1, mi1, np1, lf1, nm1, (d + 1), la1, so1, ro1), ((-1000) - nI i1)) := by rw [t_turn, if_pos c_52, if_neg c_58, if_neg c_88, if_neg (Int32.not_lt.mpr c_94)]; exact if_pos c_107
                          have e_w : e_parse tx sz (0, kd, pa, be, af, mi, 0, lf, nm, 0, la, so, ro) = ((nd1, kd1, pa1, be1, af1, mi1, np1, lf1, nm1, (d + 1), la1, so1, ro1), ((-1000) - nI i1)) := by rw [← he2, e_t]; rfl
                          exact ct_endi hx hb hr hlocks rfl hP hD hS (by rw [e_w]) (by rw [e_w]) dX3_parse_115
                      · have c_94 : ¬ (atF tx sz i1) ≤ 122 := c_94
                        refine lv_iconst (v := -1) hx hb dX3_parse_97 (by decide) ?_
                        refine lv_iload_n hx hb dX3_parse_98 rfl (lv_at hl 1 rfl) ?_
                        refine lv_isub hx hb dX3_parse_99 ?_
                        have e_t : t_turn tx sz (nd1, kd1, pa1, be1, af1, mi1, np1, lf1, nm1, (d + 1), la1, so1, ro1) d i1 part (atF tx sz i1) = .inr ((nd1, kd1, pa1, be1, af1, mi1, np1, lf1, nm1, (d + 1), la1, so1, ro1), ((-1) - nI i1)) := by rw [t_turn, if_pos c_52, if_neg c_58, if_neg c_88, if_pos (Int32.not_le.mp c_94)]
                        have e_w : e_parse tx sz (0, kd, pa, be, af, mi, 0, lf, nm, 0, la, so, ro) = ((nd1, kd1, pa1, be1, af1, mi1, np1, lf1, nm1, (d + 1), la1, so1, ro1), ((-1) - nI i1)) := by rw [← he2, e_t]; rfl
                        exact ct_endi hx hb hr hlocks rfl hP hD hS (by rw [e_w]) (by rw [e_w]) dX3_parse_100
                · have c_58 : (atF tx sz i1) = 40 := c_58
                  refine lv_aload_n hx hb dX3_parse_61 rfl (lv_at hl 3 rfl) ?_
                  refine ct_callV (As := []) (rest := []) ⟨hx, hb, hml, hown, hts⟩ (k_E_open l D h k tx sz im cm nw nd1 kd1 pa1 be1 af1 mi1 np1 lf1 nm1 (d + 1) la1 so1 ro1   (by omega)) (cwV 0 hts (gV lw_in t_360 t_362 t_12 t_26 t_363) rfl rfl rfl (by decide +kernel) ⟨Nat.le_of_ble_eq_true rfl, Nat.le_of_ble_eq_true rfl⟩) 0 rfl rfl hK hP hD hS hA rfl hl.1 rfl (Nat.le_of_ble_eq_true rfl) dX3_parse_62 ⟨Nat.zero_le _, Nat.zero_le _⟩ (fun H locs hP hD hS => ?_)
                  refine W.eq (g2 := F0 m 65 ls [.int (bI (decide (¬ (d + 1) = 12)))]) rfl ?_
                  have hP : va_P D vwCl (wM h k tx sz im cm nw (if (d + 1) = 12 then (nd1, kd1, pa1, be1, af1, mi1, np1, lf1, nm1, (d + 1), la1, so1, ro1) else t_open (nd1, kd1, pa1, be1, af1, mi1, np1, lf1, nm1, (d + 1), la1, so1, ro1))) H := hP
                  have hD : va_D A (wM h k tx sz im cm nw (if (d + 1) = 12 then (nd1, kd1, pa1, be1, af1, mi1, np1, lf1, nm1, (d + 1), la1, so1, ro1) else t_open (nd1, kd1, pa1, be1, af1, mi1, np1, lf1, nm1, (d + 1), la1, so1, ro1))) := hD
                  refine lv_if_ne (tgt := 74) hx hb dX3_parse_65 (by decide) (fun c_65 => ?_) (fun c_65 => ?_)
                  · have c_65 : (decide (¬ (d + 1) = 12)) = true := (bI_ne0 _).mp c_65
                    have c_65 : ¬ d + 1 = 12 := of_decide_eq_true c_65
                    rw [if_neg c_65] at hP hD
                    refine lv_iload_n hx hb dX3_parse_74 rfl (lv_at hl 1 rfl) ?_
                    refine lv_iconst (v := 1) hx hb dX3_parse_75 (by decide) ?_
                    refine lv_iadd hx hb dX3_parse_76 ?_
                    refine lv_eqi (show (nI i1 + 1) = nI (i1 + 1) from nI_1 _) ?_
                    refine lv_istore_n (lv' := [(1, .int (nI (i1 + 1))), (3, .int (atF tx sz i1)), (2, .int (bI part)), (0, .ref (h 0))]) hx hb dX3_parse_77 rfl hl (by decide) rfl (fun ls hl => ?_)
                    refine lv_goto (tgt := 354) hx hb dX3_parse_78 (by decide) ?_
                    refine lv_goto (tgt := 21) hx hb dX3_parse_354 (by decide) ?_
                    have hlt := at_lt c_58 (by decide)
                    have e_t : t_turn tx sz (nd1, kd1, pa1, be1, af1, mi1, np1, lf1, nm1, (d + 1), la1, so1, ro1) d i1 part (atF tx sz i1) = .inl (t_open (nd1, kd1, pa1, be1, af1, mi1, np1, lf1, nm1, (d + 1), la1, so1, ro1), i1 + 1, true) := by rw [t_turn, if_pos c_52, if_pos c_58, if_neg c_65]
                    exact ih (i1 + 1) part (t_open (nd1, kd1, pa1, be1, af1, mi1, np1, lf1, nm1, (d + 1), la1, so1, ro1)) (okP_mono (okP_open ok1 c_65) (Nat.le_succ _)) hlt (by omega) (by rw [← he2, e_t, c_52]; rfl) _ _ hP hD hS _ (lv_sub hl [2, 0, 3] rfl)
                  · have c_65 : (decide (¬ (d + 1) = 12)) = false := (bI_eq0 _).mp c_65
                    have c_65 : d + 1 = 12 := by simpa using c_65
                    rw [if_pos c_65] at hP hD
                    refine lv_sipush (v := -1000) hx hb dX3_parse_68 (by decide) ?_
                    refine lv_iload_n hx hb dX3_parse_71 rfl (lv_at hl 1 rfl) ?_
                    refine lv_isub hx hb dX3_parse_72 ?_
                    have e_t : t_turn tx sz (nd1, kd1, pa1, be1, af1, mi1, np1, lf1, nm1, (d + 1), la1, so1, ro1) d i1 part (atF tx sz i1) = .inr ((nd1, kd1, pa1, be1, af1, mi1, np1, lf1, nm1, (d + 1), la1, so1, ro1), ((-1000) - nI i1)) := by rw [t_turn, if_pos c_52, if_pos c_58, if_pos c_65]
                    have e_w : e_parse tx sz (0, kd, pa, be, af, mi, 0, lf, nm, 0, la, so, ro) = ((nd1, kd1, pa1, be1, af1, mi1, np1, lf1, nm1, (d + 1), la1, so1, ro1), ((-1000) - nI i1)) := by rw [← he2, e_t]; rfl
                    exact ct_endi hx hb hr hlocks rfl hP hD hS (by rw [e_w]) (by rw [e_w]) dX3_parse_73
            · have c_35 : (atF tx sz i1) = 32 := c_35
              refine lv_iload_n hx hb dX3_parse_38 rfl (lv_at hl 0 rfl) ?_
              refine lv_iconst (v := 1) hx hb dX3_parse_39 (by decide) ?_
              refine lv_iadd hx hb dX3_parse_40 ?_
              refine lv_eqi (show (nI i1 + 1) = nI (i1 + 1) from nI_1 _) ?_
              refine lv_istore_n (lv' := [(1, .int (nI (i1 + 1))), (2, .int (bI part)), (0, .ref (h 0))]) hx hb dX3_parse_41 rfl hl (by decide) rfl (fun ls hl => ?_)
              refine lv_goto (tgt := 28) hx hb dX3_parse_42 (by decide) ?_
              exact ih2 (i1 + 1) (at_lt c_35 (by decide)) (by omega) (by omega) (by rw [← hk, skL, if_pos c_35]) _ _ hP hD hS _ (lv_sub hl [0, 1, 2] rfl)
        exact loop2 301 i hi (by omega) (Nat.le_refl _) rfl _ _ hP hD hS _ (lv_sub hl [1, 0, 2] rfl)
  refine lv_aload_n hx hb dX3_parse_0 rfl (lv_at hl 0 rfl) ?_
  refine lv_iconst (v := 0) hx hb dX3_parse_1 (by decide) ?_
  refine ct_callV (As := [.int 0]) (rest := []) ⟨hx, hb, hml, hown, hts⟩ (k_E_at l D h k tx sz im cm nw (0, kd, pa, be, af, mi, 0, lf, nm, 0, la, so, ro) 0  hsz (by omega)) (cwV 1 hts (gV lw_in t_356 t_358 t_11 t_26 t_359) rfl rfl rfl (by decide +kernel) ⟨Nat.le_of_ble_eq_true rfl, Nat.le_of_ble_eq_true rfl⟩) 0 rfl rfl hK hP hD hS hA rfl hl.1 rfl (Nat.le_of_ble_eq_true rfl) dX3_parse_2 ⟨Nat.zero_le _, Nat.zero_le _⟩ (fun H locs hP hD hS => ?_)
  refine W.eq (g2 := F0 m 5 ls [.int (atF tx sz 0)]) rfl ?_
  refine lv_bipush (v := 40) hx hb dX3_parse_5 (by decide) ?_
  refine lv_icmp_eq (tgt := 12) hx hb dX3_parse_7 (by decide) (fun c_7 => ?_) (fun c_7 => ?_)
  · have c_7 : (atF tx sz 0) = 40 := c_7
    refine lv_aload_n hx hb dX3_parse_12 rfl (lv_at hl 0 rfl) ?_
    refine ct_callV (As := []) (rest := []) ⟨hx, hb, hml, hown, hts⟩ (k_E_open l D h k tx sz im cm nw 0 kd pa be af mi 0 lf nm 0 la so ro   (by omega)) (cwV 0 hts (gV lw_in t_360 t_362 t_12 t_26 t_363) rfl rfl rfl (by decide +kernel) ⟨Nat.le_of_ble_eq_true rfl, Nat.le_of_ble_eq_true rfl⟩) 0 rfl rfl hK hP hD hS hA rfl hl.1 rfl (Nat.le_of_ble_eq_true rfl) dX3_parse_13 ⟨Nat.zero_le _, Nat.zero_le _⟩ (fun H locs hP hD hS => ?_)
    refine W.eq (g2 := F0 m 16 ls [.int (bI (decide (¬ 0 = 12)))]) rfl ?_
    have hP : va_P D vwCl (wM h k tx sz im cm nw (if 0 = 12 then (0, kd, pa, be, af, mi, 0, lf, nm, 0, la, so, ro) else t_open (0, kd, pa, be, af, mi, 0, lf, nm, 0, la, so, ro))) H := hP
    have hD : va_D A (wM h k tx sz im cm nw (if 0 = 12 then (0, kd, pa, be, af, mi, 0, lf, nm, 0, la, so, ro) else t_open (0, kd, pa, be, af, mi, 0, lf, nm, 0, la, so, ro))) := hD
    rw [if_neg (by decide)] at hP hD
    refine lv_pop hx hb dX3_parse_16 rfl ?_
    refine lv_iconst (v := 1) hx hb dX3_parse_17 (by decide) ?_
    refine lv_istore_n (lv' := [(1, .int 1), (0, .ref (h 0))]) hx hb dX3_parse_18 rfl hl (by decide) rfl (fun ls hl => ?_)
    refine lv_iconst (v := 1) hx hb dX3_parse_19 (by decide) ?_
    refine lv_istore_n (lv' := [(2, .int 1), (1, .int 1), (0, .ref (h 0))]) hx hb dX3_parse_20 rfl hl (by decide) rfl (fun ls hl => ?_)
    exact loop 302 1 true (t_open (0, kd, pa, be, af, mi, 0, lf, nm, 0, la, so, ro)) okP_start (at_lt c_7 (by decide)) (by omega) (by rw [e_parse, if_pos c_7]) _ _ hP hD hS _ (lv_sub hl [0, 1, 2] rfl)
  · have c_7 : ¬ (atF tx sz 0) = 40 := c_7
    refine lv_iconst (v := -1) hx hb dX3_parse_10 (by decide) ?_
    have e_w : e_parse tx sz (0, kd, pa, be, af, mi, 0, lf, nm, 0, la, so, ro) = ((0, kd, pa, be, af, mi, 0, lf, nm, 0, la, so, ro), -1) := by rw [e_parse, if_neg c_7]
    exact ct_endi hx hb hr hlocks rfl hP hD hS (by rw [e_w]) (by rw [e_w]) dX3_parse_11

set_option maxHeartbeats 4000000 in
set_option maxRecDepth 100000 in
theorem k_E_read (l : Launch) (D : va_G) (h : Nat → Nat) (k : Nat → ClassId) (tx : Nat → Int32) (sz : Nat) (im : Bool) (cm : Nat) (nw : Int64) (nd : Nat) (kd : Nat → Int32) (pa : Nat → Option Nat) (be : Nat → Option Nat) (af : Nat → Option Nat) (mi : Nat → Bool) (np : Nat) (lf : Nat → Nat) (nm : Nat → Int32) (dp : Nat) (la : Nat → Option Nat) (so : Nat → Int32) (ro : Nat)   (hsz : sz ≤ 300) :
    Ct l yX3_read wsX3_read (rmN 3) D vwCl (tyM k) [.ref (h 0)] (wM h k tx sz im cm nw (nd, kd, pa, be, af, mi, np, lf, nm, dp, la, so, ro)) (wM h k tx 0 (e_read tx sz (nd, kd, pa, be, af, mi, np, lf, nm, dp, la, so, ro)).2.1 0 0 (e_read tx sz (nd, kd, pa, be, af, mi, np, lf, nm, dp, la, so, ro)).1) (some (.int ((e_read tx sz (nd, kd, pa, be, af, mi, np, lf, nm, dp, la, so, ro)).2.2))) := by
  refine Ct.of (cc := cX3_read) (maxL := 2) (ret := (some .int)) (lv := [(0, .ref (h 0))]) (by decide) rfl (Nat.le_of_ble_eq_true rfl) rfl ?_
  intro p e s m below meth c A ls hx hb hr hml hts hown hlocks hK hP hD hS hA hl
  refine lv_aload_n hx hb dX3_read_0 rfl (lv_at hl 0 rfl) ?_
  refine lv_iconst (v := 0) hx hb dX3_read_1 (by decide) ?_
  refine lv_eqi (show 0 = nI 0 from rfl) ?_
  refine va_put (D := D) (ci := 3) (v := .int (nI 0)) (ty := .int) (C := RX3) (T := TX3) (N := 18) hx hb hts (fun w h => lw_in w (inX3 w h)) tyX3 tyX3_ok nmX3 hown hK hP hD hS 0 rfl rfl 2 (by decide) (hts _ (lw_in _ t_290)) (fun _ h9 => h9) rfl (by decide +kernel) rfl rfl (Nat.le_of_ble_eq_true rfl) dX3_read_2 (fun H locs hP hD hS => ?_)
  have hP : va_P D vwCl (wM h k tx sz im cm nw (0, kd, pa, be, af, mi, np, lf, nm, dp, la, so, ro)) H := hP
  have hD : va_D A (wM h k tx sz im cm nw (0, kd, pa, be, af, mi, np, lf, nm, dp, la, so, ro)) := hD
  refine lv_aload_n hx hb dX3_read_5 rfl (lv_at hl 0 rfl) ?_
  refine lv_iconst (v := 0) hx hb dX3_read_6 (by decide) ?_
  refine lv_eqi (show 0 = nI 0 from rfl) ?_
  refine va_put (D := D) (ci := 3) (v := .int (nI 0)) (ty := .int) (C := RX3) (T := TX3) (N := 18) hx hb hts (fun w h => lw_in w (inX3 w h)) tyX3 tyX3_ok nmX3 hown hK hP hD hS 0 rfl rfl 8 (by decide) (hts _ (lw_in _ t_296)) (fun _ h9 => h9) rfl (by decide +kernel) rfl rfl (Nat.le_of_ble_eq_true rfl) dX3_read_7 (fun H locs hP hD hS => ?_)
  have hP : va_P D vwCl (wM h k tx sz im cm nw (0, kd, pa, be, af, mi, 0, lf, nm, dp, la, so, ro)) H := hP
  have hD : va_D A (wM h k tx sz im cm nw (0, kd, pa, be, af, mi, 0, lf, nm, dp, la, so, ro)) := hD
  refine lv_aload_n hx hb dX3_read_10 rfl (lv_at hl 0 rfl) ?_
  refine lv_iconst (v := 0) hx hb dX3_read_11 (by decide) ?_
  refine lv_eqi (show 0 = nI 0 from rfl) ?_
  refine va_put (D := D) (ci := 3) (v := .int (nI 0)) (ty := .int) (C := RX3) (T := TX3) (N := 18) hx hb hts (fun w h => lw_in w (inX3 w h)) tyX3 tyX3_ok nmX3 hown hK hP hD hS 0 rfl rfl 12 (by decide) (hts _ (lw_in _ t_300)) (fun _ h9 => h9) rfl (by decide +kernel) rfl rfl (Nat.le_of_ble_eq_true rfl) dX3_read_12 (fun H locs hP hD hS => ?_)
  have hP : va_P D vwCl (wM h k tx sz im cm nw (0, kd, pa, be, af, mi, 0, lf, nm, 0, la, so, ro)) H := hP
  have hD : va_D A (wM h k tx sz im cm nw (0, kd, pa, be, af, mi, 0, lf, nm, 0, la, so, ro)) := hD
  refine lv_aload_n hx hb dX3_read_15 rfl (lv_at hl 0 rfl) ?_
  refine lv_iconst (v := 0) hx hb dX3_read_16 (by decide) ?_
  refine lv_eqi (show 0 = nI 0 from rfl) ?_
  refine va_put (D := D) (ci := 3) (v := .int (nI 0)) (ty := .int) (C := RX3) (T := TX3) (N := 18) hx hb hts (fun w h => lw_in w (inX3 w h)) tyX3 tyX3_ok nmX3 hown hK hP hD hS 0 rfl rfl 16 (by decide) (hts _ (lw_in _ t_304)) (fun _ h9 => h9) rfl (by decide +kernel) rfl rfl (Nat.le_of_ble_eq_true rfl) dX3_read_17 (fun H locs hP hD hS => ?_)
  have hP : va_P D vwCl (wM h k tx sz im 0 nw (0, kd, pa, be, af, mi, 0, lf, nm, 0, la, so, ro)) H := hP
  have hD : va_D A (wM h k tx sz im 0 nw (0, kd, pa, be, af, mi, 0, lf, nm, 0, la, so, ro)) := hD
  refine lv_aload_n hx hb dX3_read_20 rfl (lv_at hl 0 rfl) ?_
  refine lv_lconst (v := 0) hx hb dX3_read_21 (by decide) ?_
  refine va_put (D := D) (ci := 3) (v := .long 0) (ty := .long) (C := RX3) (T := TX3) (N := 18) hx hb hts (fun w h => lw_in w (inX3 w h)) tyX3 tyX3_ok nmX3 hown hK hP hD hS 0 rfl rfl 17 (by decide) (hts _ (lw_in _ t_305)) (fun _ h9 => h9) rfl (by decide +kernel) rfl rfl (Nat.le_of_ble_eq_true rfl) dX3_read_22 (fun H locs hP hD hS => ?_)
  have hP : va_P D vwCl (wM h k tx sz im 0 0 (0, kd, pa, be, af, mi, 0, lf, nm, 0, la, so, ro)) H := hP
  have hD : va_D A (wM h k tx sz im 0 0 (0, kd, pa, be, af, mi, 0, lf, nm, 0, la, so, ro)) := hD
  refine lv_aload_n hx hb dX3_read_25 rfl (lv_at hl 0 rfl) ?_
  refine ct_callV (As := []) (rest := []) ⟨hx, hb, hml, hown, hts⟩ (k_E_parse l D h k tx sz im 0 0 kd pa be af mi lf nm la so ro   hsz) (cwV 0 hts (gV lw_in t_352 t_354 t_10 t_26 t_355) rfl rfl rfl (by decide +kernel) ⟨Nat.le_of_ble_eq_true rfl, Nat.le_of_ble_eq_true rfl⟩) 0 rfl rfl hK hP hD hS hA rfl hl.1 rfl (Nat.le_of_ble_eq_true rfl) dX3_read_26 ⟨Nat.zero_le _, Nat.zero_le _⟩ (fun H locs hP hD hS => ?_)
  refine W.eq (g2 := F0 m 29 ls [.int ((e_parse tx sz (0, kd, pa, be, af, mi, 0, lf, nm, 0, la, so, ro)).2)]) rfl ?_
  have hP : va_P D vwCl (wM h k tx sz im 0 0 (e_parse tx sz (0, kd, pa, be, af, mi, 0, lf, nm, 0, la, so, ro)).1) H := hP
  have hD : va_D A (wM h k tx sz im 0 0 (e_parse tx sz (0, kd, pa, be, af, mi, 0, lf, nm, 0, la, so, ro)).1) := hD
  generalize hT : e_parse tx sz (0, kd, pa, be, af, mi, 0, lf, nm, 0, la, so, ro) = X3 at hP hD ⊢
  obtain ⟨⟨nd3, kd3, pa3, be3, af3, mi3, np3, lf3, nm3, dp3, la3, so3, ro3⟩, v3⟩ := X3
  have hP : va_P D vwCl (wM h k tx sz im 0 0 (nd3, kd3, pa3, be3, af3, mi3, np3, lf3, nm3, dp3, la3, so3, ro3)) H := hP
  have hD : va_D A (wM h k tx sz im 0 0 (nd3, kd3, pa3, be3, af3, mi3, np3, lf3, nm3, dp3, la3, so3, ro3)) := hD
  refine W.eq (g2 := F0 m 29 ls [.int v3]) rfl ?_
  refine lv_istore_n (lv' := [(1, .int v3), (0, .ref (h 0))]) hx hb dX3_read_29 rfl hl (by decide) rfl (fun ls hl => ?_)
  refine lv_aload_n hx hb dX3_read_30 rfl (lv_at hl 1 rfl) ?_
  refine lv_iconst (v := 0) hx hb dX3_read_31 (by decide) ?_
  refine lv_eqi (show 0 = nI 0 from rfl) ?_
  refine va_put (D := D) (ci := 3) (v := .int (nI 0)) (ty := .int) (C := RX3) (T := TX3) (N := 18) hx hb hts (fun w h => lw_in w (inX3 w h)) tyX3 tyX3_ok nmX3 hown hK hP hD hS 0 rfl rfl 1 (by decide) (hts _ (lw_in _ t_289)) (fun _ h9 => h9) rfl (by decide +kernel) rfl rfl (Nat.le_of_ble_eq_true rfl) dX3_read_32 (fun H locs hP hD hS => ?_)
  have hP : va_P D vwCl (wM h k tx 0 im 0 0 (nd3, kd3, pa3, be3, af3, mi3, np3, lf3, nm3, dp3, la3, so3, ro3)) H := hP
  have hD : va_D A (wM h k tx 0 im 0 0 (nd3, kd3, pa3, be3, af3, mi3, np3, lf3, nm3, dp3, la3, so3, ro3)) := hD
  refine lv_aload_n hx hb dX3_read_35 rfl (lv_at hl 1 rfl) ?_
  refine lv_iload_n hx hb dX3_read_36 rfl (lv_at hl 0 rfl) ?_
  refine lv_if_lt (tgt := 44) hx hb dX3_read_37 (by decide) (fun c_37 => ?_) (fun c_37 => ?_)
  · have c_37 : v3 < 0 := c_37
    refine lv_iconst (v := 0) hx hb dX3_read_44 (by decide) ?_
    refine lv_eqi (show 0 = bI false from rfl) ?_
    refine va_put (D := D) (ci := 3) (v := .int (bI false)) (ty := .boolean) (C := RX3) (T := TX3) (N := 18) hx hb hts (fun w h => lw_in w (inX3 w h)) tyX3 tyX3_ok nmX3 hown hK hP hD hS 0 rfl rfl 11 (by decide) (hts _ (lw_in _ t_299)) (fun _ h9 => h9) rfl (by decide +kernel) (bI_narrow _) (bI_fits _) (Nat.le_of_ble_eq_true rfl) dX3_read_45 (fun H locs hP hD hS => ?_)
    have hP : va_P D vwCl (wM h k tx 0 false 0 0 (nd3, kd3, pa3, be3, af3, mi3, np3, lf3, nm3, dp3, la3, so3, ro3)) H := hP
    have hD : va_D A (wM h k tx 0 false 0 0 (nd3, kd3, pa3, be3, af3, mi3, np3, lf3, nm3, dp3, la3, so3, ro3)) := hD
    refine lv_aload_n hx hb dX3_read_48 rfl (lv_at hl 1 rfl) ?_
    refine va_get (D := D) (ci := 3) (v := .int (bI false)) (C := RX3) (T := TX3) (N := 18) hx hb hts (fun w h => lw_in w (inX3 w h)) hown hK hP 0 rfl rfl 11 (by decide) (hts _ (lw_in _ t_299)) (fun _ h9 => h9) rfl dX3_read_49 ?_
    refine lv_if_ne (tgt := 60) hx hb dX3_read_52 (by decide) (fun c_52 => ?_) (fun c_52 => ?_)
    · have c_52 : false = true := (bI_ne0 _).mp c_52
      exact absurd c_52 (by decide)
    · have c_52 : false = false := (bI_eq0 _).mp c_52
      refine lv_aload_n hx hb dX3_read_55 rfl (lv_at hl 1 rfl) ?_
      refine lv_iconst (v := 0) hx hb dX3_read_56 (by decide) ?_
      refine lv_eqi (show 0 = nI 0 from rfl) ?_
      refine va_put (D := D) (ci := 3) (v := .int (nI 0)) (ty := .int) (C := RX3) (T := TX3) (N := 18) hx hb hts (fun w h => lw_in w (inX3 w h)) tyX3 tyX3_ok nmX3 hown hK hP hD hS 0 rfl rfl 8 (by decide) (hts _ (lw_in _ t_296)) (fun _ h9 => h9) rfl (by decide +kernel) rfl rfl (Nat.le_of_ble_eq_true rfl) dX3_read_57 (fun H locs hP hD hS => ?_)
      have hP : va_P D vwCl (wM h k tx 0 false 0 0 (nd3, kd3, pa3, be3, af3, mi3, 0, lf3, nm3, dp3, la3, so3, ro3)) H := hP
      have hD : va_D A (wM h k tx 0 false 0 0 (nd3, kd3, pa3, be3, af3, mi3, 0, lf3, nm3, dp3, la3, so3, ro3)) := hD
      refine lv_iload_n hx hb dX3_read_60 rfl (lv_at hl 0 rfl) ?_
      have e_c : t_clear (nd, kd, pa, be, af, mi, np, lf, nm, dp, la, so, ro) = (0, kd, pa, be, af, mi, 0, lf, nm, 0, la, so, ro) := rfl
      have e_r : e_read tx sz (nd, kd, pa, be, af, mi, np, lf, nm, dp, la, so, ro) = ((nd3, kd3, pa3, be3, af3, mi3, 0, lf3, nm3, dp3, la3, so3, ro3), false, v3) := by
        unfold e_read
        rw [e_c, hT, if_pos c_37]
        rfl
      exact ct_endi hx hb hr hlocks rfl hP hD hS (by rw [e_r]) (by rw [e_r]) dX3_read_61
  · have c_37 : ¬ v3 < 0 := c_37
    refine lv_iconst (v := 1) hx hb dX3_read_40 (by decide) ?_
    refine lv_goto (tgt := 45) hx hb dX3_read_41 (by decide) ?_
    refine lv_eqi (show 1 = bI true from rfl) ?_
    refine va_put (D := D) (ci := 3) (v := .int (bI true)) (ty := .boolean) (C := RX3) (T := TX3) (N := 18) hx hb hts (fun w h => lw_in w (inX3 w h)) tyX3 tyX3_ok nmX3 hown hK hP hD hS 0 rfl rfl 11 (by decide) (hts _ (lw_in _ t_299)) (fun _ h9 => h9) rfl (by decide +kernel) (bI_narrow _) (bI_fits _) (Nat.le_of_ble_eq_true rfl) dX3_read_45 (fun H locs hP hD hS => ?_)
    have hP : va_P D vwCl (wM h k tx 0 true 0 0 (nd3, kd3, pa3, be3, af3, mi3, np3, lf3, nm3, dp3, la3, so3, ro3)) H := hP
    have hD : va_D A (wM h k tx 0 true 0 0 (nd3, kd3, pa3, be3, af3, mi3, np3, lf3, nm3, dp3, la3, so3, ro3)) := hD
    refine lv_aload_n hx hb dX3_read_48 rfl (lv_at hl 1 rfl) ?_
    refine va_get (D := D) (ci := 3) (v := .int (bI true)) (C := RX3) (T := TX3) (N := 18) hx hb hts (fun w h => lw_in w (inX3 w h)) hown hK hP 0 rfl rfl 11 (by decide) (hts _ (lw_in _ t_299)) (fun _ h9 => h9) rfl dX3_read_49 ?_
    refine lv_if_ne (tgt := 60) hx hb dX3_read_52 (by decide) (fun c_52 => ?_) (fun c_52 => ?_)
    · have c_52 : true = true := (bI_ne0 _).mp c_52
      refine lv_iload_n hx hb dX3_read_60 rfl (lv_at hl 0 rfl) ?_
      have e_c : t_clear (nd, kd, pa, be, af, mi, np, lf, nm, dp, la, so, ro) = (0, kd, pa, be, af, mi, 0, lf, nm, 0, la, so, ro) := rfl
      have e_r : e_read tx sz (nd, kd, pa, be, af, mi, np, lf, nm, dp, la, so, ro) = ((nd3, kd3, pa3, be3, af3, mi3, np3, lf3, nm3, dp3, la3, so3, ro3), true, v3) := by
        unfold e_read
        rw [e_c, hT, if_neg c_37]
      exact ct_endi hx hb hr hlocks rfl hP hD hS (by rw [e_r]) (by rw [e_r]) dX3_read_61
    · have c_52 : true = false := (bI_eq0 _).mp c_52
      exact absurd c_52 (by decide)
