/-! The methods of the reference: query (laid by program) -/
set_option maxHeartbeats 4000000 in
set_option maxRecDepth 100000 in
theorem k_E_begins (l : Launch) (D : va_G) (h : Nat → Nat) (k : Nat → ClassId) (tx : Nat → Int32) (sz : Nat) (im : Bool) (cm : Nat) (nw : Int64) (nd : Nat) (kd : Nat → Int32) (pa : Nat → Option Nat) (be : Nat → Option Nat) (af : Nat → Option Nat) (mi : Nat → Bool) (np : Nat) (lf : Nat → Nat) (nm : Nat → Int32) (dp : Nat) (la : Nat → Option Nat) (so : Nat → Int32) (ro : Nat) (q : Nat) (x : Nat) (nb : Nat) (ok : okT nb pa be af np lf) (hq : q < np) (hx9 : x < nb) :
    Ct l yX3_begins wsX3_begins (rmN 0) D vwCl (tyM k) [.ref (h 0), .int (nI q), .int (nI x)] (wM h k tx sz im cm nw (nd, kd, pa, be, af, mi, np, lf, nm, dp, la, so, ro)) (wM h k tx sz im cm nw (nd, kd, pa, be, af, mi, np, lf, nm, dp, la, so, ro)) (some (.int (bI (bgC kd pa be mi 701 (lf q) x)))) := by
  refine Ct.of (cc := cX3_begins) (maxL := 6) (ret := (some .boolean)) (lv := [(0, .ref (h 0)), (1, .int (nI q)), (2, .int (nI x))]) (by decide) rfl (Nat.le_of_ble_eq_true rfl) rfl ?_
  intro p e s m below meth c A ls hx hb hr hml hts hown hlocks hK hP hD hS hA hl
  obtain ⟨hnb, hnp, okP, okB, okA, okL⟩ := ok
  have loop : ∀ (f : Nat) (n : Nat), (n < nb) → (701 ≤ f + n) → (bgC kd pa be mi f n x = bgC kd pa be mi 701 (lf q) x) → ∀ (H : Heap) (locs : List Loc), va_P D vwCl (wM h k tx sz im cm nw (nd, kd, pa, be, af, mi, np, lf, nm, dp, la, so, ro)) H → va_D A (wM h k tx sz im cm nw (nd, kd, pa, be, af, mi, np, lf, nm, dp, la, so, ro)) → va_S A s.heap H locs → ∀ ls : Array Slot, lv_has ls 6 [(3, .int (nI n)), (0, .ref (h 0)), (1, .int (nI q)), (2, .int (nI x))] →
      W p l e (rmN 0) s m ([.ref (h 0), .int (nI q), .int (nI x)] : List Value).toArray below meth c H locs 0 0 (MQ below (CtQ D vwCl A (wM h k tx sz im cm nw (nd, kd, pa, be, af, mi, np, lf, nm, dp, la, so, ro)) (some (.int (bI (bgC kd pa be mi 701 (lf q) x))))) ([.ref (h 0), .int (nI q), .int (nI x)] : List Value).toArray s 0 0 A) (F0 m 7 ls []) := by
    intro f
    induction f with
    | zero =>
      intro n hn hf he H locs hP hD hS ls hl
      exact absurd hf (by omega)
    | succ f ih =>
      intro n hn hf he H locs hP hD hS ls hl
      refine lv_iload_n hx hb dX3_begins_7 rfl (lv_at hl 0 rfl) ?_
      refine lv_iload_n hx hb dX3_begins_8 rfl (lv_at hl 3 rfl) ?_
      refine lv_icmp_eq (tgt := 81) hx hb dX3_begins_9 (by decide) (fun c_9 => ?_) (fun c_9 => ?_)
      · have c_9 : n = x := (nI_eq (a := n) (b := x) (by omega) (by omega)).mp c_9
        refine lv_iconst (v := 1) hx hb dX3_begins_81 (by decide) ?_
        exact ct_endi hx hb hr hlocks rfl hP hD hS rfl (by rw [← he, bgC, if_pos c_9]; rfl) dX3_begins_82
      · have c_9 : ¬ n = x := id (fun z => c_9 ((nI_eq (a := n) (b := x) (by omega) (by omega)).mpr z))
        refine lv_aload_n hx hb dX3_begins_12 rfl (lv_at hl 1 rfl) ?_
        refine va_get (D := D) (ci := 3) (v := .ref (h 3)) (C := RX3) (T := TX3) (N := 18) hx hb hts (fun w h => lw_in w (inX3 w h)) hown hK hP 0 rfl rfl 4 (by decide) (hts _ (lw_in _ t_292)) (fun _ h9 => h9) rfl dX3_begins_13 ?_
        refine lv_iload_n hx hb dX3_begins_16 rfl (lv_at hl 0 rfl) ?_
        refine wx_pald hx hb hK hP 3 2 rfl rfl (i := n) (by omega) (by decide) dX3_begins_17 ?_
        refine W.eq (g2 := F0 m 18 ls [.int (pI (pa n))]) rfl ?_
        rcases e_17 : pa n with _ | x17
        · refine W.eq (g2 := F0 m 18 ls [.int (-1)]) rfl ?_
          refine lv_istore (lv' := [(4, .int (-1)), (3, .int (nI n)), (0, .ref (h 0)), (1, .int (nI q)), (2, .int (nI x))]) hx hb dX3_begins_18 hl (by decide) rfl (fun ls hl => ?_)
          refine lv_iload hx hb dX3_begins_20 (lv_at hl 0 rfl) ?_
          refine lv_if_ge (tgt := 27) hx hb dX3_begins_22 (by decide) (fun c_22 => ?_) (fun c_22 => ?_)
          · exact absurd c_22 (by decide)
          · refine lv_iconst (v := 0) hx hb dX3_begins_25 (by decide) ?_
            exact ct_endi hx hb hr hlocks rfl hP hD hS rfl (by rw [← he, bgC, if_neg c_9, e_17]; rfl) dX3_begins_26
        · refine W.eq (g2 := F0 m 18 ls [.int (nI x17)]) rfl ?_
          have hp := okP _ _ hn e_17
          refine lv_istore (lv' := [(4, .int (nI x17)), (3, .int (nI n)), (0, .ref (h 0)), (1, .int (nI q)), (2, .int (nI x))]) hx hb dX3_begins_18 hl (by decide) rfl (fun ls hl => ?_)
          refine lv_iload hx hb dX3_begins_20 (lv_at hl 0 rfl) ?_
          refine lv_if_ge (tgt := 27) hx hb dX3_begins_22 (by decide) (fun c_22 => ?_) (fun c_22 => ?_)
          · have c_22 : 0 ≤ x17 := (nI_leI (a := 0) (b := x17) (by omega) (by omega)).mp c_22
            refine lv_aload_n hx hb dX3_begins_27 rfl (lv_at hl 2 rfl) ?_
            refine va_get (D := D) (ci := 3) (v := .ref (h 4)) (C := RX3) (T := TX3) (N := 18) hx hb hts (fun w h => lw_in w (inX3 w h)) hown hK hP 0 rfl rfl 5 (by decide) (hts _ (lw_in _ t_293)) (fun _ h9 => h9) rfl dX3_begins_28 ?_
            refine lv_iload_n hx hb dX3_begins_31 rfl (lv_at hl 1 rfl) ?_
            refine wx_pald hx hb hK hP 4 3 rfl rfl (i := n) (by omega) (by decide) dX3_begins_32 ?_
            refine lv_istore (lv' := [(5, .int (pI (be n))), (4, .int (nI x17)), (3, .int (nI n)), (0, .ref (h 0)), (1, .int (nI q)), (2, .int (nI x))]) hx hb dX3_begins_33 hl (by decide) rfl (fun ls hl => ?_)
            have he2 : (if alB (kd x17) be mi 701 (be n) = true then bgC kd pa be mi f x17 x else false) = bgC kd pa be mi 701 (lf q) x := by rw [← he, bgC, if_neg c_9, e_17]
            have loop2 : ∀ (g : Nat) (o : Option Nat), (∀ w0, o = some w0 → w0 < g ∧ w0 < nb) → (alB (kd x17) be mi g o = alB (kd x17) be mi 701 (be n)) → ∀ (H : Heap) (locs : List Loc), va_P D vwCl (wM h k tx sz im cm nw (nd, kd, pa, be, af, mi, np, lf, nm, dp, la, so, ro)) H → va_D A (wM h k tx sz im cm nw (nd, kd, pa, be, af, mi, np, lf, nm, dp, la, so, ro)) → va_S A s.heap H locs → ∀ ls : Array Slot, lv_has ls 6 [(5, .int (pI o)), (4, .int (nI x17)), (3, .int (nI n)), (0, .ref (h 0)), (1, .int (nI q)), (2, .int (nI x))] →
                W p l e (rmN 0) s m ([.ref (h 0), .int (nI q), .int (nI x)] : List Value).toArray below meth c H locs 0 0 (MQ below (CtQ D vwCl A (wM h k tx sz im cm nw (nd, kd, pa, be, af, mi, np, lf, nm, dp, la, so, ro)) (some (.int (bI (bgC kd pa be mi 701 (lf q) x))))) ([.ref (h 0), .int (nI q), .int (nI x)] : List Value).toArray s 0 0 A) (F0 m 35 ls []) := by
              intro g
              induction g with
              | zero =>
                intro o ho hk H locs hP hD hS ls hl
                rcases o with _ | w0
                · have hl : lv_has ls 6 [(5, .int (-1)), (4, .int (nI x17)), (3, .int (nI n)), (0, .ref (h 0)), (1, .int (nI q)), (2, .int (nI x))] := hl
                  refine lv_iload hx hb dX3_begins_35 (lv_at hl 0 rfl) ?_
                  refine lv_if_lt (tgt := 75) hx hb dX3_begins_37 (by decide) (fun c_37 => ?_) (fun c_37 => ?_)
                  · refine lv_iload hx hb dX3_begins_75 (lv_at hl 1 rfl) ?_
                    refine lv_istore_n (lv' := [(3, .int (nI x17)), (5, .int (-1)), (4, .int (nI x17)), (0, .ref (h 0)), (1, .int (nI q)), (2, .int (nI x))]) hx hb dX3_begins_77 rfl hl (by decide) rfl (fun ls hl => ?_)
                    refine lv_goto (tgt := 7) hx hb dX3_begins_78 (by decide) ?_
                    exact ih x17 (by omega) (by omega) (by rw [← he2, if_pos (by rw [← hk]; rfl)]) _ _ hP hD hS _ (lv_sub hl [0, 3, 4, 5] rfl)
                  · exact absurd (by decide) c_37
                · have hl : lv_has ls 6 [(5, .int (nI w0)), (4, .int (nI x17)), (3, .int (nI n)), (0, .ref (h 0)), (1, .int (nI q)), (2, .int (nI x))] := hl
                  exact absurd (ho w0 rfl).1 (Nat.not_lt_zero _)
              | succ g ih2 =>
                intro o ho hk H locs hP hD hS ls hl
                rcases o with _ | w0
                · have hl : lv_has ls 6 [(5, .int (-1)), (4, .int (nI x17)), (3, .int (nI n)), (0, .ref (h 0)), (1, .int (nI q)), (2, .int (nI x))] := hl
                  refine lv_iload hx hb dX3_begins_35 (lv_at hl 0 rfl) ?_
                  refine lv_if_lt (tgt := 75) hx hb dX3_begins_37 (by decide) (fun c_37 => ?_) (fun c_37 => ?_)
                  · refine lv_iload hx hb dX3_begins_75 (lv_at hl 1 rfl) ?_
                    refine lv_istore_n (lv' := [(3, .int (nI x17)), (5, .int (-1)), (4, .int (nI x17)), (0, .ref (h 0)), (1, .int (nI q)), (2, .int (nI x))]) hx hb dX3_begins_77 rfl hl (by decide) rfl (fun ls hl => ?_)
                    refine lv_goto (tgt := 7) hx hb dX3_begins_78 (by decide) ?_
                    exact ih x17 (by omega) (by omega) (by rw [← he2, if_pos (by rw [← hk]; rfl)]) _ _ hP hD hS _ (lv_sub hl [0, 3, 4, 5] rfl)
                  · exact absurd (by decide) c_37
                · have hl : lv_has ls 6 [(5, .int (nI w0)), (4, .int (nI x17)), (3, .int (nI n)), (0, .ref (h 0)), (1, .int (nI q)), (2, .int (nI x))] := hl
                  have hz := ho w0 rfl
                  refine lv_iload hx hb dX3_begins_35 (lv_at hl 0 rfl) ?_
                  refine lv_if_lt (tgt := 75) hx hb dX3_begins_37 (by decide) (fun c_37 => ?_) (fun c_37 => ?_)
                  · have c_37 : w0 < 0 := (nI_ltI (a := w0) (b := 0) (by omega) (by omega)).mp c_37
                    exact absurd c_37 (Nat.not_lt_zero _)
                  · have c_37 : 0 ≤ w0 := Nat.le_of_not_lt (fun z => c_37 ((nI_ltI (a := w0) (b := 0) (by omega) (by omega)).mpr z))
                    refine lv_aload_n hx hb dX3_begins_40 rfl (lv_at hl 3 rfl) ?_
                    refine va_get (D := D) (ci := 3) (v := .ref (h 2)) (C := RX3) (T := TX3) (N := 18) hx hb hts (fun w h => lw_in w (inX3 w h)) hown hK hP 0 rfl rfl 3 (by decide) (hts _ (lw_in _ t_291)) (fun _ h9 => h9) rfl dX3_begins_41 ?_
                    refine lv_iload hx hb dX3_begins_44 (lv_at hl 1 rfl) ?_
                    refine wx_iald hx hb hK hP 2 1 rfl rfl (i := x17) (by omega) (by decide) dX3_begins_46 ?_
                    refine lv_iconst (v := 2) hx hb dX3_begins_47 (by decide) ?_
                    refine lv_icmp_ne (tgt := 75) hx hb dX3_begins_48 (by decide) (fun c_48 => ?_) (fun c_48 => ?_)
                    · have c_48 : ¬ (kd x17) = 2 := c_48
                      refine lv_iload hx hb dX3_begins_75 (lv_at hl 1 rfl) ?_
                      refine lv_istore_n (lv' := [(3, .int (nI x17)), (5, .int (nI w0)), (4, .int (nI x17)), (0, .ref (h 0)), (1, .int (nI q)), (2, .int (nI x))]) hx hb dX3_begins_77 rfl hl (by decide) rfl (fun ls hl => ?_)
                      refine lv_goto (tgt := 7) hx hb dX3_begins_78 (by decide) ?_
                      exact ih x17 (by omega) (by omega) (by rw [← he2, if_pos (by rw [← hk]; rw [alB, if_neg c_48])]) _ _ hP hD hS _ (lv_sub hl [0, 3, 4, 5] rfl)
                    · have c_48 : (kd x17) = 2 := c_48
                      refine lv_aload_n hx hb dX3_begins_51 rfl (lv_at hl 3 rfl) ?_
                      refine va_get (D := D) (ci := 3) (v := .ref (h 6)) (C := RX3) (T := TX3) (N := 18) hx hb hts (fun w h => lw_in w (inX3 w h)) hown hK hP 0 rfl rfl 7 (by decide) (hts _ (lw_in _ t_295)) (fun _ h9 => h9) rfl dX3_begins_52 ?_
                      refine lv_iload hx hb dX3_begins_55 (lv_at hl 0 rfl) ?_
                      refine wx_zald hx hb hK hP 6 5 rfl rfl (i := w0) (by omega) (by decide) dX3_begins_57 ?_
                      refine lv_if_ne (tgt := 63) hx hb dX3_begins_58 (by decide) (fun c_58 => ?_) (fun c_58 => ?_)
                      · have c_58 : (mi w0) = true := (bI_ne0 _).mp c_58
                        refine lv_aload_n hx hb dX3_begins_63 rfl (lv_at hl 3 rfl) ?_
                        refine va_get (D := D) (ci := 3) (v := .ref (h 4)) (C := RX3) (T := TX3) (N := 18) hx hb hts (fun w h => lw_in w (inX3 w h)) hown hK hP 0 rfl rfl 5 (by decide) (hts _ (lw_in _ t_293)) (fun _ h9 => h9) rfl dX3_begins_64 ?_
                        refine lv_iload hx hb dX3_begins_67 (lv_at hl 0 rfl) ?_
                        refine wx_pald hx hb hK hP 4 3 rfl rfl (i := w0) (by omega) (by decide) dX3_begins_69 ?_
                        refine lv_istore (lv' := [(5, .int (pI (be w0))), (4, .int (nI x17)), (3, .int (nI n)), (0, .ref (h 0)), (1, .int (nI q)), (2, .int (nI x))]) hx hb dX3_begins_70 hl (by decide) rfl (fun ls hl => ?_)
                        refine lv_goto (tgt := 35) hx hb dX3_begins_72 (by decide) ?_
                        exact ih2 (be w0) (fun y hy => ⟨by have := okB w0 y hz.2 hy; omega, by have := okB w0 y hz.2 hy; omega⟩) (by rw [← hk, alB, if_pos c_48, if_pos c_58]) _ _ hP hD hS _ (lv_sub hl [0, 1, 2, 3, 4, 5] rfl)
                      · have c_58 : (mi w0) = false := (bI_eq0 _).mp c_58
                        refine lv_iconst (v := 0) hx hb dX3_begins_61 (by decide) ?_
                        exact ct_endi hx hb hr hlocks rfl hP hD hS rfl (by rw [← he2, if_neg (by rw [← hk, alB, if_pos c_48, if_neg (bF c_58)]; decide)]; rfl) dX3_begins_62
            exact loop2 701 (be n) (fun y hy => ⟨by have := okB n y hn hy; omega, by have := okB n y hn hy; omega⟩) rfl _ _ hP hD hS _ (lv_sub hl [0, 1, 2, 3, 4, 5] rfl)
          · have c_22 : x17 < 0 := Nat.lt_of_not_le (fun z => c_22 ((nI_leI (a := 0) (b := x17) (by omega) (by omega)).mpr z))
            exact absurd c_22 (Nat.not_lt_zero _)
  refine lv_aload_n hx hb dX3_begins_0 rfl (lv_at hl 0 rfl) ?_
  refine va_get (D := D) (ci := 3) (v := .ref (h 7)) (C := RX3) (T := TX3) (N := 18) hx hb hts (fun w h => lw_in w (inX3 w h)) hown hK hP 0 rfl rfl 9 (by decide) (hts _ (lw_in _ t_297)) (fun _ h9 => h9) rfl dX3_begins_1 ?_
  refine lv_iload_n hx hb dX3_begins_4 rfl (lv_at hl 1 rfl) ?_
  refine wx_nald hx hb hK hP 7 6 rfl rfl (i := q) (by omega) (by decide) dX3_begins_5 ?_
  refine lv_istore_n (lv' := [(3, .int (nI (lf q))), (0, .ref (h 0)), (1, .int (nI q)), (2, .int (nI x))]) hx hb dX3_begins_6 rfl hl (by decide) rfl (fun ls hl => ?_)
  exact loop 701 (lf q) (okL q hq) (by omega) rfl _ _ hP hD hS _ (lv_sub hl [0, 1, 2, 3] rfl)

set_option maxHeartbeats 4000000 in
set_option maxRecDepth 100000 in
theorem k_E_firsts (l : Launch) (D : va_G) (h : Nat → Nat) (k : Nat → ClassId) (tx : Nat → Int32) (sz : Nat) (im : Bool) (cm : Nat) (nw : Int64) (nd : Nat) (kd : Nat → Int32) (pa : Nat → Option Nat) (be : Nat → Option Nat) (af : Nat → Option Nat) (mi : Nat → Bool) (np : Nat) (lf : Nat → Nat) (nm : Nat → Int32) (dp : Nat) (la : Nat → Option Nat) (so : Nat → Int32) (ro : Nat) (x : Nat) (nb : Nat) (ok : okT nb pa be af np lf) (hx9 : x < nb) :
    Ct l yX3_firsts wsX3_firsts (rmN 1) D vwCl (tyM k) [.ref (h 0), .int (nI x)] (wM h k tx sz im cm nw (nd, kd, pa, be, af, mi, np, lf, nm, dp, la, so, ro)) (wM h k tx sz im cm nw (nd, kd, pa, be, af, mi, np, lf, nm, dp, la, so, ro)) (some (.long (fsF kd pa be mi np lf x))) := by
  refine Ct.of (cc := cX3_firsts) (maxL := 5) (ret := (some .long)) (lv := [(0, .ref (h 0)), (1, .int (nI x))]) (by decide) rfl (Nat.le_of_ble_eq_true rfl) rfl ?_
  intro p e s m below meth c A ls hx hb hr hml hts hown hlocks hK hP hD hS hA hl
  have ok0 := ok
  obtain ⟨hnb, hnp, okP, okB, okA, okL⟩ := ok
  have loop : ∀ (n : Nat) (i : Nat) (r : Int64), (i + n = np) → (fsL kd pa be mi lf x n i r = fsF kd pa be mi np lf x) → ∀ (H : Heap) (locs : List Loc), va_P D vwCl (wM h k tx sz im cm nw (nd, kd, pa, be, af, mi, np, lf, nm, dp, la, so, ro)) H → va_D A (wM h k tx sz im cm nw (nd, kd, pa, be, af, mi, np, lf, nm, dp, la, so, ro)) → va_S A s.heap H locs → ∀ ls : Array Slot, lv_has ls 5 [(4, .int (nI i)), (2, .long r), (0, .ref (h 0)), (1, .int (nI x))] →
      W p l e (rmN 1) s m ([.ref (h 0), .int (nI x)] : List Value).toArray below meth c H locs 0 0 (MQ below (CtQ D vwCl A (wM h k tx sz im cm nw (nd, kd, pa, be, af, mi, np, lf, nm, dp, la, so, ro)) (some (.long (fsF kd pa be mi np lf x)))) ([.ref (h 0), .int (nI x)] : List Value).toArray s 0 0 A) (F0 m 5 ls []) := by
    intro n
    induction n with
    | zero =>
      intro i r hi he H locs hP hD hS ls hl
      refine lv_iload hx hb dX3_firsts_5 (lv_at hl 0 rfl) ?_
      refine lv_aload_n hx hb dX3_firsts_7 rfl (lv_at hl 2 rfl) ?_
      refine va_get (D := D) (ci := 3) (v := .int (nI np)) (C := RX3) (T := TX3) (N := 18) hx hb hts (fun w h => lw_in w (inX3 w h)) hown hK hP 0 rfl rfl 8 (by decide) (hts _ (lw_in _ t_296)) (fun _ h9 => h9) rfl dX3_firsts_8 ?_
      refine lv_icmp_ge (tgt := 41) hx hb dX3_firsts_11 (by decide) (fun c_11 => ?_) (fun c_11 => ?_)
      · have c_11 : np ≤ i := (nI_leI (a := np) (b := i) (by omega) (by omega)).mp c_11
        refine lv_lload_n hx hb dX3_firsts_41 rfl (lv_at hl 1 rfl) ?_
        exact ct_endl hx hb hr hlocks hP hD hS rfl (by rw [← he]; rfl) dX3_firsts_42
      · have c_11 : i < np := Nat.lt_of_not_le (fun z => c_11 ((nI_leI (a := np) (b := i) (by omega) (by omega)).mpr z))
        exact absurd c_11 (by omega)
    | succ n ih =>
      intro i r hi he H locs hP hD hS ls hl
      refine lv_iload hx hb dX3_firsts_5 (lv_at hl 0 rfl) ?_
      refine lv_aload_n hx hb dX3_firsts_7 rfl (lv_at hl 2 rfl) ?_
      refine va_get (D := D) (ci := 3) (v := .int (nI np)) (C := RX3) (T := TX3) (N := 18) hx hb hts (fun w h => lw_in w (inX3 w h)) hown hK hP 0 rfl rfl 8 (by decide) (hts _ (lw_in _ t_296)) (fun _ h9 => h9) rfl dX3_firsts_8 ?_
      refine lv_icmp_ge (tgt := 41) hx hb dX3_firsts_11 (by decide) (fun c_11 => ?_) (fun c_11 => ?_)
      · have c_11 : np ≤ i := (nI_leI (a := np) (b := i) (by omega) (by omega)).mp c_11
        exact absurd c_11 (by omega)
      · have c_11 : i < np := Nat.lt_of_not_le (fun z => c_11 ((nI_leI (a := np) (b := i) (by omega) (by omega)).mpr z))
        refine lv_lload_n hx hb dX3_firsts_14 rfl (lv_at hl 1 rfl) ?_
        refine lv_aload_n hx hb dX3_firsts_15 rfl (lv_at hl 2 rfl) ?_
        refine lv_iload hx hb dX3_firsts_16 (lv_at hl 0 rfl) ?_
        refine lv_iload_n hx hb dX3_firsts_18 rfl (lv_at hl 3 rfl) ?_
        refine ct_callV (As := [.int (nI i), .int (nI x)]) (rest := [.long r]) ⟨hx, hb, hml, hown, hts⟩ (k_E_begins l D h k tx sz im cm nw nd kd pa be af mi np lf nm dp la so ro i x nb ok0 (by omega) hx9) (cwV 2 hts (gV lw_in t_391 t_393 t_18 t_26 t_394) rfl rfl rfl (by decide +kernel) ⟨Nat.le_of_ble_eq_true rfl, Nat.le_of_ble_eq_true rfl⟩) 0 rfl rfl hK hP hD hS hA rfl hl.1 rfl (Nat.le_of_ble_eq_true rfl) dX3_firsts_19 ⟨Nat.zero_le _, Nat.zero_le _⟩ (fun H locs hP hD hS => ?_)
        refine W.eq (g2 := F0 m 22 ls [.int (bI (bgC kd pa be mi 701 (lf i) x)), .long r]) rfl ?_
        refine lv_if_eq (tgt := 32) hx hb dX3_firsts_22 (by decide) (fun c_22 => ?_) (fun c_22 => ?_)
        · have c_22 : (bgC kd pa be mi 701 (lf i) x) = false := (bI_eq0 _).mp c_22
          refine lv_lconst (v := 0) hx hb dX3_firsts_32 (by decide) ?_
          refine lv_lor hx hb dX3_firsts_33 ?_
          refine lv_lstore_n (lv' := [(2, .long (r ||| 0)), (4, .int (nI i)), (0, .ref (h 0)), (1, .int (nI x))]) hx hb dX3_firsts_34 rfl hl (by decide) rfl (fun ls hl => ?_)
          refine lv_iinc (v := nI (i + 1)) (lv' := [(4, .int (nI (i + 1))), (2, .long (r ||| 0)), (0, .ref (h 0)), (1, .int (nI x))]) hx hb dX3_firsts_35 hl (k := 1) rfl (nI_1 _) (by decide) rfl (fun ls hl => ?_)
          refine lv_goto (tgt := 5) hx hb dX3_firsts_38 (by decide) ?_
          exact ih (i + 1) (r ||| 0) (by omega) (by rw [← he, fsL, if_neg (bF c_22)]) _ _ hP hD hS _ (lv_sub hl [0, 1, 2, 3] rfl)
        · have c_22 : (bgC kd pa be mi 701 (lf i) x) = true := (bI_ne0 _).mp c_22
          refine lv_lconst (v := 1) hx hb dX3_firsts_25 (by decide) ?_
          refine lv_iload hx hb dX3_firsts_26 (lv_at hl 0 rfl) ?_
          refine lv_lshl (v := ((1 : Int64) <<< ((nI i).toInt64 &&& 63))) hx hb dX3_firsts_28 rfl ?_
          refine lv_goto (tgt := 33) hx hb dX3_firsts_29 (by decide) ?_
          refine lv_lor hx hb dX3_firsts_33 ?_
          refine lv_lstore_n (lv' := [(2, .long (r ||| ((1 : Int64) <<< ((nI i).toInt64 &&& 63)))), (4, .int (nI i)), (0, .ref (h 0)), (1, .int (nI x))]) hx hb dX3_firsts_34 rfl hl (by decide) rfl (fun ls hl => ?_)
          refine lv_iinc (v := nI (i + 1)) (lv' := [(4, .int (nI (i + 1))), (2, .long (r ||| ((1 : Int64) <<< ((nI i).toInt64 &&& 63)))), (0, .ref (h 0)), (1, .int (nI x))]) hx hb dX3_firsts_35 hl (k := 1) rfl (nI_1 _) (by decide) rfl (fun ls hl => ?_)
          refine lv_goto (tgt := 5) hx hb dX3_firsts_38 (by decide) ?_
          exact ih (i + 1) (r ||| ((1 : Int64) <<< ((nI i).toInt64 &&& 63))) (by omega) (by rw [← he, fsL, if_pos c_22]) _ _ hP hD hS _ (lv_sub hl [0, 1, 2, 3] rfl)
  refine lv_lconst (v := 0) hx hb dX3_firsts_0 (by decide) ?_
  refine lv_lstore_n (lv' := [(2, .long 0), (0, .ref (h 0)), (1, .int (nI x))]) hx hb dX3_firsts_1 rfl hl (by decide) rfl (fun ls hl => ?_)
  refine lv_iconst (v := 0) hx hb dX3_firsts_2 (by decide) ?_
  refine lv_istore (lv' := [(4, .int 0), (2, .long 0), (0, .ref (h 0)), (1, .int (nI x))]) hx hb dX3_firsts_3 hl (by decide) rfl (fun ls hl => ?_)
  exact loop np 0 0 (by omega) rfl _ _ hP hD hS _ (lv_sub hl [0, 1, 2, 3] rfl)

set_option maxHeartbeats 4000000 in
set_option maxRecDepth 100000 in
theorem k_E_ends (l : Launch) (D : va_G) (h : Nat → Nat) (k : Nat → ClassId) (tx : Nat → Int32) (sz : Nat) (im : Bool) (cm : Nat) (nw : Int64) (nd : Nat) (kd : Nat → Int32) (pa : Nat → Option Nat) (be : Nat → Option Nat) (af : Nat → Option Nat) (mi : Nat → Bool) (np : Nat) (lf : Nat → Nat) (nm : Nat → Int32) (dp : Nat) (la : Nat → Option Nat) (so : Nat → Int32) (ro : Nat) (q : Nat) (nb : Nat) (ok : okT nb pa be af np lf) (hq : q < np) :
    Ct l yX3_ends wsX3_ends (rmN 0) D vwCl (tyM k) [.ref (h 0), .int (nI q)] (wM h k tx sz im cm nw (nd, kd, pa, be, af, mi, np, lf, nm, dp, la, so, ro)) (wM h k tx sz im cm nw (nd, kd, pa, be, af, mi, np, lf, nm, dp, la, so, ro)) (some (.int (bI (edC kd pa af mi 701 (lf q))))) := by
  refine Ct.of (cc := cX3_ends) (maxL := 4) (ret := (some .boolean)) (lv := [(0, .ref (h 0)), (1, .int (nI q))]) (by decide) rfl (Nat.le_of_ble_eq_true rfl) rfl ?_
  intro p e s m below meth c A ls hx hb hr hml hts hown hlocks hK hP hD hS hA hl
  obtain ⟨hnb, hnp, okP, okB, okA, okL⟩ := ok
  have loop : ∀ (f : Nat) (n : Nat), (n < nb) → (701 ≤ f + n) → (edC kd pa af mi f n = edC kd pa af mi 701 (lf q)) → ∀ (H : Heap) (locs : List Loc), va_P D vwCl (wM h k tx sz im cm nw (nd, kd, pa, be, af, mi, np, lf, nm, dp, la, so, ro)) H → va_D A (wM h k tx sz im cm nw (nd, kd, pa, be, af, mi, np, lf, nm, dp, la, so, ro)) → va_S A s.heap H locs → ∀ ls : Array Slot, lv_has ls 4 [(2, .int (nI n)), (0, .ref (h 0)), (1, .int (nI q))] →
      W p l e (rmN 0) s m ([.ref (h 0), .int (nI q)] : List Value).toArray below meth c H locs 0 0 (MQ below (CtQ D vwCl A (wM h k tx sz im cm nw (nd, kd, pa, be, af, mi, np, lf, nm, dp, la, so, ro)) (some (.int (bI (edC kd pa af mi 701 (lf q)))))) ([.ref (h 0), .int (nI q)] : List Value).toArray s 0 0 A) (F0 m 7 ls []) := by
    intro f
    induction f with
    | zero =>
      intro n hn hf he H locs hP hD hS ls hl
      exact absurd hf (by omega)
    | succ f ih =>
      intro n hn hf he H locs hP hD hS ls hl
      refine lv_aload_n hx hb dX3_ends_7 rfl (lv_at hl 1 rfl) ?_
      refine va_get (D := D) (ci := 3) (v := .ref (h 3)) (C := RX3) (T := TX3) (N := 18) hx hb hts (fun w h => lw_in w (inX3 w h)) hown hK hP 0 rfl rfl 4 (by decide) (hts _ (lw_in _ t_292)) (fun _ h9 => h9) rfl dX3_ends_8 ?_
      refine lv_iload_n hx hb dX3_ends_11 rfl (lv_at hl 0 rfl) ?_
      refine wx_pald hx hb hK hP 3 2 rfl rfl (i := n) (by omega) (by decide) dX3_ends_12 ?_
      refine W.eq (g2 := F0 m 13 ls [.int (pI (pa n))]) rfl ?_
      rcases e_12 : pa n with _ | x12
      · refine W.eq (g2 := F0 m 13 ls [.int (-1)]) rfl ?_
        refine lv_if_lt (tgt := 73) hx hb dX3_ends_13 (by decide) (fun c_13 => ?_) (fun c_13 => ?_)
        · refine lv_iconst (v := 1) hx hb dX3_ends_73 (by decide) ?_
          exact ct_endi hx hb hr hlocks rfl hP hD hS rfl (by rw [← he, edC, e_12]; rfl) dX3_ends_74
        · exact absurd (by decide) c_13
      · refine W.eq (g2 := F0 m 13 ls [.int (nI x12)]) rfl ?_
        have hp := okP _ _ hn e_12
        refine lv_if_lt (tgt := 73) hx hb dX3_ends_13 (by decide) (fun c_13 => ?_) (fun c_13 => ?_)
        · have c_13 : x12 < 0 := (nI_ltI (a := x12) (b := 0) (by omega) (by omega)).mp c_13
          exact absurd c_13 (Nat.not_lt_zero _)
        · have c_13 : 0 ≤ x12 := Nat.le_of_not_lt (fun z => c_13 ((nI_ltI (a := x12) (b := 0) (by omega) (by omega)).mpr z))
          refine lv_aload_n hx hb dX3_ends_16 rfl (lv_at hl 1 rfl) ?_
          refine va_get (D := D) (ci := 3) (v := .ref (h 5)) (C := RX3) (T := TX3) (N := 18) hx hb hts (fun w h => lw_in w (inX3 w h)) hown hK hP 0 rfl rfl 6 (by decide) (hts _ (lw_in _ t_294)) (fun _ h9 => h9) rfl dX3_ends_17 ?_
          refine lv_iload_n hx hb dX3_ends_20 rfl (lv_at hl 0 rfl) ?_
          refine wx_pald hx hb hK hP 5 4 rfl rfl (i := n) (by omega) (by decide) dX3_ends_21 ?_
          refine lv_istore_n (lv' := [(3, .int (pI (af n))), (2, .int (nI n)), (0, .ref (h 0)), (1, .int (nI q))]) hx hb dX3_ends_22 rfl hl (by decide) rfl (fun ls hl => ?_)
          have he2 : (if alB (kd x12) af mi 701 (af n) = true then edC kd pa af mi f x12 else false) = edC kd pa af mi 701 (lf q) := by rw [← he, edC, e_12]
          have loop2 : ∀ (g : Nat) (o : Option Nat), (∀ w0, o = some w0 → 701 ≤ g + w0 ∧ w0 < nb) → (alB (kd x12) af mi g o = alB (kd x12) af mi 701 (af n)) → ∀ (H : Heap) (locs : List Loc), va_P D vwCl (wM h k tx sz im cm nw (nd, kd, pa, be, af, mi, np, lf, nm, dp, la, so, ro)) H → va_D A (wM h k tx sz im cm nw (nd, kd, pa, be, af, mi, np, lf, nm, dp, la, so, ro)) → va_S A s.heap H locs → ∀ ls : Array Slot, lv_has ls 4 [(3, .int (pI o)), (2, .int (nI n)), (0, .ref (h 0)), (1, .int (nI q))] →
              W p l e (rmN 0) s m ([.ref (h 0), .int (nI q)] : List Value).toArray below meth c H locs 0 0 (MQ below (CtQ D vwCl A (wM h k tx sz im cm nw (nd, kd, pa, be, af, mi, np, lf, nm, dp, la, so, ro)) (some (.int (bI (edC kd pa af mi 701 (lf q)))))) ([.ref (h 0), .int (nI q)] : List Value).toArray s 0 0 A) (F0 m 23 ls []) := by
            intro g
            induction g with
            | zero =>
              intro o ho hk H locs hP hD hS ls hl
              rcases o with _ | w0
              · have hl : lv_has ls 4 [(3, .int (-1)), (2, .int (nI n)), (0, .ref (h 0)), (1, .int (nI q))] := hl
                refine lv_iload_n hx hb dX3_ends_23 rfl (lv_at hl 0 rfl) ?_
                refine lv_if_lt (tgt := 63) hx hb dX3_ends_24 (by decide) (fun c_24 => ?_) (fun c_24 => ?_)
                · refine lv_aload_n hx hb dX3_ends_63 rfl (lv_at hl 2 rfl) ?_
                  refine va_get (D := D) (ci := 3) (v := .ref (h 3)) (C := RX3) (T := TX3) (N := 18) hx hb hts (fun w h => lw_in w (inX3 w h)) hown hK hP 0 rfl rfl 4 (by decide) (hts _ (lw_in _ t_292)) (fun _ h9 => h9) rfl dX3_ends_64 ?_
                  refine lv_iload_n hx hb dX3_ends_67 rfl (lv_at hl 1 rfl) ?_
                  refine wx_pald hx hb hK hP 3 2 rfl rfl (i := n) (by omega) (by decide) dX3_ends_68 ?_
                  refine lv_eqi (show pI (pa n) = nI x12 by rw [e_12]; rfl) ?_
                  refine lv_istore_n (lv' := [(2, .int (nI x12)), (3, .int (-1)), (0, .ref (h 0)), (1, .int (nI q))]) hx hb dX3_ends_69 rfl hl (by decide) rfl (fun ls hl => ?_)
                  refine lv_goto (tgt := 7) hx hb dX3_ends_70 (by decide) ?_
                  exact ih x12 (by omega) (by omega) (by rw [← he2, if_pos (by rw [← hk]; rfl)]) _ _ hP hD hS _ (lv_sub hl [0, 2, 3] rfl)
                · exact absurd (by decide) c_24
              · have hl : lv_has ls 4 [(3, .int (nI w0)), (2, .int (nI n)), (0, .ref (h 0)), (1, .int (nI q))] := hl
                exact absurd (ho w0 rfl).1 (by have := (ho w0 rfl).2; omega)
            | succ g ih2 =>
              intro o ho hk H locs hP hD hS ls hl
              rcases o with _ | w0
              · have hl : lv_has ls 4 [(3, .int (-1)), (2, .int (nI n)), (0, .ref (h 0)), (1, .int (nI q))] := hl
                refine lv_iload_n hx hb dX3_ends_23 rfl (lv_at hl 0 rfl) ?_
                refine lv_if_lt (tgt := 63) hx hb dX3_ends_24 (by decide) (fun c_24 => ?_) (fun c_24 => ?_)
                · refine lv_aload_n hx hb dX3_ends_63 rfl (lv_at hl 2 rfl) ?_
                  refine va_get (D := D) (ci := 3) (v := .ref (h 3)) (C := RX3) (T := TX3) (N := 18) hx hb hts (fun w h => lw_in w (inX3 w h)) hown hK hP 0 rfl rfl 4 (by decide) (hts _ (lw_in _ t_292)) (fun _ h9 => h9) rfl dX3_ends_64 ?_
                  refine lv_iload_n hx hb dX3_ends_67 rfl (lv_at hl 1 rfl) ?_
                  refine wx_pald hx hb hK hP 3 2 rfl rfl (i := n) (by omega) (by decide) dX3_ends_68 ?_
                  refine lv_eqi (show pI (pa n) = nI x12 by rw [e_12]; rfl) ?_
                  refine lv_istore_n (lv' := [(2, .int (nI x12)), (3, .int (-1)), (0, .ref (h 0)), (1, .int (nI q))]) hx hb dX3_ends_69 rfl hl (by decide) rfl (fun ls hl => ?_)
                  refine lv_goto (tgt := 7) hx hb dX3_ends_70 (by decide) ?_
                  exact ih x12 (by omega) (by omega) (by rw [← he2, if_pos (by rw [← hk]; rfl)]) _ _ hP hD hS _ (lv_sub hl [0, 2, 3] rfl)
                · exact absurd (by decide) c_24
              · have hl : lv_has ls 4 [(3, .int (nI w0)), (2, .int (nI n)), (0, .ref (h 0)), (1, .int (nI q))] := hl
                have hz := ho w0 rfl
                refine lv_iload_n hx hb dX3_ends_23 rfl (lv_at hl 0 rfl) ?_
                refine lv_if_lt (tgt := 63) hx hb dX3_ends_24 (by decide) (fun c_24 => ?_) (fun c_24 => ?_)
                · have c_24 : w0 < 0 := (nI_ltI (a := w0) (b := 0) (by omega) (by omega)).mp c_24
                  exact absurd c_24 (Nat.not_lt_zero _)
                · have c_24 : 0 ≤ w0 := Nat.le_of_not_lt (fun z => c_24 ((nI_ltI (a := w0) (b := 0) (by omega) (by omega)).mpr z))
                  refine lv_aload_n hx hb dX3_ends_27 rfl (lv_at hl 2 rfl) ?_
                  refine va_get (D := D) (ci := 3) (v := .ref (h 2)) (C := RX3) (T := TX3) (N := 18) hx hb hts (fun w h => lw_in w (inX3 w h)) hown hK hP 0 rfl rfl 3 (by decide) (hts _ (lw_in _ t_291)) (fun _ h9 => h9) rfl dX3_ends_28 ?_
                  refine lv_aload_n hx hb dX3_ends_31 rfl (lv_at hl 2 rfl) ?_
                  refine va_get (D := D) (ci := 3) (v := .ref (h 3)) (C := RX3) (T := TX3) (N := 18) hx hb hts (fun w h => lw_in w (inX3 w h)) hown hK hP 0 rfl rfl 4 (by decide) (hts _ (lw_in _ t_292)) (fun _ h9 => h9) rfl dX3_ends_32 ?_
                  refine lv_iload_n hx hb dX3_ends_35 rfl (lv_at hl 1 rfl) ?_
                  refine wx_pald hx hb hK hP 3 2 rfl rfl (i := n) (by omega) (by decide) dX3_ends_36 ?_
                  refine lv_eqi (show pI (pa n) = nI x12 by rw [e_12]; rfl) ?_
                  refine wx_iald hx hb hK hP 2 1 rfl rfl (i := x12) (by omega) (by decide) dX3_ends_37 ?_
                  refine lv_iconst (v := 2) hx hb dX3_ends_38 (by decide) ?_
                  refine lv_icmp_ne (tgt := 63) hx hb dX3_ends_39 (by decide) (fun c_39 => ?_) (fun c_39 => ?_)
                  · have c_39 : ¬ (kd x12) = 2 := c_39
                    refine lv_aload_n hx hb dX3_ends_63 rfl (lv_at hl 2 rfl) ?_
                    refine va_get (D := D) (ci := 3) (v := .ref (h 3)) (C := RX3) (T := TX3) (N := 18) hx hb hts (fun w h => lw_in w (inX3 w h)) hown hK hP 0 rfl rfl 4 (by decide) (hts _ (lw_in _ t_292)) (fun _ h9 => h9) rfl dX3_ends_64 ?_
                    refine lv_iload_n hx hb dX3_ends_67 rfl (lv_at hl 1 rfl) ?_
                    refine wx_pald hx hb hK hP 3 2 rfl rfl (i := n) (by omega) (by decide) dX3_ends_68 ?_
                    refine lv_eqi (show pI (pa n) = nI x12 by rw [e_12]; rfl) ?_
                    refine lv_istore_n (lv' := [(2, .int (nI x12)), (3, .int (nI w0)), (0, .ref (h 0)), (1, .int (nI q))]) hx hb dX3_ends_69 rfl hl (by decide) rfl (fun ls hl => ?_)
                    refine lv_goto (tgt := 7) hx hb dX3_ends_70 (by decide) ?_
                    exact ih x12 (by omega) (by omega) (by rw [← he2, if_pos (by rw [← hk]; rw [alB, if_neg c_39])]) _ _ hP hD hS _ (lv_sub hl [0, 2, 3] rfl)
                  · have c_39 : (kd x12) = 2 := c_39
                    refine lv_aload_n hx hb dX3_ends_42 rfl (lv_at hl 2 rfl) ?_
                    refine va_get (D := D) (ci := 3) (v := .ref (h 6)) (C := RX3) (T := TX3) (N := 18) hx hb hts (fun w h => lw_in w (inX3 w h)) hown hK hP 0 rfl rfl 7 (by decide) (hts _ (lw_in _ t_295)) (fun _ h9 => h9) rfl dX3_ends_43 ?_
                    refine lv_iload_n hx hb dX3_ends_46 rfl (lv_at hl 0 rfl) ?_
                    refine wx_zald hx hb hK hP 6 5 rfl rfl (i := w0) (by omega) (by decide) dX3_ends_47 ?_
                    refine lv_if_ne (tgt := 53) hx hb dX3_ends_48 (by decide) (fun c_48 => ?_) (fun c_48 => ?_)
                    · have c_48 : (mi w0) = true := (bI_ne0 _).mp c_48
                      refine lv_aload_n hx hb dX3_ends_53 rfl (lv_at hl 2 rfl) ?_
                      refine va_get (D := D) (ci := 3) (v := .ref (h 5)) (C := RX3) (T := TX3) (N := 18) hx hb hts (fun w h => lw_in w (inX3 w h)) hown hK hP 0 rfl rfl 6 (by decide) (hts _ (lw_in _ t_294)) (fun _ h9 => h9) rfl dX3_ends_54 ?_
                      refine lv_iload_n hx hb dX3_ends_57 rfl (lv_at hl 0 rfl) ?_
                      refine wx_pald hx hb hK hP 5 4 rfl rfl (i := w0) (by omega) (by decide) dX3_ends_58 ?_
                      refine lv_istore_n (lv' := [(3, .int (pI (af w0))), (2, .int (nI n)), (0, .ref (h 0)), (1, .int (nI q))]) hx hb dX3_ends_59 rfl hl (by decide) rfl (fun ls hl => ?_)
                      refine lv_goto (tgt := 23) hx hb dX3_ends_60 (by decide) ?_
                      exact ih2 (af w0) (fun y hy => by have := okA w0 y hz.2 hy; exact ⟨by omega, this.2⟩) (by rw [← hk, alB, if_pos c_39, if_pos c_48]) _ _ hP hD hS _ (lv_sub hl [0, 1, 2, 3] rfl)
                    · have c_48 : (mi w0) = false := (bI_eq0 _).mp c_48
                      refine lv_iconst (v := 0) hx hb dX3_ends_51 (by decide) ?_
                      exact ct_endi hx hb hr hlocks rfl hP hD hS rfl (by rw [← he2, if_neg (by rw [← hk, alB, if_pos c_39, if_neg (bF c_48)]; decide)]; rfl) dX3_ends_52
          exact loop2 701 (af n) (fun y hy => by have := okA n y hn hy; exact ⟨by omega, this.2⟩) rfl _ _ hP hD hS _ (lv_sub hl [0, 1, 2, 3] rfl)
  refine lv_aload_n hx hb dX3_ends_0 rfl (lv_at hl 0 rfl) ?_
  refine va_get (D := D) (ci := 3) (v := .ref (h 7)) (C := RX3) (T := TX3) (N := 18) hx hb hts (fun w h => lw_in w (inX3 w h)) hown hK hP 0 rfl rfl 9 (by decide) (hts _ (lw_in _ t_297)) (fun _ h9 => h9) rfl dX3_ends_1 ?_
  refine lv_iload_n hx hb dX3_ends_4 rfl (lv_at hl 1 rfl) ?_
  refine wx_nald hx hb hK hP 7 6 rfl rfl (i := q) (by omega) (by decide) dX3_ends_5 ?_
  refine lv_istore_n (lv' := [(2, .int (nI (lf q))), (0, .ref (h 0)), (1, .int (nI q))]) hx hb dX3_ends_6 rfl hl (by decide) rfl (fun ls hl => ?_)
  exact loop 701 (lf q) (okL q hq) (by omega) rfl _ _ hP hD hS _ (lv_sub hl [0, 1, 2] rfl)

set_option maxHeartbeats 4000000 in
set_option maxRecDepth 100000 in
theorem k_E_first (l : Launch) (D : va_G) (h : Nat → Nat) (k : Nat → ClassId) (tx : Nat → Int32) (sz : Nat) (im : Bool) (cm : Nat) (nw : Int64) (nd : Nat) (kd : Nat → Int32) (pa : Nat → Option Nat) (be : Nat → Option Nat) (af : Nat → Option Nat) (mi : Nat → Bool) (np : Nat) (lf : Nat → Nat) (nm : Nat → Int32) (dp : Nat) (la : Nat → Option Nat) (so : Nat → Int32) (ro : Nat)  (nb : Nat) (ok : okT nb pa be af np lf) (hro : im = true → ro < nb) :
    Ct l yX3_first wsX3_first (rmN 2) D vwCl (tyM k) [.ref (h 0)] (wM h k tx sz im cm nw (nd, kd, pa, be, af, mi, np, lf, nm, dp, la, so, ro)) (wM h k tx sz im cm nw (nd, kd, pa, be, af, mi, np, lf, nm, dp, la, so, ro)) (some (.long (e_first kd pa be mi np lf im ro))) := by
  refine Ct.of (cc := cX3_first) (maxL := 1) (ret := (some .long)) (lv := [(0, .ref (h 0))]) (by decide) rfl (Nat.le_of_ble_eq_true rfl) rfl ?_
  intro p e s m below meth c A ls hx hb hr hml hts hown hlocks hK hP hD hS hA hl
  have ok0 := ok
  refine lv_aload_n hx hb dX3_first_0 rfl (lv_at hl 0 rfl) ?_
  refine va_get (D := D) (ci := 3) (v := .int (bI im)) (C := RX3) (T := TX3) (N := 18) hx hb hts (fun w h => lw_in w (inX3 w h)) hown hK hP 0 rfl rfl 11 (by decide) (hts _ (lw_in _ t_299)) (fun _ h9 => h9) rfl dX3_first_1 ?_
  refine lv_if_eq (tgt := 18) hx hb dX3_first_4 (by decide) (fun c_4 => ?_) (fun c_4 => ?_)
  · have c_4 : im = false := (bI_eq0 _).mp c_4
    refine lv_lconst (v := 0) hx hb dX3_first_18 (by decide) ?_
    exact ct_endl hx hb hr hlocks hP hD hS rfl (by rw [e_first, if_neg (bF c_4)]) dX3_first_19
  · have c_4 : im = true := (bI_ne0 _).mp c_4
    refine lv_aload_n hx hb dX3_first_7 rfl (lv_at hl 0 rfl) ?_
    refine lv_aload_n hx hb dX3_first_8 rfl (lv_at hl 0 rfl) ?_
    refine va_get (D := D) (ci := 3) (v := .int (nI ro)) (C := RX3) (T := TX3) (N := 18) hx hb hts (fun w h => lw_in w (inX3 w h)) hown hK hP 0 rfl rfl 15 (by decide) (hts _ (lw_in _ t_303)) (fun _ h9 => h9) rfl dX3_first_9 ?_
    refine ct_callV (As := [.int (nI ro)]) (rest := []) ⟨hx, hb, hml, hown, hts⟩ (k_E_firsts l D h k tx sz im cm nw nd kd pa be af mi np lf nm dp la so ro ro nb ok0 (hro c_4)) (cwV 1 hts (gV lw_in t_387 t_389 t_17 t_26 t_390) rfl rfl rfl (by decide +kernel) ⟨Nat.le_of_ble_eq_true rfl, Nat.le_of_ble_eq_true rfl⟩) 0 rfl rfl hK hP hD hS hA rfl hl.1 rfl (Nat.le_of_ble_eq_true rfl) dX3_first_12 ⟨Nat.zero_le _, Nat.zero_le _⟩ (fun H locs hP hD hS => ?_)
    refine W.eq (g2 := F0 m 15 ls [.long (fsF kd pa be mi np lf ro)]) rfl ?_
    refine lv_goto (tgt := 19) hx hb dX3_first_15 (by decide) ?_
    exact ct_endl hx hb hr hlocks hP hD hS rfl (by rw [e_first, if_pos c_4]) dX3_first_19

set_option maxHeartbeats 4000000 in
set_option maxRecDepth 100000 in
theorem k_E_next (l : Launch) (D : va_G) (h : Nat → Nat) (k : Nat → ClassId) (tx : Nat → Int32) (sz : Nat) (im : Bool) (cm : Nat) (nw : Int64) (nd : Nat) (kd : Nat → Int32) (pa : Nat → Option Nat) (be : Nat → Option Nat) (af : Nat → Option Nat) (mi : Nat → Bool) (np : Nat) (lf : Nat → Nat) (nm : Nat → Int32) (dp : Nat) (la : Nat → Option Nat) (so : Nat → Int32) (ro : Nat) (x : Int32) (nb : Nat) (ok : okT nb pa be af np lf) :
    Ct l yX3_next wsX3_next (rmN 2) D vwCl (tyM k) [.ref (h 0), .int x] (wM h k tx sz im cm nw (nd, kd, pa, be, af, mi, np, lf, nm, dp, la, so, ro)) (wM h k tx sz im cm nw (nd, kd, pa, be, af, mi, np, lf, nm, dp, la, so, ro)) (some (.long (e_next kd pa be af mi np lf x))) := by
  refine Ct.of (cc := cX3_next) (maxL := 7) (ret := (some .long)) (lv := [(0, .ref (h 0)), (1, .int x)]) (by decide) rfl (Nat.le_of_ble_eq_true rfl) rfl ?_
  intro p e s m below meth c A ls hx hb hr hml hts hown hlocks hK hP hD hS hA hl
  have ok0 := ok
  obtain ⟨hnb, hnp, okP, okB, okA, okL⟩ := ok
  refine lv_iload_n hx hb dX3_next_0 rfl (lv_at hl 1 rfl) ?_
  refine lv_if_lt (tgt := 12) hx hb dX3_next_1 (by decide) (fun c_1 => ?_) (fun c_1 => ?_)
  · have c_1 : x < 0 := c_1
    refine lv_lconst (v := 0) hx hb dX3_next_12 (by decide) ?_
    exact ct_endl hx hb hr hlocks hP hD hS rfl (by rw [e_next, if_pos c_1]) dX3_next_13
  · have c_1 : ¬ x < 0 := c_1
    refine lv_iload_n hx hb dX3_next_4 rfl (lv_at hl 1 rfl) ?_
    refine lv_aload_n hx hb dX3_next_5 rfl (lv_at hl 0 rfl) ?_
    refine va_get (D := D) (ci := 3) (v := .int (nI np)) (C := RX3) (T := TX3) (N := 18) hx hb hts (fun w h => lw_in w (inX3 w h)) hown hK hP 0 rfl rfl 8 (by decide) (hts _ (lw_in _ t_296)) (fun _ h9 => h9) rfl dX3_next_6 ?_
    refine lv_icmp_lt (tgt := 14) hx hb dX3_next_9 (by decide) (fun c_9 => ?_) (fun c_9 => ?_)
    · have c_9 : x < nI np := c_9
      obtain ⟨j, hj, rfl⟩ : ∃ j, j < np ∧ x = nI j := p_ix (by omega) c_1 c_9
      have e_tg : e_next kd pa be af mi np lf (nI j) = nxF kd pa be af mi np lf j := by rw [e_next, if_neg c_1, if_pos c_9, nI_clamp (by omega)]
      refine lv_lconst (v := 0) hx hb dX3_next_14 (by decide) ?_
      refine lv_lstore_n (lv' := [(2, .long 0), (0, .ref (h 0)), (1, .int (nI j))]) hx hb dX3_next_15 rfl hl (by decide) rfl (fun ls hl => ?_)
      refine lv_aload_n hx hb dX3_next_16 rfl (lv_at hl 1 rfl) ?_
      refine va_get (D := D) (ci := 3) (v := .ref (h 7)) (C := RX3) (T := TX3) (N := 18) hx hb hts (fun w h => lw_in w (inX3 w h)) hown hK hP 0 rfl rfl 9 (by decide) (hts _ (lw_in _ t_297)) (fun _ h9 => h9) rfl dX3_next_17 ?_
      refine lv_iload_n hx hb dX3_next_20 rfl (lv_at hl 2 rfl) ?_
      refine wx_nald hx hb hK hP 7 6 rfl rfl (i := j) (by omega) (by decide) dX3_next_21 ?_
      refine lv_istore (lv' := [(4, .int (nI (lf j))), (2, .long 0), (0, .ref (h 0)), (1, .int (nI j))]) hx hb dX3_next_22 hl (by decide) rfl (fun ls hl => ?_)
      have loop : ∀ (f : Nat) (n : Nat) (r : Int64), (n < nb) → (701 ≤ f + n) → (nxC kd pa af mi (fsF kd pa be mi np lf) f n r = nxF kd pa be af mi np lf j) → ∀ (H : Heap) (locs : List Loc), va_P D vwCl (wM h k tx sz im cm nw (nd, kd, pa, be, af, mi, np, lf, nm, dp, la, so, ro)) H → va_D A (wM h k tx sz im cm nw (nd, kd, pa, be, af, mi, np, lf, nm, dp, la, so, ro)) → va_S A s.heap H locs → ∀ ls : Array Slot, lv_has ls 7 [(4, .int (nI n)), (2, .long r), (0, .ref (h 0)), (1, .int (nI j))] →
          W p l e (rmN 2) s m ([.ref (h 0), .int (nI j)] : List Value).toArray below meth c H locs 0 0 (MQ below (CtQ D vwCl A (wM h k tx sz im cm nw (nd, kd, pa, be, af, mi, np, lf, nm, dp, la, so, ro)) (some (.long (e_next kd pa be af mi np lf (nI j))))) ([.ref (h 0), .int (nI j)] : List Value).toArray s 0 0 A) (F0 m 24 ls []) := by
        intro f
        induction f with
        | zero =>
          intro n r hn hf he H locs hP hD hS ls hl
          exact absurd hf (by omega)
        | succ f ih =>
          intro n r hn hf he H locs hP hD hS ls hl
          refine lv_aload_n hx hb dX3_next_24 rfl (lv_at hl 2 rfl) ?_
          refine va_get (D := D) (ci := 3) (v := .ref (h 3)) (C := RX3) (T := TX3) (N := 18) hx hb hts (fun w h => lw_in w (inX3 w h)) hown hK hP 0 rfl rfl 4 (by decide) (hts _ (lw_in _ t_292)) (fun _ h9 => h9) rfl dX3_next_25 ?_
          refine lv_iload hx hb dX3_next_28 (lv_at hl 0 rfl) ?_
          refine wx_pald hx hb hK hP 3 2 rfl rfl (i := n) (by omega) (by decide) dX3_next_30 ?_
          refine W.eq (g2 := F0 m 31 ls [.int (pI (pa n))]) rfl ?_
          rcases e_30 : pa n with _ | x30
          · refine W.eq (g2 := F0 m 31 ls [.int (-1)]) rfl ?_
            refine lv_if_lt (tgt := 139) hx hb dX3_next_31 (by decide) (fun c_31 => ?_) (fun c_31 => ?_)
            · refine lv_lload_n hx hb dX3_next_139 rfl (lv_at hl 1 rfl) ?_
              exact ct_endl hx hb hr hlocks hP hD hS rfl (by rw [e_tg, ← he, nxC, e_30]) dX3_next_140
            · exact absurd (by decide) c_31
          · refine W.eq (g2 := F0 m 31 ls [.int (nI x30)]) rfl ?_
            have hp := okP _ _ hn e_30
            refine lv_if_lt (tgt := 139) hx hb dX3_next_31 (by decide) (fun c_31 => ?_) (fun c_31 => ?_)
            · have c_31 : x30 < 0 := (nI_ltI (a := x30) (b := 0) (by omega) (by omega)).mp c_31
              exact absurd c_31 (Nat.not_lt_zero _)
            · have c_31 : 0 ≤ x30 := Nat.le_of_not_lt (fun z => c_31 ((nI_ltI (a := x30) (b := 0) (by omega) (by omega)).mpr z))
              refine lv_aload_n hx hb dX3_next_34 rfl (lv_at hl 2 rfl) ?_
              refine va_get (D := D) (ci := 3) (v := .ref (h 3)) (C := RX3) (T := TX3) (N := 18) hx hb hts (fun w h => lw_in w (inX3 w h)) hown hK hP 0 rfl rfl 4 (by decide) (hts _ (lw_in _ t_292)) (fun _ h9 => h9) rfl dX3_next_35 ?_
              refine lv_iload hx hb dX3_next_38 (lv_at hl 0 rfl) ?_
              refine wx_pald hx hb hK hP 3 2 rfl rfl (i := n) (by omega) (by decide) dX3_next_40 ?_
              refine lv_eqi (show pI (pa n) = nI x30 by rw [e_30]; rfl) ?_
              refine lv_istore (lv' := [(5, .int (nI x30)), (4, .int (nI n)), (2, .long r), (0, .ref (h 0)), (1, .int (nI j))]) hx hb dX3_next_41 hl (by decide) rfl (fun ls hl => ?_)
              refine lv_aload_n hx hb dX3_next_43 rfl (lv_at hl 3 rfl) ?_
              refine va_get (D := D) (ci := 3) (v := .ref (h 2)) (C := RX3) (T := TX3) (N := 18) hx hb hts (fun w h => lw_in w (inX3 w h)) hown hK hP 0 rfl rfl 3 (by decide) (hts _ (lw_in _ t_291)) (fun _ h9 => h9) rfl dX3_next_44 ?_
              refine lv_iload hx hb dX3_next_47 (lv_at hl 0 rfl) ?_
              refine wx_iald hx hb hK hP 2 1 rfl rfl (i := x30) (by omega) (by decide) dX3_next_49 ?_
              refine lv_iconst (v := 4) hx hb dX3_next_50 (by decide) ?_
              refine lv_icmp_eq (tgt := 65) hx hb dX3_next_51 (by decide) (fun c_51 => ?_) (fun c_51 => ?_)
              · have c_51 : (kd x30) = 4 := c_51
                refine lv_lload_n hx hb dX3_next_65 rfl (lv_at hl 2 rfl) ?_
                refine lv_aload_n hx hb dX3_next_66 rfl (lv_at hl 3 rfl) ?_
                refine lv_iload hx hb dX3_next_67 (lv_at hl 1 rfl) ?_
                refine ct_callV (As := [.int (nI n)]) (rest := [.long r]) ⟨hx, hb, hml, hown, hts⟩ (k_E_firsts l D h k tx sz im cm nw nd kd pa be af mi np lf nm dp la so ro n nb ok0 (by omega)) (cwV 1 hts (gV lw_in t_387 t_389 t_17 t_26 t_390) rfl rfl rfl (by decide +kernel) ⟨Nat.le_of_ble_eq_true rfl, Nat.le_of_ble_eq_true rfl⟩) 0 rfl rfl hK hP hD hS hA rfl hl.1 rfl (Nat.le_of_ble_eq_true rfl) dX3_next_69 ⟨Nat.zero_le _, Nat.zero_le _⟩ (fun H locs hP hD hS => ?_)
                refine W.eq (g2 := F0 m 72 ls [.long (fsF kd pa be mi np lf n), .long r]) rfl ?_
                refine lv_lor hx hb dX3_next_72 ?_
                refine lv_lstore_n (lv' := [(2, .long (r ||| (fsF kd pa be mi np lf n))), (5, .int (nI x30)), (4, .int (nI n)), (0, .ref (h 0)), (1, .int (nI j))]) hx hb dX3_next_73 rfl hl (by decide) rfl (fun ls hl => ?_)
                refine lv_aload_n hx hb dX3_next_74 rfl (lv_at hl 3 rfl) ?_
                refine va_get (D := D) (ci := 3) (v := .ref (h 5)) (C := RX3) (T := TX3) (N := 18) hx hb hts (fun w h => lw_in w (inX3 w h)) hown hK hP 0 rfl rfl 6 (by decide) (hts _ (lw_in _ t_294)) (fun _ h9 => h9) rfl dX3_next_75 ?_
                refine lv_iload hx hb dX3_next_78 (lv_at hl 2 rfl) ?_
                refine wx_pald hx hb hK hP 5 4 rfl rfl (i := n) (by omega) (by decide) dX3_next_80 ?_
                refine lv_istore (lv' := [(6, .int (pI (af n))), (2, .long (r ||| (fsF kd pa be mi np lf n))), (5, .int (nI x30)), (4, .int (nI n)), (0, .ref (h 0)), (1, .int (nI j))]) hx hb dX3_next_81 hl (by decide) rfl (fun ls hl => ?_)
                have he2 : (if (sbL (kd x30) af mi (fsF kd pa be mi np lf) 701 (af n) (r ||| (fsF kd pa be mi np lf n))).2 = true then (sbL (kd x30) af mi (fsF kd pa be mi np lf) 701 (af n) (r ||| (fsF kd pa be mi np lf n))).1 else nxC kd pa af mi (fsF kd pa be mi np lf) f x30 (sbL (kd x30) af mi (fsF kd pa be mi np lf) 701 (af n) (r ||| (fsF kd pa be mi np lf n))).1) = nxF kd pa be af mi np lf j := by rw [← he, nxC, e_30]; dsimp only; rw [if_pos c_51]
                have loop2 : ∀ (g : Nat) (o : Option Nat) (r2 : Int64), (∀ w0, o = some w0 → 701 ≤ g + w0 ∧ w0 < nb) → (sbL (kd x30) af mi (fsF kd pa be mi np lf) g o r2 = sbL (kd x30) af mi (fsF kd pa be mi np lf) 701 (af n) (r ||| (fsF kd pa be mi np lf n))) → ∀ (H : Heap) (locs : List Loc), va_P D vwCl (wM h k tx sz im cm nw (nd, kd, pa, be, af, mi, np, lf, nm, dp, la, so, ro)) H → va_D A (wM h k tx sz im cm nw (nd, kd, pa, be, af, mi, np, lf, nm, dp, la, so, ro)) → va_S A s.heap H locs → ∀ ls : Array Slot, lv_has ls 7 [(6, .int (pI o)), (5, .int (nI x30)), (4, .int (nI n)), (2, .long r2), (0, .ref (h 0)), (1, .int (nI j))] →
                    W p l e (rmN 2) s m ([.ref (h 0), .int (nI j)] : List Value).toArray below meth c H locs 0 0 (MQ below (CtQ D vwCl A (wM h k tx sz im cm nw (nd, kd, pa, be, af, mi, np, lf, nm, dp, la, so, ro)) (some (.long (e_next kd pa be af mi np lf (nI j))))) ([.ref (h 0), .int (nI j)] : List Value).toArray s 0 0 A) (F0 m 83 ls []) := by
                  intro g
                  induction g with
                  | zero =>
                    intro o r2 ho hk H locs hP hD hS ls hl
                    rcases o with _ | w0
                    · have hl : lv_has ls 7 [(6, .int (-1)), (5, .int (nI x30)), (4, .int (nI n)), (2, .long r2), (0, .ref (h 0)), (1, .int (nI j))] := hl
                      refine lv_iload hx hb dX3_next_83 (lv_at hl 0 rfl) ?_
                      refine lv_if_lt (tgt := 132) hx hb dX3_next_85 (by decide) (fun c_85 => ?_) (fun c_85 => ?_)
                      · refine lv_iload hx hb dX3_next_132 (lv_at hl 1 rfl) ?_
                        refine lv_istore (lv' := [(4, .int (nI x30)), (6, .int (-1)), (5, .int (nI x30)), (2, .long r2), (0, .ref (h 0)), (1, .int (nI j))]) hx hb dX3_next_134 hl (by decide) rfl (fun ls hl => ?_)
                        refine lv_goto (tgt := 24) hx hb dX3_next_136 (by decide) ?_
                        exact ih x30 r2 (by omega) (by omega) (by rw [← he2, ← hk]; simp [sbL]) _ _ hP hD hS _ (lv_sub hl [0, 3, 4, 5] rfl)
                      · exact absurd (by decide) c_85
                    · have hl : lv_has ls 7 [(6, .int (nI w0)), (5, .int (nI x30)), (4, .int (nI n)), (2, .long r2), (0, .ref (h 0)), (1, .int (nI j))] := hl
                      exact absurd (ho w0 rfl).1 (by have := (ho w0 rfl).2; omega)
                  | succ g ih2 =>
                    intro o r2 ho hk H locs hP hD hS ls hl
                    rcases o with _ | w0
                    · have hl : lv_has ls 7 [(6, .int (-1)), (5, .int (nI x30)), (4, .int (nI n)), (2, .long r2), (0, .ref (h 0)), (1, .int (nI j))] := hl
                      refine lv_iload hx hb dX3_next_83 (lv_at hl 0 rfl) ?_
                      refine lv_if_lt (tgt := 132) hx hb dX3_next_85 (by decide) (fun c_85 => ?_) (fun c_85 => ?_)
                      · refine lv_iload hx hb dX3_next_132 (lv_at hl 1 rfl) ?_
                        refine lv_istore (lv' := [(4, .int (nI x30)), (6, .int (-1)), (5, .int (nI x30)), (2, .long r2), (0, .ref (h 0)), (1, .int (nI j))]) hx hb dX3_next_134 hl (by decide) rfl (fun ls hl => ?_)
                        refine lv_goto (tgt := 24) hx hb dX3_next_136 (by decide) ?_
                        exact ih x30 r2 (by omega) (by omega) (by rw [← he2, ← hk]; simp [sbL]) _ _ hP hD hS _ (lv_sub hl [0, 3, 4, 5] rfl)
                      · exact absurd (by decide) c_85
                    · have hl : lv_has ls 7 [(6, .int (nI w0)), (5, .int (nI x30)), (4, .int (nI n)), (2, .long r2), (0, .ref (h 0)), (1, .int (nI j))] := hl
                      have hz := ho w0 rfl
                      have hz2 := hz.2
                      refine lv_iload hx hb dX3_next_83 (lv_at hl 0 rfl) ?_
                      refine lv_if_lt (tgt := 132) hx hb dX3_next_85 (by decide) (fun c_85 => ?_) (fun c_85 => ?_)
                      · have c_85 : w0 < 0 := (nI_ltI (a := w0) (b := 0) (by omega) (by omega)).mp c_85
                        exact absurd c_85 (Nat.not_lt_zero _)
                      · have c_85 : 0 ≤ w0 := Nat.le_of_not_lt (fun z => c_85 ((nI_ltI (a := w0) (b := 0) (by omega) (by omega)).mpr z))
                        refine lv_aload_n hx hb dX3_next_88 rfl (lv_at hl 4 rfl) ?_
                        refine va_get (D := D) (ci := 3) (v := .ref (h 2)) (C := RX3) (T := TX3) (N := 18) hx hb hts (fun w h => lw_in w (inX3 w h)) hown hK hP 0 rfl rfl 3 (by decide) (hts _ (lw_in _ t_291)) (fun _ h9 => h9) rfl dX3_next_89 ?_
                        refine lv_iload hx hb dX3_next_92 (lv_at hl 1 rfl) ?_
                        refine wx_iald hx hb hK hP 2 1 rfl rfl (i := x30) (by omega) (by decide) dX3_next_94 ?_
                        refine lv_iconst (v := 2) hx hb dX3_next_95 (by decide) ?_
                        refine lv_icmp_ne (tgt := 132) hx hb dX3_next_96 (by decide) (fun c_96 => ?_) (fun c_96 => ?_)
                        · have c_96 : ¬ (kd x30) = 2 := c_96
                          refine lv_iload hx hb dX3_next_132 (lv_at hl 1 rfl) ?_
                          refine lv_istore (lv' := [(4, .int (nI x30)), (6, .int (nI w0)), (5, .int (nI x30)), (2, .long r2), (0, .ref (h 0)), (1, .int (nI j))]) hx hb dX3_next_134 hl (by decide) rfl (fun ls hl => ?_)
                          refine lv_goto (tgt := 24) hx hb dX3_next_136 (by decide) ?_
                          exact ih x30 r2 (by omega) (by omega) (by rw [← he2, ← hk]; simp [sbL, c_96]) _ _ hP hD hS _ (lv_sub hl [0, 3, 4, 5] rfl)
                        · have c_96 : (kd x30) = 2 := c_96
                          exact absurd (c_51.symm.trans c_96) (by decide)
                exact loop2 701 (af n) (r ||| (fsF kd pa be mi np lf n)) (fun y hy => by have := okA n y hn hy; exact ⟨by omega, this.2⟩) rfl _ _ hP hD hS _ (lv_sub hl [0, 2, 3, 1, 4, 5] rfl)
              · have c_51 : ¬ (kd x30) = 4 := c_51
                refine lv_aload_n hx hb dX3_next_54 rfl (lv_at hl 3 rfl) ?_
                refine va_get (D := D) (ci := 3) (v := .ref (h 2)) (C := RX3) (T := TX3) (N := 18) hx hb hts (fun w h => lw_in w (inX3 w h)) hown hK hP 0 rfl rfl 3 (by decide) (hts _ (lw_in _ t_291)) (fun _ h9 => h9) rfl dX3_next_55 ?_
                refine lv_iload hx hb dX3_next_58 (lv_at hl 0 rfl) ?_
                refine wx_iald hx hb hK hP 2 1 rfl rfl (i := x30) (by omega) (by decide) dX3_next_60 ?_
                refine lv_iconst (v := 5) hx hb dX3_next_61 (by decide) ?_
                refine lv_icmp_ne (tgt := 74) hx hb dX3_next_62 (by decide) (fun c_62 => ?_) (fun c_62 => ?_)
                · have c_62 : ¬ (kd x30) = 5 := c_62
                  refine lv_aload_n hx hb dX3_next_74 rfl (lv_at hl 3 rfl) ?_
                  refine va_get (D := D) (ci := 3) (v := .ref (h 5)) (C := RX3) (T := TX3) (N := 18) hx hb hts (fun w h => lw_in w (inX3 w h)) hown hK hP 0 rfl rfl 6 (by decide) (hts _ (lw_in _ t_294)) (fun _ h9 => h9) rfl dX3_next_75 ?_
                  refine lv_iload hx hb dX3_next_78 (lv_at hl 1 rfl) ?_
                  refine wx_pald hx hb hK hP 5 4 rfl rfl (i := n) (by omega) (by decide) dX3_next_80 ?_
                  refine lv_istore (lv' := [(6, .int (pI (af n))), (5, .int (nI x30)), (4, .int (nI n)), (2, .long r), (0, .ref (h 0)), (1, .int (nI j))]) hx hb dX3_next_81 hl (by decide) rfl (fun ls hl => ?_)
                  have he2 : (if (sbL (kd x30) af mi (fsF kd pa be mi np lf) 701 (af n) r).2 = true then (sbL (kd x30) af mi (fsF kd pa be mi np lf) 701 (af n) r).1 else nxC kd pa af mi (fsF kd pa be mi np lf) f x30 (sbL (kd x30) af mi (fsF kd pa be mi np lf) 701 (af n) r).1) = nxF kd pa be af mi np lf j := by rw [← he, nxC, e_30]; dsimp only; rw [if_neg c_51, if_neg c_62]
                  have loop2 : ∀ (g : Nat) (o : Option Nat) (r2 : Int64), (∀ w0, o = some w0 → 701 ≤ g + w0 ∧ w0 < nb) → (sbL (kd x30) af mi (fsF kd pa be mi np lf) g o r2 = sbL (kd x30) af mi (fsF kd pa be mi np lf) 701 (af n) r) → ∀ (H : Heap) (locs : List Loc), va_P D vwCl (wM h k tx sz im cm nw (nd, kd, pa, be, af, mi, np, lf, nm, dp, la, so, ro)) H → va_D A (wM h k tx sz im cm nw (nd, kd, pa, be, af, mi, np, lf, nm, dp, la, so, ro)) → va_S A s.heap H locs → ∀ ls : Array Slot, lv_has ls 7 [(6, .int (pI o)), (5, .int (nI x30)), (4, .int (nI n)), (2, .long r2), (0, .ref (h 0)), (1, .int (nI j))] →
                      W p l e (rmN 2) s m ([.ref (h 0), .int (nI j)] : List Value).toArray below meth c H locs 0 0 (MQ below (CtQ D vwCl A (wM h k tx sz im cm nw (nd, kd, pa, be, af, mi, np, lf, nm, dp, la, so, ro)) (some (.long (e_next kd pa be af mi np lf (nI j))))) ([.ref (h 0), .int (nI j)] : List Value).toArray s 0 0 A) (F0 m 83 ls []) := by
                    intro g
                    induction g with
                    | zero =>
                      intro o r2 ho hk H locs hP hD hS ls hl
                      rcases o with _ | w0
                      · have hl : lv_has ls 7 [(6, .int (-1)), (5, .int (nI x30)), (4, .int (nI n)), (2, .long r2), (0, .ref (h 0)), (1, .int (nI j))] := hl
                        refine lv_iload hx hb dX3_next_83 (lv_at hl 0 rfl) ?_
                        refine lv_if_lt (tgt := 132) hx hb dX3_next_85 (by decide) (fun c_85 => ?_) (fun c_85 => ?_)
                        · refine lv_iload hx hb dX3_next_132 (lv_at hl 1 rfl) ?_
                          refine lv_istore (lv' := [(4, .int (nI x30)), (6, .int (-1)), (5, .int (nI x30)), (2, .long r2), (0, .ref (h 0)), (1, .int (nI j))]) hx hb dX3_next_134 hl (by decide) rfl (fun ls hl => ?_)
                          refine lv_goto (tgt := 24) hx hb dX3_next_136 (by decide) ?_
                          exact ih x30 r2 (by omega) (by omega) (by rw [← he2, ← hk]; simp [sbL]) _ _ hP hD hS _ (lv_sub hl [0, 3, 4, 5] rfl)
                        · exact absurd (by decide) c_85
                      · have hl : lv_has ls 7 [(6, .int (nI w0)), (5, .int (nI x30)), (4, .int (nI n)), (2, .long r2), (0, .ref (h 0)), (1, .int (nI j))] := hl
                        exact absurd (ho w0 rfl).1 (by have := (ho w0 rfl).2; omega)
                    | succ g ih2 =>
                      intro o r2 ho hk H locs hP hD hS ls hl
                      rcases o with _ | w0
                      · have hl : lv_has ls 7 [(6, .int (-1)), (5, .int (nI x30)), (4, .int (nI n)), (2, .long r2), (0, .ref (h 0)), (1, .int (nI j))] := hl
                        refine lv_iload hx hb dX3_next_83 (lv_at hl 0 rfl) ?_
                        refine lv_if_lt (tgt := 132) hx hb dX3_next_85 (by decide) (fun c_85 => ?_) (fun c_85 => ?_)
                        · refine lv_iload hx hb dX3_next_132 (lv_at hl 1 rfl) ?_
                          refine lv_istore (lv' := [(4, .int (nI x30)), (6, .int (-1)), (5, .int (nI x30)), (2, .long r2), (0, .ref (h 0)), (1, .int (nI j))]) hx hb dX3_next_134 hl (by decide) rfl (fun ls hl => ?_)
                          refine lv_goto (tgt := 24) hx hb dX3_next_136 (by decide) ?_
                          exact ih x30 r2 (by omega) (by omega) (by rw [← he2, ← hk]; simp [sbL]) _ _ hP hD hS _ (lv_sub hl [0, 3, 4, 5] rfl)
                        · exact absurd (by decide) c_85
                      · have hl : lv_has ls 7 [(6, .int (nI w0)), (5, .int (nI x30)), (4, .int (nI n)), (2, .long r2), (0, .ref (h 0)), (1, .int (nI j))] := hl
                        have hz := ho w0 rfl
                        have hz2 := hz.2
                        refine lv_iload hx hb dX3_next_83 (lv_at hl 0 rfl) ?_
                        refine lv_if_lt (tgt := 132) hx hb dX3_next_85 (by decide) (fun c_85 => ?_) (fun c_85 => ?_)
                        · have c_85 : w0 < 0 := (nI_ltI (a := w0) (b := 0) (by omega) (by omega)).mp c_85
                          exact absurd c_85 (Nat.not_lt_zero _)
                        · have c_85 : 0 ≤ w0 := Nat.le_of_not_lt (fun z => c_85 ((nI_ltI (a := w0) (b := 0) (by omega) (by omega)).mpr z))
                          refine lv_aload_n hx hb dX3_next_88 rfl (lv_at hl 4 rfl) ?_
                          refine va_get (D := D) (ci := 3) (v := .ref (h 2)) (C := RX3) (T := TX3) (N := 18) hx hb hts (fun w h => lw_in w (inX3 w h)) hown hK hP 0 rfl rfl 3 (by decide) (hts _ (lw_in _ t_291)) (fun _ h9 => h9) rfl dX3_next_89 ?_
                          refine lv_iload hx hb dX3_next_92 (lv_at hl 1 rfl) ?_
                          refine wx_iald hx hb hK hP 2 1 rfl rfl (i := x30) (by omega) (by decide) dX3_next_94 ?_
                          refine lv_iconst (v := 2) hx hb dX3_next_95 (by decide) ?_
                          refine lv_icmp_ne (tgt := 132) hx hb dX3_next_96 (by decide) (fun c_96 => ?_) (fun c_96 => ?_)
                          · have c_96 : ¬ (kd x30) = 2 := c_96
                            refine lv_iload hx hb dX3_next_132 (lv_at hl 1 rfl) ?_
                            refine lv_istore (lv' := [(4, .int (nI x30)), (6, .int (nI w0)), (5, .int (nI x30)), (2, .long r2), (0, .ref (h 0)), (1, .int (nI j))]) hx hb dX3_next_134 hl (by decide) rfl (fun ls hl => ?_)
                            refine lv_goto (tgt := 24) hx hb dX3_next_136 (by decide) ?_
                            exact ih x30 r2 (by omega) (by omega) (by rw [← he2, ← hk]; simp [sbL, c_96]) _ _ hP hD hS _ (lv_sub hl [0, 3, 4, 5] rfl)
                          · have c_96 : (kd x30) = 2 := c_96
                            refine lv_lload_n hx hb dX3_next_99 rfl (lv_at hl 3 rfl) ?_
                            refine lv_aload_n hx hb dX3_next_100 rfl (lv_at hl 4 rfl) ?_
                            refine lv_iload hx hb dX3_next_101 (lv_at hl 0 rfl) ?_
                            refine ct_callV (As := [.int (nI w0)]) (rest := [.long r2]) ⟨hx, hb, hml, hown, hts⟩ (k_E_firsts l D h k tx sz im cm nw nd kd pa be af mi np lf nm dp la so ro w0 nb ok0 (by omega)) (cwV 1 hts (gV lw_in t_387 t_389 t_17 t_26 t_390) rfl rfl rfl (by decide +kernel) ⟨Nat.le_of_ble_eq_true rfl, Nat.le_of_ble_eq_true rfl⟩) 0 rfl rfl hK hP hD hS hA rfl hl.1 rfl (Nat.le_of_ble_eq_true rfl) dX3_next_103 ⟨Nat.zero_le _, Nat.zero_le _⟩ (fun H locs hP hD hS => ?_)
                            refine W.eq (g2 := F0 m 106 ls [.long (fsF kd pa be mi np lf w0), .long r2]) rfl ?_
                            refine lv_lor hx hb dX3_next_106 ?_
                            refine lv_lstore_n (lv' := [(2, .long (r2 ||| (fsF kd pa be mi np lf w0))), (6, .int (nI w0)), (5, .int (nI x30)), (4, .int (nI n)), (0, .ref (h 0)), (1, .int (nI j))]) hx hb dX3_next_107 rfl hl (by decide) rfl (fun ls hl => ?_)
                            refine lv_aload_n hx hb dX3_next_108 rfl (lv_at hl 4 rfl) ?_
                            refine va_get (D := D) (ci := 3) (v := .ref (h 6)) (C := RX3) (T := TX3) (N := 18) hx hb hts (fun w h => lw_in w (inX3 w h)) hown hK hP 0 rfl rfl 7 (by decide) (hts _ (lw_in _ t_295)) (fun _ h9 => h9) rfl dX3_next_109 ?_
                            refine lv_iload hx hb dX3_next_112 (lv_at hl 1 rfl) ?_
                            refine wx_zald hx hb hK hP 6 5 rfl rfl (i := w0) (by omega) (by decide) dX3_next_114 ?_
                            refine lv_if_ne (tgt := 120) hx hb dX3_next_115 (by decide) (fun c_115 => ?_) (fun c_115 => ?_)
                            · have c_115 : (mi w0) = true := (bI_ne0 _).mp c_115
                              refine lv_aload_n hx hb dX3_next_120 rfl (lv_at hl 4 rfl) ?_
                              refine va_get (D := D) (ci := 3) (v := .ref (h 5)) (C := RX3) (T := TX3) (N := 18) hx hb hts (fun w h => lw_in w (inX3 w h)) hown hK hP 0 rfl rfl 6 (by decide) (hts _ (lw_in _ t_294)) (fun _ h9 => h9) rfl dX3_next_121 ?_
                              refine lv_iload hx hb dX3_next_124 (lv_at hl 1 rfl) ?_
                              refine wx_pald hx hb hK hP 5 4 rfl rfl (i := w0) (by omega) (by decide) dX3_next_126 ?_
                              refine lv_istore (lv' := [(6, .int (pI (af w0))), (2, .long (r2 ||| (fsF kd pa be mi np lf w0))), (5, .int (nI x30)), (4, .int (nI n)), (0, .ref (h 0)), (1, .int (nI j))]) hx hb dX3_next_127 hl (by decide) rfl (fun ls hl => ?_)
                              refine lv_goto (tgt := 83) hx hb dX3_next_129 (by decide) ?_
                              exact ih2 (af w0) (r2 ||| (fsF kd pa be mi np lf w0)) (fun y hy => by have := okA w0 y hz.2 hy; exact ⟨by omega, this.2⟩) (by rw [← hk, sbL, if_pos c_96, if_pos c_115]) _ _ hP hD hS _ (lv_sub hl [0, 2, 3, 1, 4, 5] rfl)
                            · have c_115 : (mi w0) = false := (bI_eq0 _).mp c_115
                              refine lv_lload_n hx hb dX3_next_118 rfl (lv_at hl 0 rfl) ?_
                              exact ct_endl hx hb hr hlocks hP hD hS rfl (by rw [e_tg, ← he2, ← hk]; simp [sbL, c_96, c_115]) dX3_next_119
                  exact loop2 701 (af n) r (fun y hy => by have := okA n y hn hy; exact ⟨by omega, this.2⟩) rfl _ _ hP hD hS _ (lv_sub hl [0, 1, 2, 3, 4, 5] rfl)
                · have c_62 : (kd x30) = 5 := c_62
                  refine lv_lload_n hx hb dX3_next_65 rfl (lv_at hl 2 rfl) ?_
                  refine lv_aload_n hx hb dX3_next_66 rfl (lv_at hl 3 rfl) ?_
                  refine lv_iload hx hb dX3_next_67 (lv_at hl 1 rfl) ?_
                  refine ct_callV (As := [.int (nI n)]) (rest := [.long r]) ⟨hx, hb, hml, hown, hts⟩ (k_E_firsts l D h k tx sz im cm nw nd kd pa be af mi np lf nm dp la so ro n nb ok0 (by omega)) (cwV 1 hts (gV lw_in t_387 t_389 t_17 t_26 t_390) rfl rfl rfl (by decide +kernel) ⟨Nat.le_of_ble_eq_true rfl, Nat.le_of_ble_eq_true rfl⟩) 0 rfl rfl hK hP hD hS hA rfl hl.1 rfl (Nat.le_of_ble_eq_true rfl) dX3_next_69 ⟨Nat.zero_le _, Nat.zero_le _⟩ (fun H locs hP hD hS => ?_)
                  refine W.eq (g2 := F0 m 72 ls [.long (fsF kd pa be mi np lf n), .long r]) rfl ?_
                  refine lv_lor hx hb dX3_next_72 ?_
                  refine lv_lstore_n (lv' := [(2, .long (r ||| (fsF kd pa be mi np lf n))), (5, .int (nI x30)), (4, .int (nI n)), (0, .ref (h 0)), (1, .int (nI j))]) hx hb dX3_next_73 rfl hl (by decide) rfl (fun ls hl => ?_)
                  refine lv_aload_n hx hb dX3_next_74 rfl (lv_at hl 3 rfl) ?_
                  refine va_get (D := D) (ci := 3) (v := .ref (h 5)) (C := RX3) (T := TX3) (N := 18) hx hb hts (fun w h => lw_in w (inX3 w h)) hown hK hP 0 rfl rfl 6 (by decide) (hts _ (lw_in _ t_294)) (fun _ h9 => h9) rfl dX3_next_75 ?_
                  refine lv_iload hx hb dX3_next_78 (lv_at hl 2 rfl) ?_
                  refine wx_pald hx hb hK hP 5 4 rfl rfl (i := n) (by omega) (by decide) dX3_next_80 ?_
                  refine lv_istore (lv' := [(6, .int (pI (af n))), (2, .long (r ||| (fsF kd pa be mi np lf n))), (5, .int (nI x30)), (4, .int (nI n)), (0, .ref (h 0)), (1, .int (nI j))]) hx hb dX3_next_81 hl (by decide) rfl (fun ls hl => ?_)
                  have he2 : (if (sbL (kd x30) af mi (fsF kd pa be mi np lf) 701 (af n) (r ||| (fsF kd pa be mi np lf n))).2 = true then (sbL (kd x30) af mi (fsF kd pa be mi np lf) 701 (af n) (r ||| (fsF kd pa be mi np lf n))).1 else nxC kd pa af mi (fsF kd pa be mi np lf) f x30 (sbL (kd x30) af mi (fsF kd pa be mi np lf) 701 (af n) (r ||| (fsF kd pa be mi np lf n))).1) = nxF kd pa be af mi np lf j := by rw [← he, nxC, e_30]; dsimp only; rw [if_neg c_51, if_pos c_62]
                  have loop2 : ∀ (g : Nat) (o : Option Nat) (r2 : Int64), (∀ w0, o = some w0 → 701 ≤ g + w0 ∧ w0 < nb) → (sbL (kd x30) af mi (fsF kd pa be mi np lf) g o r2 = sbL (kd x30) af mi (fsF kd pa be mi np lf) 701 (af n) (r ||| (fsF kd pa be mi np lf n))) → ∀ (H : Heap) (locs : List Loc), va_P D vwCl (wM h k tx sz im cm nw (nd, kd, pa, be, af, mi, np, lf, nm, dp, la, so, ro)) H → va_D A (wM h k tx sz im cm nw (nd, kd, pa, be, af, mi, np, lf, nm, dp, la, so, ro)) → va_S A s.heap H locs → ∀ ls : Array Slot, lv_has ls 7 [(6, .int (pI o)), (5, .int (nI x30)), (4, .int (nI n)), (2, .long r2), (0, .ref (h 0)), (1, .int (nI j))] →
                      W p l e (rmN 2) s m ([.ref (h 0), .int (nI j)] : List Value).toArray below meth c H locs 0 0 (MQ below (CtQ D vwCl A (wM h k tx sz im cm nw (nd, kd, pa, be, af, mi, np, lf, nm, dp, la, so, ro)) (some (.long (e_next kd pa be af mi np lf (nI j))))) ([.ref (h 0), .int (nI j)] : List Value).toArray s 0 0 A) (F0 m 83 ls []) := by
                    intro g
                    induction g with
                    | zero =>
                      intro o r2 ho hk H locs hP hD hS ls hl
                      rcases o with _ | w0
                      · have hl : lv_has ls 7 [(6, .int (-1)), (5, .int (nI x30)), (4, .int (nI n)), (2, .long r2), (0, .ref (h 0)), (1, .int (nI j))] := hl
                        refine lv_iload hx hb dX3_next_83 (lv_at hl 0 rfl) ?_
                        refine lv_if_lt (tgt := 132) hx hb dX3_next_85 (by decide) (fun c_85 => ?_) (fun c_85 => ?_)
                        · refine lv_iload hx hb dX3_next_132 (lv_at hl 1 rfl) ?_
                          refine lv_istore (lv' := [(4, .int (nI x30)), (6, .int (-1)), (5, .int (nI x30)), (2, .long r2), (0, .ref (h 0)), (1, .int (nI j))]) hx hb dX3_next_134 hl (by decide) rfl (fun ls hl => ?_)
                          refine lv_goto (tgt := 24) hx hb dX3_next_136 (by decide) ?_
                          exact ih x30 r2 (by omega) (by omega) (by rw [← he2, ← hk]; simp [sbL]) _ _ hP hD hS _ (lv_sub hl [0, 3, 4, 5] rfl)
                        · exact absurd (by decide) c_85
                      · have hl : lv_has ls 7 [(6, .int (nI w0)), (5, .int (nI x30)), (4, .int (nI n)), (2, .long r2), (0, .ref (h 0)), (1, .int (nI j))] := hl
                        exact absurd (ho w0 rfl).1 (by have := (ho w0 rfl).2; omega)
                    | succ g ih2 =>
                      intro o r2 ho hk H locs hP hD hS ls hl
                      rcases o with _ | w0
                      · have hl : lv_has ls 7 [(6, .int (-1)), (5, .int (nI x30)), (4, .int (nI n)), (2, .long r2), (0, .ref (h 0)), (1, .int (nI j))] := hl
                        refine lv_iload hx hb dX3_next_83 (lv_at hl 0 rfl) ?_
                        refine lv_if_lt (tgt := 132) hx hb dX3_next_85 (by decide) (fun c_85 => ?_) (fun c_85 => ?_)
                        · refine lv_iload hx hb dX3_next_132 (lv_at hl 1 rfl) ?_
                          refine lv_istore (lv' := [(4, .int (nI x30)), (6, .int (-1)), (5, .int (nI x30)), (2, .long r2), (0, .ref (h 0)), (1, .int (nI j))]) hx hb dX3_next_134 hl (by decide) rfl (fun ls hl => ?_)
                          refine lv_goto (tgt := 24) hx hb dX3_next_136 (by decide) ?_
                          exact ih x30 r2 (by omega) (by omega) (by rw [← he2, ← hk]; simp [sbL]) _ _ hP hD hS _ (lv_sub hl [0, 3, 4, 5] rfl)
                        · exact absurd (by decide) c_85
                      · have hl : lv_has ls 7 [(6, .int (nI w0)), (5, .int (nI x30)), (4, .int (nI n)), (2, .long r2), (0, .ref (h 0)), (1, .int (nI j))] := hl
                        have hz := ho w0 rfl
                        have hz2 := hz.2
                        refine lv_iload hx hb dX3_next_83 (lv_at hl 0 rfl) ?_
                        refine lv_if_lt (tgt := 132) hx hb dX3_next_85 (by decide) (fun c_85 => ?_) (fun c_85 => ?_)
                        · have c_85 : w0 < 0 := (nI_ltI (a := w0) (b := 0) (by omega) (by omega)).mp c_85
                          exact absurd c_85 (Nat.not_lt_zero _)
                        · have c_85 : 0 ≤ w0 := Nat.le_of_not_lt (fun z => c_85 ((nI_ltI (a := w0) (b := 0) (by omega) (by omega)).mpr z))
                          refine lv_aload_n hx hb dX3_next_88 rfl (lv_at hl 4 rfl) ?_
                          refine va_get (D := D) (ci := 3) (v := .ref (h 2)) (C := RX3) (T := TX3) (N := 18) hx hb hts (fun w h => lw_in w (inX3 w h)) hown hK hP 0 rfl rfl 3 (by decide) (hts _ (lw_in _ t_291)) (fun _ h9 => h9) rfl dX3_next_89 ?_
                          refine lv_iload hx hb dX3_next_92 (lv_at hl 1 rfl) ?_
                          refine wx_iald hx hb hK hP 2 1 rfl rfl (i := x30) (by omega) (by decide) dX3_next_94 ?_
                          refine lv_iconst (v := 2) hx hb dX3_next_95 (by decide) ?_
                          refine lv_icmp_ne (tgt := 132) hx hb dX3_next_96 (by decide) (fun c_96 => ?_) (fun c_96 => ?_)
                          · have c_96 : ¬ (kd x30) = 2 := c_96
                            refine lv_iload hx hb dX3_next_132 (lv_at hl 1 rfl) ?_
                            refine lv_istore (lv' := [(4, .int (nI x30)), (6, .int (nI w0)), (5, .int (nI x30)), (2, .long r2), (0, .ref (h 0)), (1, .int (nI j))]) hx hb dX3_next_134 hl (by decide) rfl (fun ls hl => ?_)
                            refine lv_goto (tgt := 24) hx hb dX3_next_136 (by decide) ?_
                            exact ih x30 r2 (by omega) (by omega) (by rw [← he2, ← hk]; simp [sbL, c_96]) _ _ hP hD hS _ (lv_sub hl [0, 3, 4, 5] rfl)
                          · have c_96 : (kd x30) = 2 := c_96
                            exact absurd (c_62.symm.trans c_96) (by decide)
                  exact loop2 701 (af n) (r ||| (fsF kd pa be mi np lf n)) (fun y hy => by have := okA n y hn hy; exact ⟨by omega, this.2⟩) rfl _ _ hP hD hS _ (lv_sub hl [0, 2, 3, 1, 4, 5] rfl)
      exact loop 701 (lf j) 0 (okL j hj) (by omega) rfl _ _ hP hD hS _ (lv_sub hl [0, 1, 2, 3] rfl)
    · have c_9 : ¬ x < nI np := c_9
      refine lv_lconst (v := 0) hx hb dX3_next_12 (by decide) ?_
      exact ct_endl hx hb hr hlocks hP hD hS rfl (by rw [e_next, if_neg c_1, if_neg c_9]) dX3_next_13
