/-! The methods of the reference: query (laid by program) -/
set_option maxHeartbeats 4000000 in
set_option maxRecDepth 100000 in
theorem k_E_begins (l : Launch) (D : va_G) (h : Nat → Nat) (k : Nat → ClassId) (tx : Nat → Int32) (sz : Nat) (im : Bool) (cm : Nat) (nw : Int64) (nd : Nat) (kd : Nat → Int32) (pa : Nat → Option Nat) (be : Nat → Option Nat) (af : Nat → Option Nat) (mi : Nat → Bool) (np : Nat) (lf : Nat → Nat) (nm : Nat → Int32) (dp : Nat) (la : Nat → Option Nat) (so : Nat → Int32) (ro : Nat) (q : Nat) (x : Nat) (nb : Nat) (ok : okT nb pa be af np lf) (hq : q < np) (hx9 : x < nb) :
    Ct l yX3_begins wsX3_begins (rmN 0) D vwCl (tyM k) [.ref (h 0), .int (nI q), .int (nI x)] (wM h k tx sz im cm nw (nd, kd, pa, be, af, mi, np, lf, nm, dp, la, so, ro)) (wM h k tx sz im cm nw (nd, kd, pa, be, af, mi, np, lf, nm, dp, la, so, ro)) (some (.int (bI (bgC kd pa be mi 701 (lf q) x)))) := by
  refine Ct.of (cc := cX3_begins) (maxL := 6) (ret := (some .boolean)) (lv := [(0, .ref (h 0)), (1, .int (nI q)), (2, .int (nI x))]) (by decide) rfl (Nat.le_of_ble_eq_true rfl) rfl ?_
  intro p e s m below meth c A ls hx hb hr hml hts hown hlocks hK hP hD hS hA hl
  obtain ⟨hnb, hnp, okP, okB, okA, okL⟩ := ok
  have loop : ∀ (f : Nat) (n : Nat), (n < nb) → (701 ≤ f + n) → (bgC kd pa be mi f n x = bgC kd pa be mi 701 (lf q) x) → ∀ (H : Heap) (locs : List Loc), va_P D vwCl (wM h k tx sz im cm nw (nd, kd, pa, be, af, mi, np, lf, nm, dp, la, so, ro)) H → va_D A (wM h k tx sz im cm nw (nd, kd, pa, be, af, mi, np, lf, nm, dp, la, so, ro)) → va_S A s.heap H locs → ∀ ls : Array Slot, lv_has ls 6 [(3, .int (nI n)), (0, .ref (h 0)), (1, .int (nI q)), (2, .int (nI x))] →
      W p l e (rmN 0) s m ([.ref (h 0), .int (nI q), .int (nI x)] : List Value).toArray below meth c H locs 0 0 (MQ below (CtQ D vwCl A (wM h k tx sz im cm nw (nd, kd, pa, be, af, mi, np, lf, nm, dp, la, so, ro)) (some (.int (bI (bgC kd pa be mi 701 (lf q) x))))) ([.ref (h 0), .int (nI q), .int (nI x)] : List Value).toArray s 0 0 A) (F0 m 7 ls []) := by
    intro f
    induction f with
    | zero =>
      intro n hn hf he H locs hP hD hS ls hl
      exact absurd hf (by omega)
    | succ f ih =>
      intro n hn hf he H locs hP hD hS ls hl
      refine lv_iload_n hx hb dX3_begins_7 rfl (lv_at hl 0 rfl) ?_
      refine lv_iload_n hx hb dX3_begins_8 rfl (lv_at hl 3 rfl) ?_
      refine lv_icmp_eq (tgt := 81) hx hb dX3_begins_9 (by decide) (fun c_9 => ?_) (fun c_9 => ?_)
      · have c_9 : n = x := (nI_eq (a := n) (b := x) (by omega) (by omega)).mp c_9
        refine lv_iconst (v := 1) hx hb dX3_begins_81 (by decide) ?_
        exact ct_endi hx hb hr hlocks rfl hP hD hS rfl (by rw [← he, bgC, if_pos c_9]; rfl) dX3_begins_82
      · have c_9 : ¬ n = x := id (fun z => c_9 ((nI_eq (a := n) (b := x) (by omega) (by omega)).mpr z))
        refine lv_aload_n hx hb dX3_begins_12 rfl (lv_at hl 1 rfl) ?_
        refine va_get (D := D) (ci := 3) (v := .ref (h 3)) (C := RX3) (T := TX3) (N := 18) hx hb hts (fun w h => lw_in w (inX3 w h)) hown hK hP 0 rfl rfl 4 (by decide) (hts _ (lw_in _ t_292)) (fun _ h9 => h9) rfl dX3_begins_13 ?_
        refine lv_iload_n hx hb dX3_begins_16 rfl (lv_at hl 0 rfl) ?_
        refine wx_pald hx hb hK hP 3 2 rfl rfl (i := n) (by omega) (by decide) dX3_begins_17 ?_
        refine W.eq (g2 := F0 m 18 ls [.int (pI (pa n))]) rfl ?_
        rcases e_17 : pa n with _ | x17
        · refine W.eq (g2 := F0 m 18 ls [.int (-1)]) rfl ?_
          refine lv_istore (lv' := [(4, .int (-1)), (3, .int (nI n)), (0, .ref (h 0)), (1, .int (nI q)), (2, .int (nI x))]) hx hb dX3_begins_18 hl (by decide) rfl (fun ls hl => ?_)
          refine lv_iload hx hb dX3_begins_20 (lv_at hl 0 rfl) ?_
          refine lv_if_ge (tgt := 27) hx hb dX3_begins_22 (by decide) (fun c_22 => ?_) (fun c_22 => ?_)
          · exact absurd c_22 (by decide)
          · refine lv_iconst (v := 0) hx hb dX3_begins_25 (by decide) ?_
            exact ct_endi hx hb hr hlocks rfl hP hD hS rfl (by rw [← he, bgC, if_neg c_9, e_17]; rfl) dX3_begins_26
        · refine W.eq (g2 := F0 m 18 ls [.int (nI x17)]) rfl ?_
          have hp := okP _ _ hn e_17
          refine lv_istore (lv' := [(4, .int (nI x17)), (3, .int (nI n)), (0, .ref (h 0)), (1, .int (nI q)), (2, .int (nI x))]) hx hb dX3_begins_18 hl (by decide) rfl (fun ls hl => ?_)
          refine lv_iload hx hb dX3_begins_20 (lv_at hl 0 rfl) ?_
          refine lv_if_ge (tgt := 27) hx hb dX3_begins_22 (by decide) (fun c_22 => ?_) (fun c_22 => ?_)
          · have c_22 : 0 ≤ x17 := (nI_leI (a := 0) (b := x17) (by omega) (by omega)).mp c_22
            refine lv_aload_n hx hb dX3_begins_27 rfl (lv_at hl 2 rfl) ?_
            refine va_get (D := D) (ci := 3) (v := .ref (h 4)) (C := RX3) (T := TX3) (N := 18) hx hb hts (fun w h => lw_in w (inX3 w h)) hown hK hP 0 rfl rfl 5 (by decide) (hts _ (lw_in _ t_293)) (fun _ h9 => h9) rfl dX3_begins_28 ?_
            refine lv_iload_n hx hb dX3_begins_31 rfl (lv_at hl 1 rfl) ?_
            refine wx_pald hx hb hK hP 4 3 rfl rfl (i := n) (by omega) (by decide) dX3_begins_32 ?_
            refine lv_istore (lv' := [(5, .int (pI (be n))), (4, .int (nI x17)), (3, .int (nI n)), (0, .ref (h 0)), (1, .int (nI q)), (2, .int (nI x))]) hx hb dX3_begins_33 hl (by decide) rfl (fun ls hl => ?_)
            have he2 : (if alB (kd x17) be mi 701 (be n) = true then bgC kd pa be mi f x17 x else false) = bgC kd pa be mi 701 (lf q) x := by rw [← he, bgC, if_neg c_9, e_17]
            have loop2 : ∀ (g : Nat) (o : Option Nat), (∀ w0, o = some w0 → w0 < g ∧ w0 < nb) → (alB (kd x17) be mi g o = alB (kd x17) be mi 701 (be n)) → ∀ (H : Heap) (locs : List Loc), va_P D vwCl (wM h k tx sz im cm nw (nd, kd, pa, be, af, mi, np, lf, nm, dp, la, so, ro)) H → va_D A (wM h k tx sz im cm nw (nd, kd, pa, be, af, mi, np, lf, nm, dp, la, so, ro)) → va_S A s.heap H locs → ∀ ls : Array Slot, lv_has ls 6 [(5, .int (pI o)), (4, .int (nI x17)), (3, .int (nI n)), (0, .ref (h 0)), (1, .int (nI q)), (2, .int (nI x))] →
                W p l e (rmN 0) s m ([.ref (h 0), .int (nI q), .int (nI x)] : List Value).toArray below meth c H locs 0 0 (MQ below (CtQ D vwCl A (wM h k tx sz im cm nw (nd, kd, pa, be, af, mi, np, lf, nm, dp, la, so, ro)) (some (.int (bI (bgC kd pa be mi 701 (lf q) x))))) ([.ref (h 0), .int (nI q), .int (nI x)] : List Value).toArray s 0 0 A) (F0 m 35 ls []) := by
              intro g
              induction g with
              | zero =>
                intro o ho hk H locs hP hD hS ls hl
                rcases o with _ | w0
                · have hl : lv_has ls 6 [(5, .int (-1)), (4, .int (nI x17)), (3, .int (nI n)), (0, .ref (h 0)), (1, .int (nI q)), (2, .int (nI x))] := hl
                  refine lv_iload hx hb dX3_begins_35 (lv_at hl 0 rfl) ?_
                  refine lv_if_lt (tgt := 75) hx hb dX3_begins_37 (by decide) (fun c_37 => ?_) (fun c_37 => ?_)
                  · refine lv_iload hx hb dX3_begins_75 (lv_at hl 1 rfl) ?_
                    refine lv_istore_n (lv' := [(3, .int (nI x17)), (5, .int (-1)), (4, .int (nI x17)), (0, .ref (h 0)), (1, .int (nI q)), (2, .int (nI x))]) hx hb dX3_begins_77 rfl hl (by decide) rfl (fun ls hl => ?_)
                    refine lv_goto (tgt := 7) hx hb dX3_begins_78 (by decide) ?_
                    exact ih x17 (by omega) (by omega) (by rw [← he2, if_pos (by rw [← hk]; rfl)]) _ _ hP hD hS _ (lv_sub hl [0, 3, 4, 5] rfl)
                  · exact absurd (by decide) c_37
                · have hl : lv_has ls 6 [(5, .int (nI w0)), (4, .int (nI x17)), (3, .int (nI n)), (0, .ref (h 0)), (1, .int (nI q)), (2, .int (nI x))] := hl
                  exact absurd (ho w0 rfl).1 (Nat.not_lt_zero _)
              | succ g ih2 =>
                intro o ho hk H locs hP hD hS ls hl
                rcases o with _ | w0
                · have hl : lv_has ls 6 [(5, .int (-1)), (4, .int (nI x17)), (3, .int (nI n)), (0, .ref (h 0)), (1, .int (nI q)), (2, .int (nI x))] := hl
                  refine lv_iload hx hb dX3_begins_35 (lv_at hl 0 rfl) ?_
                  refine lv_if_lt (tgt := 75) hx hb dX3_begins_37 (by decide) (fun c_37 => ?_) (fun c_37 => ?_)
                  · refine lv_iload hx hb dX3_begins_75 (lv_at hl 1 rfl) ?_
                    refine lv_istore_n (lv' := [(3, .int (nI x17)), (5, .int (-1)), (4, .int (nI x17)), (0, .ref (h 0)), (1, .int (nI q)), (2, .int (nI x))]) hx hb dX3_begins_77 rfl hl (by decide) rfl (fun ls hl => ?_)
                    refine lv_goto (tgt := 7) hx hb dX3_begins_78 (by decide) ?_
                    exact ih x17 (by omega) (by omega) (by rw [← he2, if_pos (by rw [← hk]; rfl)]) _ _ hP hD hS _ (lv_sub hl [0, 3, 4, 5] rfl)
                  · exact absurd (by decide) c_37
                · have hl : lv_has ls 6 [(5, .int (nI w0)), (4, .int (nI x17)), (3, .int (nI n)), (0, .ref (h 0)), (1, .int (nI q)), (2, .int (nI x))] := hl
                  have hz := ho w0 rfl
                  refine lv_iload hx hb dX3_begins_35 (lv_at hl 0 rfl) ?_
                  refine lv_if_lt (tgt := 75) hx hb dX3_begins_37 (by decide) (fun c_37 => ?_) (fun c_37 => ?_)
                  · have c_37 : w0 < 0 := (nI_ltI (a := w0) (b := 0) (by omega) (by omega)).mp c_37
                    exact absurd c_37 (Nat.not_lt_zero _)
                  · have c_37 : 0 ≤ w0 := Nat.le_of_not_lt (fun z => c_37 ((nI_ltI (a := w0) (b := 0) (by omega) (by omega)).mpr z))
                    refine lv_aload_n hx hb dX3_begins_40 rfl (lv_at hl 3 rfl) ?_
                    refine va_get (D := D) (ci := 3) (v := .ref (h 2)) (C := RX3) (T := TX3) (N := 18) hx hb hts (fun w h => lw_in w (inX3 w h)) hown hK hP 0 rfl rfl 3 (by decide) (hts _ (lw_in _ t_291)) (fun _ h9 => h9) rfl dX3_begins_41 ?_
                    refine lv_iload hx hb dX3_begins_44 (lv_at hl 1 rfl) ?_
                    refine wx_iald hx hb hK hP 2 1 rfl rfl (i := x17) (by omega) (by decide) dX3_begins_46 ?_
                    refine lv_iconst (v := 2) hx hb dX3_begins_47 (by decide) ?_
                    refine lv_icmp_ne (tgt := 75) hx hb dX3_begins_48 (by decide) (fun c_48 => ?_) (fun c_48 => ?_)
                    · have c_48 : ¬ (kd x17) = 2 := c_48
                      refine lv_iload hx hb dX3_begins_75 (lv_at hl 1 rfl) ?_
                      refine lv_istore_n (lv' := [(3, .int (nI x17)), (5, .int (nI w0)), (4, .int (nI x17)), (0, .ref (h 0)), (1, .int (nI q)), (2, .int (nI x))]) hx hb dX3_begins_77 rfl hl (by decide) rfl (fun ls hl => ?_)
                      refine lv_goto (tgt := 7) hx hb dX3_begins_78 (by decide) ?_
                      exact ih x17 (by omega) (by omega) (by rw [← he2, if_pos (by rw [← hk]; rw [alB, if_neg c_48])]) _ _ hP hD hS _ (lv_sub hl [0, 3, 4, 5] rfl)
                    · have c_48 : (kd x17) = 2 := c_48
                      refine lv_aload_n hx hb dX3_begins_51 rfl (lv_at hl 3 rfl) ?_
                      refine va_get (D := D) (ci := 3) (v := .ref (h 6)) (C := RX3) (T := TX3) (N := 18) hx hb hts (fun w h => lw_in w (inX3 w h)) hown hK hP 0 rfl rfl 7 (by decide) (hts _ (lw_in _ t_295)) (fun _ h9 => h9) rfl dX3_begins_52 ?_
                      refine lv_iload hx hb dX3_begins_55 (lv_at hl 0 rfl) ?_
                      refine wx_zald hx hb hK hP 6 5 rfl rfl (i := w0) (by omega) (by decide) dX3_begins_57 ?_
                      refine lv_if_ne (tgt := 63) hx hb dX3_begins_58 (by decide) (fun c_58 => ?_) (fun c_58 => ?_)
                      · have c_58 : (mi w0) = true := (bI_ne0 _).mp c_58
                        refine lv_aload_n hx hb dX3_begins_63 rfl (lv_at hl 3 rfl) ?_
                        refine va_get (D := D) (ci := 3) (v := .ref (h 4)) (C := RX3) (T := TX3) (N := 18) hx hb hts (fun w h => lw_in w (inX3 w h)) hown hK hP 0 rfl rfl 5 (by decide) (hts _ (lw_in _ t_293)) (fun _ h9 => h9) rfl dX3_begins_64 ?_
                        refine lv_iload hx hb dX3_begins_67 (lv_at hl 0 rfl) ?_
                        refine wx_pald hx hb hK hP 4 3 rfl rfl (i := w0) (by omega) (by decide) dX3_begins_69 ?_
                        refine lv_istore (lv' := [(5, .int (pI (be w0))), (4, .int (nI x17)), (3, .int (nI n)), (0, .ref (h 0)), (1, .int (nI q)), (2, .int (nI x))]) hx hb dX3_begins_70 hl (by decide) rfl (fun ls hl => ?_)
                        refine lv_goto (tgt := 35) hx hb dX3_begins_72 (by decide) ?_
                        exact ih2 (be w0) (fun y hy => ⟨by have := okB w0 y hz.2 hy; omega, by have := okB w0 y hz.2 hy; omega⟩) (by rw [← hk, alB, if_pos c_48, if_pos c_58]) _ _ hP hD hS _ (lv_sub hl [0, 1, 2, 3, 4, 5] rfl)
                      · have c_58 : (mi w0) = false := (bI_eq0 _).mp c_58
                        refine lv_iconst (v := 0) hx hb dX3_begins_61 (by decide) ?_
                        exact ct_endi hx hb hr hlocks rfl hP hD hS rfl (by rw [← he2, if_neg (by rw [← hk, alB, if_pos c_48, if_neg (bF c_58)]; decide)]; rfl) dX3_begins_62
            exact loop2 701 (be n) (fun y hy => ⟨by have := okB n y hn hy; omega, by have := okB n y hn hy; omega⟩) rfl _ _ hP hD hS _ (lv_sub hl [0, 1, 2, 3, 4, 5] rfl)
          · have c_22 : x17 < 0 := Nat.lt_of_not_le (fun z => c_22 ((nI_leI (a := 0) (b := x17) (by omega) (by omega)).mpr z))
            exact absurd c_22 (Nat.not_lt_zero _)
  refine lv_aload_n hx hb dX3_begins_0 rfl (lv_at hl 0 rfl) ?_
  refine va_get (D := D) (ci := 3) (v := .ref (h 7)) (C := RX3) (T := TX3) (N := 18) hx hb hts (fun w h => lw_in w (inX3 w h)) hown hK hP 0 rfl rfl 9 (by decide) (hts _ (lw_in _ t_297)) (fun _ h9 => h9) rfl dX3_begins_1 ?_
  refine lv_iload_n hx hb dX3_begins_4 rfl (lv_at hl 1 rfl) ?_
  refine wx_nald hx hb hK hP 7 6 rfl rfl (i := q) (by omega) (by decide) dX3_begins_5 ?_
  refine lv_istore_n (lv' := [(3, .int (nI (lf q))), (0, .ref (h 0)), (1, .int (nI q)), (2, .int (nI x))]) hx hb dX3_begins_6 rfl hl (by decide) rfl (fun ls hl => ?_)
  exact loop 701 (lf q) (okL q hq) (by omega) rfl _ _ hP hD hS _ (lv_sub hl [0, 1, 2, 3] rfl)
