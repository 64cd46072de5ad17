/-! The methods of the class: read (laid by program) -/
set_option maxHeartbeats 4000000 in
set_option maxRecDepth 100000 in
theorem k_D_readText (l : Launch) (D : va_G) (h : Nat → Nat) (k : Nat → ClassId) (tx : Nat → Int32) (ln : Nat) (rd : Int64) (wh : Bool) (cm : Nat) (R : RS) (M : MS)  (hln : ln ≤ 300) (hnp : M.2.2.1 ≤ 60) :
    Ct l yX2_readText wsX2_readText (rmN 5) D vwCl (tyD k) [.ref (h 0)] (wD h k tx ln rd wh cm R M) (wD h k tx ln rd wh cm (d_text tx ln R M).1 (d_text tx ln R M).2.1) (some (.int ((d_text tx ln R M).2.2))) := by
  refine Ct.of (cc := cX2_readText) (maxL := 3) (ret := (some .int)) (lv := [(0, .ref (h 0))]) (by decide) rfl (Nat.le_of_ble_eq_true rfl) rfl ?_
  intro p e s m below meth c A ls hx hb hr hml hts hown hlocks hK hP hD hS hA hl
  have loop : ∀ (n : Nat) (i : Nat) (R1 : RS) (M1 : MS), i + n = ln → R1.2.2.2.2.1 ≤ 12 → M1.2.2.1 ≤ 60 → rdL tx ln n i R1 M1 = d_text tx ln R M → ∀ (H : Heap) (locs : List Loc), va_P D vwCl (wD h k tx ln rd wh cm R1 M1) H → va_D A (wD h k tx ln rd wh cm R1 M1) → va_S A s.heap H locs → ∀ ls : Array Slot, lv_has ls 3 [(1, .int (nI i)), (0, .ref (h 0))] →
      W p l e (rmN 5) s m ([.ref (h 0)] : List Value).toArray below meth c H locs 0 0 (MQ below (CtQ D vwCl A (wD h k tx ln rd wh cm (d_text tx ln R M).1 (d_text tx ln R M).2.1) (some (.int ((d_text tx ln R M).2.2)))) ([.ref (h 0)] : List Value).toArray s 0 0 A) (F0 m 9 ls []) := by
    intro n
    induction n with
    | zero =>
      intro i R1 M1 hi hdp1 hnp1 he H locs hP hD hS ls hl
      refine lv_iload_n hx hb dX2_readText_9 rfl (lv_at hl 0 rfl) ?_
      refine lv_aload_n hx hb dX2_readText_10 rfl (lv_at hl 1 rfl) ?_
      refine va_get (D := D) (ci := 2) (v := .int (nI ln)) (C := RX2) (T := TX2) (N := 7) hx hb hts (fun w h => lw_in w (inX2 w h)) hown hK hP 0 rfl rfl 1 (by decide) (hts _ (lw_in _ t_113)) (fun _ h9 => h9) rfl dX2_readText_11 ?_
      refine lv_icmp_ge (tgt := 57) hx hb dX2_readText_14 (by decide) (fun c_14 => ?_) (fun c_14 => ?_)
      · have c_14 : ln ≤ i := (nI_leI (a := ln) (b := i) (by omega) (by omega)).mp c_14
        refine lv_aload_n hx hb dX2_readText_57 rfl (lv_at hl 1 rfl) ?_
        refine va_get (D := D) (ci := 2) (v := .ref (h 2)) (C := RX2) (T := TX2) (N := 7) hx hb hts (fun w h => lw_in w (inX2 w h)) hown hK hP 0 rfl rfl 2 (by decide) (hts _ (lw_in _ t_114)) (fun _ h9 => h9) rfl dX2_readText_58 ?_
        refine ct_callV (As := []) (rest := []) ⟨hx, hb, hml, hown, hts⟩ (k_R_finish_o l D h k tx ln rd wh cm R1 M1 hdp1) (cwV 0 hts (gV lw_in t_205 t_206 t_207 t_24 t_208) rfl rfl rfl (by decide +kernel) ⟨Nat.le_of_ble_eq_true rfl, Nat.le_of_ble_eq_true rfl⟩) 2 rfl rfl hK hP hD hS hA rfl hl.1 rfl (Nat.le_of_ble_eq_true rfl) dX2_readText_61 ⟨Nat.zero_le _, Nat.zero_le _⟩ (fun H locs hP hD hS => ?_)
        refine W.eq (g2 := F0 m 64 ls [.int (bI (r_fin R1 M1).2)]) rfl ?_
        have hP : va_P D vwCl (wD h k tx ln rd wh cm R1 ((r_fin R1 M1).1)) H := hP
        have hD : va_D A (wD h k tx ln rd wh cm R1 ((r_fin R1 M1).1)) := hD
        refine lv_if_eq (tgt := 77) hx hb dX2_readText_64 (by decide) (fun c_64 => ?_) (fun c_64 => ?_)
        · have c_64 : ((r_fin R1 M1).2) = false := (bI_eq0 _).mp c_64
          refine lv_iconst (v := -1) hx hb dX2_readText_77 (by decide) ?_
          refine lv_aload_n hx hb dX2_readText_78 rfl (lv_at hl 1 rfl) ?_
          refine va_get (D := D) (ci := 2) (v := .int (nI ln)) (C := RX2) (T := TX2) (N := 7) hx hb hts (fun w h => lw_in w (inX2 w h)) hown hK hP 0 rfl rfl 1 (by decide) (hts _ (lw_in _ t_113)) (fun _ h9 => h9) rfl dX2_readText_79 ?_
          refine lv_isub hx hb dX2_readText_82 ?_
          have e_83 : d_text tx ln R M = (R1, (r_fin R1 M1).1, ((-1) - nI ln)) := by rw [← he, rdL, if_neg (bF c_64)]
          exact ct_endi hx hb hr hlocks rfl hP hD hS (by rw [e_83]) (by rw [e_83]) dX2_readText_83
        · have c_64 : ((r_fin R1 M1).2) = true := (bI_ne0 _).mp c_64
          refine lv_aload_n hx hb dX2_readText_67 rfl (lv_at hl 1 rfl) ?_
          refine va_get (D := D) (ci := 2) (v := .ref (h 7)) (C := RX2) (T := TX2) (N := 7) hx hb hts (fun w h => lw_in w (inX2 w h)) hown hK hP 0 rfl rfl 3 (by decide) (hts _ (lw_in _ t_115)) (fun _ h9 => h9) rfl dX2_readText_68 ?_
          refine va_get (D := D) (ci := 0) (v := .int (nI (((r_fin R1 M1).1).2.2.1))) (C := RX0) (T := TX0) (N := 6) hx hb hts (fun w h => lw_in w (inX0 w h)) hown hK hP 7 rfl rfl 2 (by decide) (hts _ (lw_in _ t_52)) (fun _ h9 => h9) rfl dX2_readText_71 ?_
          refine lv_goto (tgt := 83) hx hb dX2_readText_74 (by decide) ?_
          have e_83 : d_text tx ln R M = (R1, (r_fin R1 M1).1, nI (((r_fin R1 M1).1).2.2.1)) := by rw [← he, rdL, if_pos c_64]
          exact ct_endi hx hb hr hlocks rfl hP hD hS (by rw [e_83]) (by rw [e_83]) dX2_readText_83
      · have c_14 : i < ln := Nat.lt_of_not_le (fun z => c_14 ((nI_leI (a := ln) (b := i) (by omega) (by omega)).mpr z))
        exact absurd c_14 (by omega)
    | succ n ih =>
      intro i R1 M1 hi hdp1 hnp1 he H locs hP hD hS ls hl
      refine lv_iload_n hx hb dX2_readText_9 rfl (lv_at hl 0 rfl) ?_
      refine lv_aload_n hx hb dX2_readText_10 rfl (lv_at hl 1 rfl) ?_
      refine va_get (D := D) (ci := 2) (v := .int (nI ln)) (C := RX2) (T := TX2) (N := 7) hx hb hts (fun w h => lw_in w (inX2 w h)) hown hK hP 0 rfl rfl 1 (by decide) (hts _ (lw_in _ t_113)) (fun _ h9 => h9) rfl dX2_readText_11 ?_
      refine lv_icmp_ge (tgt := 57) hx hb dX2_readText_14 (by decide) (fun c_14 => ?_) (fun c_14 => ?_)
      · have c_14 : ln ≤ i := (nI_leI (a := ln) (b := i) (by omega) (by omega)).mp c_14
        exact absurd c_14 (by omega)
      · have c_14 : i < ln := Nat.lt_of_not_le (fun z => c_14 ((nI_leI (a := ln) (b := i) (by omega) (by omega)).mpr z))
        refine lv_aload_n hx hb dX2_readText_17 rfl (lv_at hl 1 rfl) ?_
        refine va_get (D := D) (ci := 2) (v := .ref (h 2)) (C := RX2) (T := TX2) (N := 7) hx hb hts (fun w h => lw_in w (inX2 w h)) hown hK hP 0 rfl rfl 2 (by decide) (hts _ (lw_in _ t_114)) (fun _ h9 => h9) rfl dX2_readText_18 ?_
        refine lv_aload_n hx hb dX2_readText_21 rfl (lv_at hl 1 rfl) ?_
        refine va_get (D := D) (ci := 2) (v := .ref (h 1)) (C := RX2) (T := TX2) (N := 7) hx hb hts (fun w h => lw_in w (inX2 w h)) hown hK hP 0 rfl rfl 0 (by decide) (hts _ (lw_in _ t_112)) (fun _ h9 => h9) rfl dX2_readText_22 ?_
        refine lv_iload_n hx hb dX2_readText_25 rfl (lv_at hl 0 rfl) ?_
        refine wx_bald hx hb hK hP 1 0 rfl rfl (i := i) (by omega) (by decide) dX2_readText_26 ?_
        refine ct_callV (As := [.int (tx i)]) (rest := []) ⟨hx, hb, hml, hown, hts⟩ (k_R_take_o l D h k tx ln rd wh cm R1 M1 (tx i) hnp1 hdp1) (cwV 1 hts (gV lw_in t_154 t_155 t_156 t_24 t_157) rfl rfl rfl (by decide +kernel) ⟨Nat.le_of_ble_eq_true rfl, Nat.le_of_ble_eq_true rfl⟩) 2 rfl rfl hK hP hD hS hA rfl hl.1 rfl (Nat.le_of_ble_eq_true rfl) dX2_readText_27 ⟨Nat.zero_le _, Nat.zero_le _⟩ (fun H locs hP hD hS => ?_)
        refine W.eq (g2 := F0 m 30 ls [.int ((r_take R1 M1 (tx i)).2.2)]) rfl ?_
        have hP : va_P D vwCl (wD h k tx ln rd wh cm ((r_take R1 M1 (tx i)).1) ((r_take R1 M1 (tx i)).2.1)) H := hP
        have hD : va_D A (wD h k tx ln rd wh cm ((r_take R1 M1 (tx i)).1) ((r_take R1 M1 (tx i)).2.1)) := hD
        have hok := r_take_ok R1 M1 (tx i) hdp1 hnp1
        generalize hT : r_take R1 M1 (tx i) = T3 at hP hD hok ⊢
        obtain ⟨R3, M3, v3⟩ := T3
        have hP : va_P D vwCl (wD h k tx ln rd wh cm R3 M3) H := hP
        have hD : va_D A (wD h k tx ln rd wh cm R3 M3) := hD
        refine W.eq (g2 := F0 m 30 ls [.int v3]) rfl ?_
        refine lv_istore_n (lv' := [(2, .int v3), (1, .int (nI i)), (0, .ref (h 0))]) hx hb dX2_readText_30 rfl hl (by decide) rfl (fun ls hl => ?_)
        refine lv_iload_n hx hb dX2_readText_31 rfl (lv_at hl 0 rfl) ?_
        refine lv_iconst (v := 1) hx hb dX2_readText_32 (by decide) ?_
        refine lv_icmp_ne (tgt := 40) hx hb dX2_readText_33 (by decide) (fun c_33 => ?_) (fun c_33 => ?_)
        · have c_33 : ¬ v3 = 1 := c_33
          refine lv_iload_n hx hb dX2_readText_40 rfl (lv_at hl 0 rfl) ?_
          refine lv_iconst (v := 2) hx hb dX2_readText_41 (by decide) ?_
          refine lv_icmp_ne (tgt := 51) hx hb dX2_readText_42 (by decide) (fun c_42 => ?_) (fun c_42 => ?_)
          · have c_42 : ¬ v3 = 2 := c_42
            refine lv_iinc (v := nI (i + 1)) (lv' := [(1, .int (nI (i + 1))), (2, .int v3), (0, .ref (h 0))]) hx hb dX2_readText_51 hl (k := 1) rfl (nI_1 _) (by decide) rfl (fun ls hl => ?_)
            refine lv_goto (tgt := 9) hx hb dX2_readText_54 (by decide) ?_
            exact ih (i + 1) R3 M3 (by omega) hok.1 hok.2 (by rw [← he, rdL, hT, if_neg c_33, if_neg c_42]) _ _ hP hD hS _ (lv_sub hl [0, 2] rfl)
          · have c_42 : v3 = 2 := c_42
            refine lv_sipush (v := -1000) hx hb dX2_readText_45 (by decide) ?_
            refine lv_iload_n hx hb dX2_readText_48 rfl (lv_at hl 1 rfl) ?_
            refine lv_isub hx hb dX2_readText_49 ?_
            have e_50 : d_text tx ln R M = (R3, M3, ((-1000) - nI i)) := by rw [← he, rdL, hT, if_neg c_33, if_pos c_42]
            exact ct_endi hx hb hr hlocks rfl hP hD hS (by rw [e_50]) (by rw [e_50]) dX2_readText_50
        · have c_33 : v3 = 1 := c_33
          refine lv_iconst (v := -1) hx hb dX2_readText_36 (by decide) ?_
          refine lv_iload_n hx hb dX2_readText_37 rfl (lv_at hl 1 rfl) ?_
          refine lv_isub hx hb dX2_readText_38 ?_
          have e_39 : d_text tx ln R M = (R3, M3, ((-1) - nI i)) := by rw [← he, rdL, hT, if_pos c_33]
          exact ct_endi hx hb hr hlocks rfl hP hD hS (by rw [e_39]) (by rw [e_39]) dX2_readText_39
  refine lv_aload_n hx hb dX2_readText_0 rfl (lv_at hl 0 rfl) ?_
  refine va_get (D := D) (ci := 2) (v := .ref (h 2)) (C := RX2) (T := TX2) (N := 7) hx hb hts (fun w h => lw_in w (inX2 w h)) hown hK hP 0 rfl rfl 2 (by decide) (hts _ (lw_in _ t_114)) (fun _ h9 => h9) rfl dX2_readText_1 ?_
  refine ct_callV (As := []) (rest := []) ⟨hx, hb, hml, hown, hts⟩ (k_R_begin_o l D h k tx ln rd wh cm R M (by omega)) (cwV 0 hts (gV lw_in t_146 t_147 t_148 t_24 t_149) rfl rfl rfl (by decide +kernel) ⟨Nat.le_of_ble_eq_true rfl, Nat.le_of_ble_eq_true rfl⟩) 2 rfl rfl hK hP hD hS hA rfl hl.1 rfl (Nat.le_of_ble_eq_true rfl) dX2_readText_4 ⟨Nat.zero_le _, Nat.zero_le _⟩ (fun H locs hP hD hS => ?_)
  refine W.eq (g2 := F0 m 7 ls []) rfl ?_
  have hP : va_P D vwCl (wD h k tx ln rd wh cm (r_begin R) (m_clear M)) H := hP
  have hD : va_D A (wD h k tx ln rd wh cm (r_begin R) (m_clear M)) := hD
  refine lv_iconst (v := 0) hx hb dX2_readText_7 (by decide) ?_
  refine lv_istore_n (lv' := [(1, .int 0), (0, .ref (h 0))]) hx hb dX2_readText_8 rfl hl (by decide) rfl (fun ls hl => ?_)
  exact loop ln 0 (r_begin R) (m_clear M) (by omega) (r_begin_ok R) (m_clear_ok M) rfl _ _ hP hD hS _ (lv_sub hl [0, 1] rfl)

set_option maxHeartbeats 4000000 in
set_option maxRecDepth 100000 in
theorem k_D_read (l : Launch) (D : va_G) (h : Nat → Nat) (k : Nat → ClassId) (tx : Nat → Int32) (ln : Nat) (rd : Int64) (wh : Bool) (cm : Nat) (R : RS) (M : MS)  (hln : ln ≤ 300) (hnp : M.2.2.1 ≤ 60) :
    Ct l yX2_read wsX2_read (rmN 6) D vwCl (tyD k) [.ref (h 0)] (wD h k tx ln rd wh cm R M) (wD h k tx 0 (d_read tx ln R M).2.1.2.2.2.1 (d_read tx ln R M).2.1.2.2.2.2.2 0 (d_read tx ln R M).1 (d_read tx ln R M).2.1) (some (.int ((d_read tx ln R M).2.2))) := by
  refine Ct.of (cc := cX2_read) (maxL := 2) (ret := (some .int)) (lv := [(0, .ref (h 0))]) (by decide) rfl (Nat.le_of_ble_eq_true rfl) rfl ?_
  intro p e s m below meth c A ls hx hb hr hml hts hown hlocks hK hP hD hS hA hl
  refine lv_aload_n hx hb dX2_read_0 rfl (lv_at hl 0 rfl) ?_
  refine ct_callV (As := []) (rest := []) ⟨hx, hb, hml, hown, hts⟩ (k_D_readText l D h k tx ln rd wh cm R M hln hnp) (cwV 0 hts (gV lw_in t_142 t_144 t_0 t_23 t_145) rfl rfl rfl (by decide +kernel) ⟨Nat.le_of_ble_eq_true rfl, Nat.le_of_ble_eq_true rfl⟩) 0 rfl rfl hK hP hD hS hA rfl hl.1 rfl (Nat.le_of_ble_eq_true rfl) dX2_read_1 ⟨Nat.zero_le _, Nat.zero_le _⟩ (fun H locs hP hD hS => ?_)
  refine W.eq (g2 := F0 m 4 ls [.int ((d_text tx ln R M).2.2)]) rfl ?_
  have hP : va_P D vwCl (wD h k tx ln rd wh cm ((d_text tx ln R M).1) ((d_text tx ln R M).2.1)) H := hP
  have hD : va_D A (wD h k tx ln rd wh cm ((d_text tx ln R M).1) ((d_text tx ln R M).2.1)) := hD
  generalize hT : d_text tx ln R M = T3 at hP hD ⊢
  obtain ⟨R3, M3, v3⟩ := T3
  have hP : va_P D vwCl (wD h k tx ln rd wh cm R3 M3) H := hP
  have hD : va_D A (wD h k tx ln rd wh cm R3 M3) := hD
  refine W.eq (g2 := F0 m 4 ls [.int v3]) rfl ?_
  refine lv_istore_n (lv' := [(1, .int v3), (0, .ref (h 0))]) hx hb dX2_read_4 rfl hl (by decide) rfl (fun ls hl => ?_)
  refine lv_iload_n hx hb dX2_read_5 rfl (lv_at hl 0 rfl) ?_
  refine lv_if_ge (tgt := 16) hx hb dX2_read_6 (by decide) (fun c_6 => ?_) (fun c_6 => ?_)
  · have c_6 : 0 ≤ v3 := c_6
    refine lv_aload_n hx hb dX2_read_16 rfl (lv_at hl 1 rfl) ?_
    refine lv_iconst (v := 0) hx hb dX2_read_17 (by decide) ?_
    refine lv_eqi (show 0 = nI 0 from rfl) ?_
    refine va_put (D := D) (ci := 2) (v := .int (nI 0)) (ty := .int) (C := RX2) (T := TX2) (N := 7) hx hb hts (fun w h => lw_in w (inX2 w h)) tyX2 tyX2_ok nmX2 hown hK hP hD hS 0 rfl rfl 1 (by decide) (hts _ (lw_in _ t_113)) (fun _ h9 => h9) rfl (by decide +kernel) rfl rfl (Nat.le_of_ble_eq_true rfl) dX2_read_18 (fun H locs hP hD hS => ?_)
    have hP : va_P D vwCl (wD h k tx 0 rd wh cm R3 M3) H := hP
    have hD : va_D A (wD h k tx 0 rd wh cm R3 M3) := hD
    refine lv_aload_n hx hb dX2_read_21 rfl (lv_at hl 1 rfl) ?_
    refine ct_callV (As := []) (rest := []) ⟨hx, hb, hml, hown, hts⟩ (k_D_startRow_o l D h k tx 0 rd wh cm R3 M3) (cwV 0 hts (gV lw_in t_210 t_212 t_8 t_23 t_213) rfl rfl rfl (by decide +kernel) ⟨Nat.le_of_ble_eq_true rfl, Nat.le_of_ble_eq_true rfl⟩) 0 rfl rfl hK hP hD hS hA rfl hl.1 rfl (Nat.le_of_ble_eq_true rfl) dX2_read_22 ⟨Nat.zero_le _, Nat.zero_le _⟩ (fun H locs hP hD hS => ?_)
    refine W.eq (g2 := F0 m 25 ls []) rfl ?_
    have hP : va_P D vwCl (wD h k tx 0 M3.2.2.2.1 M3.2.2.2.2.2 0 R3 M3) H := hP
    have hD : va_D A (wD h k tx 0 M3.2.2.2.1 M3.2.2.2.2.2 0 R3 M3) := hD
    refine lv_iload_n hx hb dX2_read_25 rfl (lv_at hl 0 rfl) ?_
    have e_26 : d_read tx ln R M = (R3, M3, v3) := by unfold d_read; rw [hT, if_pos c_6]
    exact ct_endi hx hb hr hlocks rfl hP hD hS (by rw [e_26]) (by rw [e_26]) dX2_read_26
  · have c_6 : ¬ 0 ≤ v3 := c_6
    refine lv_aload_n hx hb dX2_read_9 rfl (lv_at hl 1 rfl) ?_
    refine va_get (D := D) (ci := 2) (v := .ref (h 7)) (C := RX2) (T := TX2) (N := 7) hx hb hts (fun w h => lw_in w (inX2 w h)) hown hK hP 0 rfl rfl 3 (by decide) (hts _ (lw_in _ t_115)) (fun _ h9 => h9) rfl dX2_read_10 ?_
    refine ct_callV (As := []) (rest := []) ⟨hx, hb, hml, hown, hts⟩ (k_M_clear_o l D h k tx ln rd wh cm R3 M3) (cwV 0 hts (gV lw_in t_209 t_151 t_152 t_25 t_153) rfl rfl rfl (by decide +kernel) ⟨Nat.le_of_ble_eq_true rfl, Nat.le_of_ble_eq_true rfl⟩) 7 rfl rfl hK hP hD hS hA rfl hl.1 rfl (Nat.le_of_ble_eq_true rfl) dX2_read_13 ⟨Nat.zero_le _, Nat.zero_le _⟩ (fun H locs hP hD hS => ?_)
    refine W.eq (g2 := F0 m 16 ls []) rfl ?_
    have hP : va_P D vwCl (wD h k tx ln rd wh cm R3 (m_clear M3)) H := hP
    have hD : va_D A (wD h k tx ln rd wh cm R3 (m_clear M3)) := hD
    refine lv_aload_n hx hb dX2_read_16 rfl (lv_at hl 1 rfl) ?_
    refine lv_iconst (v := 0) hx hb dX2_read_17 (by decide) ?_
    refine lv_eqi (show 0 = nI 0 from rfl) ?_
    refine va_put (D := D) (ci := 2) (v := .int (nI 0)) (ty := .int) (C := RX2) (T := TX2) (N := 7) hx hb hts (fun w h => lw_in w (inX2 w h)) tyX2 tyX2_ok nmX2 hown hK hP hD hS 0 rfl rfl 1 (by decide) (hts _ (lw_in _ t_113)) (fun _ h9 => h9) rfl (by decide +kernel) rfl rfl (Nat.le_of_ble_eq_true rfl) dX2_read_18 (fun H locs hP hD hS => ?_)
    have hP : va_P D vwCl (wD h k tx 0 rd wh cm R3 (m_clear M3)) H := hP
    have hD : va_D A (wD h k tx 0 rd wh cm R3 (m_clear M3)) := hD
    refine lv_aload_n hx hb dX2_read_21 rfl (lv_at hl 1 rfl) ?_
    refine ct_callV (As := []) (rest := []) ⟨hx, hb, hml, hown, hts⟩ (k_D_startRow_o l D h k tx 0 rd wh cm R3 (m_clear M3)) (cwV 0 hts (gV lw_in t_210 t_212 t_8 t_23 t_213) rfl rfl rfl (by decide +kernel) ⟨Nat.le_of_ble_eq_true rfl, Nat.le_of_ble_eq_true rfl⟩) 0 rfl rfl hK hP hD hS hA rfl hl.1 rfl (Nat.le_of_ble_eq_true rfl) dX2_read_22 ⟨Nat.zero_le _, Nat.zero_le _⟩ (fun H locs hP hD hS => ?_)
    refine W.eq (g2 := F0 m 25 ls []) rfl ?_
    have hP : va_P D vwCl (wD h k tx 0 ((m_clear M3).2.2.2.1) ((m_clear M3).2.2.2.2.2) 0 R3 (m_clear M3)) H := hP
    have hD : va_D A (wD h k tx 0 ((m_clear M3).2.2.2.1) ((m_clear M3).2.2.2.2.2) 0 R3 (m_clear M3)) := hD
    refine lv_iload_n hx hb dX2_read_25 rfl (lv_at hl 0 rfl) ?_
    have e_26 : d_read tx ln R M = (R3, m_clear M3, v3) := by unfold d_read; rw [hT, if_neg c_6]
    exact ct_endi hx hb hr hlocks rfl hP hD hS (by rw [e_26]) (by rw [e_26]) dX2_read_26
