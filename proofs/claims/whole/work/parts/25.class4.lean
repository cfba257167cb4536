section
variable {l : Launch} {D : va_G} {cI cZ cS : ClassId}

set_option maxHeartbeats 4000000 in
set_option maxRecDepth 100000 in
theorem c_X3_renew (o : Nat) (x : Nat) (lo1 : Prop) (fo1 : Nat) (si1 : Nat) (it1 : Nat → Int32) (f : Nat) (k : Nat) (E9 : fo1 ≤ 2 ∧ si1 ≤ 60) : CM l D (TY cI cZ cS) yX3_renew cX3_renew 3 none 1 [.ref o, .int (nI f), .int (nI k)] (wT cI o x lo1 fo1 si1 it1) none (wT cI o x False f k (stG it1 0 (nI 0) 60)) := by
  refine CM.ofV (by decide +kernel) (Nat.le_of_ble_eq_true rfl) ?_
  intro p e s m args below meth c Q A G K hA w hret ls hl
  obtain ⟨hx, hb, hml, hown, hts⟩ := id G
  obtain ⟨hfo, hsi⟩ := id E9
  have hl : lv_has ls 3 [(0, .ref o), (1, .int (nI f)), (2, .int (nI k))] := hl
  refine lv_aload_n hx hb dX3_renew_0 rfl (lv_at hl 0 rfl) ?_
  refine lv_iconst (v := (nI 0)) hx hb dX3_renew_1 (by decide) ?_
  refine t_i (y := (bI False)) (b0 id) ?_
  refine f_put G K w inX3 tyX3 tyX3_ok nmX3 0 (ci := 3) rfl rfl 1 rfl fl_X3_15 rfl (bI_nar _) (bI_fit _) rfl dX3_renew_2 (w2 := (wT cI o x False fo1 si1 it1)) rfl (fun Hp1 lo2 w => ?_)
  refine lv_aload_n hx hb dX3_renew_5 rfl (lv_at hl 0 rfl) ?_
  refine lv_iload_n hx hb dX3_renew_6 rfl (lv_at hl 1 rfl) ?_
  refine f_put G K w inX3 tyX3 tyX3_ok nmX3 0 (ci := 3) rfl rfl 2 rfl fl_X3_19 rfl rfl rfl rfl dX3_renew_7 (w2 := (wT cI o x False f si1 it1)) rfl (fun Hp3 lo4 w => ?_)
  refine lv_aload_n hx hb dX3_renew_10 rfl (lv_at hl 0 rfl) ?_
  refine lv_iload_n hx hb dX3_renew_11 rfl (lv_at hl 2 rfl) ?_
  refine f_put G K w inX3 tyX3 tyX3_ok nmX3 0 (ci := 3) rfl rfl 3 rfl fl_X3_23 rfl rfl rfl rfl dX3_renew_12 (w2 := (wT cI o x False f k it1)) rfl (fun Hp5 lo6 w => ?_)
  refine lv_aload_n hx hb dX3_renew_15 rfl (lv_at hl 0 rfl) ?_
  refine f_get G K w.1 inX3 0 (ci := 3) rfl rfl 0 rfl fl_X3_9 (v := .ref x) rfl dX3_renew_16 ?_
  refine lv_iconst (v := (nI 0)) hx hb dX3_renew_19 (by decide) ?_
  refine callMS (vs := [.ref x, .int (nI 0)]) (rest := []) (wr := ([(o, .inr (3, [.ref x, .int (bI False), .int (nI f), .int (nI k)]))] : va_W)) (ws2 := (wT cI o x False f k (stG it1 0 (nI 0) 60))) G K hA w F_J7_fill_53178 (c_J7_fill_53178 x 60 it1 (nI 0) (by decide)) ml_X3_26 [1] [0] [0, 1] rfl rfl rfl rfl rfl rfl rfl (by decide) (by decide) rfl hl.1 (Nat.le_of_ble_eq_true rfl) dX3_renew_20 (fun Hp7 lo8 w => ?_)
  exact hret _ _ _ _ _ rfl w dX3_renew_23
set_option maxHeartbeats 4000000 in
set_option maxRecDepth 100000 in
theorem c_X3_findingAt (o : Nat) (x : Nat) (lo1 : Prop) (fo1 : Nat) (si1 : Nat) (it1 : Nat → Int32) (f : Nat) (y : Int32) (E9 : fo1 ≤ 2 ∧ si1 ≤ 60) (hf9 : f < 2 ^ 31) : CP l D (TY cI cZ cS) yX3_findingAt cX3_findingAt 3 .int 0 [.ref o, .int (nI f), .int y] (wT cI o x lo1 fo1 si1 it1) (.int (nI (fdA lo1 fo1 si1 f y))) := by
  refine CP.ofI (by decide +kernel) (Nat.le_of_ble_eq_true rfl) (nar_int _) ?_
  intro p e s m args below meth c Q G K hP hret ls hl
  obtain ⟨hx, hb, hml, hown, hts⟩ := id G
  obtain ⟨hfo, hsi⟩ := id E9
  have hl : lv_has ls 3 [(0, .ref o), (1, .int (nI f)), (2, .int y)] := hl
  refine lv_aload_n hx hb dX3_findingAt_0 rfl (lv_at hl 0 rfl) ?_
  refine f_get G K hP inX3 0 (ci := 3) rfl rfl 1 rfl fl_X3_15 (v := .int (bI lo1)) rfl dX3_findingAt_1 ?_
  refine b_eq G (tgt := 9) dX3_findingAt_4 (by decide) (fun c4 => ?_) (fun c4 => ?_)
  · -- taken at 4
    refine lv_aload_n hx hb dX3_findingAt_9 rfl (lv_at hl 0 rfl) ?_
    refine f_get G K hP inX3 0 (ci := 3) rfl rfl 2 rfl fl_X3_19 (v := .int (nI fo1)) rfl dX3_findingAt_10 ?_
    refine lv_iload_n hx hb dX3_findingAt_13 rfl (lv_at hl 1 rfl) ?_
    refine c_eq G (tgt := 19) (by omega) (by omega) dX3_findingAt_14 (by decide) (fun c14 => ?_) (fun c14 => ?_)
    · -- taken at 14
      refine lv_iload_n hx hb dX3_findingAt_19 rfl (lv_at hl 2 rfl) ?_
      refine lv_if_lt (tgt := 31) hx hb dX3_findingAt_20 (by decide) (fun c20 => ?_) (fun c20 => ?_)
      · -- taken at 20
        refine lv_iconst (v := (nI 2)) hx hb dX3_findingAt_31 (by decide) ?_
        refine lv_goto (tgt := 36) hx hb dX3_findingAt_32 (by decide) ?_
        exact hret _ _ _ (congrArg nI (by unfold fdA; first | rw [cif_t c4] | rw [cif_f c4, cif_f c14] | rw [cif_f c4, cif_t c14, cif_f (has_lt (by omega) c20)] | rw [cif_f c4, cif_t c14, cif_t (has_iff (by omega) c20 (by rw [Int32.le_iff_toInt_le]; rw [Int32.lt_iff_toInt_lt] at c28; omega))] | rw [cif_f c4, cif_t c14, cif_f (has_ge (by omega) (by rw [Int32.le_iff_toInt_le]; rw [Int32.lt_iff_toInt_lt] at c28; omega))])) dX3_findingAt_36
      · -- not taken at 20
        refine lv_iload_n hx hb dX3_findingAt_23 rfl (lv_at hl 2 rfl) ?_
        refine lv_aload_n hx hb dX3_findingAt_24 rfl (lv_at hl 0 rfl) ?_
        refine f_get G K hP inX3 0 (ci := 3) rfl rfl 3 rfl fl_X3_23 (v := .int (nI si1)) rfl dX3_findingAt_25 ?_
        refine lv_icmp_lt (tgt := 35) hx hb dX3_findingAt_28 (by decide) (fun c28 => ?_) (fun c28 => ?_)
        · -- taken at 28
          refine lv_iconst (v := (nI 0)) hx hb dX3_findingAt_35 (by decide) ?_
          exact hret _ _ _ (congrArg nI (by unfold fdA; first | rw [cif_t c4] | rw [cif_f c4, cif_f c14] | rw [cif_f c4, cif_t c14, cif_f (has_lt (by omega) c20)] | rw [cif_f c4, cif_t c14, cif_t (has_iff (by omega) c20 (by rw [Int32.le_iff_toInt_le]; rw [Int32.lt_iff_toInt_lt] at c28; omega))] | rw [cif_f c4, cif_t c14, cif_f (has_ge (by omega) (by rw [Int32.le_iff_toInt_le]; rw [Int32.lt_iff_toInt_lt] at c28; omega))])) dX3_findingAt_36
        · -- not taken at 28
          refine lv_iconst (v := (nI 2)) hx hb dX3_findingAt_31 (by decide) ?_
          refine lv_goto (tgt := 36) hx hb dX3_findingAt_32 (by decide) ?_
          exact hret _ _ _ (congrArg nI (by unfold fdA; first | rw [cif_t c4] | rw [cif_f c4, cif_f c14] | rw [cif_f c4, cif_t c14, cif_f (has_lt (by omega) c20)] | rw [cif_f c4, cif_t c14, cif_t (has_iff (by omega) c20 (by rw [Int32.le_iff_toInt_le]; rw [Int32.lt_iff_toInt_lt] at c28; omega))] | rw [cif_f c4, cif_t c14, cif_f (has_ge (by omega) (by rw [Int32.le_iff_toInt_le]; rw [Int32.lt_iff_toInt_lt] at c28; omega))])) dX3_findingAt_36
    · -- not taken at 14
      refine lv_iconst (v := (nI 3)) hx hb dX3_findingAt_17 (by decide) ?_
      exact hret _ _ _ (congrArg nI (by unfold fdA; first | rw [cif_t c4] | rw [cif_f c4, cif_f c14] | rw [cif_f c4, cif_t c14, cif_f (has_lt (by omega) c20)] | rw [cif_f c4, cif_t c14, cif_t (has_iff (by omega) c20 (by rw [Int32.le_iff_toInt_le]; rw [Int32.lt_iff_toInt_lt] at c28; omega))] | rw [cif_f c4, cif_t c14, cif_f (has_ge (by omega) (by rw [Int32.le_iff_toInt_le]; rw [Int32.lt_iff_toInt_lt] at c28; omega))])) dX3_findingAt_18
  · -- not taken at 4
    refine lv_iconst (v := (nI 1)) hx hb dX3_findingAt_7 (by decide) ?_
    exact hret _ _ _ (congrArg nI (by unfold fdA; first | rw [cif_t c4] | rw [cif_f c4, cif_f c14] | rw [cif_f c4, cif_t c14, cif_f (has_lt (by omega) c20)] | rw [cif_f c4, cif_t c14, cif_t (has_iff (by omega) c20 (by rw [Int32.le_iff_toInt_le]; rw [Int32.lt_iff_toInt_lt] at c28; omega))] | rw [cif_f c4, cif_t c14, cif_f (has_ge (by omega) (by rw [Int32.le_iff_toInt_le]; rw [Int32.lt_iff_toInt_lt] at c28; omega))])) dX3_findingAt_8
set_option maxHeartbeats 4000000 in
set_option maxRecDepth 100000 in
theorem c_X3_hasItems (o : Nat) (x : Nat) (lo1 : Prop) (fo1 : Nat) (si1 : Nat) (it1 : Nat → Int32) (i : Int32) (k : Int32) (E9 : fo1 ≤ 2 ∧ si1 ≤ 60) : CP l D (TY cI cZ cS) yX3_hasItems cX3_hasItems 3 .boolean 0 [.ref o, .int i, .int k] (wT cI o x lo1 fo1 si1 it1) (.int (bI (okH si1 i k))) := by
  refine CP.ofI (by decide +kernel) (Nat.le_of_ble_eq_true rfl) (bI_nar _) ?_
  intro p e s m args below meth c Q G K hP hret ls hl
  obtain ⟨hx, hb, hml, hown, hts⟩ := id G
  obtain ⟨hfo, hsi⟩ := id E9
  have hl : lv_has ls 3 [(0, .ref o), (1, .int i), (2, .int k)] := hl
  refine lv_iload_n hx hb dX3_hasItems_0 rfl (lv_at hl 1 rfl) ?_
  refine lv_if_lt (tgt := 22) hx hb dX3_hasItems_1 (by decide) (fun c1 => ?_) (fun c1 => ?_)
  · -- taken at 1
    refine lv_iconst (v := (nI 0)) hx hb dX3_hasItems_22 (by decide) ?_
    exact hret _ _ _ (by first | exact b1 (okH_t hsi c1 c5 c15) | exact b0 (okH_1 hsi c1) | exact b0 (okH_2 hsi c5) | exact b0 (okH_f hsi c15)) dX3_hasItems_23
  · -- not taken at 1
    refine lv_iload_n hx hb dX3_hasItems_4 rfl (lv_at hl 2 rfl) ?_
    refine lv_if_lt (tgt := 22) hx hb dX3_hasItems_5 (by decide) (fun c5 => ?_) (fun c5 => ?_)
    · -- taken at 5
      refine lv_iconst (v := (nI 0)) hx hb dX3_hasItems_22 (by decide) ?_
      exact hret _ _ _ (by first | exact b1 (okH_t hsi c1 c5 c15) | exact b0 (okH_1 hsi c1) | exact b0 (okH_2 hsi c5) | exact b0 (okH_f hsi c15)) dX3_hasItems_23
    · -- not taken at 5
      refine lv_iload_n hx hb dX3_hasItems_8 rfl (lv_at hl 2 rfl) ?_
      refine lv_aload_n hx hb dX3_hasItems_9 rfl (lv_at hl 0 rfl) ?_
      refine f_get G K hP inX3 0 (ci := 3) rfl rfl 3 rfl fl_X3_23 (v := .int (nI si1)) rfl dX3_hasItems_10 ?_
      refine lv_iload_n hx hb dX3_hasItems_13 rfl (lv_at hl 1 rfl) ?_
      refine lv_isub hx hb dX3_hasItems_14 ?_
      refine lv_icmp_gt (tgt := 22) hx hb dX3_hasItems_15 (by decide) (fun c15 => ?_) (fun c15 => ?_)
      · -- taken at 15
        refine lv_iconst (v := (nI 0)) hx hb dX3_hasItems_22 (by decide) ?_
        exact hret _ _ _ (by first | exact b1 (okH_t hsi c1 c5 c15) | exact b0 (okH_1 hsi c1) | exact b0 (okH_2 hsi c5) | exact b0 (okH_f hsi c15)) dX3_hasItems_23
      · -- not taken at 15
        refine lv_iconst (v := (nI 1)) hx hb dX3_hasItems_18 (by decide) ?_
        refine lv_goto (tgt := 23) hx hb dX3_hasItems_19 (by decide) ?_
        exact hret _ _ _ (by first | exact b1 (okH_t hsi c1 c5 c15) | exact b0 (okH_1 hsi c1) | exact b0 (okH_2 hsi c5) | exact b0 (okH_f hsi c15)) dX3_hasItems_23
set_option maxHeartbeats 4000000 in
set_option maxRecDepth 100000 in
theorem c_X3_layItem (o : Nat) (x : Nat) (lo1 : Prop) (fo1 : Nat) (si1 : Nat) (it1 : Nat → Int32) (i : Nat) (v : Int32) (E9 : fo1 ≤ 2 ∧ si1 ≤ 60) (hi9 : i < 60) : CM l D (TY cI cZ cS) yX3_layItem cX3_layItem 3 none 0 [.ref o, .int (nI i), .int v] (wT cI o x lo1 fo1 si1 it1) none (wT cI o x lo1 fo1 si1 (va_up it1 i (cutV (nI fo1) v))) := by
  refine CM.ofV (by decide +kernel) (Nat.le_of_ble_eq_true rfl) ?_
  intro p e s m args below meth c Q A G K hA w hret ls hl
  obtain ⟨hx, hb, hml, hown, hts⟩ := id G
  obtain ⟨hfo, hsi⟩ := id E9
  have hl : lv_has ls 3 [(0, .ref o), (1, .int (nI i)), (2, .int v)] := hl
  refine lv_aload_n hx hb dX3_layItem_0 rfl (lv_at hl 0 rfl) ?_
  refine f_get G K w.1 inX3 0 (ci := 3) rfl rfl 2 rfl fl_X3_19 (v := .int (nI fo1)) rfl dX3_layItem_1 ?_
  rcases (show fo1 = 0 ∨ fo1 = 1 ∨ 1 < fo1 by omega) with rfl | rfl | hsw4
  · -- 0
    refine lv_lookup (off := 28) (tgt := 32) hx hb dX3_layItem_4 (by decide) (by decide) (by decide) ?_
    refine lv_aload_n hx hb dX3_layItem_32 rfl (lv_at hl 0 rfl) ?_
    refine f_get G K w.1 inX3 0 (ci := 3) rfl rfl 0 rfl fl_X3_9 (v := .ref x) rfl dX3_layItem_33 ?_
    refine lv_iload_n hx hb dX3_layItem_36 rfl (lv_at hl 1 rfl) ?_
    refine lv_iload_n hx hb dX3_layItem_37 rfl (lv_at hl 2 rfl) ?_
    refine lv_i2b (v := v.toInt8.toInt32) hx hb dX3_layItem_38 rfl ?_
    refine a_st G K w 1 0 (a := x) rfl rfl (by omega) (by decide) dX3_layItem_39 (w2 := (wT cI o x lo1 0 si1 (va_up it1 i v.toInt8.toInt32))) rfl (fun Hp1 lo2 w => ?_)
    refine lv_goto (tgt := 61) hx hb dX3_layItem_40 (by decide) ?_
    exact hret _ _ _ _ _ (by first | rw [cutV_0] | rw [cutV_1] | rw [cutV_2 hsw4 hfo]) w dX3_layItem_61
  · -- 1
    refine lv_lookup (off := 39) (tgt := 43) hx hb dX3_layItem_4 (by decide) (by decide) (by decide) ?_
    refine lv_aload_n hx hb dX3_layItem_43 rfl (lv_at hl 0 rfl) ?_
    refine f_get G K w.1 inX3 0 (ci := 3) rfl rfl 0 rfl fl_X3_9 (v := .ref x) rfl dX3_layItem_44 ?_
    refine lv_iload_n hx hb dX3_layItem_47 rfl (lv_at hl 1 rfl) ?_
    refine lv_iload_n hx hb dX3_layItem_48 rfl (lv_at hl 2 rfl) ?_
    refine lv_i2s (v := v.toInt16.toInt32) hx hb dX3_layItem_49 rfl ?_
    refine a_st G K w 1 0 (a := x) rfl rfl (by omega) (by decide) dX3_layItem_50 (w2 := (wT cI o x lo1 1 si1 (va_up it1 i v.toInt16.toInt32))) rfl (fun Hp3 lo4 w => ?_)
    refine lv_goto (tgt := 61) hx hb dX3_layItem_51 (by decide) ?_
    exact hret _ _ _ _ _ (by first | rw [cutV_0] | rw [cutV_1] | rw [cutV_2 hsw4 hfo]) w dX3_layItem_61
  · -- other
    refine lv_lookup (off := 50) (tgt := 54) hx hb dX3_layItem_4 (by decide) (lk_o (by omega) (by omega)) (by decide) ?_
    refine lv_aload_n hx hb dX3_layItem_54 rfl (lv_at hl 0 rfl) ?_
    refine f_get G K w.1 inX3 0 (ci := 3) rfl rfl 0 rfl fl_X3_9 (v := .ref x) rfl dX3_layItem_55 ?_
    refine lv_iload_n hx hb dX3_layItem_58 rfl (lv_at hl 1 rfl) ?_
    refine lv_iload_n hx hb dX3_layItem_59 rfl (lv_at hl 2 rfl) ?_
    refine a_st G K w 1 0 (a := x) rfl rfl (by omega) (by decide) dX3_layItem_60 (w2 := (wT cI o x lo1 fo1 si1 (va_up it1 i v))) rfl (fun Hp5 lo6 w => ?_)
    exact hret _ _ _ _ _ (by first | rw [cutV_0] | rw [cutV_1] | rw [cutV_2 hsw4 hfo]) w dX3_layItem_61

end
