/-! the constructors that make arrays alone -/
theorem WW_sub {D : va_G} {A : Nat → Prop} {H0 : Heap} {ws ws2 : va_W} {H : Heap} {locs : List Loc} (w : WW D A H0 ws H locs) (is : List Nat) (hn : va_nd is = true) (hs : is.map (fun i => ws[i]?) = ws2.map some) : WW D A H0 ws2 H locs := by
  refine ⟨fun j q hj => ?_, w.2.1.sub (ws' := ws2) is hn hs, w.2.2⟩
  have h1 : (is.map (fun i => ws[i]?))[j]? = some (some q) := by rw [hs, List.getElem?_map, hj]; rfl
  rw [List.getElem?_map] at h1
  cases hi : is[j]? with
  | none => rw [hi] at h1; cases h1
  | some i => rw [hi] at h1; exact w.1 i q (by simpa using h1)
section Ctors
variable {l : Launch} {D : va_G} {cI cZ cS : ClassId}
set_option maxHeartbeats 4000000 in
set_option maxRecDepth 100000 in
theorem c_X0_init (h : Nat) : CN l D (TY cI cZ cS) yX0_init cX0_init 1 1 1 216 h [] [(h, .inr (0, [.null, .int 0]))] (fun _ => True) (fun q => wB cI (q 0) (fun _ => 0) 0) := by
  refine CN.of (by decide +kernel) rfl (Nat.le_of_ble_eq_true rfl) ?_
  intro p e s m args below meth c Q A G hini K _ hA w hret ls hl
  obtain ⟨hx, hb, hml, hown, hts⟩ := id G
  have hl : lv_has ls 1 [(0, .ref h)] := hl
  refine lv_aload_n hx hb dX0_init_0 rfl (lv_at hl 0 rfl) ?_
  refine o_init G ml_X0_3 hl.1 dX0_init_1 (Nat.le_of_ble_eq_true rfl) (Nat.le_of_ble_eq_true rfl) ?_
  refine lv_aload_n hx hb dX0_init_4 rfl (lv_at hl 0 rfl) ?_
  refine lv_sipush (v := (nI 216)) hx hb dX0_init_5 (by decide) ?_
  refine n_ai G K hA w 0 rfl 216 (f := fun _ => nI 0) (funext fun _ => nI_0) (by decide) rfl (Nat.le_of_ble_eq_true rfl) (Nat.le_of_ble_eq_true rfl) (Nat.le_of_ble_eq_true rfl) dX0_init_8 (fun a1 Hh8 w => ?_)
  refine f_putF G K hini w inX0 tyX0 tyX0_ok nmX0 0 (ci := 0) rfl rfl 0 rfl fl_X0_9 rfl rfl rfl rfl rfl dX0_init_10 (w2 := [(h, .inr (0, [.ref a1, .int 0])), (a1, .inl (cI, 216, .inl (fun _ => nI 0)))]) rfl (fun Hh10 lo10 w => ?_)
  refine lv_aload_n hx hb dX0_init_13 rfl (lv_at hl 0 rfl) ?_
  refine lv_iconst (v := (nI 0)) hx hb dX0_init_14 (by decide) ?_
  refine f_put G K w inX0 tyX0 tyX0_ok nmX0 0 (ci := 0) rfl rfl 1 rfl fl_X0_15 rfl rfl rfl rfl dX0_init_15 (w2 := [(h, .inr (0, [.ref a1, .int (nI 0)])), (a1, .inl (cI, 216, .inl (fun _ => nI 0)))]) rfl (fun Hh15 lo15 w => ?_)
  have w9 := WW_sub w [0, 1] (by decide) (ws2 := wB cI ((fun _ k => [h, a1].getD k 0) 0) (fun _ => 0) 0) rfl
  exact hret _ _ (fun _ k => [h, a1].getD k 0) _ _ _ rfl rfl w9 dX0_init_18
set_option maxHeartbeats 4000000 in
set_option maxRecDepth 100000 in
theorem c_X4_init (h : Nat) : CN l D (TY cI cZ cS) yX4_init cX4_init 1 1 5 168 h [] [(h, .inr (4, [.null, .null, .null, .null, .null, .int 0, .int 0]))] (fun _ => True) (fun q => wW cI (q 0) 0 0 (fun _ => 0) (fun _ => 0) (fun _ => 0) (fun _ => 0) (fun _ => 0)) := by
  refine CN.of (by decide +kernel) rfl (Nat.le_of_ble_eq_true rfl) ?_
  intro p e s m args below meth c Q A G hini K _ hA w hret ls hl
  obtain ⟨hx, hb, hml, hown, hts⟩ := id G
  have hl : lv_has ls 1 [(0, .ref h)] := hl
  refine lv_aload_n hx hb dX4_init_0 rfl (lv_at hl 0 rfl) ?_
  refine o_init G ml_X4_3 hl.1 dX4_init_1 (Nat.le_of_ble_eq_true rfl) (Nat.le_of_ble_eq_true rfl) ?_
  refine lv_aload_n hx hb dX4_init_4 rfl (lv_at hl 0 rfl) ?_
  refine lv_bipush (v := (nI 40)) hx hb dX4_init_5 (by decide) ?_
  refine n_ai G K hA w 0 rfl 40 (f := fun _ => nI 0) (funext fun _ => nI_0) (by decide) rfl (Nat.le_of_ble_eq_true rfl) (Nat.le_of_ble_eq_true rfl) (Nat.le_of_ble_eq_true rfl) dX4_init_7 (fun a1 Hh7 w => ?_)
  refine f_putF G K hini w inX4 tyX4 tyX4_ok nmX4 0 (ci := 4) rfl rfl 0 rfl fl_X4_9 rfl rfl rfl rfl rfl dX4_init_9 (w2 := [(h, .inr (4, [.ref a1, .null, .null, .null, .null, .int 0, .int 0])), (a1, .inl (cI, 40, .inl (fun _ => nI 0)))]) rfl (fun Hh9 lo9 w => ?_)
  refine lv_aload_n hx hb dX4_init_12 rfl (lv_at hl 0 rfl) ?_
  refine lv_bipush (v := (nI 40)) hx hb dX4_init_13 (by decide) ?_
  refine n_ai G K hA w 0 rfl 40 (f := fun _ => nI 0) (funext fun _ => nI_0) (by decide) rfl (Nat.le_of_ble_eq_true rfl) (Nat.le_of_ble_eq_true rfl) (Nat.le_of_ble_eq_true rfl) dX4_init_15 (fun a2 Hh15 w => ?_)
  refine f_putF G K hini w inX4 tyX4 tyX4_ok nmX4 0 (ci := 4) rfl rfl 1 rfl fl_X4_15 rfl rfl rfl rfl rfl dX4_init_17 (w2 := [(h, .inr (4, [.ref a1, .ref a2, .null, .null, .null, .int 0, .int 0])), (a1, .inl (cI, 40, .inl (fun _ => nI 0))), (a2, .inl (cI, 40, .inl (fun _ => nI 0)))]) rfl (fun Hh17 lo17 w => ?_)
  refine lv_aload_n hx hb dX4_init_20 rfl (lv_at hl 0 rfl) ?_
  refine lv_bipush (v := (nI 40)) hx hb dX4_init_21 (by decide) ?_
  refine n_ai G K hA w 0 rfl 40 (f := fun _ => nI 0) (funext fun _ => nI_0) (by decide) rfl (Nat.le_of_ble_eq_true rfl) (Nat.le_of_ble_eq_true rfl) (Nat.le_of_ble_eq_true rfl) dX4_init_23 (fun a3 Hh23 w => ?_)
  refine f_putF G K hini w inX4 tyX4 tyX4_ok nmX4 0 (ci := 4) rfl rfl 2 rfl fl_X4_18 rfl rfl rfl rfl rfl dX4_init_25 (w2 := [(h, .inr (4, [.ref a1, .ref a2, .ref a3, .null, .null, .int 0, .int 0])), (a1, .inl (cI, 40, .inl (fun _ => nI 0))), (a2, .inl (cI, 40, .inl (fun _ => nI 0))), (a3, .inl (cI, 40, .inl (fun _ => nI 0)))]) rfl (fun Hh25 lo25 w => ?_)
  refine lv_aload_n hx hb dX4_init_28 rfl (lv_at hl 0 rfl) ?_
  refine lv_bipush (v := (nI 40)) hx hb dX4_init_29 (by decide) ?_
  refine n_ai G K hA w 0 rfl 40 (f := fun _ => nI 0) (funext fun _ => nI_0) (by decide) rfl (Nat.le_of_ble_eq_true rfl) (Nat.le_of_ble_eq_true rfl) (Nat.le_of_ble_eq_true rfl) dX4_init_31 (fun a4 Hh31 w => ?_)
  refine f_putF G K hini w inX4 tyX4 tyX4_ok nmX4 0 (ci := 4) rfl rfl 3 rfl fl_X4_21 rfl rfl rfl rfl rfl dX4_init_33 (w2 := [(h, .inr (4, [.ref a1, .ref a2, .ref a3, .ref a4, .null, .int 0, .int 0])), (a1, .inl (cI, 40, .inl (fun _ => nI 0))), (a2, .inl (cI, 40, .inl (fun _ => nI 0))), (a3, .inl (cI, 40, .inl (fun _ => nI 0))), (a4, .inl (cI, 40, .inl (fun _ => nI 0)))]) rfl (fun Hh33 lo33 w => ?_)
  refine lv_aload_n hx hb dX4_init_36 rfl (lv_at hl 0 rfl) ?_
  refine lv_bipush (v := (nI 8)) hx hb dX4_init_37 (by decide) ?_
  refine n_ai G K hA w 0 rfl 8 (f := fun _ => nI 0) (funext fun _ => nI_0) (by decide) rfl (Nat.le_of_ble_eq_true rfl) (Nat.le_of_ble_eq_true rfl) (Nat.le_of_ble_eq_true rfl) dX4_init_39 (fun a5 Hh39 w => ?_)
  refine f_putF G K hini w inX4 tyX4 tyX4_ok nmX4 0 (ci := 4) rfl rfl 4 rfl fl_X4_24 rfl rfl rfl rfl rfl dX4_init_41 (w2 := [(h, .inr (4, [.ref a1, .ref a2, .ref a3, .ref a4, .ref a5, .int 0, .int 0])), (a1, .inl (cI, 40, .inl (fun _ => nI 0))), (a2, .inl (cI, 40, .inl (fun _ => nI 0))), (a3, .inl (cI, 40, .inl (fun _ => nI 0))), (a4, .inl (cI, 40, .inl (fun _ => nI 0))), (a5, .inl (cI, 8, .inl (fun _ => nI 0)))]) rfl (fun Hh41 lo41 w => ?_)
  refine lv_aload_n hx hb dX4_init_44 rfl (lv_at hl 0 rfl) ?_
  refine lv_iconst (v := (nI 0)) hx hb dX4_init_45 (by decide) ?_
  refine f_put G K w inX4 tyX4 tyX4_ok nmX4 0 (ci := 4) rfl rfl 5 rfl fl_X4_27 rfl rfl rfl rfl dX4_init_46 (w2 := [(h, .inr (4, [.ref a1, .ref a2, .ref a3, .ref a4, .ref a5, .int (nI 0), .int 0])), (a1, .inl (cI, 40, .inl (fun _ => nI 0))), (a2, .inl (cI, 40, .inl (fun _ => nI 0))), (a3, .inl (cI, 40, .inl (fun _ => nI 0))), (a4, .inl (cI, 40, .inl (fun _ => nI 0))), (a5, .inl (cI, 8, .inl (fun _ => nI 0)))]) rfl (fun Hh46 lo46 w => ?_)
  refine lv_aload_n hx hb dX4_init_49 rfl (lv_at hl 0 rfl) ?_
  refine lv_iconst (v := (nI 0)) hx hb dX4_init_50 (by decide) ?_
  refine f_put G K w inX4 tyX4 tyX4_ok nmX4 0 (ci := 4) rfl rfl 6 rfl fl_X4_31 rfl rfl rfl rfl dX4_init_51 (w2 := [(h, .inr (4, [.ref a1, .ref a2, .ref a3, .ref a4, .ref a5, .int (nI 0), .int (nI 0)])), (a1, .inl (cI, 40, .inl (fun _ => nI 0))), (a2, .inl (cI, 40, .inl (fun _ => nI 0))), (a3, .inl (cI, 40, .inl (fun _ => nI 0))), (a4, .inl (cI, 40, .inl (fun _ => nI 0))), (a5, .inl (cI, 8, .inl (fun _ => nI 0)))]) rfl (fun Hh51 lo51 w => ?_)
  have w9 := WW_sub w [0, 1, 2, 3, 4, 5] (by decide) (ws2 := wW cI ((fun _ k => [h, a1, a2, a3, a4, a5].getD k 0) 0) 0 0 (fun _ => 0) (fun _ => 0) (fun _ => 0) (fun _ => 0) (fun _ => 0)) rfl
  exact hret _ _ (fun _ k => [h, a1, a2, a3, a4, a5].getD k 0) _ _ _ rfl rfl w9 dX4_init_54
set_option maxHeartbeats 4000000 in
set_option maxRecDepth 100000 in
theorem c_X1_init (h : Nat) (hW : Nat) (hB : Nat) : CN l D (TY cI cZ cS) yX1_init cX1_init 3 1 5 320 h [.ref hW, .ref hB] [(h, .inr (1, [.null, .null, .null, .null, .null, .null, .null]))] (fun _ => True) (fun q => wC cI cZ (q 0) hW hB (fun _ => False) (fun _ => 0) (fun _ => 0) (fun _ => 0) (fun _ => 0)) := by
  refine CN.of (by decide +kernel) rfl (Nat.le_of_ble_eq_true rfl) ?_
  intro p e s m args below meth c Q A G hini K _ hA w hret ls hl
  obtain ⟨hx, hb, hml, hown, hts⟩ := id G
  have hl : lv_has ls 3 [(0, .ref h), (1, .ref hW), (2, .ref hB)] := hl
  refine lv_aload_n hx hb dX1_init_0 rfl (lv_at hl 0 rfl) ?_
  refine o_init G ml_X1_3 hl.1 dX1_init_1 (Nat.le_of_ble_eq_true rfl) (Nat.le_of_ble_eq_true rfl) ?_
  refine lv_aload_n hx hb dX1_init_4 rfl (lv_at hl 0 rfl) ?_
  refine lv_bipush (v := (nI 40)) hx hb dX1_init_5 (by decide) ?_
  refine n_az G K hA w 1 rfl 40 (f := fun _ => bI False) (funext fun _ => bI_f id) (by decide) rfl (Nat.le_of_ble_eq_true rfl) (Nat.le_of_ble_eq_true rfl) (Nat.le_of_ble_eq_true rfl) dX1_init_7 (fun a1 Hh7 w => ?_)
  refine f_putF G K hini w inX1 tyX1 tyX1_ok nmX1 0 (ci := 1) rfl rfl 2 rfl fl_X1_9 rfl rfl rfl rfl rfl dX1_init_9 (w2 := [(h, .inr (1, [.null, .null, .ref a1, .null, .null, .null, .null])), (a1, .inl (cZ, 40, .inl (fun _ => bI False)))]) rfl (fun Hh9 lo9 w => ?_)
  refine lv_aload_n hx hb dX1_init_12 rfl (lv_at hl 0 rfl) ?_
  refine lv_sipush (v := (nI 160)) hx hb dX1_init_13 (by decide) ?_
  refine n_ai G K hA w 0 rfl 160 (f := fun _ => nI 0) (funext fun _ => nI_0) (by decide) rfl (Nat.le_of_ble_eq_true rfl) (Nat.le_of_ble_eq_true rfl) (Nat.le_of_ble_eq_true rfl) dX1_init_16 (fun a2 Hh16 w => ?_)
  refine f_putF G K hini w inX1 tyX1 tyX1_ok nmX1 0 (ci := 1) rfl rfl 3 rfl fl_X1_15 rfl rfl rfl rfl rfl dX1_init_18 (w2 := [(h, .inr (1, [.null, .null, .ref a1, .ref a2, .null, .null, .null])), (a1, .inl (cZ, 40, .inl (fun _ => bI False))), (a2, .inl (cI, 160, .inl (fun _ => nI 0)))]) rfl (fun Hh18 lo18 w => ?_)
  refine lv_aload_n hx hb dX1_init_21 rfl (lv_at hl 0 rfl) ?_
  refine lv_bipush (v := (nI 40)) hx hb dX1_init_22 (by decide) ?_
  refine n_ai G K hA w 0 rfl 40 (f := fun _ => 0) rfl (by decide) rfl (Nat.le_of_ble_eq_true rfl) (Nat.le_of_ble_eq_true rfl) (Nat.le_of_ble_eq_true rfl) dX1_init_24 (fun a3 Hh24 w => ?_)
  refine f_putF G K hini w inX1 tyX1 tyX1_ok nmX1 0 (ci := 1) rfl rfl 4 rfl fl_X1_19 rfl rfl rfl rfl rfl dX1_init_26 (w2 := [(h, .inr (1, [.null, .null, .ref a1, .ref a2, .ref a3, .null, .null])), (a1, .inl (cZ, 40, .inl (fun _ => bI False))), (a2, .inl (cI, 160, .inl (fun _ => nI 0))), (a3, .inl (cI, 40, .inl (fun _ => 0)))]) rfl (fun Hh26 lo26 w => ?_)
  refine lv_aload_n hx hb dX1_init_29 rfl (lv_at hl 0 rfl) ?_
  refine lv_bipush (v := (nI 40)) hx hb dX1_init_30 (by decide) ?_
  refine n_ai G K hA w 0 rfl 40 (f := fun _ => 0) rfl (by decide) rfl (Nat.le_of_ble_eq_true rfl) (Nat.le_of_ble_eq_true rfl) (Nat.le_of_ble_eq_true rfl) dX1_init_32 (fun a4 Hh32 w => ?_)
  refine f_putF G K hini w inX1 tyX1 tyX1_ok nmX1 0 (ci := 1) rfl rfl 5 rfl fl_X1_22 rfl rfl rfl rfl rfl dX1_init_34 (w2 := [(h, .inr (1, [.null, .null, .ref a1, .ref a2, .ref a3, .ref a4, .null])), (a1, .inl (cZ, 40, .inl (fun _ => bI False))), (a2, .inl (cI, 160, .inl (fun _ => nI 0))), (a3, .inl (cI, 40, .inl (fun _ => 0))), (a4, .inl (cI, 40, .inl (fun _ => 0)))]) rfl (fun Hh34 lo34 w => ?_)
  refine lv_aload_n hx hb dX1_init_37 rfl (lv_at hl 0 rfl) ?_
  refine lv_bipush (v := (nI 40)) hx hb dX1_init_38 (by decide) ?_
  refine n_ai G K hA w 0 rfl 40 (f := fun _ => nI 0) (funext fun _ => nI_0) (by decide) rfl (Nat.le_of_ble_eq_true rfl) (Nat.le_of_ble_eq_true rfl) (Nat.le_of_ble_eq_true rfl) dX1_init_40 (fun a5 Hh40 w => ?_)
  refine f_putF G K hini w inX1 tyX1 tyX1_ok nmX1 0 (ci := 1) rfl rfl 6 rfl fl_X1_25 rfl rfl rfl rfl rfl dX1_init_42 (w2 := [(h, .inr (1, [.null, .null, .ref a1, .ref a2, .ref a3, .ref a4, .ref a5])), (a1, .inl (cZ, 40, .inl (fun _ => bI False))), (a2, .inl (cI, 160, .inl (fun _ => nI 0))), (a3, .inl (cI, 40, .inl (fun _ => 0))), (a4, .inl (cI, 40, .inl (fun _ => 0))), (a5, .inl (cI, 40, .inl (fun _ => nI 0)))]) rfl (fun Hh42 lo42 w => ?_)
  refine lv_aload_n hx hb dX1_init_45 rfl (lv_at hl 0 rfl) ?_
  refine lv_aload_n hx hb dX1_init_46 rfl (lv_at hl 1 rfl) ?_
  refine f_putF G K hini w inX1 tyX1 tyX1_ok nmX1 0 (ci := 1) rfl rfl 0 rfl fl_X1_28 rfl rfl rfl rfl rfl dX1_init_47 (w2 := [(h, .inr (1, [.ref hW, .null, .ref a1, .ref a2, .ref a3, .ref a4, .ref a5])), (a1, .inl (cZ, 40, .inl (fun _ => bI False))), (a2, .inl (cI, 160, .inl (fun _ => nI 0))), (a3, .inl (cI, 40, .inl (fun _ => 0))), (a4, .inl (cI, 40, .inl (fun _ => 0))), (a5, .inl (cI, 40, .inl (fun _ => nI 0)))]) rfl (fun Hh47 lo47 w => ?_)
  refine lv_aload_n hx hb dX1_init_50 rfl (lv_at hl 0 rfl) ?_
  refine lv_aload_n hx hb dX1_init_51 rfl (lv_at hl 2 rfl) ?_
  refine f_putF G K hini w inX1 tyX1 tyX1_ok nmX1 0 (ci := 1) rfl rfl 1 rfl fl_X1_32 rfl rfl rfl rfl rfl dX1_init_52 (w2 := [(h, .inr (1, [.ref hW, .ref hB, .ref a1, .ref a2, .ref a3, .ref a4, .ref a5])), (a1, .inl (cZ, 40, .inl (fun _ => bI False))), (a2, .inl (cI, 160, .inl (fun _ => nI 0))), (a3, .inl (cI, 40, .inl (fun _ => 0))), (a4, .inl (cI, 40, .inl (fun _ => 0))), (a5, .inl (cI, 40, .inl (fun _ => nI 0)))]) rfl (fun Hh52 lo52 w => ?_)
  have w9 := WW_sub w [0, 1, 2, 3, 4, 5] (by decide) (ws2 := wC cI cZ ((fun _ k => [h, a1, a2, a3, a4, a5].getD k 0) 0) hW hB (fun _ => False) (fun _ => 0) (fun _ => 0) (fun _ => 0) (fun _ => 0)) rfl
  exact hret _ _ (fun _ k => [h, a1, a2, a3, a4, a5].getD k 0) _ _ _ rfl rfl w9 dX1_init_55
set_option maxHeartbeats 4000000 in
set_option maxRecDepth 100000 in
theorem c_X2_init (h : Nat) (hW : Nat) : CN l D (TY cI cZ cS) yX2_init cX2_init 2 1 8 424 h [.ref hW] [(h, .inr (2, [.null, .null, .null, .null, .null, .null, .null, .null, .null, .int 0]))] (fun _ => True) (fun q => wH cI (q 0) hW (fun _ => some 0) (fun _ => 0) (fun _ => 0) (fun _ => 0) (fun _ => 0) (fun _ => 0) (fun _ => 0) (fun _ => 0) 0) := by
  refine CN.of (by decide +kernel) rfl (Nat.le_of_ble_eq_true rfl) ?_
  intro p e s m args below meth c Q A G hini K _ hA w hret ls hl
  obtain ⟨hx, hb, hml, hown, hts⟩ := id G
  have hl : lv_has ls 2 [(0, .ref h), (1, .ref hW)] := hl
  refine lv_aload_n hx hb dX2_init_0 rfl (lv_at hl 0 rfl) ?_
  refine o_init G ml_X2_3 hl.1 dX2_init_1 (Nat.le_of_ble_eq_true rfl) (Nat.le_of_ble_eq_true rfl) ?_
  refine lv_aload_n hx hb dX2_init_4 rfl (lv_at hl 0 rfl) ?_
  refine lv_sipush (v := (nI 128)) hx hb dX2_init_5 (by decide) ?_
  refine n_ai G K hA w 0 rfl 128 (f := fun _ => oI (some 0)) (funext fun _ => nI_0) (by decide) rfl (Nat.le_of_ble_eq_true rfl) (Nat.le_of_ble_eq_true rfl) (Nat.le_of_ble_eq_true rfl) dX2_init_8 (fun a1 Hh8 w => ?_)
  refine f_putF G K hini w inX2 tyX2 tyX2_ok nmX2 0 (ci := 2) rfl rfl 1 rfl fl_X2_9 rfl rfl rfl rfl rfl dX2_init_10 (w2 := [(h, .inr (2, [.null, .ref a1, .null, .null, .null, .null, .null, .null, .null, .int 0])), (a1, .inl (cI, 128, .inl (fun _ => oI (some 0))))]) rfl (fun Hh10 lo10 w => ?_)
  refine lv_aload_n hx hb dX2_init_13 rfl (lv_at hl 0 rfl) ?_
  refine lv_bipush (v := (nI 8)) hx hb dX2_init_14 (by decide) ?_
  refine n_ai G K hA w 0 rfl 8 (f := fun _ => nI 0) (funext fun _ => nI_0) (by decide) rfl (Nat.le_of_ble_eq_true rfl) (Nat.le_of_ble_eq_true rfl) (Nat.le_of_ble_eq_true rfl) dX2_init_16 (fun a2 Hh16 w => ?_)
  refine f_putF G K hini w inX2 tyX2 tyX2_ok nmX2 0 (ci := 2) rfl rfl 2 rfl fl_X2_15 rfl rfl rfl rfl rfl dX2_init_18 (w2 := [(h, .inr (2, [.null, .ref a1, .ref a2, .null, .null, .null, .null, .null, .null, .int 0])), (a1, .inl (cI, 128, .inl (fun _ => oI (some 0)))), (a2, .inl (cI, 8, .inl (fun _ => nI 0)))]) rfl (fun Hh18 lo18 w => ?_)
  refine lv_aload_n hx hb dX2_init_21 rfl (lv_at hl 0 rfl) ?_
  refine lv_bipush (v := (nI 8)) hx hb dX2_init_22 (by decide) ?_
  refine n_ai G K hA w 0 rfl 8 (f := fun _ => nI 0) (funext fun _ => nI_0) (by decide) rfl (Nat.le_of_ble_eq_true rfl) (Nat.le_of_ble_eq_true rfl) (Nat.le_of_ble_eq_true rfl) dX2_init_24 (fun a3 Hh24 w => ?_)
  refine f_putF G K hini w inX2 tyX2 tyX2_ok nmX2 0 (ci := 2) rfl rfl 3 rfl fl_X2_18 rfl rfl rfl rfl rfl dX2_init_26 (w2 := [(h, .inr (2, [.null, .ref a1, .ref a2, .ref a3, .null, .null, .null, .null, .null, .int 0])), (a1, .inl (cI, 128, .inl (fun _ => oI (some 0)))), (a2, .inl (cI, 8, .inl (fun _ => nI 0))), (a3, .inl (cI, 8, .inl (fun _ => nI 0)))]) rfl (fun Hh26 lo26 w => ?_)
  refine lv_aload_n hx hb dX2_init_29 rfl (lv_at hl 0 rfl) ?_
  refine lv_sipush (v := (nI 128)) hx hb dX2_init_30 (by decide) ?_
  refine n_ai G K hA w 0 rfl 128 (f := fun _ => nI 0) (funext fun _ => nI_0) (by decide) rfl (Nat.le_of_ble_eq_true rfl) (Nat.le_of_ble_eq_true rfl) (Nat.le_of_ble_eq_true rfl) dX2_init_33 (fun a4 Hh33 w => ?_)
  refine f_putF G K hini w inX2 tyX2 tyX2_ok nmX2 0 (ci := 2) rfl rfl 4 rfl fl_X2_21 rfl rfl rfl rfl rfl dX2_init_35 (w2 := [(h, .inr (2, [.null, .ref a1, .ref a2, .ref a3, .ref a4, .null, .null, .null, .null, .int 0])), (a1, .inl (cI, 128, .inl (fun _ => oI (some 0)))), (a2, .inl (cI, 8, .inl (fun _ => nI 0))), (a3, .inl (cI, 8, .inl (fun _ => nI 0))), (a4, .inl (cI, 128, .inl (fun _ => nI 0)))]) rfl (fun Hh35 lo35 w => ?_)
  refine lv_aload_n hx hb dX2_init_38 rfl (lv_at hl 0 rfl) ?_
  refine lv_sipush (v := (nI 128)) hx hb dX2_init_39 (by decide) ?_
  refine n_ai G K hA w 0 rfl 128 (f := fun _ => nI 0) (funext fun _ => nI_0) (by decide) rfl (Nat.le_of_ble_eq_true rfl) (Nat.le_of_ble_eq_true rfl) (Nat.le_of_ble_eq_true rfl) dX2_init_42 (fun a5 Hh42 w => ?_)
  refine f_putF G K hini w inX2 tyX2 tyX2_ok nmX2 0 (ci := 2) rfl rfl 5 rfl fl_X2_24 rfl rfl rfl rfl rfl dX2_init_44 (w2 := [(h, .inr (2, [.null, .ref a1, .ref a2, .ref a3, .ref a4, .ref a5, .null, .null, .null, .int 0])), (a1, .inl (cI, 128, .inl (fun _ => oI (some 0)))), (a2, .inl (cI, 8, .inl (fun _ => nI 0))), (a3, .inl (cI, 8, .inl (fun _ => nI 0))), (a4, .inl (cI, 128, .inl (fun _ => nI 0))), (a5, .inl (cI, 128, .inl (fun _ => nI 0)))]) rfl (fun Hh44 lo44 w => ?_)
  refine lv_aload_n hx hb dX2_init_47 rfl (lv_at hl 0 rfl) ?_
  refine lv_bipush (v := (nI 8)) hx hb dX2_init_48 (by decide) ?_
  refine n_ai G K hA w 0 rfl 8 (f := fun _ => nI 0) (funext fun _ => nI_0) (by decide) rfl (Nat.le_of_ble_eq_true rfl) (Nat.le_of_ble_eq_true rfl) (Nat.le_of_ble_eq_true rfl) dX2_init_50 (fun a6 Hh50 w => ?_)
  refine f_putF G K hini w inX2 tyX2 tyX2_ok nmX2 0 (ci := 2) rfl rfl 6 rfl fl_X2_27 rfl rfl rfl rfl rfl dX2_init_52 (w2 := [(h, .inr (2, [.null, .ref a1, .ref a2, .ref a3, .ref a4, .ref a5, .ref a6, .null, .null, .int 0])), (a1, .inl (cI, 128, .inl (fun _ => oI (some 0)))), (a2, .inl (cI, 8, .inl (fun _ => nI 0))), (a3, .inl (cI, 8, .inl (fun _ => nI 0))), (a4, .inl (cI, 128, .inl (fun _ => nI 0))), (a5, .inl (cI, 128, .inl (fun _ => nI 0))), (a6, .inl (cI, 8, .inl (fun _ => nI 0)))]) rfl (fun Hh52 lo52 w => ?_)
  refine lv_aload_n hx hb dX2_init_55 rfl (lv_at hl 0 rfl) ?_
  refine lv_bipush (v := (nI 8)) hx hb dX2_init_56 (by decide) ?_
  refine n_ai G K hA w 0 rfl 8 (f := fun _ => nI 0) (funext fun _ => nI_0) (by decide) rfl (Nat.le_of_ble_eq_true rfl) (Nat.le_of_ble_eq_true rfl) (Nat.le_of_ble_eq_true rfl) dX2_init_58 (fun a7 Hh58 w => ?_)
  refine f_putF G K hini w inX2 tyX2 tyX2_ok nmX2 0 (ci := 2) rfl rfl 7 rfl fl_X2_30 rfl rfl rfl rfl rfl dX2_init_60 (w2 := [(h, .inr (2, [.null, .ref a1, .ref a2, .ref a3, .ref a4, .ref a5, .ref a6, .ref a7, .null, .int 0])), (a1, .inl (cI, 128, .inl (fun _ => oI (some 0)))), (a2, .inl (cI, 8, .inl (fun _ => nI 0))), (a3, .inl (cI, 8, .inl (fun _ => nI 0))), (a4, .inl (cI, 128, .inl (fun _ => nI 0))), (a5, .inl (cI, 128, .inl (fun _ => nI 0))), (a6, .inl (cI, 8, .inl (fun _ => nI 0))), (a7, .inl (cI, 8, .inl (fun _ => nI 0)))]) rfl (fun Hh60 lo60 w => ?_)
  refine lv_aload_n hx hb dX2_init_63 rfl (lv_at hl 0 rfl) ?_
  refine lv_bipush (v := (nI 8)) hx hb dX2_init_64 (by decide) ?_
  refine n_ai G K hA w 0 rfl 8 (f := fun _ => nI 0) (funext fun _ => nI_0) (by decide) rfl (Nat.le_of_ble_eq_true rfl) (Nat.le_of_ble_eq_true rfl) (Nat.le_of_ble_eq_true rfl) dX2_init_66 (fun a8 Hh66 w => ?_)
  refine f_putF G K hini w inX2 tyX2 tyX2_ok nmX2 0 (ci := 2) rfl rfl 8 rfl fl_X2_33 rfl rfl rfl rfl rfl dX2_init_68 (w2 := [(h, .inr (2, [.null, .ref a1, .ref a2, .ref a3, .ref a4, .ref a5, .ref a6, .ref a7, .ref a8, .int 0])), (a1, .inl (cI, 128, .inl (fun _ => oI (some 0)))), (a2, .inl (cI, 8, .inl (fun _ => nI 0))), (a3, .inl (cI, 8, .inl (fun _ => nI 0))), (a4, .inl (cI, 128, .inl (fun _ => nI 0))), (a5, .inl (cI, 128, .inl (fun _ => nI 0))), (a6, .inl (cI, 8, .inl (fun _ => nI 0))), (a7, .inl (cI, 8, .inl (fun _ => nI 0))), (a8, .inl (cI, 8, .inl (fun _ => nI 0)))]) rfl (fun Hh68 lo68 w => ?_)
  refine lv_aload_n hx hb dX2_init_71 rfl (lv_at hl 0 rfl) ?_
  refine lv_iconst (v := (nI 0)) hx hb dX2_init_72 (by decide) ?_
  refine f_put G K w inX2 tyX2 tyX2_ok nmX2 0 (ci := 2) rfl rfl 9 rfl fl_X2_36 rfl rfl rfl rfl dX2_init_73 (w2 := [(h, .inr (2, [.null, .ref a1, .ref a2, .ref a3, .ref a4, .ref a5, .ref a6, .ref a7, .ref a8, .int (nI 0)])), (a1, .inl (cI, 128, .inl (fun _ => oI (some 0)))), (a2, .inl (cI, 8, .inl (fun _ => nI 0))), (a3, .inl (cI, 8, .inl (fun _ => nI 0))), (a4, .inl (cI, 128, .inl (fun _ => nI 0))), (a5, .inl (cI, 128, .inl (fun _ => nI 0))), (a6, .inl (cI, 8, .inl (fun _ => nI 0))), (a7, .inl (cI, 8, .inl (fun _ => nI 0))), (a8, .inl (cI, 8, .inl (fun _ => nI 0)))]) rfl (fun Hh73 lo73 w => ?_)
  refine lv_aload_n hx hb dX2_init_76 rfl (lv_at hl 0 rfl) ?_
  refine lv_aload_n hx hb dX2_init_77 rfl (lv_at hl 1 rfl) ?_
  refine f_putF G K hini w inX2 tyX2 tyX2_ok nmX2 0 (ci := 2) rfl rfl 0 rfl fl_X2_40 rfl rfl rfl rfl rfl dX2_init_78 (w2 := [(h, .inr (2, [.ref hW, .ref a1, .ref a2, .ref a3, .ref a4, .ref a5, .ref a6, .ref a7, .ref a8, .int (nI 0)])), (a1, .inl (cI, 128, .inl (fun _ => oI (some 0)))), (a2, .inl (cI, 8, .inl (fun _ => nI 0))), (a3, .inl (cI, 8, .inl (fun _ => nI 0))), (a4, .inl (cI, 128, .inl (fun _ => nI 0))), (a5, .inl (cI, 128, .inl (fun _ => nI 0))), (a6, .inl (cI, 8, .inl (fun _ => nI 0))), (a7, .inl (cI, 8, .inl (fun _ => nI 0))), (a8, .inl (cI, 8, .inl (fun _ => nI 0)))]) rfl (fun Hh78 lo78 w => ?_)
  have w9 := WW_sub w [0, 1, 2, 3, 4, 5, 6, 7, 8] (by decide) (ws2 := wH cI ((fun _ k => [h, a1, a2, a3, a4, a5, a6, a7, a8].getD k 0) 0) hW (fun _ => some 0) (fun _ => 0) (fun _ => 0) (fun _ => 0) (fun _ => 0) (fun _ => 0) (fun _ => 0) (fun _ => 0) 0) rfl
  exact hret _ _ (fun _ k => [h, a1, a2, a3, a4, a5, a6, a7, a8].getD k 0) _ _ _ rfl rfl w9 dX2_init_81
set_option maxHeartbeats 4000000 in
set_option maxRecDepth 100000 in
theorem c_X3_init (h : Nat) : CN l D (TY cI cZ cS) yX3_init cX3_init 1 1 1 60 h [] [(h, .inr (3, [.null, .int 0, .int 0, .int 0]))] (fun _ => True) (fun q => wT cI ((q 0) 0) ((q 0) 1) True 0 0 (fun _ => 0)) := by
  refine CN.of (by decide +kernel) rfl (Nat.le_of_ble_eq_true rfl) ?_
  intro p e s m args below meth c Q A G hini K _ hA w hret ls hl
  obtain ⟨hx, hb, hml, hown, hts⟩ := id G
  have hl : lv_has ls 1 [(0, .ref h)] := hl
  refine lv_aload_n hx hb dX3_init_0 rfl (lv_at hl 0 rfl) ?_
  refine o_init G ml_X3_3 hl.1 dX3_init_1 (Nat.le_of_ble_eq_true rfl) (Nat.le_of_ble_eq_true rfl) ?_
  refine lv_aload_n hx hb dX3_init_4 rfl (lv_at hl 0 rfl) ?_
  refine lv_bipush (v := (nI 60)) hx hb dX3_init_5 (by decide) ?_
  refine n_ai G K hA w 0 rfl 60 (f := fun _ => 0) rfl (by decide) rfl (Nat.le_of_ble_eq_true rfl) (Nat.le_of_ble_eq_true rfl) (Nat.le_of_ble_eq_true rfl) dX3_init_7 (fun a1 Hh7 w => ?_)
  refine f_putF G K hini w inX3 tyX3 tyX3_ok nmX3 0 (ci := 3) rfl rfl 0 rfl fl_X3_9 rfl rfl rfl rfl rfl dX3_init_9 (w2 := [(h, .inr (3, [.ref a1, .int 0, .int 0, .int 0])), (a1, .inl (cI, 60, .inl (fun _ => 0)))]) rfl (fun Hh9 lo9 w => ?_)
  refine lv_aload_n hx hb dX3_init_12 rfl (lv_at hl 0 rfl) ?_
  refine lv_iconst (v := (nI 1)) hx hb dX3_init_13 (by decide) ?_
  refine t_i (b1 trivial) ?_
  refine f_put G K w inX3 tyX3 tyX3_ok nmX3 0 (ci := 3) rfl rfl 1 rfl fl_X3_15 rfl (bI_nar _) (bI_fit _) rfl dX3_init_14 (w2 := [(h, .inr (3, [.ref a1, .int (bI True), .int 0, .int 0])), (a1, .inl (cI, 60, .inl (fun _ => 0)))]) rfl (fun Hh14 lo14 w => ?_)
  refine lv_aload_n hx hb dX3_init_17 rfl (lv_at hl 0 rfl) ?_
  refine lv_iconst (v := (nI 0)) hx hb dX3_init_18 (by decide) ?_
  refine f_put G K w inX3 tyX3 tyX3_ok nmX3 0 (ci := 3) rfl rfl 2 rfl fl_X3_19 rfl rfl rfl rfl dX3_init_19 (w2 := [(h, .inr (3, [.ref a1, .int (bI True), .int (nI 0), .int 0])), (a1, .inl (cI, 60, .inl (fun _ => 0)))]) rfl (fun Hh19 lo19 w => ?_)
  refine lv_aload_n hx hb dX3_init_22 rfl (lv_at hl 0 rfl) ?_
  refine lv_iconst (v := (nI 0)) hx hb dX3_init_23 (by decide) ?_
  refine f_put G K w inX3 tyX3 tyX3_ok nmX3 0 (ci := 3) rfl rfl 3 rfl fl_X3_23 rfl rfl rfl rfl dX3_init_24 (w2 := [(h, .inr (3, [.ref a1, .int (bI True), .int (nI 0), .int (nI 0)])), (a1, .inl (cI, 60, .inl (fun _ => 0)))]) rfl (fun Hh24 lo24 w => ?_)
  have w9 := WW_sub w [0, 1] (by decide) (ws2 := wT cI (((fun _ k => [h, a1].getD k 0) 0) 0) (((fun _ k => [h, a1].getD k 0) 0) 1) True 0 0 (fun _ => 0)) rfl
  exact hret _ _ (fun _ k => [h, a1].getD k 0) _ _ _ rfl rfl w9 dX3_init_27
end Ctors
