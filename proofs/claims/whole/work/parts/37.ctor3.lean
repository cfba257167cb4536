/-! the whole object's constructor -/
theorem IW_0 : IW 0 0 (fun _ => 0) (fun _ => 0) (fun _ => 0) (fun _ => 0) (fun _ => 0) := ⟨by decide, by decide, fun _ => Nat.zero_le _, fun _ => Nat.zero_le _, fun _ => Nat.zero_le _, fun _ => Nat.zero_le _, fun _ => Nat.zero_le _⟩
theorem SW_0 : SW 0 0 (fun _ => 0) (fun _ => 0) := ⟨fun r _ => rfl, fun v hv => absurd hv (Nat.not_lt_zero v), fun u v _ hv => absurd hv (Nat.not_lt_zero v)⟩
theorem IHd_0 : IHd (fun _ => some 0) (fun _ => 0) (fun _ => 0) (fun _ => 0) (fun _ => 0) (fun _ => 0) (fun _ => 0) (fun _ => 0) 0 := ⟨fun j v hv => by cases hv; decide, fun _ => Nat.zero_le _, fun _ => Nat.zero_le _, fun _ => Nat.zero_le _, fun _ => Nat.zero_le _, fun _ => Nat.zero_le _, fun _ => Nat.zero_le _, fun _ => Nat.zero_le _, by decide⟩
/-- words of the tables that calls do not carry by themselves -/
def NX (U : State) : Prop := va_Nw (.methodLinkNest RX5 11 yX4_init "SealedFile") U ∧ va_Nw (.methodLinkNest RX5 18 yX0_init "SealedFile") U ∧ va_Nw (.methodLinkNest RX5 54 yX3_init "SealedFile") U ∧ va_AO "SealedFile$Sheet" U
section Ctors3
variable {l : Launch} {D : va_G} {cI cZ cS : ClassId}
set_option maxHeartbeats 4000000 in
set_option maxRecDepth 100000 in
theorem c_X5_init (h : Nat) : CN l D (TY cI cZ cS) yX5_init cX5_init 2 4 41 1848 h [] [(h, .inr (5, [.null, .null, .null, .null, .null, .null, .int 0]))] NX (fun q => (wS cS (q 0) ((q 1) 0) ((q 2) 0) ((q 3) 0) ((q 4) 0) ((q 5) 0) (q 6) (nI 0) ++ (wW cI (q 1) 0 0 (fun _ => 0) (fun _ => 0) (fun _ => 0) (fun _ => 0) (fun _ => 0) ++ (wB cI (q 2) (fun _ => 0) 0 ++ (wC cI cZ (q 3) ((q 1) 0) ((q 2) 0) (fun _ => False) (fun _ => 0) (fun _ => 0) (fun _ => 0) (fun _ => 0) ++ (wH cI (q 4) ((q 1) 0) (cLT (fun _ => 0) (fun _ => 0) none 0 (fun _ => some 0) (0 + 1)) (cTR (fun _ => 0) (fun _ => 0) (fun _ => 0) none 0 (fun _ => 0) (0 + 1)) (cSH (fun _ => 0) (fun _ => 0) (fun _ => 0) (fun _ => 0) none 0 (fun _ => 0) (0 + 1)) (cCR (fun _ => 0) (fun _ => 0) (fun _ => 0) (fun _ => 0) none 0 (fun _ => 0) (0 + 1)) (cCT (fun _ => 0) (fun _ => 0) (fun _ => 0) (fun _ => 0) none 0 (fun _ => 0) (0 + 1)) (cCU (fun _ => 0) (fun _ => 0) (fun _ => 0) (fun _ => 0) none 0 (fun _ => 0) (0 + 1)) (cVE (fun _ => 0) (fun _ => 0) (fun _ => 0) (fun _ => 0) none 0 0 (fun _ => 0) 0) (cTA (fun _ => 0) (fun _ => 0) (fun _ => 0) (fun _ => 0) none 0 0 (fun _ => 0) 0) (cCH (fun _ => 0) (fun _ => 0) (fun _ => 0) (fun _ => 0) none 0 (0 + 1)) ++ (wH cI (q 5) ((q 1) 0) (fun _ => some 0) (fun _ => 0) (fun _ => 0) (fun _ => 0) (fun _ => 0) (fun _ => 0) (fun _ => 0) (fun _ => 0) 0 ++ wE cI (q 6) (fun _ => True) (fun _ => 0) (fun _ => 0) (fun _ _ => 0)))))))) := by
  refine CN.of (by decide +kernel) rfl (Nat.le_of_ble_eq_true rfl) ?_
  intro p e s m args below meth c Q A G hini K hN hA w hret ls hl
  obtain ⟨hx, hb, hml, hown, hts⟩ := id G
  have hl : lv_has ls 2 [(0, .ref h)] := hl
  refine lv_aload_n hx hb dX5_init_0 rfl (lv_at hl 0 rfl) ?_
  refine o_init G ml_X5_3 hl.1 dX5_init_1 (Nat.le_of_ble_eq_true rfl) (Nat.le_of_ble_eq_true rfl) ?_
  refine lv_aload_n hx hb dX5_init_4 rfl (lv_at hl 0 rfl) ?_
  refine n_o G K hA w inX4 tyX4 tyX4_ok cl_X5_9 is_X4 in_X4 (ci := 4) rfl [.null, .null, .null, .null, .null, .int 0, .int 0] (by decide) (Nat.le_of_ble_eq_true rfl) (Nat.le_of_ble_eq_true rfl) dX5_init_5 (fun v5_0 Hh5 w => ?_)
  refine lv_dup hx hb dX5_init_8 rfl ?_
  refine mkIN (n := 0) (host := "SealedFile") (ws0 := [(h, .inr (5, [.null, .null, .null, .null, .null, .null, .int 0]))]) (As := []) (rest := [.ref v5_0, .ref h]) G K hA w (c_X4_init v5_0) (fun _ _ _ _ _ => trivial) (fun _ _ => trivial) in_X4 cd_X4_init im_X4_init hN.1 rfl ⟨by decide +kernel, by decide +kernel, by decide +kernel⟩ rfl (Nat.le_of_ble_eq_true rfl) (Nat.le_of_ble_eq_true rfl) (Nat.le_of_ble_eq_true rfl) rfl hl.1 (Nat.le_of_ble_eq_true rfl) dX5_init_9 (Nat.le_of_ble_eq_true rfl) (Nat.le_of_ble_eq_true rfl) (fun qW Hi9 li9 hq w9 => ?_)
  clear w
  subst hq
  have w := w9
  clear w9
  refine f_putF G K hini w inX5 tyX5 tyX5_ok nmX5 0 (ci := 5) rfl rfl 0 rfl fl_X5_12 rfl rfl rfl rfl rfl dX5_init_12 (w2 := ([(h, .inr (5, [.ref (qW 0 0), .null, .null, .null, .null, .null, .int 0]))] ++ wW cI (qW 0) 0 0 (fun _ => 0) (fun _ => 0) (fun _ => 0) (fun _ => 0) (fun _ => 0))) rfl (fun Hp12 lp12 w => ?_)
  refine lv_aload_n hx hb dX5_init_15 rfl (lv_at hl 0 rfl) ?_
  refine n_o G K hA w inX0 tyX0 tyX0_ok cl_X5_16 is_X0 in_X0 (ci := 0) rfl [.null, .int 0] (by decide) (Nat.le_of_ble_eq_true rfl) (Nat.le_of_ble_eq_true rfl) dX5_init_16 (fun v16_1 Hh16 w => ?_)
  refine lv_dup hx hb dX5_init_19 rfl ?_
  refine mkIN (n := 0) (host := "SealedFile") (ws0 := ([(h, .inr (5, [.ref (qW 0 0), .null, .null, .null, .null, .null, .int 0]))] ++ wW cI (qW 0) 0 0 (fun _ => 0) (fun _ => 0) (fun _ => 0) (fun _ => 0) (fun _ => 0))) (As := []) (rest := [.ref v16_1, .ref h]) G K hA w (c_X0_init v16_1) (fun _ _ _ _ _ => trivial) (fun _ _ => trivial) in_X0 cd_X0_init im_X0_init hN.2.1 rfl ⟨by decide +kernel, by decide +kernel, by decide +kernel⟩ rfl (Nat.le_of_ble_eq_true rfl) (Nat.le_of_ble_eq_true rfl) (Nat.le_of_ble_eq_true rfl) rfl hl.1 (Nat.le_of_ble_eq_true rfl) dX5_init_20 (Nat.le_of_ble_eq_true rfl) (Nat.le_of_ble_eq_true rfl) (fun qB Hi20 li20 hq w9 => ?_)
  clear w
  subst hq
  have w := w9
  clear w9
  refine f_putF G K hini w inX5 tyX5 tyX5_ok nmX5 0 (ci := 5) rfl rfl 1 rfl fl_X5_19 rfl rfl rfl rfl rfl dX5_init_23 (w2 := (([(h, .inr (5, [.ref (qW 0 0), .ref (qB 0 0), .null, .null, .null, .null, .int 0]))] ++ wW cI (qW 0) 0 0 (fun _ => 0) (fun _ => 0) (fun _ => 0) (fun _ => 0) (fun _ => 0)) ++ wB cI (qB 0) (fun _ => 0) 0)) rfl (fun Hp23 lp23 w => ?_)
  refine lv_aload_n hx hb dX5_init_26 rfl (lv_at hl 0 rfl) ?_
  refine n_o G K hA w inX1 tyX1 tyX1_ok cl_X5_23 is_X1 in_X1 (ci := 1) rfl [.null, .null, .null, .null, .null, .null, .null] (by decide) (Nat.le_of_ble_eq_true rfl) (Nat.le_of_ble_eq_true rfl) dX5_init_27 (fun v27_2 Hh27 w => ?_)
  refine lv_dup hx hb dX5_init_30 rfl ?_
  refine lv_aload_n hx hb dX5_init_31 rfl (lv_at hl 0 rfl) ?_
  refine f_get G K w.1 inX5 0 (ci := 5) rfl rfl 0 rfl fl_X5_12 (v := .ref (qW 0 0)) rfl dX5_init_32 ?_
  refine lv_aload_n hx hb dX5_init_35 rfl (lv_at hl 0 rfl) ?_
  refine f_get G K w.1 inX5 0 (ci := 5) rfl rfl 1 rfl fl_X5_19 (v := .ref (qB 0 0)) rfl dX5_init_36 ?_
  refine mkI (n := 2) (ws0 := (([(h, .inr (5, [.ref (qW 0 0), .ref (qB 0 0), .null, .null, .null, .null, .int 0]))] ++ wW cI (qW 0) 0 0 (fun _ => 0) (fun _ => 0) (fun _ => 0) (fun _ => 0) (fun _ => 0)) ++ wB cI (qB 0) (fun _ => 0) 0)) (As := [.ref (qW 0 0), .ref (qB 0 0)]) (rest := [.ref v27_2, .ref h]) G K hA w (c_X1_init v27_2 (qW 0 0) (qB 0 0)) (fun _ _ _ _ _ => trivial) (fun _ _ => trivial) in_X1 cd_X1_init im_X1_init ml_X5_25 rfl ⟨by decide +kernel, by decide +kernel, by decide +kernel⟩ rfl (Nat.le_of_ble_eq_true rfl) (Nat.le_of_ble_eq_true rfl) (Nat.le_of_ble_eq_true rfl) rfl hl.1 (Nat.le_of_ble_eq_true rfl) dX5_init_39 (Nat.le_of_ble_eq_true rfl) (Nat.le_of_ble_eq_true rfl) (fun qC Hi39 li39 hq w9 => ?_)
  clear w
  subst hq
  have w := w9
  clear w9
  refine f_putF G K hini w inX5 tyX5 tyX5_ok nmX5 0 (ci := 5) rfl rfl 2 rfl fl_X5_28 rfl rfl rfl rfl rfl dX5_init_42 (w2 := ((([(h, .inr (5, [.ref (qW 0 0), .ref (qB 0 0), .ref (qC 0 0), .null, .null, .null, .int 0]))] ++ wW cI (qW 0) 0 0 (fun _ => 0) (fun _ => 0) (fun _ => 0) (fun _ => 0) (fun _ => 0)) ++ wB cI (qB 0) (fun _ => 0) 0) ++ wC cI cZ (qC 0) (qW 0 0) (qB 0 0) (fun _ => False) (fun _ => 0) (fun _ => 0) (fun _ => 0) (fun _ => 0))) rfl (fun Hp42 lp42 w => ?_)
  refine lv_aload_n hx hb dX5_init_45 rfl (lv_at hl 0 rfl) ?_
  refine n_o G K hA w inX2 tyX2 tyX2_ok cl_X5_32 is_X2 in_X2 (ci := 2) rfl [.null, .null, .null, .null, .null, .null, .null, .null, .null, .int 0] (by decide) (Nat.le_of_ble_eq_true rfl) (Nat.le_of_ble_eq_true rfl) dX5_init_46 (fun v46_3 Hh46 w => ?_)
  refine lv_dup hx hb dX5_init_49 rfl ?_
  refine lv_aload_n hx hb dX5_init_50 rfl (lv_at hl 0 rfl) ?_
  refine f_get G K w.1 inX5 0 (ci := 5) rfl rfl 0 rfl fl_X5_12 (v := .ref (qW 0 0)) rfl dX5_init_51 ?_
  refine mkI (n := 1) (ws0 := ((([(h, .inr (5, [.ref (qW 0 0), .ref (qB 0 0), .ref (qC 0 0), .null, .null, .null, .int 0]))] ++ wW cI (qW 0) 0 0 (fun _ => 0) (fun _ => 0) (fun _ => 0) (fun _ => 0) (fun _ => 0)) ++ wB cI (qB 0) (fun _ => 0) 0) ++ wC cI cZ (qC 0) (qW 0 0) (qB 0 0) (fun _ => False) (fun _ => 0) (fun _ => 0) (fun _ => 0) (fun _ => 0))) (As := [.ref (qW 0 0)]) (rest := [.ref v46_3, .ref h]) G K hA w (c_X2_init v46_3 (qW 0 0)) (fun _ _ _ _ _ => trivial) (fun _ _ => trivial) in_X2 cd_X2_init im_X2_init ml_X5_34 rfl ⟨by decide +kernel, by decide +kernel, by decide +kernel⟩ rfl (Nat.le_of_ble_eq_true rfl) (Nat.le_of_ble_eq_true rfl) (Nat.le_of_ble_eq_true rfl) rfl hl.1 (Nat.le_of_ble_eq_true rfl) dX5_init_54 (Nat.le_of_ble_eq_true rfl) (Nat.le_of_ble_eq_true rfl) (fun qH Hi54 li54 hq w9 => ?_)
  clear w
  subst hq
  have w := w9
  clear w9
  refine f_putF G K hini w inX5 tyX5 tyX5_ok nmX5 0 (ci := 5) rfl rfl 3 rfl fl_X5_37 rfl rfl rfl rfl rfl dX5_init_57 (w2 := (((([(h, .inr (5, [.ref (qW 0 0), .ref (qB 0 0), .ref (qC 0 0), .ref (qH 0 0), .null, .null, .int 0]))] ++ wW cI (qW 0) 0 0 (fun _ => 0) (fun _ => 0) (fun _ => 0) (fun _ => 0) (fun _ => 0)) ++ wB cI (qB 0) (fun _ => 0) 0) ++ wC cI cZ (qC 0) (qW 0 0) (qB 0 0) (fun _ => False) (fun _ => 0) (fun _ => 0) (fun _ => 0) (fun _ => 0)) ++ wH cI (qH 0) (qW 0 0) (fun _ => some 0) (fun _ => 0) (fun _ => 0) (fun _ => 0) (fun _ => 0) (fun _ => 0) (fun _ => 0) (fun _ => 0) 0)) rfl (fun Hp57 lp57 w => ?_)
  refine lv_aload_n hx hb dX5_init_60 rfl (lv_at hl 0 rfl) ?_
  refine n_o G K hA w inX2 tyX2 tyX2_ok cl_X5_32 is_X2 in_X2 (ci := 2) rfl [.null, .null, .null, .null, .null, .null, .null, .null, .null, .int 0] (by decide) (Nat.le_of_ble_eq_true rfl) (Nat.le_of_ble_eq_true rfl) dX5_init_61 (fun v61_4 Hh61 w => ?_)
  refine lv_dup hx hb dX5_init_64 rfl ?_
  refine lv_aload_n hx hb dX5_init_65 rfl (lv_at hl 0 rfl) ?_
  refine f_get G K w.1 inX5 0 (ci := 5) rfl rfl 0 rfl fl_X5_12 (v := .ref (qW 0 0)) rfl dX5_init_66 ?_
  refine mkI (n := 1) (ws0 := (((([(h, .inr (5, [.ref (qW 0 0), .ref (qB 0 0), .ref (qC 0 0), .ref (qH 0 0), .null, .null, .int 0]))] ++ wW cI (qW 0) 0 0 (fun _ => 0) (fun _ => 0) (fun _ => 0) (fun _ => 0) (fun _ => 0)) ++ wB cI (qB 0) (fun _ => 0) 0) ++ wC cI cZ (qC 0) (qW 0 0) (qB 0 0) (fun _ => False) (fun _ => 0) (fun _ => 0) (fun _ => 0) (fun _ => 0)) ++ wH cI (qH 0) (qW 0 0) (fun _ => some 0) (fun _ => 0) (fun _ => 0) (fun _ => 0) (fun _ => 0) (fun _ => 0) (fun _ => 0) (fun _ => 0) 0)) (As := [.ref (qW 0 0)]) (rest := [.ref v61_4, .ref h]) G K hA w (c_X2_init v61_4 (qW 0 0)) (fun _ _ _ _ _ => trivial) (fun _ _ => trivial) in_X2 cd_X2_init im_X2_init ml_X5_34 rfl ⟨by decide +kernel, by decide +kernel, by decide +kernel⟩ rfl (Nat.le_of_ble_eq_true rfl) (Nat.le_of_ble_eq_true rfl) (Nat.le_of_ble_eq_true rfl) rfl hl.1 (Nat.le_of_ble_eq_true rfl) dX5_init_69 (Nat.le_of_ble_eq_true rfl) (Nat.le_of_ble_eq_true rfl) (fun qT Hi69 li69 hq w9 => ?_)
  clear w
  subst hq
  have w := w9
  clear w9
  refine f_putF G K hini w inX5 tyX5 tyX5_ok nmX5 0 (ci := 5) rfl rfl 4 rfl fl_X5_41 rfl rfl rfl rfl rfl dX5_init_72 (w2 := ((((([(h, .inr (5, [.ref (qW 0 0), .ref (qB 0 0), .ref (qC 0 0), .ref (qH 0 0), .ref (qT 0 0), .null, .int 0]))] ++ wW cI (qW 0) 0 0 (fun _ => 0) (fun _ => 0) (fun _ => 0) (fun _ => 0) (fun _ => 0)) ++ wB cI (qB 0) (fun _ => 0) 0) ++ wC cI cZ (qC 0) (qW 0 0) (qB 0 0) (fun _ => False) (fun _ => 0) (fun _ => 0) (fun _ => 0) (fun _ => 0)) ++ wH cI (qH 0) (qW 0 0) (fun _ => some 0) (fun _ => 0) (fun _ => 0) (fun _ => 0) (fun _ => 0) (fun _ => 0) (fun _ => 0) (fun _ => 0) 0) ++ wH cI (qT 0) (qW 0 0) (fun _ => some 0) (fun _ => 0) (fun _ => 0) (fun _ => 0) (fun _ => 0) (fun _ => 0) (fun _ => 0) (fun _ => 0) 0)) rfl (fun Hp72 lp72 w => ?_)
  refine lv_aload_n hx hb dX5_init_75 rfl (lv_at hl 0 rfl) ?_
  refine lv_iconst (v := (nI 4)) hx hb dX5_init_76 (by decide) ?_
  refine n_as G K hA w 2 rfl cl_X5_44 hN.2.2.2 4 (by decide) rfl (Nat.le_of_ble_eq_true rfl) (Nat.le_of_ble_eq_true rfl) (Nat.le_of_ble_eq_true rfl) dX5_init_77 (fun ar Hh77 w => ?_)
  refine f_putF G K hini w inX5 tyX5 tyX5_ok nmX5 0 (ci := 5) rfl rfl 5 rfl fl_X5_46 rfl rfl rfl rfl rfl dX5_init_80 (w2 := (((((([(h, .inr (5, [.ref (qW 0 0), .ref (qB 0 0), .ref (qC 0 0), .ref (qH 0 0), .ref (qT 0 0), .ref ar, .int 0]))] ++ wW cI (qW 0) 0 0 (fun _ => 0) (fun _ => 0) (fun _ => 0) (fun _ => 0) (fun _ => 0)) ++ wB cI (qB 0) (fun _ => 0) 0) ++ wC cI cZ (qC 0) (qW 0 0) (qB 0 0) (fun _ => False) (fun _ => 0) (fun _ => 0) (fun _ => 0) (fun _ => 0)) ++ wH cI (qH 0) (qW 0 0) (fun _ => some 0) (fun _ => 0) (fun _ => 0) (fun _ => 0) (fun _ => 0) (fun _ => 0) (fun _ => 0) (fun _ => 0) 0) ++ wH cI (qT 0) (qW 0 0) (fun _ => some 0) (fun _ => 0) (fun _ => 0) (fun _ => 0) (fun _ => 0) (fun _ => 0) (fun _ => 0) (fun _ => 0) 0) ++ [(ar, .inl (cS, 4, .inr (.inr (.inr (.inr (fun _ => none))))))])) rfl (fun Hp80 lp80 w => ?_)
  refine lv_aload_n hx hb dX5_init_83 rfl (lv_at hl 0 rfl) ?_
  refine lv_iconst (v := (nI 0)) hx hb dX5_init_84 (by decide) ?_
  refine f_put G K w inX5 tyX5 tyX5_ok nmX5 0 (ci := 5) rfl rfl 6 rfl fl_X5_50 rfl rfl rfl rfl dX5_init_85 (w2 := (((((([(h, .inr (5, [.ref (qW 0 0), .ref (qB 0 0), .ref (qC 0 0), .ref (qH 0 0), .ref (qT 0 0), .ref ar, .int (nI 0)]))] ++ wW cI (qW 0) 0 0 (fun _ => 0) (fun _ => 0) (fun _ => 0) (fun _ => 0) (fun _ => 0)) ++ wB cI (qB 0) (fun _ => 0) 0) ++ wC cI cZ (qC 0) (qW 0 0) (qB 0 0) (fun _ => False) (fun _ => 0) (fun _ => 0) (fun _ => 0) (fun _ => 0)) ++ wH cI (qH 0) (qW 0 0) (fun _ => some 0) (fun _ => 0) (fun _ => 0) (fun _ => 0) (fun _ => 0) (fun _ => 0) (fun _ => 0) (fun _ => 0) 0) ++ wH cI (qT 0) (qW 0 0) (fun _ => some 0) (fun _ => 0) (fun _ => 0) (fun _ => 0) (fun _ => 0) (fun _ => 0) (fun _ => 0) (fun _ => 0) 0) ++ [(ar, .inl (cS, 4, .inr (.inr (.inr (.inr (fun _ => none))))))])) rfl (fun Hp85 lp85 w => ?_)
  refine lv_iconst (v := (nI 0)) hx hb dX5_init_88 (by decide) ?_
  refine lv_istore_n (lv' := [(1, .int (nI 0)), (0, .ref h)]) hx hb dX5_init_89 rfl hl (by decide) rfl (fun ls hl => ?_)
  refine lv_iload_n hx hb dX5_init_90 rfl (lv_at hl 0 rfl) ?_
  refine lv_iconst (v := (nI 4)) hx hb dX5_init_91 (by decide) ?_
  refine lv_icmp_ge (tgt := 114) hx hb dX5_init_92 (by decide) (fun cc => ?_) (fun cc => ?_)
  · exact absurd cc (by decide)
  refine lv_aload_n hx hb dX5_init_95 rfl (lv_at hl 1 rfl) ?_
  refine f_get G K w.1 inX5 0 (ci := 5) rfl rfl 5 rfl fl_X5_46 (v := .ref ar) rfl dX5_init_96 ?_
  refine lv_iload_n hx hb dX5_init_99 rfl (lv_at hl 0 rfl) ?_
  refine n_o G K hA w inX3 tyX3 tyX3_ok cl_X5_44 is_X3 in_X3 (ci := 3) rfl [.null, .int 0, .int 0, .int 0] (by decide) (Nat.le_of_ble_eq_true rfl) (Nat.le_of_ble_eq_true rfl) dX5_init_100 (fun v100_6 Hh100 w => ?_)
  refine lv_dup hx hb dX5_init_103 rfl ?_
  refine mkIN (n := 0) (host := "SealedFile") (ws0 := (((((([(h, .inr (5, [.ref (qW 0 0), .ref (qB 0 0), .ref (qC 0 0), .ref (qH 0 0), .ref (qT 0 0), .ref ar, .int (nI 0)]))] ++ wW cI (qW 0) 0 0 (fun _ => 0) (fun _ => 0) (fun _ => 0) (fun _ => 0) (fun _ => 0)) ++ wB cI (qB 0) (fun _ => 0) 0) ++ wC cI cZ (qC 0) (qW 0 0) (qB 0 0) (fun _ => False) (fun _ => 0) (fun _ => 0) (fun _ => 0) (fun _ => 0)) ++ wH cI (qH 0) (qW 0 0) (fun _ => some 0) (fun _ => 0) (fun _ => 0) (fun _ => 0) (fun _ => 0) (fun _ => 0) (fun _ => 0) (fun _ => 0) 0) ++ wH cI (qT 0) (qW 0 0) (fun _ => some 0) (fun _ => 0) (fun _ => 0) (fun _ => 0) (fun _ => 0) (fun _ => 0) (fun _ => 0) (fun _ => 0) 0) ++ [(ar, .inl (cS, 4, .inr (.inr (.inr (.inr (fun _ => none))))))])) (As := []) (rest := [.ref v100_6, .int (nI 0), .ref ar]) G K hA w (c_X3_init v100_6) (fun _ _ _ _ _ => trivial) (fun _ _ => trivial) in_X3 cd_X3_init im_X3_init hN.2.2.1 rfl ⟨by decide +kernel, by decide +kernel, by decide +kernel⟩ rfl (Nat.le_of_ble_eq_true rfl) (Nat.le_of_ble_eq_true rfl) (Nat.le_of_ble_eq_true rfl) rfl hl.1 (Nat.le_of_ble_eq_true rfl) dX5_init_104 (Nat.le_of_ble_eq_true rfl) (Nat.le_of_ble_eq_true rfl) (fun q0 Hi104 li104 hq w9 => ?_)
  clear w
  subst hq
  have w := w9
  clear w9
  refine a_stR G K w 33 2 34 3 rfl rfl rfl rfl (k := 0) (by decide) (by decide) dX5_init_107 (w2 := ((((((([(h, .inr (5, [.ref (qW 0 0), .ref (qB 0 0), .ref (qC 0 0), .ref (qH 0 0), .ref (qT 0 0), .ref ar, .int (nI 0)]))] ++ wW cI (qW 0) 0 0 (fun _ => 0) (fun _ => 0) (fun _ => 0) (fun _ => 0) (fun _ => 0)) ++ wB cI (qB 0) (fun _ => 0) 0) ++ wC cI cZ (qC 0) (qW 0 0) (qB 0 0) (fun _ => False) (fun _ => 0) (fun _ => 0) (fun _ => 0) (fun _ => 0)) ++ wH cI (qH 0) (qW 0 0) (fun _ => some 0) (fun _ => 0) (fun _ => 0) (fun _ => 0) (fun _ => 0) (fun _ => 0) (fun _ => 0) (fun _ => 0) 0) ++ wH cI (qT 0) (qW 0 0) (fun _ => some 0) (fun _ => 0) (fun _ => 0) (fun _ => 0) (fun _ => 0) (fun _ => 0) (fun _ => 0) (fun _ => 0) 0) ++ [(ar, .inl (cS, 4, .inr (.inr (.inr (.inr (va_up (fun _ => none) 0 (some (q0 0 0))))))))]) ++ wT cI (q0 0 0) (q0 0 1) True 0 0 (fun _ => 0))) rfl (fun Ha107_0 la107_0 w => ?_)
  refine lv_iinc (v := nI 1) (lv' := [(1, .int (nI 1)), (0, .ref h)]) hx hb dX5_init_108 hl (k := 0) rfl (nI_inc _ _) (by decide) rfl (fun ls hl => ?_)
  refine lv_goto (tgt := 90) hx hb dX5_init_111 (by decide) ?_
  refine lv_iload_n hx hb dX5_init_90 rfl (lv_at hl 0 rfl) ?_
  refine lv_iconst (v := (nI 4)) hx hb dX5_init_91 (by decide) ?_
  refine lv_icmp_ge (tgt := 114) hx hb dX5_init_92 (by decide) (fun cc => ?_) (fun cc => ?_)
  · exact absurd cc (by decide)
  refine lv_aload_n hx hb dX5_init_95 rfl (lv_at hl 1 rfl) ?_
  refine f_get G K w.1 inX5 0 (ci := 5) rfl rfl 5 rfl fl_X5_46 (v := .ref ar) rfl dX5_init_96 ?_
  refine lv_iload_n hx hb dX5_init_99 rfl (lv_at hl 0 rfl) ?_
  refine n_o G K hA w inX3 tyX3 tyX3_ok cl_X5_44 is_X3 in_X3 (ci := 3) rfl [.null, .int 0, .int 0, .int 0] (by decide) (Nat.le_of_ble_eq_true rfl) (Nat.le_of_ble_eq_true rfl) dX5_init_100 (fun v100_7 Hh100 w => ?_)
  refine lv_dup hx hb dX5_init_103 rfl ?_
  refine mkIN (n := 0) (host := "SealedFile") (ws0 := ((((((([(h, .inr (5, [.ref (qW 0 0), .ref (qB 0 0), .ref (qC 0 0), .ref (qH 0 0), .ref (qT 0 0), .ref ar, .int (nI 0)]))] ++ wW cI (qW 0) 0 0 (fun _ => 0) (fun _ => 0) (fun _ => 0) (fun _ => 0) (fun _ => 0)) ++ wB cI (qB 0) (fun _ => 0) 0) ++ wC cI cZ (qC 0) (qW 0 0) (qB 0 0) (fun _ => False) (fun _ => 0) (fun _ => 0) (fun _ => 0) (fun _ => 0)) ++ wH cI (qH 0) (qW 0 0) (fun _ => some 0) (fun _ => 0) (fun _ => 0) (fun _ => 0) (fun _ => 0) (fun _ => 0) (fun _ => 0) (fun _ => 0) 0) ++ wH cI (qT 0) (qW 0 0) (fun _ => some 0) (fun _ => 0) (fun _ => 0) (fun _ => 0) (fun _ => 0) (fun _ => 0) (fun _ => 0) (fun _ => 0) 0) ++ [(ar, .inl (cS, 4, .inr (.inr (.inr (.inr (va_up (fun _ => none) 0 (some (q0 0 0))))))))]) ++ wT cI (q0 0 0) (q0 0 1) True 0 0 (fun _ => 0))) (As := []) (rest := [.ref v100_7, .int (nI 1), .ref ar]) G K hA w (c_X3_init v100_7) (fun _ _ _ _ _ => trivial) (fun _ _ => trivial) in_X3 cd_X3_init im_X3_init hN.2.2.1 rfl ⟨by decide +kernel, by decide +kernel, by decide +kernel⟩ rfl (Nat.le_of_ble_eq_true rfl) (Nat.le_of_ble_eq_true rfl) (Nat.le_of_ble_eq_true rfl) rfl hl.1 (Nat.le_of_ble_eq_true rfl) dX5_init_104 (Nat.le_of_ble_eq_true rfl) (Nat.le_of_ble_eq_true rfl) (fun q1 Hi104 li104 hq w9 => ?_)
  clear w
  subst hq
  have w := w9
  clear w9
  refine a_stR G K w 33 2 36 3 rfl rfl rfl rfl (k := 1) (by decide) (by decide) dX5_init_107 (w2 := (((((((([(h, .inr (5, [.ref (qW 0 0), .ref (qB 0 0), .ref (qC 0 0), .ref (qH 0 0), .ref (qT 0 0), .ref ar, .int (nI 0)]))] ++ wW cI (qW 0) 0 0 (fun _ => 0) (fun _ => 0) (fun _ => 0) (fun _ => 0) (fun _ => 0)) ++ wB cI (qB 0) (fun _ => 0) 0) ++ wC cI cZ (qC 0) (qW 0 0) (qB 0 0) (fun _ => False) (fun _ => 0) (fun _ => 0) (fun _ => 0) (fun _ => 0)) ++ wH cI (qH 0) (qW 0 0) (fun _ => some 0) (fun _ => 0) (fun _ => 0) (fun _ => 0) (fun _ => 0) (fun _ => 0) (fun _ => 0) (fun _ => 0) 0) ++ wH cI (qT 0) (qW 0 0) (fun _ => some 0) (fun _ => 0) (fun _ => 0) (fun _ => 0) (fun _ => 0) (fun _ => 0) (fun _ => 0) (fun _ => 0) 0) ++ [(ar, .inl (cS, 4, .inr (.inr (.inr (.inr (va_up (va_up (fun _ => none) 0 (some (q0 0 0))) 1 (some (q1 0 0))))))))]) ++ wT cI (q0 0 0) (q0 0 1) True 0 0 (fun _ => 0)) ++ wT cI (q1 0 0) (q1 0 1) True 0 0 (fun _ => 0))) rfl (fun Ha107_1 la107_1 w => ?_)
  refine lv_iinc (v := nI 2) (lv' := [(1, .int (nI 2)), (0, .ref h)]) hx hb dX5_init_108 hl (k := 0) rfl (nI_inc _ _) (by decide) rfl (fun ls hl => ?_)
  refine lv_goto (tgt := 90) hx hb dX5_init_111 (by decide) ?_
  refine lv_iload_n hx hb dX5_init_90 rfl (lv_at hl 0 rfl) ?_
  refine lv_iconst (v := (nI 4)) hx hb dX5_init_91 (by decide) ?_
  refine lv_icmp_ge (tgt := 114) hx hb dX5_init_92 (by decide) (fun cc => ?_) (fun cc => ?_)
  · exact absurd cc (by decide)
  refine lv_aload_n hx hb dX5_init_95 rfl (lv_at hl 1 rfl) ?_
  refine f_get G K w.1 inX5 0 (ci := 5) rfl rfl 5 rfl fl_X5_46 (v := .ref ar) rfl dX5_init_96 ?_
  refine lv_iload_n hx hb dX5_init_99 rfl (lv_at hl 0 rfl) ?_
  refine n_o G K hA w inX3 tyX3 tyX3_ok cl_X5_44 is_X3 in_X3 (ci := 3) rfl [.null, .int 0, .int 0, .int 0] (by decide) (Nat.le_of_ble_eq_true rfl) (Nat.le_of_ble_eq_true rfl) dX5_init_100 (fun v100_8 Hh100 w => ?_)
  refine lv_dup hx hb dX5_init_103 rfl ?_
  refine mkIN (n := 0) (host := "SealedFile") (ws0 := (((((((([(h, .inr (5, [.ref (qW 0 0), .ref (qB 0 0), .ref (qC 0 0), .ref (qH 0 0), .ref (qT 0 0), .ref ar, .int (nI 0)]))] ++ wW cI (qW 0) 0 0 (fun _ => 0) (fun _ => 0) (fun _ => 0) (fun _ => 0) (fun _ => 0)) ++ wB cI (qB 0) (fun _ => 0) 0) ++ wC cI cZ (qC 0) (qW 0 0) (qB 0 0) (fun _ => False) (fun _ => 0) (fun _ => 0) (fun _ => 0) (fun _ => 0)) ++ wH cI (qH 0) (qW 0 0) (fun _ => some 0) (fun _ => 0) (fun _ => 0) (fun _ => 0) (fun _ => 0) (fun _ => 0) (fun _ => 0) (fun _ => 0) 0) ++ wH cI (qT 0) (qW 0 0) (fun _ => some 0) (fun _ => 0) (fun _ => 0) (fun _ => 0) (fun _ => 0) (fun _ => 0) (fun _ => 0) (fun _ => 0) 0) ++ [(ar, .inl (cS, 4, .inr (.inr (.inr (.inr (va_up (va_up (fun _ => none) 0 (some (q0 0 0))) 1 (some (q1 0 0))))))))]) ++ wT cI (q0 0 0) (q0 0 1) True 0 0 (fun _ => 0)) ++ wT cI (q1 0 0) (q1 0 1) True 0 0 (fun _ => 0))) (As := []) (rest := [.ref v100_8, .int (nI 2), .ref ar]) G K hA w (c_X3_init v100_8) (fun _ _ _ _ _ => trivial) (fun _ _ => trivial) in_X3 cd_X3_init im_X3_init hN.2.2.1 rfl ⟨by decide +kernel, by decide +kernel, by decide +kernel⟩ rfl (Nat.le_of_ble_eq_true rfl) (Nat.le_of_ble_eq_true rfl) (Nat.le_of_ble_eq_true rfl) rfl hl.1 (Nat.le_of_ble_eq_true rfl) dX5_init_104 (Nat.le_of_ble_eq_true rfl) (Nat.le_of_ble_eq_true rfl) (fun q2 Hi104 li104 hq w9 => ?_)
  clear w
  subst hq
  have w := w9
  clear w9
  refine a_stR G K w 33 2 38 3 rfl rfl rfl rfl (k := 2) (by decide) (by decide) dX5_init_107 (w2 := ((((((((([(h, .inr (5, [.ref (qW 0 0), .ref (qB 0 0), .ref (qC 0 0), .ref (qH 0 0), .ref (qT 0 0), .ref ar, .int (nI 0)]))] ++ wW cI (qW 0) 0 0 (fun _ => 0) (fun _ => 0) (fun _ => 0) (fun _ => 0) (fun _ => 0)) ++ wB cI (qB 0) (fun _ => 0) 0) ++ wC cI cZ (qC 0) (qW 0 0) (qB 0 0) (fun _ => False) (fun _ => 0) (fun _ => 0) (fun _ => 0) (fun _ => 0)) ++ wH cI (qH 0) (qW 0 0) (fun _ => some 0) (fun _ => 0) (fun _ => 0) (fun _ => 0) (fun _ => 0) (fun _ => 0) (fun _ => 0) (fun _ => 0) 0) ++ wH cI (qT 0) (qW 0 0) (fun _ => some 0) (fun _ => 0) (fun _ => 0) (fun _ => 0) (fun _ => 0) (fun _ => 0) (fun _ => 0) (fun _ => 0) 0) ++ [(ar, .inl (cS, 4, .inr (.inr (.inr (.inr (va_up (va_up (va_up (fun _ => none) 0 (some (q0 0 0))) 1 (some (q1 0 0))) 2 (some (q2 0 0))))))))]) ++ wT cI (q0 0 0) (q0 0 1) True 0 0 (fun _ => 0)) ++ wT cI (q1 0 0) (q1 0 1) True 0 0 (fun _ => 0)) ++ wT cI (q2 0 0) (q2 0 1) True 0 0 (fun _ => 0))) rfl (fun Ha107_2 la107_2 w => ?_)
  refine lv_iinc (v := nI 3) (lv' := [(1, .int (nI 3)), (0, .ref h)]) hx hb dX5_init_108 hl (k := 0) rfl (nI_inc _ _) (by decide) rfl (fun ls hl => ?_)
  refine lv_goto (tgt := 90) hx hb dX5_init_111 (by decide) ?_
  refine lv_iload_n hx hb dX5_init_90 rfl (lv_at hl 0 rfl) ?_
  refine lv_iconst (v := (nI 4)) hx hb dX5_init_91 (by decide) ?_
  refine lv_icmp_ge (tgt := 114) hx hb dX5_init_92 (by decide) (fun cc => ?_) (fun cc => ?_)
  · exact absurd cc (by decide)
  refine lv_aload_n hx hb dX5_init_95 rfl (lv_at hl 1 rfl) ?_
  refine f_get G K w.1 inX5 0 (ci := 5) rfl rfl 5 rfl fl_X5_46 (v := .ref ar) rfl dX5_init_96 ?_
  refine lv_iload_n hx hb dX5_init_99 rfl (lv_at hl 0 rfl) ?_
  refine n_o G K hA w inX3 tyX3 tyX3_ok cl_X5_44 is_X3 in_X3 (ci := 3) rfl [.null, .int 0, .int 0, .int 0] (by decide) (Nat.le_of_ble_eq_true rfl) (Nat.le_of_ble_eq_true rfl) dX5_init_100 (fun v100_9 Hh100 w => ?_)
  refine lv_dup hx hb dX5_init_103 rfl ?_
  refine mkIN (n := 0) (host := "SealedFile") (ws0 := ((((((((([(h, .inr (5, [.ref (qW 0 0), .ref (qB 0 0), .ref (qC 0 0), .ref (qH 0 0), .ref (qT 0 0), .ref ar, .int (nI 0)]))] ++ wW cI (qW 0) 0 0 (fun _ => 0) (fun _ => 0) (fun _ => 0) (fun _ => 0) (fun _ => 0)) ++ wB cI (qB 0) (fun _ => 0) 0) ++ wC cI cZ (qC 0) (qW 0 0) (qB 0 0) (fun _ => False) (fun _ => 0) (fun _ => 0) (fun _ => 0) (fun _ => 0)) ++ wH cI (qH 0) (qW 0 0) (fun _ => some 0) (fun _ => 0) (fun _ => 0) (fun _ => 0) (fun _ => 0) (fun _ => 0) (fun _ => 0) (fun _ => 0) 0) ++ wH cI (qT 0) (qW 0 0) (fun _ => some 0) (fun _ => 0) (fun _ => 0) (fun _ => 0) (fun _ => 0) (fun _ => 0) (fun _ => 0) (fun _ => 0) 0) ++ [(ar, .inl (cS, 4, .inr (.inr (.inr (.inr (va_up (va_up (va_up (fun _ => none) 0 (some (q0 0 0))) 1 (some (q1 0 0))) 2 (some (q2 0 0))))))))]) ++ wT cI (q0 0 0) (q0 0 1) True 0 0 (fun _ => 0)) ++ wT cI (q1 0 0) (q1 0 1) True 0 0 (fun _ => 0)) ++ wT cI (q2 0 0) (q2 0 1) True 0 0 (fun _ => 0))) (As := []) (rest := [.ref v100_9, .int (nI 3), .ref ar]) G K hA w (c_X3_init v100_9) (fun _ _ _ _ _ => trivial) (fun _ _ => trivial) in_X3 cd_X3_init im_X3_init hN.2.2.1 rfl ⟨by decide +kernel, by decide +kernel, by decide +kernel⟩ rfl (Nat.le_of_ble_eq_true rfl) (Nat.le_of_ble_eq_true rfl) (Nat.le_of_ble_eq_true rfl) rfl hl.1 (Nat.le_of_ble_eq_true rfl) dX5_init_104 (Nat.le_of_ble_eq_true rfl) (Nat.le_of_ble_eq_true rfl) (fun q3 Hi104 li104 hq w9 => ?_)
  clear w
  subst hq
  have w := w9
  clear w9
  refine a_stR G K w 33 2 40 3 rfl rfl rfl rfl (k := 3) (by decide) (by decide) dX5_init_107 (w2 := (((((((((([(h, .inr (5, [.ref (qW 0 0), .ref (qB 0 0), .ref (qC 0 0), .ref (qH 0 0), .ref (qT 0 0), .ref ar, .int (nI 0)]))] ++ wW cI (qW 0) 0 0 (fun _ => 0) (fun _ => 0) (fun _ => 0) (fun _ => 0) (fun _ => 0)) ++ wB cI (qB 0) (fun _ => 0) 0) ++ wC cI cZ (qC 0) (qW 0 0) (qB 0 0) (fun _ => False) (fun _ => 0) (fun _ => 0) (fun _ => 0) (fun _ => 0)) ++ wH cI (qH 0) (qW 0 0) (fun _ => some 0) (fun _ => 0) (fun _ => 0) (fun _ => 0) (fun _ => 0) (fun _ => 0) (fun _ => 0) (fun _ => 0) 0) ++ wH cI (qT 0) (qW 0 0) (fun _ => some 0) (fun _ => 0) (fun _ => 0) (fun _ => 0) (fun _ => 0) (fun _ => 0) (fun _ => 0) (fun _ => 0) 0) ++ [(ar, .inl (cS, 4, .inr (.inr (.inr (.inr (va_up (va_up (va_up (va_up (fun _ => none) 0 (some (q0 0 0))) 1 (some (q1 0 0))) 2 (some (q2 0 0))) 3 (some (q3 0 0))))))))]) ++ wT cI (q0 0 0) (q0 0 1) True 0 0 (fun _ => 0)) ++ wT cI (q1 0 0) (q1 0 1) True 0 0 (fun _ => 0)) ++ wT cI (q2 0 0) (q2 0 1) True 0 0 (fun _ => 0)) ++ wT cI (q3 0 0) (q3 0 1) True 0 0 (fun _ => 0))) rfl (fun Ha107_3 la107_3 w => ?_)
  refine lv_iinc (v := nI 4) (lv' := [(1, .int (nI 4)), (0, .ref h)]) hx hb dX5_init_108 hl (k := 0) rfl (nI_inc _ _) (by decide) rfl (fun ls hl => ?_)
  refine lv_goto (tgt := 90) hx hb dX5_init_111 (by decide) ?_
  refine lv_iload_n hx hb dX5_init_90 rfl (lv_at hl 0 rfl) ?_
  refine lv_iconst (v := (nI 4)) hx hb dX5_init_91 (by decide) ?_
  refine lv_icmp_ge (tgt := 114) hx hb dX5_init_92 (by decide) (fun cc => ?_) (fun cc => ?_)
  rotate_left
  · exact absurd (by decide) cc
  refine lv_aload_n hx hb dX5_init_114 rfl (lv_at hl 1 rfl) ?_
  refine f_get G K w.1 inX5 0 (ci := 5) rfl rfl 3 rfl fl_X5_37 (v := .ref (qH 0 0)) rfl dX5_init_115 ?_
  refine lv_iconst (v := (-1)) hx hb dX5_init_118 (by decide) ?_
  have w := WW_q w 33 (fun j => some ((fun k => [q0 0 0, q1 0 0, q2 0 0, q3 0 0, q0 0 1, q1 0 1, q2 0 1, q3 0 1].getD k 0) j)) rfl (fun j hj => by
    match j, hj with
    | 0, _ => rfl
    | 1, _ => rfl
    | 2, _ => rfl
    | 3, _ => rfl) (w2 := (((((((((([(h, .inr (5, [.ref (qW 0 0), .ref (qB 0 0), .ref (qC 0 0), .ref (qH 0 0), .ref (qT 0 0), .ref ar, .int (nI 0)]))] ++ wW cI (qW 0) 0 0 (fun _ => 0) (fun _ => 0) (fun _ => 0) (fun _ => 0) (fun _ => 0)) ++ wB cI (qB 0) (fun _ => 0) 0) ++ wC cI cZ (qC 0) (qW 0 0) (qB 0 0) (fun _ => False) (fun _ => 0) (fun _ => 0) (fun _ => 0) (fun _ => 0)) ++ wH cI (qH 0) (qW 0 0) (fun _ => some 0) (fun _ => 0) (fun _ => 0) (fun _ => 0) (fun _ => 0) (fun _ => 0) (fun _ => 0) (fun _ => 0) 0) ++ wH cI (qT 0) (qW 0 0) (fun _ => some 0) (fun _ => 0) (fun _ => 0) (fun _ => 0) (fun _ => 0) (fun _ => 0) (fun _ => 0) (fun _ => 0) 0) ++ [(ar, .inl (cS, 4, .inr (.inr (.inr (.inr (fun j => some ((fun k => [q0 0 0, q1 0 0, q2 0 0, q3 0 0, q0 0 1, q1 0 1, q2 0 1, q3 0 1].getD k 0) j)))))))]) ++ wT cI (q0 0 0) (q0 0 1) True 0 0 (fun _ => 0)) ++ wT cI (q1 0 0) (q1 0 1) True 0 0 (fun _ => 0)) ++ wT cI (q2 0 0) (q2 0 1) True 0 0 (fun _ => 0)) ++ wT cI (q3 0 0) (q3 0 1) True 0 0 (fun _ => 0))) rfl
  refine callMVg (As := [.int (-1)]) (rest := []) (q0 := 6) (ci := 2) (wr := (wS cS (fun k => [h, ar].getD k 0) (qW 0 0) (qB 0 0) (qC 0 0) (qH 0 0) (qT 0 0) (fun k => [q0 0 0, q1 0 0, q2 0 0, q3 0 0, q0 0 1, q1 0 1, q2 0 1, q3 0 1].getD k 0) (nI 0) ++ (wB cI (qB 0) (fun _ => 0) 0 ++ (wC cI cZ (qC 0) (qW 0 0) (qB 0 0) (fun _ => False) (fun _ => 0) (fun _ => 0) (fun _ => 0) (fun _ => 0) ++ (wH cI (qT 0) (qW 0 0) (fun _ => some 0) (fun _ => 0) (fun _ => 0) (fun _ => 0) (fun _ => 0) (fun _ => 0) (fun _ => 0) (fun _ => 0) 0 ++ wE cI (fun k => [q0 0 0, q1 0 0, q2 0 0, q3 0 0, q0 0 1, q1 0 1, q2 0 1, q3 0 1].getD k 0) (fun _ => True) (fun _ => 0) (fun _ => 0) (fun _ _ => 0)))))) (ws2 := (wS cS (fun k => [h, ar].getD k 0) ((qW 0) 0) ((qB 0) 0) ((qC 0) 0) ((qH 0) 0) ((qT 0) 0) (fun k => [q0 0 0, q1 0 0, q2 0 0, q3 0 0, q0 0 1, q1 0 1, q2 0 1, q3 0 1].getD k 0) (nI 0) ++ (wW cI (qW 0) 0 0 (fun _ => 0) (fun _ => 0) (fun _ => 0) (fun _ => 0) (fun _ => 0) ++ (wB cI (qB 0) (fun _ => 0) 0 ++ (wC cI cZ (qC 0) ((qW 0) 0) ((qB 0) 0) (fun _ => False) (fun _ => 0) (fun _ => 0) (fun _ => 0) (fun _ => 0) ++ (wH cI (qH 0) ((qW 0) 0) (cLT (fun _ => 0) (fun _ => 0) none 0 (fun _ => some 0) (0 + 1)) (cTR (fun _ => 0) (fun _ => 0) (fun _ => 0) none 0 (fun _ => 0) (0 + 1)) (cSH (fun _ => 0) (fun _ => 0) (fun _ => 0) (fun _ => 0) none 0 (fun _ => 0) (0 + 1)) (cCR (fun _ => 0) (fun _ => 0) (fun _ => 0) (fun _ => 0) none 0 (fun _ => 0) (0 + 1)) (cCT (fun _ => 0) (fun _ => 0) (fun _ => 0) (fun _ => 0) none 0 (fun _ => 0) (0 + 1)) (cCU (fun _ => 0) (fun _ => 0) (fun _ => 0) (fun _ => 0) none 0 (fun _ => 0) (0 + 1)) (cVE (fun _ => 0) (fun _ => 0) (fun _ => 0) (fun _ => 0) none 0 0 (fun _ => 0) 0) (cTA (fun _ => 0) (fun _ => 0) (fun _ => 0) (fun _ => 0) none 0 0 (fun _ => 0) 0) (cCH (fun _ => 0) (fun _ => 0) (fun _ => 0) (fun _ => 0) none 0 (0 + 1)) ++ (wH cI (qT 0) ((qW 0) 0) (fun _ => some 0) (fun _ => 0) (fun _ => 0) (fun _ => 0) (fun _ => 0) (fun _ => 0) (fun _ => 0) (fun _ => 0) 0 ++ wE cI (fun k => [q0 0 0, q1 0 0, q2 0 0, q3 0 0, q0 0 1, q1 0 1, q2 0 1, q3 0 1].getD k 0) (fun _ => True) (fun _ => 0) (fun _ => 0) (fun _ _ => 0)))))))) G K hA w F_X2_retell (c_X2_retell (qW 0) 0 0 (fun _ => 0) (fun _ => 0) (fun _ => 0) (fun _ => 0) (fun _ => 0) (qH 0) (fun _ => some 0) (fun _ => 0) (fun _ => 0) (fun _ => 0) (fun _ => 0) (fun _ => 0) (fun _ => 0) (fun _ => 0) 0 none IW_0 SW_0 IHd_0 (fun v hv => by cases hv)) ml_X5_55 [1, 2, 3, 4, 5, 6, 15, 16, 17, 18, 19, 20, 21, 22, 23] [0, 33, 7, 8, 9, 10, 11, 12, 13, 14, 24, 25, 26, 27, 28, 29, 30, 31, 32, 34, 36, 38, 40, 35, 37, 39, 41] [0, 1, 27, 28, 29, 30, 31, 32, 2, 3, 4, 5, 6, 7, 8, 9, 33, 34, 35, 36, 37, 38, 39, 40, 41, 10, 11, 12, 13, 14, 15, 16, 17, 18, 19, 20, 21, 22, 23, 24, 25, 26] rfl rfl rfl rfl rfl rfl rfl rfl rfl rfl (Nat.le_of_ble_eq_true rfl) (Nat.le_of_ble_eq_true rfl) (Nat.le_of_ble_eq_true rfl) rfl hl.1 (Nat.le_of_ble_eq_true rfl) dX5_init_119 (Nat.le_of_ble_eq_true rfl) (Nat.le_of_ble_eq_true rfl) (fun Hr lr w => ?_)
  exact hret _ _ (fun c => [(fun k => [h, ar].getD k 0), (qW 0), (qB 0), (qC 0), (qH 0), (qT 0), (fun k => [q0 0 0, q1 0 0, q2 0 0, q3 0 0, q0 0 1, q1 0 1, q2 0 1, q3 0 1].getD k 0)].getD c (fun _ => 0)) _ _ _ rfl rfl w dX5_init_122
end Ctors3
