section
variable {l : Launch} {D : va_G} {cI cZ cS : ClassId}

set_option maxHeartbeats 4000000 in
set_option maxRecDepth 100000 in
theorem c_X4_append (aW : Nat → Nat) (n : Nat) (cl : Nat) (th : Nat → Nat) (ki : Nat → Nat) (va : Nat → Nat) (re : Nat → Nat) (fi : Nat → Nat) (t : Nat) (k : Nat) (v : Nat) (J : IW n cl th ki va re fi) (hn9 : n < 40) : CM l D (TY cI cZ cS) yX4_append cX4_append 4 none 0 [.ref (aW 0), .int (nI t), .int (nI k), .int (nI v)] (wW cI aW n cl th ki va re fi) none (wW cI aW (n + 1) cl (va_up th n t) (va_up ki n k) (va_up va n v) (va_up re n cl) fi) := by
  refine CM.ofV (by decide +kernel) (Nat.le_of_ble_eq_true rfl) ?_
  intro p e s m args below meth c Q A G K hA w hret ls hl
  obtain ⟨hx, hb, hml, hown, hts⟩ := id G
  obtain ⟨hn, hcl, hth, hki, hva, hre, hfi⟩ := id J
  have hl : lv_has ls 4 [(0, .ref (aW 0)), (1, .int (nI t)), (2, .int (nI k)), (3, .int (nI v))] := hl
  refine lv_aload_n hx hb dX4_append_0 rfl (lv_at hl 0 rfl) ?_
  refine f_get G K w.1 inX4 0 (ci := 4) rfl rfl 0 rfl fl_X4_9 (v := .ref (aW 1)) rfl dX4_append_1 ?_
  refine lv_aload_n hx hb dX4_append_4 rfl (lv_at hl 0 rfl) ?_
  refine f_get G K w.1 inX4 0 (ci := 4) rfl rfl 5 rfl fl_X4_27 (v := .int (nI n)) rfl dX4_append_5 ?_
  refine lv_iload_n hx hb dX4_append_8 rfl (lv_at hl 1 rfl) ?_
  refine a_stN G K w 1 0 (a := (aW 1)) rfl rfl (by omega) (by decide) dX4_append_9 (w2 := (wW cI aW n cl (va_up th n t) ki va re fi)) rfl (fun Hp1 lo2 w => ?_)
  refine lv_aload_n hx hb dX4_append_10 rfl (lv_at hl 0 rfl) ?_
  refine f_get G K w.1 inX4 0 (ci := 4) rfl rfl 1 rfl fl_X4_15 (v := .ref (aW 2)) rfl dX4_append_11 ?_
  refine lv_aload_n hx hb dX4_append_14 rfl (lv_at hl 0 rfl) ?_
  refine f_get G K w.1 inX4 0 (ci := 4) rfl rfl 5 rfl fl_X4_27 (v := .int (nI n)) rfl dX4_append_15 ?_
  refine lv_iload_n hx hb dX4_append_18 rfl (lv_at hl 2 rfl) ?_
  refine a_stN G K w 2 0 (a := (aW 2)) rfl rfl (by omega) (by decide) dX4_append_19 (w2 := (wW cI aW n cl (va_up th n t) (va_up ki n k) va re fi)) rfl (fun Hp3 lo4 w => ?_)
  refine lv_aload_n hx hb dX4_append_20 rfl (lv_at hl 0 rfl) ?_
  refine f_get G K w.1 inX4 0 (ci := 4) rfl rfl 2 rfl fl_X4_18 (v := .ref (aW 3)) rfl dX4_append_21 ?_
  refine lv_aload_n hx hb dX4_append_24 rfl (lv_at hl 0 rfl) ?_
  refine f_get G K w.1 inX4 0 (ci := 4) rfl rfl 5 rfl fl_X4_27 (v := .int (nI n)) rfl dX4_append_25 ?_
  refine lv_iload_n hx hb dX4_append_28 rfl (lv_at hl 3 rfl) ?_
  refine a_stN G K w 3 0 (a := (aW 3)) rfl rfl (by omega) (by decide) dX4_append_29 (w2 := (wW cI aW n cl (va_up th n t) (va_up ki n k) (va_up va n v) re fi)) rfl (fun Hp5 lo6 w => ?_)
  refine lv_aload_n hx hb dX4_append_30 rfl (lv_at hl 0 rfl) ?_
  refine f_get G K w.1 inX4 0 (ci := 4) rfl rfl 3 rfl fl_X4_21 (v := .ref (aW 4)) rfl dX4_append_31 ?_
  refine lv_aload_n hx hb dX4_append_34 rfl (lv_at hl 0 rfl) ?_
  refine f_get G K w.1 inX4 0 (ci := 4) rfl rfl 5 rfl fl_X4_27 (v := .int (nI n)) rfl dX4_append_35 ?_
  refine lv_aload_n hx hb dX4_append_38 rfl (lv_at hl 0 rfl) ?_
  refine f_get G K w.1 inX4 0 (ci := 4) rfl rfl 6 rfl fl_X4_31 (v := .int (nI cl)) rfl dX4_append_39 ?_
  refine a_stN G K w 4 0 (a := (aW 4)) rfl rfl (by omega) (by decide) dX4_append_42 (w2 := (wW cI aW n cl (va_up th n t) (va_up ki n k) (va_up va n v) (va_up re n cl) fi)) rfl (fun Hp7 lo8 w => ?_)
  refine lv_aload_n hx hb dX4_append_43 rfl (lv_at hl 0 rfl) ?_
  refine lv_dup hx hb dX4_append_44 rfl ?_
  refine f_get G K w.1 inX4 0 (ci := 4) rfl rfl 5 rfl fl_X4_27 (v := .int (nI n)) rfl dX4_append_45 ?_
  refine lv_iconst (v := (nI 1)) hx hb dX4_append_48 (by decide) ?_
  refine t_add G dX4_append_49 ?_
  refine f_put G K w inX4 tyX4 tyX4_ok nmX4 0 (ci := 4) rfl rfl 5 rfl fl_X4_27 rfl rfl rfl rfl dX4_append_50 (w2 := (wW cI aW (n + 1) cl (va_up th n t) (va_up ki n k) (va_up va n v) (va_up re n cl) fi)) rfl (fun Hp9 lo10 w => ?_)
  exact hret _ _ _ _ _ rfl w dX4_append_53
set_option maxHeartbeats 4000000 in
set_option maxRecDepth 100000 in
theorem c_X4_openNext (aW : Nat → Nat) (n : Nat) (cl : Nat) (th : Nat → Nat) (ki : Nat → Nat) (va : Nat → Nat) (re : Nat → Nat) (fi : Nat → Nat) (J : IW n cl th ki va re fi) (hc9 : cl < 7) : CM l D (TY cI cZ cS) yX4_openNext cX4_openNext 1 none 0 [.ref (aW 0)] (wW cI aW n cl th ki va re fi) none (wW cI aW n (cl + 1) th ki va re (va_up fi (cl + 1) n)) := by
  refine CM.ofV (by decide +kernel) (Nat.le_of_ble_eq_true rfl) ?_
  intro p e s m args below meth c Q A G K hA w hret ls hl
  obtain ⟨hx, hb, hml, hown, hts⟩ := id G
  obtain ⟨hn, hcl, hth, hki, hva, hre, hfi⟩ := id J
  have hl : lv_has ls 1 [(0, .ref (aW 0))] := hl
  refine lv_aload_n hx hb dX4_openNext_0 rfl (lv_at hl 0 rfl) ?_
  refine lv_dup hx hb dX4_openNext_1 rfl ?_
  refine f_get G K w.1 inX4 0 (ci := 4) rfl rfl 6 rfl fl_X4_31 (v := .int (nI cl)) rfl dX4_openNext_2 ?_
  refine lv_iconst (v := (nI 1)) hx hb dX4_openNext_5 (by decide) ?_
  refine t_add G dX4_openNext_6 ?_
  refine f_put G K w inX4 tyX4 tyX4_ok nmX4 0 (ci := 4) rfl rfl 6 rfl fl_X4_31 rfl rfl rfl rfl dX4_openNext_7 (w2 := (wW cI aW n (cl + 1) th ki va re fi)) rfl (fun Hp1 lo2 w => ?_)
  refine lv_aload_n hx hb dX4_openNext_10 rfl (lv_at hl 0 rfl) ?_
  refine f_get G K w.1 inX4 0 (ci := 4) rfl rfl 4 rfl fl_X4_24 (v := .ref (aW 5)) rfl dX4_openNext_11 ?_
  refine lv_aload_n hx hb dX4_openNext_14 rfl (lv_at hl 0 rfl) ?_
  refine f_get G K w.1 inX4 0 (ci := 4) rfl rfl 6 rfl fl_X4_31 (v := .int (nI (cl + 1))) rfl dX4_openNext_15 ?_
  refine lv_aload_n hx hb dX4_openNext_18 rfl (lv_at hl 0 rfl) ?_
  refine f_get G K w.1 inX4 0 (ci := 4) rfl rfl 5 rfl fl_X4_27 (v := .int (nI n)) rfl dX4_openNext_19 ?_
  refine a_stN G K w 5 0 (a := (aW 5)) rfl rfl (by omega) (by decide) dX4_openNext_22 (w2 := (wW cI aW n (cl + 1) th ki va re (va_up fi (cl + 1) n))) rfl (fun Hp3 lo4 w => ?_)
  exact hret _ _ _ _ _ rfl w dX4_openNext_23
set_option maxHeartbeats 4000000 in
set_option maxRecDepth 100000 in
theorem c_X4_has (aW : Nat → Nat) (n : Nat) (cl : Nat) (th : Nat → Nat) (ki : Nat → Nat) (va : Nat → Nat) (re : Nat → Nat) (fi : Nat → Nat) (x : Int32) (J : IW n cl th ki va re fi) : CP l D (TY cI cZ cS) yX4_has cX4_has 2 .boolean 0 [.ref (aW 0), .int x] (wW cI aW n cl th ki va re fi) (.int (bI (okW n x))) := by
  refine CP.ofI (by decide +kernel) (Nat.le_of_ble_eq_true rfl) (bI_nar _) ?_
  intro p e s m args below meth c Q G K hP hret ls hl
  obtain ⟨hx, hb, hml, hown, hts⟩ := id G
  obtain ⟨hn, hcl, hth, hki, hva, hre, hfi⟩ := id J
  have hl : lv_has ls 2 [(0, .ref (aW 0)), (1, .int x)] := hl
  refine lv_iload_n hx hb dX4_has_0 rfl (lv_at hl 1 rfl) ?_
  refine lv_if_lt (tgt := 16) hx hb dX4_has_1 (by decide) (fun c1 => ?_) (fun c1 => ?_)
  · -- taken at 1
    refine lv_iconst (v := (nI 0)) hx hb dX4_has_16 (by decide) ?_
    exact hret _ _ _ (by first | exact b1 (has_iff (by omega) c1 c9) | exact b0 (has_lt (by omega) c1) | exact b0 (has_ge (by omega) c9)) dX4_has_17
  · -- not taken at 1
    refine lv_iload_n hx hb dX4_has_4 rfl (lv_at hl 1 rfl) ?_
    refine lv_aload_n hx hb dX4_has_5 rfl (lv_at hl 0 rfl) ?_
    refine f_get G K hP inX4 0 (ci := 4) rfl rfl 5 rfl fl_X4_27 (v := .int (nI n)) rfl dX4_has_6 ?_
    refine lv_icmp_ge (tgt := 16) hx hb dX4_has_9 (by decide) (fun c9 => ?_) (fun c9 => ?_)
    · -- taken at 9
      refine lv_iconst (v := (nI 0)) hx hb dX4_has_16 (by decide) ?_
      exact hret _ _ _ (by first | exact b1 (has_iff (by omega) c1 c9) | exact b0 (has_lt (by omega) c1) | exact b0 (has_ge (by omega) c9)) dX4_has_17
    · -- not taken at 9
      refine lv_iconst (v := (nI 1)) hx hb dX4_has_12 (by decide) ?_
      refine lv_goto (tgt := 17) hx hb dX4_has_13 (by decide) ?_
      exact hret _ _ _ (by first | exact b1 (has_iff (by omega) c1 c9) | exact b0 (has_lt (by omega) c1) | exact b0 (has_ge (by omega) c9)) dX4_has_17
set_option maxHeartbeats 4000000 in
set_option maxRecDepth 100000 in
theorem c_X4_hasRevision (aW : Nat → Nat) (n : Nat) (cl : Nat) (th : Nat → Nat) (ki : Nat → Nat) (va : Nat → Nat) (re : Nat → Nat) (fi : Nat → Nat) (x : Int32) (J : IW n cl th ki va re fi) : CP l D (TY cI cZ cS) yX4_hasRevision cX4_hasRevision 2 .boolean 0 [.ref (aW 0), .int x] (wW cI aW n cl th ki va re fi) (.int (bI (okR cl x))) := by
  refine CP.ofI (by decide +kernel) (Nat.le_of_ble_eq_true rfl) (bI_nar _) ?_
  intro p e s m args below meth c Q G K hP hret ls hl
  obtain ⟨hx, hb, hml, hown, hts⟩ := id G
  obtain ⟨hn, hcl, hth, hki, hva, hre, hfi⟩ := id J
  have hl : lv_has ls 2 [(0, .ref (aW 0)), (1, .int x)] := hl
  refine lv_iload_n hx hb dX4_hasRevision_0 rfl (lv_at hl 1 rfl) ?_
  refine lv_if_lt (tgt := 16) hx hb dX4_hasRevision_1 (by decide) (fun c1 => ?_) (fun c1 => ?_)
  · -- taken at 1
    refine lv_iconst (v := (nI 0)) hx hb dX4_hasRevision_16 (by decide) ?_
    exact hret _ _ _ (by first | exact b1 (hr_iff (by omega) c1 c9) | exact b0 (hr_lt (by omega) c1) | exact b0 (hr_gt (by omega) c9)) dX4_hasRevision_17
  · -- not taken at 1
    refine lv_iload_n hx hb dX4_hasRevision_4 rfl (lv_at hl 1 rfl) ?_
    refine lv_aload_n hx hb dX4_hasRevision_5 rfl (lv_at hl 0 rfl) ?_
    refine f_get G K hP inX4 0 (ci := 4) rfl rfl 6 rfl fl_X4_31 (v := .int (nI cl)) rfl dX4_hasRevision_6 ?_
    refine lv_icmp_gt (tgt := 16) hx hb dX4_hasRevision_9 (by decide) (fun c9 => ?_) (fun c9 => ?_)
    · -- taken at 9
      refine lv_iconst (v := (nI 0)) hx hb dX4_hasRevision_16 (by decide) ?_
      exact hret _ _ _ (by first | exact b1 (hr_iff (by omega) c1 c9) | exact b0 (hr_lt (by omega) c1) | exact b0 (hr_gt (by omega) c9)) dX4_hasRevision_17
    · -- not taken at 9
      refine lv_iconst (v := (nI 1)) hx hb dX4_hasRevision_12 (by decide) ?_
      refine lv_goto (tgt := 17) hx hb dX4_hasRevision_13 (by decide) ?_
      exact hret _ _ _ (by first | exact b1 (hr_iff (by omega) c1 c9) | exact b0 (hr_lt (by omega) c1) | exact b0 (hr_gt (by omega) c9)) dX4_hasRevision_17
set_option maxHeartbeats 4000000 in
set_option maxRecDepth 100000 in
theorem c_X4_openIsEmpty (aW : Nat → Nat) (n : Nat) (cl : Nat) (th : Nat → Nat) (ki : Nat → Nat) (va : Nat → Nat) (re : Nat → Nat) (fi : Nat → Nat) (J : IW n cl th ki va re fi) (S : SW n cl re fi) : CP l D (TY cI cZ cS) yX4_openIsEmpty cX4_openIsEmpty 1 .boolean 0 [.ref (aW 0)] (wW cI aW n cl th ki va re fi) (.int (bI (cntEq re cl n = 0))) := by
  refine CP.ofI (by decide +kernel) (Nat.le_of_ble_eq_true rfl) (bI_nar _) ?_
  intro p e s m args below meth c Q G K hP hret ls hl
  obtain ⟨hx, hb, hml, hown, hts⟩ := id G
  obtain ⟨hn, hcl, hth, hki, hva, hre, hfi⟩ := id J
  have hS1 := S.1 cl (Nat.le_refl cl)
  have hS2 := SW_n S
  have hl : lv_has ls 1 [(0, .ref (aW 0))] := hl
  refine lv_aload_n hx hb dX4_openIsEmpty_0 rfl (lv_at hl 0 rfl) ?_
  refine f_get G K hP inX4 0 (ci := 4) rfl rfl 4 rfl fl_X4_24 (v := .ref (aW 5)) rfl dX4_openIsEmpty_1 ?_
  refine lv_aload_n hx hb dX4_openIsEmpty_4 rfl (lv_at hl 0 rfl) ?_
  refine f_get G K hP inX4 0 (ci := 4) rfl rfl 6 rfl fl_X4_31 (v := .int (nI cl)) rfl dX4_openIsEmpty_5 ?_
  refine a_ldN G K hP 5 0 (a := (aW 5)) rfl rfl (by omega) (by decide) dX4_openIsEmpty_8 ?_
  have hb1 := hfi cl
  refine lv_aload_n hx hb dX4_openIsEmpty_9 rfl (lv_at hl 0 rfl) ?_
  refine f_get G K hP inX4 0 (ci := 4) rfl rfl 5 rfl fl_X4_27 (v := .int (nI n)) rfl dX4_openIsEmpty_10 ?_
  refine c_lt G (tgt := 20) (by omega) (by omega) dX4_openIsEmpty_13 (by decide) (fun c13 => ?_) (fun c13 => ?_)
  · -- taken at 13
    refine lv_iconst (v := (nI 0)) hx hb dX4_openIsEmpty_20 (by decide) ?_
    exact hret _ _ _ (by first | exact b1 (by omega) | exact b0 (by omega)) dX4_openIsEmpty_21
  · -- not taken at 13
    refine lv_iconst (v := (nI 1)) hx hb dX4_openIsEmpty_16 (by decide) ?_
    refine lv_goto (tgt := 21) hx hb dX4_openIsEmpty_17 (by decide) ?_
    exact hret _ _ _ (by first | exact b1 (by omega) | exact b0 (by omega)) dX4_openIsEmpty_21
set_option maxHeartbeats 4000000 in
set_option maxRecDepth 100000 in
theorem c_X4_isSeal (aW : Nat → Nat) (n : Nat) (cl : Nat) (th : Nat → Nat) (ki : Nat → Nat) (va : Nat → Nat) (re : Nat → Nat) (fi : Nat → Nat) (v : Nat) (J : IW n cl th ki va re fi) (hv9 : v < 40) : CP l D (TY cI cZ cS) yX4_isSeal cX4_isSeal 2 .boolean 0 [.ref (aW 0), .int (nI v)] (wW cI aW n cl th ki va re fi) (.int (bI (ki v = 4))) := by
  refine CP.ofI (by decide +kernel) (Nat.le_of_ble_eq_true rfl) (bI_nar _) ?_
  intro p e s m args below meth c Q G K hP hret ls hl
  obtain ⟨hx, hb, hml, hown, hts⟩ := id G
  obtain ⟨hn, hcl, hth, hki, hva, hre, hfi⟩ := id J
  have hl : lv_has ls 2 [(0, .ref (aW 0)), (1, .int (nI v))] := hl
  refine lv_aload_n hx hb dX4_isSeal_0 rfl (lv_at hl 0 rfl) ?_
  refine f_get G K hP inX4 0 (ci := 4) rfl rfl 1 rfl fl_X4_15 (v := .ref (aW 2)) rfl dX4_isSeal_1 ?_
  refine lv_iload_n hx hb dX4_isSeal_4 rfl (lv_at hl 1 rfl) ?_
  refine a_ldN G K hP 2 0 (a := (aW 2)) rfl rfl (by omega) (by decide) dX4_isSeal_5 ?_
  have hb1 := hki v
  refine lv_iconst (v := (nI 4)) hx hb dX4_isSeal_6 (by decide) ?_
  refine c_ne G (tgt := 14) (by omega) (by omega) dX4_isSeal_7 (by decide) (fun c7 => ?_) (fun c7 => ?_)
  · -- taken at 7
    refine lv_iconst (v := (nI 0)) hx hb dX4_isSeal_14 (by decide) ?_
    exact hret _ _ _ (by first | exact b1 c7 | exact b0 c7) dX4_isSeal_15
  · -- not taken at 7
    refine lv_iconst (v := (nI 1)) hx hb dX4_isSeal_10 (by decide) ?_
    refine lv_goto (tgt := 15) hx hb dX4_isSeal_11 (by decide) ?_
    exact hret _ _ _ (by first | exact b1 c7 | exact b0 c7) dX4_isSeal_15
set_option maxHeartbeats 4000000 in
set_option maxRecDepth 100000 in
theorem c_X4_isClosed (aW : Nat → Nat) (n : Nat) (cl : Nat) (th : Nat → Nat) (ki : Nat → Nat) (va : Nat → Nat) (re : Nat → Nat) (fi : Nat → Nat) (v : Nat) (J : IW n cl th ki va re fi) (hv9 : v < 40) : CP l D (TY cI cZ cS) yX4_isClosed cX4_isClosed 2 .boolean 0 [.ref (aW 0), .int (nI v)] (wW cI aW n cl th ki va re fi) (.int (bI (re v < cl))) := by
  refine CP.ofI (by decide +kernel) (Nat.le_of_ble_eq_true rfl) (bI_nar _) ?_
  intro p e s m args below meth c Q G K hP hret ls hl
  obtain ⟨hx, hb, hml, hown, hts⟩ := id G
  obtain ⟨hn, hcl, hth, hki, hva, hre, hfi⟩ := id J
  have hl : lv_has ls 2 [(0, .ref (aW 0)), (1, .int (nI v))] := hl
  refine lv_aload_n hx hb dX4_isClosed_0 rfl (lv_at hl 0 rfl) ?_
  refine f_get G K hP inX4 0 (ci := 4) rfl rfl 3 rfl fl_X4_21 (v := .ref (aW 4)) rfl dX4_isClosed_1 ?_
  refine lv_iload_n hx hb dX4_isClosed_4 rfl (lv_at hl 1 rfl) ?_
  refine a_ldN G K hP 4 0 (a := (aW 4)) rfl rfl (by omega) (by decide) dX4_isClosed_5 ?_
  have hb1 := hre v
  refine lv_aload_n hx hb dX4_isClosed_6 rfl (lv_at hl 0 rfl) ?_
  refine f_get G K hP inX4 0 (ci := 4) rfl rfl 6 rfl fl_X4_31 (v := .int (nI cl)) rfl dX4_isClosed_7 ?_
  refine c_ge G (tgt := 17) (by omega) (by omega) dX4_isClosed_10 (by decide) (fun c10 => ?_) (fun c10 => ?_)
  · -- taken at 10
    refine lv_iconst (v := (nI 0)) hx hb dX4_isClosed_17 (by decide) ?_
    exact hret _ _ _ (by first | exact b1 c10 | exact b0 (Nat.not_lt.mpr c10)) dX4_isClosed_18
  · -- not taken at 10
    refine lv_iconst (v := (nI 1)) hx hb dX4_isClosed_13 (by decide) ?_
    refine lv_goto (tgt := 18) hx hb dX4_isClosed_14 (by decide) ?_
    exact hret _ _ _ (by first | exact b1 c10 | exact b0 (Nat.not_lt.mpr c10)) dX4_isClosed_18
set_option maxHeartbeats 4000000 in
set_option maxRecDepth 100000 in
theorem c_X4_isClosedSeal (aW : Nat → Nat) (n : Nat) (cl : Nat) (th : Nat → Nat) (ki : Nat → Nat) (va : Nat → Nat) (re : Nat → Nat) (fi : Nat → Nat) (v : Nat) (J : IW n cl th ki va re fi) (hv9 : v < 40) : CP l D (TY cI cZ cS) yX4_isClosedSeal cX4_isClosedSeal 2 .boolean 1 [.ref (aW 0), .int (nI v)] (wW cI aW n cl th ki va re fi) (.int (bI (cls ki re cl v))) := by
  refine CP.ofI (by decide +kernel) (Nat.le_of_ble_eq_true rfl) (bI_nar _) ?_
  intro p e s m args below meth c Q G K hP hret ls hl
  obtain ⟨hx, hb, hml, hown, hts⟩ := id G
  obtain ⟨hn, hcl, hth, hki, hva, hre, hfi⟩ := id J
  have hl : lv_has ls 2 [(0, .ref (aW 0)), (1, .int (nI v))] := hl
  refine lv_aload_n hx hb dX4_isClosedSeal_0 rfl (lv_at hl 0 rfl) ?_
  refine lv_iload_n hx hb dX4_isClosedSeal_1 rfl (lv_at hl 1 rfl) ?_
  refine callPV (As := [.int (nI v)]) (rest := []) (q0 := 0) (ci := 4) G K F_X4_isSeal (c_X4_isSeal aW n cl th ki va re fi v J (by omega)) hP ml_X4_34 rfl rfl rfl (by decide) (by decide) rfl hl.1 (Nat.le_of_ble_eq_true rfl) dX4_isClosedSeal_2 ?_
  refine b_eq G (tgt := 20) dX4_isClosedSeal_5 (by decide) (fun c5 => ?_) (fun c5 => ?_)
  · -- taken at 5
    refine lv_iconst (v := (nI 0)) hx hb dX4_isClosedSeal_20 (by decide) ?_
    exact hret _ _ _ (by first | exact b1 ⟨c5, c13⟩ | exact b0 (fun h => c5 h.1) | exact b0 (fun h => c13 h.2)) dX4_isClosedSeal_21
  · -- not taken at 5
    refine lv_aload_n hx hb dX4_isClosedSeal_8 rfl (lv_at hl 0 rfl) ?_
    refine lv_iload_n hx hb dX4_isClosedSeal_9 rfl (lv_at hl 1 rfl) ?_
    refine callPV (As := [.int (nI v)]) (rest := []) (q0 := 0) (ci := 4) G K F_X4_isClosed (c_X4_isClosed aW n cl th ki va re fi v J (by omega)) hP ml_X4_38 rfl rfl rfl (by decide) (by decide) rfl hl.1 (Nat.le_of_ble_eq_true rfl) dX4_isClosedSeal_10 ?_
    refine b_eq G (tgt := 20) dX4_isClosedSeal_13 (by decide) (fun c13 => ?_) (fun c13 => ?_)
    · -- taken at 13
      refine lv_iconst (v := (nI 0)) hx hb dX4_isClosedSeal_20 (by decide) ?_
      exact hret _ _ _ (by first | exact b1 ⟨c5, c13⟩ | exact b0 (fun h => c5 h.1) | exact b0 (fun h => c13 h.2)) dX4_isClosedSeal_21
    · -- not taken at 13
      refine lv_iconst (v := (nI 1)) hx hb dX4_isClosedSeal_16 (by decide) ?_
      refine lv_goto (tgt := 21) hx hb dX4_isClosedSeal_17 (by decide) ?_
      exact hret _ _ _ (by first | exact b1 ⟨c5, c13⟩ | exact b0 (fun h => c5 h.1) | exact b0 (fun h => c13 h.2)) dX4_isClosedSeal_21
set_option maxHeartbeats 4000000 in
set_option maxRecDepth 100000 in
theorem c_X4_unlike (aW : Nat → Nat) (n : Nat) (cl : Nat) (th : Nat → Nat) (ki : Nat → Nat) (va : Nat → Nat) (re : Nat → Nat) (fi : Nat → Nat) (u : Nat) (v : Nat) (J : IW n cl th ki va re fi) (hu9 : u < 40) (hv9 : v < 40) : CP l D (TY cI cZ cS) yX4_unlike cX4_unlike 3 .boolean 0 [.ref (aW 0), .int (nI u), .int (nI v)] (wW cI aW n cl th ki va re fi) (.int (bI (dif ki va u v))) := by
  refine CP.ofI (by decide +kernel) (Nat.le_of_ble_eq_true rfl) (bI_nar _) ?_
  intro p e s m args below meth c Q G K hP hret ls hl
  obtain ⟨hx, hb, hml, hown, hts⟩ := id G
  obtain ⟨hn, hcl, hth, hki, hva, hre, hfi⟩ := id J
  have hl : lv_has ls 3 [(0, .ref (aW 0)), (1, .int (nI u)), (2, .int (nI v))] := hl
  refine lv_aload_n hx hb dX4_unlike_0 rfl (lv_at hl 0 rfl) ?_
  refine f_get G K hP inX4 0 (ci := 4) rfl rfl 1 rfl fl_X4_15 (v := .ref (aW 2)) rfl dX4_unlike_1 ?_
  refine lv_iload_n hx hb dX4_unlike_4 rfl (lv_at hl 1 rfl) ?_
  refine a_ldN G K hP 2 0 (a := (aW 2)) rfl rfl (by omega) (by decide) dX4_unlike_5 ?_
  have hb1 := hki u
  refine lv_aload_n hx hb dX4_unlike_6 rfl (lv_at hl 0 rfl) ?_
  refine f_get G K hP inX4 0 (ci := 4) rfl rfl 1 rfl fl_X4_15 (v := .ref (aW 2)) rfl dX4_unlike_7 ?_
  refine lv_iload_n hx hb dX4_unlike_10 rfl (lv_at hl 2 rfl) ?_
  refine a_ldN G K hP 2 0 (a := (aW 2)) rfl rfl (by omega) (by decide) dX4_unlike_11 ?_
  have hb2 := hki v
  refine c_ne G (tgt := 30) (by omega) (by omega) dX4_unlike_12 (by decide) (fun c12 => ?_) (fun c12 => ?_)
  · -- taken at 12
    refine lv_iconst (v := (nI 1)) hx hb dX4_unlike_30 (by decide) ?_
    refine lv_goto (tgt := 35) hx hb dX4_unlike_31 (by decide) ?_
    exact hret _ _ _ (by first | exact b1 (Or.inl c12) | exact b1 (Or.inr c27) | exact b0 (fun h => h.elim (fun q => q c12) (fun q => q c27))) dX4_unlike_35
  · -- not taken at 12
    refine lv_aload_n hx hb dX4_unlike_15 rfl (lv_at hl 0 rfl) ?_
    refine f_get G K hP inX4 0 (ci := 4) rfl rfl 2 rfl fl_X4_18 (v := .ref (aW 3)) rfl dX4_unlike_16 ?_
    refine lv_iload_n hx hb dX4_unlike_19 rfl (lv_at hl 1 rfl) ?_
    refine a_ldN G K hP 3 0 (a := (aW 3)) rfl rfl (by omega) (by decide) dX4_unlike_20 ?_
    have hb3 := hva u
    refine lv_aload_n hx hb dX4_unlike_21 rfl (lv_at hl 0 rfl) ?_
    refine f_get G K hP inX4 0 (ci := 4) rfl rfl 2 rfl fl_X4_18 (v := .ref (aW 3)) rfl dX4_unlike_22 ?_
    refine lv_iload_n hx hb dX4_unlike_25 rfl (lv_at hl 2 rfl) ?_
    refine a_ldN G K hP 3 0 (a := (aW 3)) rfl rfl (by omega) (by decide) dX4_unlike_26 ?_
    have hb4 := hva v
    refine c_eq G (tgt := 34) (by omega) (by omega) dX4_unlike_27 (by decide) (fun c27 => ?_) (fun c27 => ?_)
    · -- taken at 27
      refine lv_iconst (v := (nI 0)) hx hb dX4_unlike_34 (by decide) ?_
      exact hret _ _ _ (by first | exact b1 (Or.inl c12) | exact b1 (Or.inr c27) | exact b0 (fun h => h.elim (fun q => q c12) (fun q => q c27))) dX4_unlike_35
    · -- not taken at 27
      refine lv_iconst (v := (nI 1)) hx hb dX4_unlike_30 (by decide) ?_
      refine lv_goto (tgt := 35) hx hb dX4_unlike_31 (by decide) ?_
      exact hret _ _ _ (by first | exact b1 (Or.inl c12) | exact b1 (Or.inr c27) | exact b0 (fun h => h.elim (fun q => q c12) (fun q => q c27))) dX4_unlike_35
set_option maxHeartbeats 4000000 in
set_option maxRecDepth 100000 in
theorem c_X4_kindOrGone_n (aW : Nat → Nat) (n : Nat) (cl : Nat) (th : Nat → Nat) (ki : Nat → Nat) (va : Nat → Nat) (re : Nat → Nat) (fi : Nat → Nat) (J : IW n cl th ki va re fi) : CP l D (TY cI cZ cS) yX4_kindOrGone cX4_kindOrGone 2 .int 0 [.ref (aW 0), .int (-1)] (wW cI aW n cl th ki va re fi) (.int (nI 5)) := by
  refine CP.ofI (by decide +kernel) (Nat.le_of_ble_eq_true rfl) (nar_int _) ?_
  intro p e s m args below meth c Q G K hP hret ls hl
  obtain ⟨hx, hb, hml, hown, hts⟩ := id G
  obtain ⟨hn, hcl, hth, hki, hva, hre, hfi⟩ := id J
  have hl : lv_has ls 2 [(0, .ref (aW 0)), (1, .int (-1))] := hl
  refine lv_iload_n hx hb dX4_kindOrGone_0 rfl (lv_at hl 1 rfl) ?_
  refine lv_if_lt (tgt := 21) hx hb dX4_kindOrGone_1 (by decide) (fun c1 => ?_) (fun c1 => ?_)
  · -- taken at 1
    refine lv_iconst (v := (nI 5)) hx hb dX4_kindOrGone_21 (by decide) ?_
    exact hret _ _ _ rfl dX4_kindOrGone_22
  · -- not taken at 1
    exact absurd (by decide) c1
set_option maxHeartbeats 4000000 in
set_option maxRecDepth 100000 in
theorem c_X4_kindOrGone_s (aW : Nat → Nat) (n : Nat) (cl : Nat) (th : Nat → Nat) (ki : Nat → Nat) (va : Nat → Nat) (re : Nat → Nat) (fi : Nat → Nat) (v : Nat) (J : IW n cl th ki va re fi) (hv9 : v < n) : CP l D (TY cI cZ cS) yX4_kindOrGone cX4_kindOrGone 2 .int 0 [.ref (aW 0), .int (nI v)] (wW cI aW n cl th ki va re fi) (.int (nI (ki v))) := by
  refine CP.ofI (by decide +kernel) (Nat.le_of_ble_eq_true rfl) (nar_int _) ?_
  intro p e s m args below meth c Q G K hP hret ls hl
  obtain ⟨hx, hb, hml, hown, hts⟩ := id G
  obtain ⟨hn, hcl, hth, hki, hva, hre, hfi⟩ := id J
  have hl : lv_has ls 2 [(0, .ref (aW 0)), (1, .int (nI v))] := hl
  refine lv_iload_n hx hb dX4_kindOrGone_0 rfl (lv_at hl 1 rfl) ?_
  refine z_lt G (tgt := 21) (by omega) dX4_kindOrGone_1 (by decide) ?_
  refine lv_iload_n hx hb dX4_kindOrGone_4 rfl (lv_at hl 1 rfl) ?_
  refine lv_aload_n hx hb dX4_kindOrGone_5 rfl (lv_at hl 0 rfl) ?_
  refine f_get G K hP inX4 0 (ci := 4) rfl rfl 5 rfl fl_X4_27 (v := .int (nI n)) rfl dX4_kindOrGone_6 ?_
  refine c_ge G (tgt := 21) (by omega) (by omega) dX4_kindOrGone_9 (by decide) (fun c9 => ?_) (fun c9 => ?_)
  · -- taken at 9
    exact absurd c9 (by omega)
  · -- not taken at 9
    refine lv_aload_n hx hb dX4_kindOrGone_12 rfl (lv_at hl 0 rfl) ?_
    refine f_get G K hP inX4 0 (ci := 4) rfl rfl 1 rfl fl_X4_15 (v := .ref (aW 2)) rfl dX4_kindOrGone_13 ?_
    refine lv_iload_n hx hb dX4_kindOrGone_16 rfl (lv_at hl 1 rfl) ?_
    refine a_ldN G K hP 2 0 (a := (aW 2)) rfl rfl (by omega) (by decide) dX4_kindOrGone_17 ?_
    have hb1 := hki v
    refine lv_goto (tgt := 22) hx hb dX4_kindOrGone_18 (by decide) ?_
    exact hret _ _ _ rfl dX4_kindOrGone_22
set_option maxHeartbeats 4000000 in
set_option maxRecDepth 100000 in
theorem c_X4_kindOrGone (aW : Nat → Nat) (n : Nat) (cl : Nat) (th : Nat → Nat) (ki : Nat → Nat) (va : Nat → Nat) (re : Nat → Nat) (fi : Nat → Nat) (o : Option Nat) (J : IW n cl th ki va re fi) (ho : ∀ v, o = some v → v < n) : CP l D (TY cI cZ cS) yX4_kindOrGone cX4_kindOrGone 2 .int 0 [.ref (aW 0), .int (oI o)] (wW cI aW n cl th ki va re fi) (.int (nI (kOr ki o))) := by
  cases o with
  | none => exact c_X4_kindOrGone_n aW n cl th ki va re fi J
  | some v => exact c_X4_kindOrGone_s aW n cl th ki va re fi v J (ho v rfl)
set_option maxHeartbeats 4000000 in
set_option maxRecDepth 100000 in
theorem c_X4_behind (aW : Nat → Nat) (n : Nat) (cl : Nat) (th : Nat → Nat) (ki : Nat → Nat) (va : Nat → Nat) (re : Nat → Nat) (fi : Nat → Nat) (r : Nat) (J : IW n cl th ki va re fi) (S : SW n cl re fi) (hr9 : r ≤ cl) : CP l D (TY cI cZ cS) yX4_behind cX4_behind 2 .int 0 [.ref (aW 0), .int (nI r)] (wW cI aW n cl th ki va re fi) (.int (nI (cntLt re r n + cntEq re r n))) := by
  refine CP.ofI (by decide +kernel) (Nat.le_of_ble_eq_true rfl) (nar_int _) ?_
  intro p e s m args below meth c Q G K hP hret ls hl
  obtain ⟨hx, hb, hml, hown, hts⟩ := id G
  obtain ⟨hn, hcl, hth, hki, hva, hre, hfi⟩ := id J
  have hl : lv_has ls 2 [(0, .ref (aW 0)), (1, .int (nI r))] := hl
  refine lv_iload_n hx hb dX4_behind_0 rfl (lv_at hl 1 rfl) ?_
  refine lv_aload_n hx hb dX4_behind_1 rfl (lv_at hl 0 rfl) ?_
  refine f_get G K hP inX4 0 (ci := 4) rfl rfl 6 rfl fl_X4_31 (v := .int (nI cl)) rfl dX4_behind_2 ?_
  refine c_ge G (tgt := 19) (by omega) (by omega) dX4_behind_5 (by decide) (fun c5 => ?_) (fun c5 => ?_)
  · -- taken at 5
    refine lv_aload_n hx hb dX4_behind_19 rfl (lv_at hl 0 rfl) ?_
    refine f_get G K hP inX4 0 (ci := 4) rfl rfl 5 rfl fl_X4_27 (v := .int (nI n)) rfl dX4_behind_20 ?_
    exact hret _ _ _ (congrArg nI (by first | exact SW_beh S c5 | exact (by rw [show r = cl by omega]; exact SW_n S))) dX4_behind_23
  · -- not taken at 5
    refine lv_aload_n hx hb dX4_behind_8 rfl (lv_at hl 0 rfl) ?_
    refine f_get G K hP inX4 0 (ci := 4) rfl rfl 4 rfl fl_X4_24 (v := .ref (aW 5)) rfl dX4_behind_9 ?_
    refine lv_iload_n hx hb dX4_behind_12 rfl (lv_at hl 1 rfl) ?_
    refine lv_iconst (v := (nI 1)) hx hb dX4_behind_13 (by decide) ?_
    refine t_add G dX4_behind_14 ?_
    refine a_ldN G K hP 5 0 (a := (aW 5)) rfl rfl (by omega) (by decide) dX4_behind_15 ?_
    have hb1 := hfi (r + 1)
    refine lv_goto (tgt := 23) hx hb dX4_behind_16 (by decide) ?_
    exact hret _ _ _ (congrArg nI (by first | exact SW_beh S c5 | exact (by rw [show r = cl by omega]; exact SW_n S))) dX4_behind_23
set_option maxHeartbeats 4000000 in
set_option maxRecDepth 100000 in
theorem c_X4_firstByte (aW : Nat → Nat) (n : Nat) (cl : Nat) (th : Nat → Nat) (ki : Nat → Nat) (va : Nat → Nat) (re : Nat → Nat) (fi : Nat → Nat) (v : Nat) (J : IW n cl th ki va re fi) (hv9 : v < 40) : CP l D (TY cI cZ cS) yX4_firstByte cX4_firstByte 2 .int 0 [.ref (aW 0), .int (nI v)] (wW cI aW n cl th ki va re fi) (.int (nI (5 * v + 2 * re v))) := by
  refine CP.ofI (by decide +kernel) (Nat.le_of_ble_eq_true rfl) (nar_int _) ?_
  intro p e s m args below meth c Q G K hP hret ls hl
  obtain ⟨hx, hb, hml, hown, hts⟩ := id G
  obtain ⟨hn, hcl, hth, hki, hva, hre, hfi⟩ := id J
  have hl : lv_has ls 2 [(0, .ref (aW 0)), (1, .int (nI v))] := hl
  refine lv_iconst (v := (nI 5)) hx hb dX4_firstByte_0 (by decide) ?_
  refine lv_iload_n hx hb dX4_firstByte_1 rfl (lv_at hl 1 rfl) ?_
  refine t_mul G dX4_firstByte_2 ?_
  refine lv_iconst (v := (nI 2)) hx hb dX4_firstByte_3 (by decide) ?_
  refine lv_aload_n hx hb dX4_firstByte_4 rfl (lv_at hl 0 rfl) ?_
  refine f_get G K hP inX4 0 (ci := 4) rfl rfl 3 rfl fl_X4_21 (v := .ref (aW 4)) rfl dX4_firstByte_5 ?_
  refine lv_iload_n hx hb dX4_firstByte_8 rfl (lv_at hl 1 rfl) ?_
  refine a_ldN G K hP 4 0 (a := (aW 4)) rfl rfl (by omega) (by decide) dX4_firstByte_9 ?_
  have hb1 := hre v
  refine t_mul G dX4_firstByte_10 ?_
  refine t_add G dX4_firstByte_11 ?_
  exact hret _ _ _ rfl dX4_firstByte_12
set_option maxHeartbeats 4000000 in
set_option maxRecDepth 100000 in
theorem c_X4_firstByteOf (aW : Nat → Nat) (n : Nat) (cl : Nat) (th : Nat → Nat) (ki : Nat → Nat) (va : Nat → Nat) (re : Nat → Nat) (fi : Nat → Nat) (r : Nat) (J : IW n cl th ki va re fi) (S : SW n cl re fi) (hr9 : r ≤ cl) : CP l D (TY cI cZ cS) yX4_firstByteOf cX4_firstByteOf 2 .int 0 [.ref (aW 0), .int (nI r)] (wW cI aW n cl th ki va re fi) (.int (nI (begB re n r))) := by
  refine CP.ofI (by decide +kernel) (Nat.le_of_ble_eq_true rfl) (nar_int _) ?_
  intro p e s m args below meth c Q G K hP hret ls hl
  obtain ⟨hx, hb, hml, hown, hts⟩ := id G
  obtain ⟨hn, hcl, hth, hki, hva, hre, hfi⟩ := id J
  have hl : lv_has ls 2 [(0, .ref (aW 0)), (1, .int (nI r))] := hl
  refine lv_iconst (v := (nI 5)) hx hb dX4_firstByteOf_0 (by decide) ?_
  refine lv_aload_n hx hb dX4_firstByteOf_1 rfl (lv_at hl 0 rfl) ?_
  refine f_get G K hP inX4 0 (ci := 4) rfl rfl 4 rfl fl_X4_24 (v := .ref (aW 5)) rfl dX4_firstByteOf_2 ?_
  refine lv_iload_n hx hb dX4_firstByteOf_5 rfl (lv_at hl 1 rfl) ?_
  refine a_ldN G K hP 5 0 (a := (aW 5)) rfl rfl (by omega) (by decide) dX4_firstByteOf_6 ?_
  have hb1 := hfi r
  refine t_mul G dX4_firstByteOf_7 ?_
  refine lv_iconst (v := (nI 2)) hx hb dX4_firstByteOf_8 (by decide) ?_
  refine lv_iload_n hx hb dX4_firstByteOf_9 rfl (lv_at hl 1 rfl) ?_
  refine t_mul G dX4_firstByteOf_10 ?_
  refine t_add G dX4_firstByteOf_11 ?_
  exact hret _ _ _ (congrArg nI (by rw [S.1 r hr9]; rfl)) dX4_firstByteOf_12
set_option maxHeartbeats 4000000 in
set_option maxRecDepth 100000 in
theorem c_X4_behindBytesOf (aW : Nat → Nat) (n : Nat) (cl : Nat) (th : Nat → Nat) (ki : Nat → Nat) (va : Nat → Nat) (re : Nat → Nat) (fi : Nat → Nat) (r : Nat) (J : IW n cl th ki va re fi) (S : SW n cl re fi) (hr9 : r ≤ cl) : CP l D (TY cI cZ cS) yX4_behindBytesOf cX4_behindBytesOf 2 .int 0 [.ref (aW 0), .int (nI r)] (wW cI aW n cl th ki va re fi) (.int (nI (endB re n cl r))) := by
  refine CP.ofI (by decide +kernel) (Nat.le_of_ble_eq_true rfl) (nar_int _) ?_
  intro p e s m args below meth c Q G K hP hret ls hl
  obtain ⟨hx, hb, hml, hown, hts⟩ := id G
  obtain ⟨hn, hcl, hth, hki, hva, hre, hfi⟩ := id J
  have hl : lv_has ls 2 [(0, .ref (aW 0)), (1, .int (nI r))] := hl
  refine lv_iload_n hx hb dX4_behindBytesOf_0 rfl (lv_at hl 1 rfl) ?_
  refine lv_aload_n hx hb dX4_behindBytesOf_1 rfl (lv_at hl 0 rfl) ?_
  refine f_get G K hP inX4 0 (ci := 4) rfl rfl 6 rfl fl_X4_31 (v := .int (nI cl)) rfl dX4_behindBytesOf_2 ?_
  refine c_ge G (tgt := 27) (by omega) (by omega) dX4_behindBytesOf_5 (by decide) (fun c5 => ?_) (fun c5 => ?_)
  · -- taken at 5
    refine lv_iconst (v := (nI 5)) hx hb dX4_behindBytesOf_27 (by decide) ?_
    refine lv_aload_n hx hb dX4_behindBytesOf_28 rfl (lv_at hl 0 rfl) ?_
    refine f_get G K hP inX4 0 (ci := 4) rfl rfl 5 rfl fl_X4_27 (v := .int (nI n)) rfl dX4_behindBytesOf_29 ?_
    refine t_mul G dX4_behindBytesOf_32 ?_
    refine lv_iconst (v := (nI 2)) hx hb dX4_behindBytesOf_33 (by decide) ?_
    refine lv_iload_n hx hb dX4_behindBytesOf_34 rfl (lv_at hl 1 rfl) ?_
    refine t_mul G dX4_behindBytesOf_35 ?_
    refine t_add G dX4_behindBytesOf_36 ?_
    exact hret _ _ _ (congrArg nI (by unfold endB begB; first | (rw [if_pos c5, SW_beh S c5]; omega) | (rw [if_neg (by omega)]; have h1 := SW_n S; rw [show r = cl by omega]; omega))) dX4_behindBytesOf_37
  · -- not taken at 5
    refine lv_iconst (v := (nI 5)) hx hb dX4_behindBytesOf_8 (by decide) ?_
    refine lv_aload_n hx hb dX4_behindBytesOf_9 rfl (lv_at hl 0 rfl) ?_
    refine f_get G K hP inX4 0 (ci := 4) rfl rfl 4 rfl fl_X4_24 (v := .ref (aW 5)) rfl dX4_behindBytesOf_10 ?_
    refine lv_iload_n hx hb dX4_behindBytesOf_13 rfl (lv_at hl 1 rfl) ?_
    refine lv_iconst (v := (nI 1)) hx hb dX4_behindBytesOf_14 (by decide) ?_
    refine t_add G dX4_behindBytesOf_15 ?_
    refine a_ldN G K hP 5 0 (a := (aW 5)) rfl rfl (by omega) (by decide) dX4_behindBytesOf_16 ?_
    have hb1 := hfi (r + 1)
    refine t_mul G dX4_behindBytesOf_17 ?_
    refine lv_iconst (v := (nI 2)) hx hb dX4_behindBytesOf_18 (by decide) ?_
    refine lv_iload_n hx hb dX4_behindBytesOf_19 rfl (lv_at hl 1 rfl) ?_
    refine lv_iconst (v := (nI 1)) hx hb dX4_behindBytesOf_20 (by decide) ?_
    refine t_add G dX4_behindBytesOf_21 ?_
    refine t_mul G dX4_behindBytesOf_22 ?_
    refine t_add G dX4_behindBytesOf_23 ?_
    refine lv_goto (tgt := 37) hx hb dX4_behindBytesOf_24 (by decide) ?_
    exact hret _ _ _ (congrArg nI (by unfold endB begB; first | (rw [if_pos c5, SW_beh S c5]; omega) | (rw [if_neg (by omega)]; have h1 := SW_n S; rw [show r = cl by omega]; omega))) dX4_behindBytesOf_37
set_option maxHeartbeats 4000000 in
set_option maxRecDepth 100000 in
theorem c_X0_has (aB : Nat → Nat) (bt : Nat → Nat) (bs : Nat) (x : Int32) (B9 : (∀ j, bt j ≤ 255) ∧ bs ≤ 216) : CP l D (TY cI cZ cS) yX0_has cX0_has 2 .boolean 0 [.ref (aB 0), .int x] (wB cI aB bt bs) (.int (bI (okW bs x))) := by
  refine CP.ofI (by decide +kernel) (Nat.le_of_ble_eq_true rfl) (bI_nar _) ?_
  intro p e s m args below meth c Q G K hP hret ls hl
  obtain ⟨hx, hb, hml, hown, hts⟩ := id G
  obtain ⟨hbt, hbs⟩ := id B9
  have hl : lv_has ls 2 [(0, .ref (aB 0)), (1, .int x)] := hl
  refine lv_iload_n hx hb dX0_has_0 rfl (lv_at hl 1 rfl) ?_
  refine lv_if_lt (tgt := 16) hx hb dX0_has_1 (by decide) (fun c1 => ?_) (fun c1 => ?_)
  · -- taken at 1
    refine lv_iconst (v := (nI 0)) hx hb dX0_has_16 (by decide) ?_
    exact hret _ _ _ (by first | exact b1 (has_iff (by omega) c1 c9) | exact b0 (has_lt (by omega) c1) | exact b0 (has_ge (by omega) c9)) dX0_has_17
  · -- not taken at 1
    refine lv_iload_n hx hb dX0_has_4 rfl (lv_at hl 1 rfl) ?_
    refine lv_aload_n hx hb dX0_has_5 rfl (lv_at hl 0 rfl) ?_
    refine f_get G K hP inX0 0 (ci := 0) rfl rfl 1 rfl fl_X0_15 (v := .int (nI bs)) rfl dX0_has_6 ?_
    refine lv_icmp_ge (tgt := 16) hx hb dX0_has_9 (by decide) (fun c9 => ?_) (fun c9 => ?_)
    · -- taken at 9
      refine lv_iconst (v := (nI 0)) hx hb dX0_has_16 (by decide) ?_
      exact hret _ _ _ (by first | exact b1 (has_iff (by omega) c1 c9) | exact b0 (has_lt (by omega) c1) | exact b0 (has_ge (by omega) c9)) dX0_has_17
    · -- not taken at 9
      refine lv_iconst (v := (nI 1)) hx hb dX0_has_12 (by decide) ?_
      refine lv_goto (tgt := 17) hx hb dX0_has_13 (by decide) ?_
      exact hret _ _ _ (by first | exact b1 (has_iff (by omega) c1 c9) | exact b0 (has_lt (by omega) c1) | exact b0 (has_ge (by omega) c9)) dX0_has_17
set_option maxHeartbeats 4000000 in
set_option maxRecDepth 100000 in
theorem c_X0_layValue (aB : Nat → Nat) (bt : Nat → Nat) (bs : Nat) (i : Nat) (v : Nat) (B9 : (∀ j, bt j ≤ 255) ∧ bs ≤ 216) (hi9 : i + 1 < 216) (hv9 : v ≤ 65535) : CM l D (TY cI cZ cS) yX0_layValue cX0_layValue 3 none 0 [.ref (aB 0), .int (nI i), .int (nI v)] (wB cI aB bt bs) none (wB cI aB (va_up (va_up bt i (v / 256)) (i + 1) (v % 256)) bs) := by
  refine CM.ofV (by decide +kernel) (Nat.le_of_ble_eq_true rfl) ?_
  intro p e s m args below meth c Q A G K hA w hret ls hl
  obtain ⟨hx, hb, hml, hown, hts⟩ := id G
  obtain ⟨hbt, hbs⟩ := id B9
  have hl : lv_has ls 3 [(0, .ref (aB 0)), (1, .int (nI i)), (2, .int (nI v))] := hl
  refine lv_aload_n hx hb dX0_layValue_0 rfl (lv_at hl 0 rfl) ?_
  refine f_get G K w.1 inX0 0 (ci := 0) rfl rfl 0 rfl fl_X0_9 (v := .ref (aB 1)) rfl dX0_layValue_1 ?_
  refine lv_iload_n hx hb dX0_layValue_4 rfl (lv_at hl 1 rfl) ?_
  refine lv_iload_n hx hb dX0_layValue_5 rfl (lv_at hl 2 rfl) ?_
  refine lv_sipush (v := (nI 256)) hx hb dX0_layValue_6 (by decide) ?_
  refine t_div G (by omega) (by decide) (by decide) dX0_layValue_9 ?_
  refine a_stN G K w 1 0 (a := (aB 1)) rfl rfl (by omega) (by decide) dX0_layValue_10 (w2 := (wB cI aB (va_up bt i (v / 256)) bs)) rfl (fun Hp1 lo2 w => ?_)
  refine lv_aload_n hx hb dX0_layValue_11 rfl (lv_at hl 0 rfl) ?_
  refine f_get G K w.1 inX0 0 (ci := 0) rfl rfl 0 rfl fl_X0_9 (v := .ref (aB 1)) rfl dX0_layValue_12 ?_
  refine lv_iload_n hx hb dX0_layValue_15 rfl (lv_at hl 1 rfl) ?_
  refine lv_iconst (v := (nI 1)) hx hb dX0_layValue_16 (by decide) ?_
  refine t_add G dX0_layValue_17 ?_
  refine lv_iload_n hx hb dX0_layValue_18 rfl (lv_at hl 2 rfl) ?_
  refine lv_sipush (v := (nI 256)) hx hb dX0_layValue_19 (by decide) ?_
  refine t_rem G (by omega) (by decide) (by decide) dX0_layValue_22 ?_
  refine a_stN G K w 1 0 (a := (aB 1)) rfl rfl (by omega) (by decide) dX0_layValue_23 (w2 := (wB cI aB (va_up (va_up bt i (v / 256)) (i + 1) (v % 256)) bs)) rfl (fun Hp3 lo4 w => ?_)
  exact hret _ _ _ _ _ rfl w dX0_layValue_24
set_option maxHeartbeats 4000000 in
set_option maxRecDepth 100000 in
theorem c_X0_appendWrite (aB : Nat → Nat) (bt : Nat → Nat) (bs : Nat) (t : Nat) (k : Nat) (v : Nat) (B9 : (∀ j, bt j ≤ 255) ∧ bs ≤ 216) (hb9 : bs + 5 ≤ 216) (ht9 : t ≤ 15) (hk9 : k ≤ 5) (hv9 : v ≤ 65535) : CM l D (TY cI cZ cS) yX0_appendWrite cX0_appendWrite 4 none 1 [.ref (aB 0), .int (nI t), .int (nI k), .int (nI v)] (wB cI aB bt bs) none (wB cI aB (va_up (va_up (va_up (va_up (va_up bt bs 79) (bs + 1) t) (bs + 2) k) (bs + 3) (v / 256)) (bs + 3 + 1) (v % 256)) (bs + 5)) := by
  refine CM.ofV (by decide +kernel) (Nat.le_of_ble_eq_true rfl) ?_
  intro p e s m args below meth c Q A G K hA w hret ls hl
  obtain ⟨hx, hb, hml, hown, hts⟩ := id G
  obtain ⟨hbt, hbs⟩ := id B9
  have hl : lv_has ls 4 [(0, .ref (aB 0)), (1, .int (nI t)), (2, .int (nI k)), (3, .int (nI v))] := hl
  refine lv_aload_n hx hb dX0_appendWrite_0 rfl (lv_at hl 0 rfl) ?_
  refine f_get G K w.1 inX0 0 (ci := 0) rfl rfl 0 rfl fl_X0_9 (v := .ref (aB 1)) rfl dX0_appendWrite_1 ?_
  refine lv_aload_n hx hb dX0_appendWrite_4 rfl (lv_at hl 0 rfl) ?_
  refine f_get G K w.1 inX0 0 (ci := 0) rfl rfl 1 rfl fl_X0_15 (v := .int (nI bs)) rfl dX0_appendWrite_5 ?_
  refine lv_bipush (v := (nI 79)) hx hb dX0_appendWrite_8 (by decide) ?_
  refine a_stN G K w 1 0 (a := (aB 1)) rfl rfl (by omega) (by decide) dX0_appendWrite_10 (w2 := (wB cI aB (va_up bt bs 79) bs)) rfl (fun Hp1 lo2 w => ?_)
  refine lv_aload_n hx hb dX0_appendWrite_11 rfl (lv_at hl 0 rfl) ?_
  refine f_get G K w.1 inX0 0 (ci := 0) rfl rfl 0 rfl fl_X0_9 (v := .ref (aB 1)) rfl dX0_appendWrite_12 ?_
  refine lv_aload_n hx hb dX0_appendWrite_15 rfl (lv_at hl 0 rfl) ?_
  refine f_get G K w.1 inX0 0 (ci := 0) rfl rfl 1 rfl fl_X0_15 (v := .int (nI bs)) rfl dX0_appendWrite_16 ?_
  refine lv_iconst (v := (nI 1)) hx hb dX0_appendWrite_19 (by decide) ?_
  refine t_add G dX0_appendWrite_20 ?_
  refine lv_iload_n hx hb dX0_appendWrite_21 rfl (lv_at hl 1 rfl) ?_
  refine a_stN G K w 1 0 (a := (aB 1)) rfl rfl (by omega) (by decide) dX0_appendWrite_22 (w2 := (wB cI aB (va_up (va_up bt bs 79) (bs + 1) t) bs)) rfl (fun Hp3 lo4 w => ?_)
  refine lv_aload_n hx hb dX0_appendWrite_23 rfl (lv_at hl 0 rfl) ?_
  refine f_get G K w.1 inX0 0 (ci := 0) rfl rfl 0 rfl fl_X0_9 (v := .ref (aB 1)) rfl dX0_appendWrite_24 ?_
  refine lv_aload_n hx hb dX0_appendWrite_27 rfl (lv_at hl 0 rfl) ?_
  refine f_get G K w.1 inX0 0 (ci := 0) rfl rfl 1 rfl fl_X0_15 (v := .int (nI bs)) rfl dX0_appendWrite_28 ?_
  refine lv_iconst (v := (nI 2)) hx hb dX0_appendWrite_31 (by decide) ?_
  refine t_add G dX0_appendWrite_32 ?_
  refine lv_iload_n hx hb dX0_appendWrite_33 rfl (lv_at hl 2 rfl) ?_
  refine a_stN G K w 1 0 (a := (aB 1)) rfl rfl (by omega) (by decide) dX0_appendWrite_34 (w2 := (wB cI aB (va_up (va_up (va_up bt bs 79) (bs + 1) t) (bs + 2) k) bs)) rfl (fun Hp5 lo6 w => ?_)
  refine lv_aload_n hx hb dX0_appendWrite_35 rfl (lv_at hl 0 rfl) ?_
  refine lv_aload_n hx hb dX0_appendWrite_36 rfl (lv_at hl 0 rfl) ?_
  refine f_get G K w.1 inX0 0 (ci := 0) rfl rfl 1 rfl fl_X0_15 (v := .int (nI bs)) rfl dX0_appendWrite_37 ?_
  refine lv_iconst (v := (nI 3)) hx hb dX0_appendWrite_40 (by decide) ?_
  refine t_add G dX0_appendWrite_41 ?_
  refine lv_iload_n hx hb dX0_appendWrite_42 rfl (lv_at hl 3 rfl) ?_
  refine callMF (As := [.int (nI (bs + 3)), .int (nI v)]) (rest := []) (q0 := 0) (ci := 0) (ws' := (wB cI aB (va_up (va_up (va_up (va_up (va_up bt bs 79) (bs + 1) t) (bs + 2) k) (bs + 3) (v / 256)) ((bs + 3) + 1) (v % 256)) bs)) G K hA w F_X0_layValue (c_X0_layValue aB (va_up (va_up (va_up bt bs 79) (bs + 1) t) (bs + 2) k) bs (bs + 3) v ⟨up_le (up_le (up_le hbt (by omega)) (by omega)) (by omega), hbs⟩ (by omega) (by omega)) ml_X0_19 rfl rfl rfl (by decide) (by decide) rfl hl.1 (Nat.le_of_ble_eq_true rfl) dX0_appendWrite_43 (fun Hp7 lo8 w => ?_)
  refine lv_aload_n hx hb dX0_appendWrite_46 rfl (lv_at hl 0 rfl) ?_
  refine lv_dup hx hb dX0_appendWrite_47 rfl ?_
  refine f_get G K w.1 inX0 0 (ci := 0) rfl rfl 1 rfl fl_X0_15 (v := .int (nI bs)) rfl dX0_appendWrite_48 ?_
  refine lv_iconst (v := (nI 5)) hx hb dX0_appendWrite_51 (by decide) ?_
  refine t_add G dX0_appendWrite_52 ?_
  refine f_put G K w inX0 tyX0 tyX0_ok nmX0 0 (ci := 0) rfl rfl 1 rfl fl_X0_15 rfl rfl rfl rfl dX0_appendWrite_53 (w2 := (wB cI aB (va_up (va_up (va_up (va_up (va_up bt bs 79) (bs + 1) t) (bs + 2) k) (bs + 3) (v / 256)) ((bs + 3) + 1) (v % 256)) (bs + 5))) rfl (fun Hp9 lo10 w => ?_)
  exact hret _ _ _ _ _ rfl w dX0_appendWrite_56
set_option maxHeartbeats 4000000 in
set_option maxRecDepth 100000 in
theorem c_X0_appendClosing (aB : Nat → Nat) (bt : Nat → Nat) (bs : Nat) (r : Nat) (B9 : (∀ j, bt j ≤ 255) ∧ bs ≤ 216) (hb9 : bs + 2 ≤ 216) : CM l D (TY cI cZ cS) yX0_appendClosing cX0_appendClosing 2 none 0 [.ref (aB 0), .int (nI r)] (wB cI aB bt bs) none (wB cI aB (va_up (va_up bt bs 0) (bs + 1) r) (bs + 2)) := by
  refine CM.ofV (by decide +kernel) (Nat.le_of_ble_eq_true rfl) ?_
  intro p e s m args below meth c Q A G K hA w hret ls hl
  obtain ⟨hx, hb, hml, hown, hts⟩ := id G
  obtain ⟨hbt, hbs⟩ := id B9
  have hl : lv_has ls 2 [(0, .ref (aB 0)), (1, .int (nI r))] := hl
  refine lv_aload_n hx hb dX0_appendClosing_0 rfl (lv_at hl 0 rfl) ?_
  refine f_get G K w.1 inX0 0 (ci := 0) rfl rfl 0 rfl fl_X0_9 (v := .ref (aB 1)) rfl dX0_appendClosing_1 ?_
  refine lv_aload_n hx hb dX0_appendClosing_4 rfl (lv_at hl 0 rfl) ?_
  refine f_get G K w.1 inX0 0 (ci := 0) rfl rfl 1 rfl fl_X0_15 (v := .int (nI bs)) rfl dX0_appendClosing_5 ?_
  refine lv_iconst (v := (nI 0)) hx hb dX0_appendClosing_8 (by decide) ?_
  refine a_stN G K w 1 0 (a := (aB 1)) rfl rfl (by omega) (by decide) dX0_appendClosing_9 (w2 := (wB cI aB (va_up bt bs 0) bs)) rfl (fun Hp1 lo2 w => ?_)
  refine lv_aload_n hx hb dX0_appendClosing_10 rfl (lv_at hl 0 rfl) ?_
  refine f_get G K w.1 inX0 0 (ci := 0) rfl rfl 0 rfl fl_X0_9 (v := .ref (aB 1)) rfl dX0_appendClosing_11 ?_
  refine lv_aload_n hx hb dX0_appendClosing_14 rfl (lv_at hl 0 rfl) ?_
  refine f_get G K w.1 inX0 0 (ci := 0) rfl rfl 1 rfl fl_X0_15 (v := .int (nI bs)) rfl dX0_appendClosing_15 ?_
  refine lv_iconst (v := (nI 1)) hx hb dX0_appendClosing_18 (by decide) ?_
  refine t_add G dX0_appendClosing_19 ?_
  refine lv_iload_n hx hb dX0_appendClosing_20 rfl (lv_at hl 1 rfl) ?_
  refine a_stN G K w 1 0 (a := (aB 1)) rfl rfl (by omega) (by decide) dX0_appendClosing_21 (w2 := (wB cI aB (va_up (va_up bt bs 0) (bs + 1) r) bs)) rfl (fun Hp3 lo4 w => ?_)
  refine lv_aload_n hx hb dX0_appendClosing_22 rfl (lv_at hl 0 rfl) ?_
  refine lv_dup hx hb dX0_appendClosing_23 rfl ?_
  refine f_get G K w.1 inX0 0 (ci := 0) rfl rfl 1 rfl fl_X0_15 (v := .int (nI bs)) rfl dX0_appendClosing_24 ?_
  refine lv_iconst (v := (nI 2)) hx hb dX0_appendClosing_27 (by decide) ?_
  refine t_add G dX0_appendClosing_28 ?_
  refine f_put G K w inX0 tyX0 tyX0_ok nmX0 0 (ci := 0) rfl rfl 1 rfl fl_X0_15 rfl rfl rfl rfl dX0_appendClosing_29 (w2 := (wB cI aB (va_up (va_up bt bs 0) (bs + 1) r) (bs + 2))) rfl (fun Hp5 lo6 w => ?_)
  exact hret _ _ _ _ _ rfl w dX0_appendClosing_32
set_option maxHeartbeats 4000000 in
set_option maxRecDepth 100000 in
theorem c_X0_dropWrite (aB : Nat → Nat) (bt : Nat → Nat) (bs : Nat) (B9 : (∀ j, bt j ≤ 255) ∧ bs ≤ 216) (hb9 : 5 ≤ bs) : CM l D (TY cI cZ cS) yX0_dropWrite cX0_dropWrite 1 none 0 [.ref (aB 0)] (wB cI aB bt bs) none (wB cI aB bt (bs - 5)) := by
  refine CM.ofV (by decide +kernel) (Nat.le_of_ble_eq_true rfl) ?_
  intro p e s m args below meth c Q A G K hA w hret ls hl
  obtain ⟨hx, hb, hml, hown, hts⟩ := id G
  obtain ⟨hbt, hbs⟩ := id B9
  have hl : lv_has ls 1 [(0, .ref (aB 0))] := hl
  refine lv_aload_n hx hb dX0_dropWrite_0 rfl (lv_at hl 0 rfl) ?_
  refine lv_dup hx hb dX0_dropWrite_1 rfl ?_
  refine f_get G K w.1 inX0 0 (ci := 0) rfl rfl 1 rfl fl_X0_15 (v := .int (nI bs)) rfl dX0_dropWrite_2 ?_
  refine lv_iconst (v := (nI 5)) hx hb dX0_dropWrite_5 (by decide) ?_
  refine t_sub G (by omega) dX0_dropWrite_6 ?_
  refine f_put G K w inX0 tyX0 tyX0_ok nmX0 0 (ci := 0) rfl rfl 1 rfl fl_X0_15 rfl rfl rfl rfl dX0_dropWrite_7 (w2 := (wB cI aB bt (bs - 5))) rfl (fun Hp1 lo2 w => ?_)
  exact hret _ _ _ _ _ rfl w dX0_dropWrite_10
set_option maxHeartbeats 4000000 in
set_option maxRecDepth 100000 in
theorem c_X0_lengthWithin (aB : Nat → Nat) (bt : Nat → Nat) (bs : Nat) (x : Nat) (y : Nat) (B9 : (∀ j, bt j ≤ 255) ∧ bs ≤ 216) (hx9 : x ≤ 400) (hy9 : y ≤ 400) : CP l D (TY cI cZ cS) yX0_lengthWithin cX0_lengthWithin 3 .int 1 [.ref (aB 0), .int (nI x), .int (nI y)] (wB cI aB bt bs) (.int (nI (min y bs - x))) := by
  refine CP.ofI (by decide +kernel) (Nat.le_of_ble_eq_true rfl) (nar_int _) ?_
  intro p e s m args below meth c Q G K hP hret ls hl
  obtain ⟨hx, hb, hml, hown, hts⟩ := id G
  obtain ⟨hbt, hbs⟩ := id B9
  have hl : lv_has ls 3 [(0, .ref (aB 0)), (1, .int (nI x)), (2, .int (nI y))] := hl
  refine lv_iconst (v := (nI 0)) hx hb dX0_lengthWithin_0 (by decide) ?_
  refine lv_iload_n hx hb dX0_lengthWithin_1 rfl (lv_at hl 2 rfl) ?_
  refine lv_aload_n hx hb dX0_lengthWithin_2 rfl (lv_at hl 0 rfl) ?_
  refine f_get G K hP inX0 0 (ci := 0) rfl rfl 1 rfl fl_X0_15 (v := .int (nI bs)) rfl dX0_lengthWithin_3 ?_
  refine va_mmin hx hb (hml.trans hl.1.symm) hown (hts _ ml_X0_23) (hts _ st_J9_min_7cf53) (hts _ in_J9) (hts _ cd_J9_min_7cf53) (Nat.le_of_ble_eq_true rfl) (Nat.le_of_ble_eq_true rfl) (Nat.le_refl 0) (Nat.le_refl 0) dX0_lengthWithin_6 ?_
  refine t_i (y := nI (min y bs)) (m_min (by omega) (by omega)) ?_
  refine lv_iload_n hx hb dX0_lengthWithin_9 rfl (lv_at hl 1 rfl) ?_
  refine lv_isub hx hb dX0_lengthWithin_10 ?_
  refine va_mmax hx hb (hml.trans hl.1.symm) hown (hts _ ml_X0_29) (hts _ st_J9_max_7cf53) (hts _ in_J9) (hts _ cd_J9_max_7cf53) (Nat.le_of_ble_eq_true rfl) (Nat.le_of_ble_eq_true rfl) (Nat.le_refl 0) (Nat.le_refl 0) dX0_lengthWithin_11 ?_
  exact hret _ _ _ (tr_sub (by omega) (by omega)) dX0_lengthWithin_14
set_option maxHeartbeats 4000000 in
set_option maxRecDepth 100000 in
theorem c_X0_numberOver (aB : Nat → Nat) (bt : Nat → Nat) (bs : Nat) (h : Int32) (x : Nat) (y : Nat) (B9 : (∀ j, bt j ≤ 255) ∧ bs ≤ 216) (hx9 : x ≤ 400) (hy9 : y ≤ 400) : CP l D (TY cI cZ cS) yX0_numberOver cX0_numberOver 7 .int 1 [.ref (aB 0), .int h, .int (nI x), .int (nI y)] (wB cI aB bt bs) (.int (numS (fun i => nI (bt i)) h x (min y bs - x))) := by
  refine CP.ofI (by decide +kernel) (Nat.le_of_ble_eq_true rfl) (nar_int _) ?_
  intro p e s m args below meth c Q G K hP hret ls hl
  obtain ⟨hx, hb, hml, hown, hts⟩ := id G
  obtain ⟨hbt, hbs⟩ := id B9
  have hl : lv_has ls 7 [(0, .ref (aB 0)), (1, .int h), (2, .int (nI x)), (3, .int (nI y))] := hl
  refine lv_iload_n hx hb dX0_numberOver_0 rfl (lv_at hl 1 rfl) ?_
  refine t_i (y := (numS (fun i => nI (bt i)) h x 0)) rfl ?_
  refine lv_istore (lv' := [(4, .int (numS (fun i => nI (bt i)) h x 0)), (0, .ref (aB 0)), (1, .int h), (2, .int (nI x)), (3, .int (nI y))]) hx hb dX0_numberOver_1 hl (by decide) rfl (fun ls hl => ?_)
  refine lv_iload_n hx hb dX0_numberOver_3 rfl (lv_at hl 4 rfl) ?_
  refine lv_aload_n hx hb dX0_numberOver_4 rfl (lv_at hl 1 rfl) ?_
  refine f_get G K hP inX0 0 (ci := 0) rfl rfl 1 rfl fl_X0_15 (v := .int (nI bs)) rfl dX0_numberOver_5 ?_
  refine va_mmin hx hb (hml.trans hl.1.symm) hown (hts _ ml_X0_23) (hts _ st_J9_min_7cf53) (hts _ in_J9) (hts _ cd_J9_min_7cf53) (Nat.le_of_ble_eq_true rfl) (Nat.le_of_ble_eq_true rfl) (Nat.le_refl 0) (Nat.le_refl 0) dX0_numberOver_8 ?_
  refine t_i (y := nI (min y bs)) (m_min (by omega) (by omega)) ?_
  refine lv_istore (lv' := [(5, .int (nI (min y bs))), (4, .int (numS (fun i => nI (bt i)) h x 0)), (0, .ref (aB 0)), (1, .int h), (2, .int (nI x)), (3, .int (nI y))]) hx hb dX0_numberOver_11 hl (by decide) rfl (fun ls hl => ?_)
  refine lv_iload_n hx hb dX0_numberOver_13 rfl (lv_at hl 4 rfl) ?_
  refine lv_istore (lv' := [(6, .int (nI x)), (5, .int (nI (min y bs))), (4, .int (numS (fun i => nI (bt i)) h x 0)), (0, .ref (aB 0)), (1, .int h), (2, .int (nI x)), (3, .int (nI y))]) hx hb dX0_numberOver_14 hl (by decide) rfl (fun ls hl => ?_)
  have L16 : ∀ (d j : Nat), 0 ≤ j → j + d = min y bs - x → ∀ (ls : Array Slot), lv_has ls 7 [(0, .ref (aB 0)), (1, .int h), (2, .int (nI x)), (3, .int (nI y)), (4, .int (numS (fun i => nI (bt i)) h x j)), (5, .int (nI (min y bs))), (6, .int (nI (x + j)))] → W p l e (RM 1) s m args below meth c s.heap [] 0 0 Q (F0 m 16 ls []) := by
    intro d
    induction d with
    | zero =>
      intro j hlo16 hhi16 ls hl
      refine lv_iload hx hb dX0_numberOver_16 (lv_at hl 6 rfl) ?_
      refine lv_iload hx hb dX0_numberOver_18 (lv_at hl 5 rfl) ?_
      refine c_ge G (tgt := 44) (by omega) (by omega) dX0_numberOver_20 (by decide) (fun c20 => ?_) (fun c20 => ?_)
      · -- taken at 20
        refine lv_iload hx hb dX0_numberOver_44 (lv_at hl 4 rfl) ?_
        exact hret _ _ _ (by rw [show j = min y bs - x by omega]) dX0_numberOver_46
      · -- not taken at 20
        exact absurd c20 (by omega)
    | succ d ih =>
      intro j hlo16 hhi16 ls hl
      refine lv_iload hx hb dX0_numberOver_16 (lv_at hl 6 rfl) ?_
      refine lv_iload hx hb dX0_numberOver_18 (lv_at hl 5 rfl) ?_
      refine c_ge G (tgt := 44) (by omega) (by omega) dX0_numberOver_20 (by decide) (fun c20 => ?_) (fun c20 => ?_)
      · -- taken at 20
        exact absurd c20 (by omega)
      · -- not taken at 20
        refine lv_bipush (v := (nI 31)) hx hb dX0_numberOver_23 (by decide) ?_
        refine lv_iload hx hb dX0_numberOver_25 (lv_at hl 4 rfl) ?_
        refine lv_imul hx hb dX0_numberOver_27 ?_
        refine lv_aload_n hx hb dX0_numberOver_28 rfl (lv_at hl 0 rfl) ?_
        refine f_get G K hP inX0 0 (ci := 0) rfl rfl 0 rfl fl_X0_9 (v := .ref (aB 1)) rfl dX0_numberOver_29 ?_
        refine lv_iload hx hb dX0_numberOver_32 (lv_at hl 6 rfl) ?_
        refine a_ldN G K hP 1 0 (a := (aB 1)) rfl rfl (by omega) (by decide) dX0_numberOver_34 ?_
        have hb1 := hbt (x + j)
        refine lv_iadd hx hb dX0_numberOver_35 ?_
        refine t_i (y := (numS (fun i => nI (bt i)) h x (j + 1))) rfl ?_
        refine lv_istore (lv' := [(4, .int (numS (fun i => nI (bt i)) h x (j + 1))), (0, .ref (aB 0)), (1, .int h), (2, .int (nI x)), (3, .int (nI y)), (5, .int (nI (min y bs))), (6, .int (nI (x + j)))]) hx hb dX0_numberOver_36 hl (by decide) rfl (fun ls hl => ?_)
        refine lv_iinc (v := (nI (x + j + 1))) (lv' := [(6, .int (nI (x + j + 1))), (4, .int (numS (fun i => nI (bt i)) h x (j + 1))), (0, .ref (aB 0)), (1, .int h), (2, .int (nI x)), (3, .int (nI y)), (5, .int (nI (min y bs)))]) hx hb dX0_numberOver_38 hl (k := 6) rfl (nI_inc _ 1) (by decide) rfl (fun ls hl => ?_)
        refine lv_goto (tgt := 16) hx hb dX0_numberOver_41 (by decide) ?_
        -- slot 6: have n:x + j + 1, want n:x + (j + 1)
        exact ih (j + 1) (by omega) (by omega) ls (lv_sub hl [2, 3, 4, 5, 1, 6, 0] rfl)
  exact L16 (min y bs - x - 0) (0) (Nat.le_refl _) (by omega) ls (lv_sub hl [3, 4, 5, 6, 2, 1, 0] rfl)
set_option maxHeartbeats 4000000 in
set_option maxRecDepth 100000 in
theorem c_X1_forget (aW : Nat → Nat) (n : Nat) (cl : Nat) (th : Nat → Nat) (ki : Nat → Nat) (va : Nat → Nat) (re : Nat → Nat) (fi : Nat → Nat) (aB : Nat → Nat) (bt : Nat → Nat) (bs : Nat) (aC : Nat → Nat) (to : Nat → Prop) (co : Nat → Nat) (ke : Nat → Int32) (nu : Nat → Int32) (fw : Nat → Nat) (v : Nat) (J : IW n cl th ki va re fi) (S : SW n cl re fi) (B9 : (∀ j, bt j ≤ 255) ∧ bs ≤ 216) (C9 : (∀ j, co j ≤ 400) ∧ (∀ j, fw j ≤ 15)) (hv9 : v < 40) : CM l D (TY cI cZ cS) yX1_forget cX1_forget 2 none 0 [.ref (aC 0), .int (nI v)] ((wW cI aW n cl th ki va re fi) ++ ((wB cI aB bt bs) ++ (wC cI cZ aC (aW 0) (aB 0) to co ke nu fw))) none ((wW cI aW n cl th ki va re fi) ++ ((wB cI aB bt bs) ++ (wC cI cZ aC (aW 0) (aB 0) (va_up to v False) co ke nu fw))) := by
  refine CM.ofV (by decide +kernel) (Nat.le_of_ble_eq_true rfl) ?_
  intro p e s m args below meth c Q A G K hA w hret ls hl
  obtain ⟨hx, hb, hml, hown, hts⟩ := id G
  obtain ⟨hn, hcl, hth, hki, hva, hre, hfi⟩ := id J
  obtain ⟨hbt, hbs⟩ := id B9
  obtain ⟨hco, hfw⟩ := id C9
  have hl : lv_has ls 2 [(0, .ref (aC 0)), (1, .int (nI v))] := hl
  refine lv_aload_n hx hb dX1_forget_0 rfl (lv_at hl 0 rfl) ?_
  refine f_get G K w.1 inX1 8 (ci := 1) rfl rfl 2 rfl fl_X1_9 (v := .ref (aC 1)) rfl dX1_forget_1 ?_
  refine lv_iload_n hx hb dX1_forget_4 rfl (lv_at hl 1 rfl) ?_
  refine lv_iconst (v := (nI 0)) hx hb dX1_forget_5 (by decide) ?_
  refine a_stB G K w 9 1 (a := (aC 1)) rfl rfl (by omega) (by decide) (q := False) (bI_f id).symm dX1_forget_6 (w2 := ((wW cI aW n cl th ki va re fi) ++ ((wB cI aB bt bs) ++ (wC cI cZ aC (aW 0) (aB 0) (va_up to v False) co ke nu fw)))) rfl (fun Hp1 lo2 w => ?_)
  exact hret _ _ _ _ _ rfl w dX1_forget_7
set_option maxHeartbeats 4000000 in
set_option maxRecDepth 100000 in
theorem c_X1_keepEdges (aW : Nat → Nat) (n : Nat) (cl : Nat) (th : Nat → Nat) (ki : Nat → Nat) (va : Nat → Nat) (re : Nat → Nat) (fi : Nat → Nat) (aB : Nat → Nat) (bt : Nat → Nat) (bs : Nat) (aC : Nat → Nat) (to : Nat → Prop) (co : Nat → Nat) (ke : Nat → Int32) (nu : Nat → Int32) (fw : Nat → Nat) (v : Nat) (x1 : Nat) (x2 : Nat) (x3 : Nat) (x4 : Nat) (J : IW n cl th ki va re fi) (S : SW n cl re fi) (B9 : (∀ j, bt j ≤ 255) ∧ bs ≤ 216) (C9 : (∀ j, co j ≤ 400) ∧ (∀ j, fw j ≤ 15)) (hv9 : v < 40) : CM l D (TY cI cZ cS) yX1_keepEdges cX1_keepEdges 6 none 0 [.ref (aC 0), .int (nI v), .int (nI x1), .int (nI x2), .int (nI x3), .int (nI x4)] ((wW cI aW n cl th ki va re fi) ++ ((wB cI aB bt bs) ++ (wC cI cZ aC (aW 0) (aB 0) to co ke nu fw))) none ((wW cI aW n cl th ki va re fi) ++ ((wB cI aB bt bs) ++ (wC cI cZ aC (aW 0) (aB 0) (va_up to v True) (va_up (va_up (va_up (va_up co (4 * v) x1) (4 * v + 1) x2) (4 * v + 2) x3) (4 * v + 3) x4) ke nu fw))) := by
  refine CM.ofV (by decide +kernel) (Nat.le_of_ble_eq_true rfl) ?_
  intro p e s m args below meth c Q A G K hA w hret ls hl
  obtain ⟨hx, hb, hml, hown, hts⟩ := id G
  obtain ⟨hn, hcl, hth, hki, hva, hre, hfi⟩ := id J
  obtain ⟨hbt, hbs⟩ := id B9
  obtain ⟨hco, hfw⟩ := id C9
  have hl : lv_has ls 6 [(0, .ref (aC 0)), (1, .int (nI v)), (2, .int (nI x1)), (3, .int (nI x2)), (4, .int (nI x3)), (5, .int (nI x4))] := hl
  refine lv_aload_n hx hb dX1_keepEdges_0 rfl (lv_at hl 0 rfl) ?_
  refine f_get G K w.1 inX1 8 (ci := 1) rfl rfl 2 rfl fl_X1_9 (v := .ref (aC 1)) rfl dX1_keepEdges_1 ?_
  refine lv_iload_n hx hb dX1_keepEdges_4 rfl (lv_at hl 1 rfl) ?_
  refine lv_iconst (v := (nI 1)) hx hb dX1_keepEdges_5 (by decide) ?_
  refine a_stB G K w 9 1 (a := (aC 1)) rfl rfl (by omega) (by decide) (q := True) (bI_t trivial).symm dX1_keepEdges_6 (w2 := ((wW cI aW n cl th ki va re fi) ++ ((wB cI aB bt bs) ++ (wC cI cZ aC (aW 0) (aB 0) (va_up to v True) co ke nu fw)))) rfl (fun Hp1 lo2 w => ?_)
  refine lv_aload_n hx hb dX1_keepEdges_7 rfl (lv_at hl 0 rfl) ?_
  refine f_get G K w.1 inX1 8 (ci := 1) rfl rfl 3 rfl fl_X1_15 (v := .ref (aC 2)) rfl dX1_keepEdges_8 ?_
  refine lv_iconst (v := (nI 4)) hx hb dX1_keepEdges_11 (by decide) ?_
  refine lv_iload_n hx hb dX1_keepEdges_12 rfl (lv_at hl 1 rfl) ?_
  refine t_mul G dX1_keepEdges_13 ?_
  refine lv_iload_n hx hb dX1_keepEdges_14 rfl (lv_at hl 2 rfl) ?_
  refine a_stN G K w 10 0 (a := (aC 2)) rfl rfl (by omega) (by decide) dX1_keepEdges_15 (w2 := ((wW cI aW n cl th ki va re fi) ++ ((wB cI aB bt bs) ++ (wC cI cZ aC (aW 0) (aB 0) (va_up to v True) (va_up co (4 * v) x1) ke nu fw)))) rfl (fun Hp3 lo4 w => ?_)
  refine lv_aload_n hx hb dX1_keepEdges_16 rfl (lv_at hl 0 rfl) ?_
  refine f_get G K w.1 inX1 8 (ci := 1) rfl rfl 3 rfl fl_X1_15 (v := .ref (aC 2)) rfl dX1_keepEdges_17 ?_
  refine lv_iconst (v := (nI 4)) hx hb dX1_keepEdges_20 (by decide) ?_
  refine lv_iload_n hx hb dX1_keepEdges_21 rfl (lv_at hl 1 rfl) ?_
  refine t_mul G dX1_keepEdges_22 ?_
  refine lv_iconst (v := (nI 1)) hx hb dX1_keepEdges_23 (by decide) ?_
  refine t_add G dX1_keepEdges_24 ?_
  refine lv_iload_n hx hb dX1_keepEdges_25 rfl (lv_at hl 3 rfl) ?_
  refine a_stN G K w 10 0 (a := (aC 2)) rfl rfl (by omega) (by decide) dX1_keepEdges_26 (w2 := ((wW cI aW n cl th ki va re fi) ++ ((wB cI aB bt bs) ++ (wC cI cZ aC (aW 0) (aB 0) (va_up to v True) (va_up (va_up co (4 * v) x1) (4 * v + 1) x2) ke nu fw)))) rfl (fun Hp5 lo6 w => ?_)
  refine lv_aload_n hx hb dX1_keepEdges_27 rfl (lv_at hl 0 rfl) ?_
  refine f_get G K w.1 inX1 8 (ci := 1) rfl rfl 3 rfl fl_X1_15 (v := .ref (aC 2)) rfl dX1_keepEdges_28 ?_
  refine lv_iconst (v := (nI 4)) hx hb dX1_keepEdges_31 (by decide) ?_
  refine lv_iload_n hx hb dX1_keepEdges_32 rfl (lv_at hl 1 rfl) ?_
  refine t_mul G dX1_keepEdges_33 ?_
  refine lv_iconst (v := (nI 2)) hx hb dX1_keepEdges_34 (by decide) ?_
  refine t_add G dX1_keepEdges_35 ?_
  refine lv_iload hx hb dX1_keepEdges_36 (lv_at hl 4 rfl) ?_
  refine a_stN G K w 10 0 (a := (aC 2)) rfl rfl (by omega) (by decide) dX1_keepEdges_38 (w2 := ((wW cI aW n cl th ki va re fi) ++ ((wB cI aB bt bs) ++ (wC cI cZ aC (aW 0) (aB 0) (va_up to v True) (va_up (va_up (va_up co (4 * v) x1) (4 * v + 1) x2) (4 * v + 2) x3) ke nu fw)))) rfl (fun Hp7 lo8 w => ?_)
  refine lv_aload_n hx hb dX1_keepEdges_39 rfl (lv_at hl 0 rfl) ?_
  refine f_get G K w.1 inX1 8 (ci := 1) rfl rfl 3 rfl fl_X1_15 (v := .ref (aC 2)) rfl dX1_keepEdges_40 ?_
  refine lv_iconst (v := (nI 4)) hx hb dX1_keepEdges_43 (by decide) ?_
  refine lv_iload_n hx hb dX1_keepEdges_44 rfl (lv_at hl 1 rfl) ?_
  refine t_mul G dX1_keepEdges_45 ?_
  refine lv_iconst (v := (nI 3)) hx hb dX1_keepEdges_46 (by decide) ?_
  refine t_add G dX1_keepEdges_47 ?_
  refine lv_iload hx hb dX1_keepEdges_48 (lv_at hl 5 rfl) ?_
  refine a_stN G K w 10 0 (a := (aC 2)) rfl rfl (by omega) (by decide) dX1_keepEdges_50 (w2 := ((wW cI aW n cl th ki va re fi) ++ ((wB cI aB bt bs) ++ (wC cI cZ aC (aW 0) (aB 0) (va_up to v True) (va_up (va_up (va_up (va_up co (4 * v) x1) (4 * v + 1) x2) (4 * v + 2) x3) (4 * v + 3) x4) ke nu fw)))) rfl (fun Hp9 lo10 w => ?_)
  exact hret _ _ _ _ _ rfl w dX1_keepEdges_51
set_option maxHeartbeats 4000000 in
set_option maxRecDepth 100000 in
theorem c_X1_edgeIfUntold (aW : Nat → Nat) (n : Nat) (cl : Nat) (th : Nat → Nat) (ki : Nat → Nat) (va : Nat → Nat) (re : Nat → Nat) (fi : Nat → Nat) (aB : Nat → Nat) (bt : Nat → Nat) (bs : Nat) (aC : Nat → Nat) (to : Nat → Prop) (co : Nat → Nat) (ke : Nat → Int32) (nu : Nat → Int32) (fw : Nat → Nat) (v : Nat) (q : Nat) (J : IW n cl th ki va re fi) (S : SW n cl re fi) (B9 : (∀ j, bt j ≤ 255) ∧ bs ≤ 216) (C9 : (∀ j, co j ≤ 400) ∧ (∀ j, fw j ≤ 15)) (hv9 : v < n) (hq9 : q < 4) : CP l D (TY cI cZ cS) yX1_edgeIfUntold cX1_edgeIfUntold 3 .int 1 [.ref (aC 0), .int (nI v), .int (nI q)] ((wW cI aW n cl th ki va re fi) ++ ((wB cI aB bt bs) ++ (wC cI cZ aC (aW 0) (aB 0) to co ke nu fw))) (.int (nI (usl re n cl v q))) := by
  refine CP.ofI (by decide +kernel) (Nat.le_of_ble_eq_true rfl) (nar_int _) ?_
  intro p e s m args below meth c Q G K hP hret ls hl
  obtain ⟨hx, hb, hml, hown, hts⟩ := id G
  obtain ⟨hn, hcl, hth, hki, hva, hre, hfi⟩ := id J
  obtain ⟨hbt, hbs⟩ := id B9
  obtain ⟨hco, hfw⟩ := id C9
  have hrv := S.2.1 v hv9
  have hl : lv_has ls 3 [(0, .ref (aC 0)), (1, .int (nI v)), (2, .int (nI q))] := hl
  refine lv_iload_n hx hb dX1_edgeIfUntold_0 rfl (lv_at hl 2 rfl) ?_
  rcases (show q = 0 ∨ q = 1 ∨ q = 2 ∨ 2 < q by omega) with rfl | rfl | rfl | hsw1
  · -- 0
    refine lv_tableIn (off := 27) (tgt := 28) hx hb dX1_edgeIfUntold_1 (by decide) (by decide) (by decide) (by decide) ?_
    refine lv_iconst (v := (nI 0)) hx hb dX1_edgeIfUntold_28 (by decide) ?_
    exact hret _ _ _ (congrArg nI (by unfold usl; (repeat' split) <;> first | rfl | omega)) dX1_edgeIfUntold_29
  · -- 1
    refine lv_tableIn (off := 29) (tgt := 30) hx hb dX1_edgeIfUntold_1 (by decide) (by decide) (by decide) (by decide) ?_
    refine lv_aload_n hx hb dX1_edgeIfUntold_30 rfl (lv_at hl 0 rfl) ?_
    refine f_get G K hP inX1 8 (ci := 1) rfl rfl 0 rfl fl_X1_28 (v := .ref (aW 0)) rfl dX1_edgeIfUntold_31 ?_
    refine lv_iload_n hx hb dX1_edgeIfUntold_34 rfl (lv_at hl 1 rfl) ?_
    refine callPV (As := [.int (nI v)]) (rest := []) (q0 := 0) (ci := 4) G K F_X4_firstByte (c_X4_firstByte aW n cl th ki va re fi v J (by omega)) (hP.sub (ws' := (wW cI aW n cl th ki va re fi)) [0, 1, 2, 3, 4, 5] rfl) ml_X1_78 rfl rfl rfl (by decide) (by decide) rfl hl.1 (Nat.le_of_ble_eq_true rfl) dX1_edgeIfUntold_35 ?_
    exact hret _ _ _ (congrArg nI (by unfold usl; (repeat' split) <;> first | rfl | omega)) dX1_edgeIfUntold_38
  · -- 2
    refine lv_tableIn (off := 38) (tgt := 39) hx hb dX1_edgeIfUntold_1 (by decide) (by decide) (by decide) (by decide) ?_
    refine lv_aload_n hx hb dX1_edgeIfUntold_39 rfl (lv_at hl 0 rfl) ?_
    refine f_get G K hP inX1 8 (ci := 1) rfl rfl 0 rfl fl_X1_28 (v := .ref (aW 0)) rfl dX1_edgeIfUntold_40 ?_
    refine lv_iload_n hx hb dX1_edgeIfUntold_43 rfl (lv_at hl 1 rfl) ?_
    refine callPV (As := [.int (nI v)]) (rest := []) (q0 := 0) (ci := 4) G K F_X4_firstByte (c_X4_firstByte aW n cl th ki va re fi v J (by omega)) (hP.sub (ws' := (wW cI aW n cl th ki va re fi)) [0, 1, 2, 3, 4, 5] rfl) ml_X1_78 rfl rfl rfl (by decide) (by decide) rfl hl.1 (Nat.le_of_ble_eq_true rfl) dX1_edgeIfUntold_44 ?_
    refine lv_iconst (v := (nI 5)) hx hb dX1_edgeIfUntold_47 (by decide) ?_
    refine t_add G dX1_edgeIfUntold_48 ?_
    exact hret _ _ _ (congrArg nI (by unfold usl; (repeat' split) <;> first | rfl | omega)) dX1_edgeIfUntold_49
  · -- other
    refine lv_tableOut (tgt := 50) hx hb dX1_edgeIfUntold_1 (Or.inr (by rw [nI_toInt (by omega)]; omega)) (by decide) ?_
    refine lv_aload_n hx hb dX1_edgeIfUntold_50 rfl (lv_at hl 0 rfl) ?_
    refine f_get G K hP inX1 8 (ci := 1) rfl rfl 0 rfl fl_X1_28 (v := .ref (aW 0)) rfl dX1_edgeIfUntold_51 ?_
    refine lv_aload_n hx hb dX1_edgeIfUntold_54 rfl (lv_at hl 0 rfl) ?_
    refine f_get G K hP inX1 8 (ci := 1) rfl rfl 0 rfl fl_X1_28 (v := .ref (aW 0)) rfl dX1_edgeIfUntold_55 ?_
    refine f_get G K hP inX4 0 (ci := 4) rfl rfl 3 rfl fl_X1_81 (v := .ref (aW 4)) rfl dX1_edgeIfUntold_58 ?_
    refine lv_iload_n hx hb dX1_edgeIfUntold_61 rfl (lv_at hl 1 rfl) ?_
    refine a_ldN G K hP 4 0 (a := (aW 4)) rfl rfl (by omega) (by decide) dX1_edgeIfUntold_62 ?_
    have hb1 := hre v
    refine callPV (As := [.int (nI (re v))]) (rest := []) (q0 := 0) (ci := 4) G K F_X4_behindBytesOf (c_X4_behindBytesOf aW n cl th ki va re fi (re v) J S (by omega)) (hP.sub (ws' := (wW cI aW n cl th ki va re fi)) [0, 1, 2, 3, 4, 5] rfl) ml_X1_84 rfl rfl rfl (by decide) (by decide) rfl hl.1 (Nat.le_of_ble_eq_true rfl) dX1_edgeIfUntold_63 ?_
    exact hret _ _ _ (congrArg nI (by unfold usl; (repeat' split) <;> first | rfl | omega)) dX1_edgeIfUntold_66
set_option maxHeartbeats 4000000 in
set_option maxRecDepth 100000 in
theorem c_X1_edge (aW : Nat → Nat) (n : Nat) (cl : Nat) (th : Nat → Nat) (ki : Nat → Nat) (va : Nat → Nat) (re : Nat → Nat) (fi : Nat → Nat) (aB : Nat → Nat) (bt : Nat → Nat) (bs : Nat) (aC : Nat → Nat) (to : Nat → Prop) (co : Nat → Nat) (ke : Nat → Int32) (nu : Nat → Int32) (fw : Nat → Nat) (v : Nat) (q : Nat) (J : IW n cl th ki va re fi) (S : SW n cl re fi) (B9 : (∀ j, bt j ≤ 255) ∧ bs ≤ 216) (C9 : (∀ j, co j ≤ 400) ∧ (∀ j, fw j ≤ 15)) (hv9 : v < n) (hq9 : q < 4) : CP l D (TY cI cZ cS) yX1_edge cX1_edge 3 .int 2 [.ref (aC 0), .int (nI v), .int (nI q)] ((wW cI aW n cl th ki va re fi) ++ ((wB cI aB bt bs) ++ (wC cI cZ aC (aW 0) (aB 0) to co ke nu fw))) (.int (nI (cov re n cl to co v q))) := by
  refine CP.ofI (by decide +kernel) (Nat.le_of_ble_eq_true rfl) (nar_int _) ?_
  intro p e s m args below meth c Q G K hP hret ls hl
  obtain ⟨hx, hb, hml, hown, hts⟩ := id G
  obtain ⟨hn, hcl, hth, hki, hva, hre, hfi⟩ := id J
  obtain ⟨hbt, hbs⟩ := id B9
  obtain ⟨hco, hfw⟩ := id C9
  have hl : lv_has ls 3 [(0, .ref (aC 0)), (1, .int (nI v)), (2, .int (nI q))] := hl
  refine lv_aload_n hx hb dX1_edge_0 rfl (lv_at hl 0 rfl) ?_
  refine f_get G K hP inX1 8 (ci := 1) rfl rfl 2 rfl fl_X1_9 (v := .ref (aC 1)) rfl dX1_edge_1 ?_
  refine lv_iload_n hx hb dX1_edge_4 rfl (lv_at hl 1 rfl) ?_
  refine a_ldB G K hP 9 1 (a := (aC 1)) rfl rfl (by omega) (by decide) dX1_edge_5 ?_
  refine b_eq G (tgt := 22) dX1_edge_6 (by decide) (fun c6 => ?_) (fun c6 => ?_)
  · -- taken at 6
    refine lv_aload_n hx hb dX1_edge_22 rfl (lv_at hl 0 rfl) ?_
    refine lv_iload_n hx hb dX1_edge_23 rfl (lv_at hl 1 rfl) ?_
    refine lv_iload_n hx hb dX1_edge_24 rfl (lv_at hl 2 rfl) ?_
    refine callPV (As := [.int (nI v), .int (nI q)]) (rest := []) (q0 := 8) (ci := 1) G K F_X1_edgeIfUntold (c_X1_edgeIfUntold aW n cl th ki va re fi aB bt bs aC to co ke nu fw v q J S B9 C9 (by omega) (by omega)) hP ml_X1_36 rfl rfl rfl (by decide) (by decide) rfl hl.1 (Nat.le_of_ble_eq_true rfl) dX1_edge_25 ?_
    have hf1 := usl_le re n cl hn hre v (by omega) q
    exact hret _ _ _ (congrArg nI (by unfold cov; first | rw [cif_t c6] | rw [cif_f c6])) dX1_edge_28
  · -- not taken at 6
    refine lv_aload_n hx hb dX1_edge_9 rfl (lv_at hl 0 rfl) ?_
    refine f_get G K hP inX1 8 (ci := 1) rfl rfl 3 rfl fl_X1_15 (v := .ref (aC 2)) rfl dX1_edge_10 ?_
    refine lv_iconst (v := (nI 4)) hx hb dX1_edge_13 (by decide) ?_
    refine lv_iload_n hx hb dX1_edge_14 rfl (lv_at hl 1 rfl) ?_
    refine t_mul G dX1_edge_15 ?_
    refine lv_iload_n hx hb dX1_edge_16 rfl (lv_at hl 2 rfl) ?_
    refine t_add G dX1_edge_17 ?_
    refine a_ldN G K hP 10 0 (a := (aC 2)) rfl rfl (by omega) (by decide) dX1_edge_18 ?_
    have hb2 := hco (4 * v + q)
    refine lv_goto (tgt := 28) hx hb dX1_edge_19 (by decide) ?_
    exact hret _ _ _ (congrArg nI (by unfold cov; first | rw [cif_t c6] | rw [cif_f c6])) dX1_edge_28
set_option maxHeartbeats 4000000 in
set_option maxRecDepth 100000 in
theorem c_X1_bytesWithin (aW : Nat → Nat) (n : Nat) (cl : Nat) (th : Nat → Nat) (ki : Nat → Nat) (va : Nat → Nat) (re : Nat → Nat) (fi : Nat → Nat) (aB : Nat → Nat) (bt : Nat → Nat) (bs : Nat) (aC : Nat → Nat) (to : Nat → Prop) (co : Nat → Nat) (ke : Nat → Int32) (nu : Nat → Int32) (fw : Nat → Nat) (v : Nat) (J : IW n cl th ki va re fi) (S : SW n cl re fi) (B9 : (∀ j, bt j ≤ 255) ∧ bs ≤ 216) (C9 : (∀ j, co j ≤ 400) ∧ (∀ j, fw j ≤ 15)) (hv9 : v < n) : CP l D (TY cI cZ cS) yX1_bytesWithin cX1_bytesWithin 2 .int 3 [.ref (aC 0), .int (nI v)] ((wW cI aW n cl th ki va re fi) ++ ((wB cI aB bt bs) ++ (wC cI cZ aC (aW 0) (aB 0) to co ke nu fw))) (.int (nI (min (cov re n cl to co v 1) bs - cov re n cl to co v 0 + (min (cov re n cl to co v 3) bs - cov re n cl to co v 2)))) := by
  refine CP.ofI (by decide +kernel) (Nat.le_of_ble_eq_true rfl) (nar_int _) ?_
  intro p e s m args below meth c Q G K hP hret ls hl
  obtain ⟨hx, hb, hml, hown, hts⟩ := id G
  obtain ⟨hn, hcl, hth, hki, hva, hre, hfi⟩ := id J
  obtain ⟨hbt, hbs⟩ := id B9
  obtain ⟨hco, hfw⟩ := id C9
  have hl : lv_has ls 2 [(0, .ref (aC 0)), (1, .int (nI v))] := hl
  refine lv_aload_n hx hb dX1_bytesWithin_0 rfl (lv_at hl 0 rfl) ?_
  refine f_get G K hP inX1 8 (ci := 1) rfl rfl 1 rfl fl_X1_32 (v := .ref (aB 0)) rfl dX1_bytesWithin_1 ?_
  refine lv_aload_n hx hb dX1_bytesWithin_4 rfl (lv_at hl 0 rfl) ?_
  refine lv_iload_n hx hb dX1_bytesWithin_5 rfl (lv_at hl 1 rfl) ?_
  refine lv_iconst (v := (nI 0)) hx hb dX1_bytesWithin_6 (by decide) ?_
  refine callPV (As := [.int (nI v), .int (nI 0)]) (rest := [.ref (aB 0)]) (q0 := 8) (ci := 1) G K F_X1_edge (c_X1_edge aW n cl th ki va re fi aB bt bs aC to co ke nu fw v 0 J S B9 C9 (by omega) (by omega)) hP ml_X1_40 rfl rfl rfl (by decide) (by decide) rfl hl.1 (Nat.le_of_ble_eq_true rfl) dX1_bytesWithin_7 ?_
  have hf1 := cov_le re n cl to co hn hre hco v (by omega) 0
  refine lv_aload_n hx hb dX1_bytesWithin_10 rfl (lv_at hl 0 rfl) ?_
  refine lv_iload_n hx hb dX1_bytesWithin_11 rfl (lv_at hl 1 rfl) ?_
  refine lv_iconst (v := (nI 1)) hx hb dX1_bytesWithin_12 (by decide) ?_
  refine callPV (As := [.int (nI v), .int (nI 1)]) (rest := [.int (nI (cov re n cl to co v 0)), .ref (aB 0)]) (q0 := 8) (ci := 1) G K F_X1_edge (c_X1_edge aW n cl th ki va re fi aB bt bs aC to co ke nu fw v 1 J S B9 C9 (by omega) (by omega)) hP ml_X1_40 rfl rfl rfl (by decide) (by decide) rfl hl.1 (Nat.le_of_ble_eq_true rfl) dX1_bytesWithin_13 ?_
  have hf2 := cov_le re n cl to co hn hre hco v (by omega) 1
  refine callPV (As := [.int (nI (cov re n cl to co v 0)), .int (nI (cov re n cl to co v 1))]) (rest := []) (q0 := 0) (ci := 0) G K F_X0_lengthWithin (c_X0_lengthWithin aB bt bs (cov re n cl to co v 0) (cov re n cl to co v 1) B9 (by omega) (by omega)) (hP.sub (ws' := (wB cI aB bt bs)) [6, 7] rfl) ml_X1_43 rfl rfl rfl (by decide) (by decide) rfl hl.1 (Nat.le_of_ble_eq_true rfl) dX1_bytesWithin_16 ?_
  refine lv_aload_n hx hb dX1_bytesWithin_19 rfl (lv_at hl 0 rfl) ?_
  refine f_get G K hP inX1 8 (ci := 1) rfl rfl 1 rfl fl_X1_32 (v := .ref (aB 0)) rfl dX1_bytesWithin_20 ?_
  refine lv_aload_n hx hb dX1_bytesWithin_23 rfl (lv_at hl 0 rfl) ?_
  refine lv_iload_n hx hb dX1_bytesWithin_24 rfl (lv_at hl 1 rfl) ?_
  refine lv_iconst (v := (nI 2)) hx hb dX1_bytesWithin_25 (by decide) ?_
  refine callPV (As := [.int (nI v), .int (nI 2)]) (rest := [.ref (aB 0), .int (nI (min (cov re n cl to co v 1) bs - (cov re n cl to co v 0)))]) (q0 := 8) (ci := 1) G K F_X1_edge (c_X1_edge aW n cl th ki va re fi aB bt bs aC to co ke nu fw v 2 J S B9 C9 (by omega) (by omega)) hP ml_X1_40 rfl rfl rfl (by decide) (by decide) rfl hl.1 (Nat.le_of_ble_eq_true rfl) dX1_bytesWithin_26 ?_
  have hf3 := cov_le re n cl to co hn hre hco v (by omega) 2
  refine lv_aload_n hx hb dX1_bytesWithin_29 rfl (lv_at hl 0 rfl) ?_
  refine lv_iload_n hx hb dX1_bytesWithin_30 rfl (lv_at hl 1 rfl) ?_
  refine lv_iconst (v := (nI 3)) hx hb dX1_bytesWithin_31 (by decide) ?_
  refine callPV (As := [.int (nI v), .int (nI 3)]) (rest := [.int (nI (cov re n cl to co v 2)), .ref (aB 0), .int (nI (min (cov re n cl to co v 1) bs - (cov re n cl to co v 0)))]) (q0 := 8) (ci := 1) G K F_X1_edge (c_X1_edge aW n cl th ki va re fi aB bt bs aC to co ke nu fw v 3 J S B9 C9 (by omega) (by omega)) hP ml_X1_40 rfl rfl rfl (by decide) (by decide) rfl hl.1 (Nat.le_of_ble_eq_true rfl) dX1_bytesWithin_32 ?_
  have hf4 := cov_le re n cl to co hn hre hco v (by omega) 3
  refine callPV (As := [.int (nI (cov re n cl to co v 2)), .int (nI (cov re n cl to co v 3))]) (rest := [.int (nI (min (cov re n cl to co v 1) bs - (cov re n cl to co v 0)))]) (q0 := 0) (ci := 0) G K F_X0_lengthWithin (c_X0_lengthWithin aB bt bs (cov re n cl to co v 2) (cov re n cl to co v 3) B9 (by omega) (by omega)) (hP.sub (ws' := (wB cI aB bt bs)) [6, 7] rfl) ml_X1_43 rfl rfl rfl (by decide) (by decide) rfl hl.1 (Nat.le_of_ble_eq_true rfl) dX1_bytesWithin_35 ?_
  refine t_add G dX1_bytesWithin_38 ?_
  exact hret _ _ _ rfl dX1_bytesWithin_39
set_option maxHeartbeats 4000000 in
set_option maxRecDepth 100000 in
theorem c_X1_numberNow (aW : Nat → Nat) (n : Nat) (cl : Nat) (th : Nat → Nat) (ki : Nat → Nat) (va : Nat → Nat) (re : Nat → Nat) (fi : Nat → Nat) (aB : Nat → Nat) (bt : Nat → Nat) (bs : Nat) (aC : Nat → Nat) (to : Nat → Prop) (co : Nat → Nat) (ke : Nat → Int32) (nu : Nat → Int32) (fw : Nat → Nat) (v : Nat) (J : IW n cl th ki va re fi) (S : SW n cl re fi) (B9 : (∀ j, bt j ≤ 255) ∧ bs ≤ 216) (C9 : (∀ j, co j ≤ 400) ∧ (∀ j, fw j ≤ 15)) (hv9 : v < n) : CP l D (TY cI cZ cS) yX1_numberNow cX1_numberNow 3 .int 3 [.ref (aC 0), .int (nI v)] ((wW cI aW n cl th ki va re fi) ++ ((wB cI aB bt bs) ++ (wC cI cZ aC (aW 0) (aB 0) to co ke nu fw))) (.int (nmC bt bs (cov re n cl to co v))) := by
  refine CP.ofI (by decide +kernel) (Nat.le_of_ble_eq_true rfl) (nar_int _) ?_
  intro p e s m args below meth c Q G K hP hret ls hl
  obtain ⟨hx, hb, hml, hown, hts⟩ := id G
  obtain ⟨hn, hcl, hth, hki, hva, hre, hfi⟩ := id J
  obtain ⟨hbt, hbs⟩ := id B9
  obtain ⟨hco, hfw⟩ := id C9
  have hl : lv_has ls 3 [(0, .ref (aC 0)), (1, .int (nI v))] := hl
  refine lv_aload_n hx hb dX1_numberNow_0 rfl (lv_at hl 0 rfl) ?_
  refine f_get G K hP inX1 8 (ci := 1) rfl rfl 1 rfl fl_X1_32 (v := .ref (aB 0)) rfl dX1_numberNow_1 ?_
  refine lv_bipush (v := (nI 7)) hx hb dX1_numberNow_4 (by decide) ?_
  refine lv_aload_n hx hb dX1_numberNow_6 rfl (lv_at hl 0 rfl) ?_
  refine lv_iload_n hx hb dX1_numberNow_7 rfl (lv_at hl 1 rfl) ?_
  refine lv_iconst (v := (nI 0)) hx hb dX1_numberNow_8 (by decide) ?_
  refine callPV (As := [.int (nI v), .int (nI 0)]) (rest := [.int (nI 7), .ref (aB 0)]) (q0 := 8) (ci := 1) G K F_X1_edge (c_X1_edge aW n cl th ki va re fi aB bt bs aC to co ke nu fw v 0 J S B9 C9 (by omega) (by omega)) hP ml_X1_40 rfl rfl rfl (by decide) (by decide) rfl hl.1 (Nat.le_of_ble_eq_true rfl) dX1_numberNow_9 ?_
  have hf1 := cov_le re n cl to co hn hre hco v (by omega) 0
  refine lv_aload_n hx hb dX1_numberNow_12 rfl (lv_at hl 0 rfl) ?_
  refine lv_iload_n hx hb dX1_numberNow_13 rfl (lv_at hl 1 rfl) ?_
  refine lv_iconst (v := (nI 1)) hx hb dX1_numberNow_14 (by decide) ?_
  refine callPV (As := [.int (nI v), .int (nI 1)]) (rest := [.int (nI (cov re n cl to co v 0)), .int (nI 7), .ref (aB 0)]) (q0 := 8) (ci := 1) G K F_X1_edge (c_X1_edge aW n cl th ki va re fi aB bt bs aC to co ke nu fw v 1 J S B9 C9 (by omega) (by omega)) hP ml_X1_40 rfl rfl rfl (by decide) (by decide) rfl hl.1 (Nat.le_of_ble_eq_true rfl) dX1_numberNow_15 ?_
  have hf2 := cov_le re n cl to co hn hre hco v (by omega) 1
  refine callPV (As := [.int (nI 7), .int (nI (cov re n cl to co v 0)), .int (nI (cov re n cl to co v 1))]) (rest := []) (q0 := 0) (ci := 0) G K F_X0_numberOver (c_X0_numberOver aB bt bs (nI 7) (cov re n cl to co v 0) (cov re n cl to co v 1) B9 (by omega) (by omega)) (hP.sub (ws' := (wB cI aB bt bs)) [6, 7] rfl) ml_X1_74 rfl rfl rfl (by decide) (by decide) rfl hl.1 (Nat.le_of_ble_eq_true rfl) dX1_numberNow_18 ?_
  refine lv_istore_n (lv' := [(2, .int (numS (fun i => nI (bt i)) (nI 7) (cov re n cl to co v 0) (min (cov re n cl to co v 1) bs - (cov re n cl to co v 0)))), (0, .ref (aC 0)), (1, .int (nI v))]) hx hb dX1_numberNow_21 rfl hl (by decide) rfl (fun ls hl => ?_)
  refine lv_aload_n hx hb dX1_numberNow_22 rfl (lv_at hl 1 rfl) ?_
  refine f_get G K hP inX1 8 (ci := 1) rfl rfl 1 rfl fl_X1_32 (v := .ref (aB 0)) rfl dX1_numberNow_23 ?_
  refine lv_iload_n hx hb dX1_numberNow_26 rfl (lv_at hl 0 rfl) ?_
  refine lv_aload_n hx hb dX1_numberNow_27 rfl (lv_at hl 1 rfl) ?_
  refine lv_iload_n hx hb dX1_numberNow_28 rfl (lv_at hl 2 rfl) ?_
  refine lv_iconst (v := (nI 2)) hx hb dX1_numberNow_29 (by decide) ?_
  refine callPV (As := [.int (nI v), .int (nI 2)]) (rest := [.int (numS (fun i => nI (bt i)) (nI 7) (cov re n cl to co v 0) (min (cov re n cl to co v 1) bs - (cov re n cl to co v 0))), .ref (aB 0)]) (q0 := 8) (ci := 1) G K F_X1_edge (c_X1_edge aW n cl th ki va re fi aB bt bs aC to co ke nu fw v 2 J S B9 C9 (by omega) (by omega)) hP ml_X1_40 rfl rfl rfl (by decide) (by decide) rfl hl.1 (Nat.le_of_ble_eq_true rfl) dX1_numberNow_30 ?_
  have hf3 := cov_le re n cl to co hn hre hco v (by omega) 2
  refine lv_aload_n hx hb dX1_numberNow_33 rfl (lv_at hl 1 rfl) ?_
  refine lv_iload_n hx hb dX1_numberNow_34 rfl (lv_at hl 2 rfl) ?_
  refine lv_iconst (v := (nI 3)) hx hb dX1_numberNow_35 (by decide) ?_
  refine callPV (As := [.int (nI v), .int (nI 3)]) (rest := [.int (nI (cov re n cl to co v 2)), .int (numS (fun i => nI (bt i)) (nI 7) (cov re n cl to co v 0) (min (cov re n cl to co v 1) bs - (cov re n cl to co v 0))), .ref (aB 0)]) (q0 := 8) (ci := 1) G K F_X1_edge (c_X1_edge aW n cl th ki va re fi aB bt bs aC to co ke nu fw v 3 J S B9 C9 (by omega) (by omega)) hP ml_X1_40 rfl rfl rfl (by decide) (by decide) rfl hl.1 (Nat.le_of_ble_eq_true rfl) dX1_numberNow_36 ?_
  have hf4 := cov_le re n cl to co hn hre hco v (by omega) 3
  refine callPV (As := [.int (numS (fun i => nI (bt i)) (nI 7) (cov re n cl to co v 0) (min (cov re n cl to co v 1) bs - (cov re n cl to co v 0))), .int (nI (cov re n cl to co v 2)), .int (nI (cov re n cl to co v 3))]) (rest := []) (q0 := 0) (ci := 0) G K F_X0_numberOver (c_X0_numberOver aB bt bs (numS (fun i => nI (bt i)) (nI 7) (cov re n cl to co v 0) (min (cov re n cl to co v 1) bs - (cov re n cl to co v 0))) (cov re n cl to co v 2) (cov re n cl to co v 3) B9 (by omega) (by omega)) (hP.sub (ws' := (wB cI aB bt bs)) [6, 7] rfl) ml_X1_74 rfl rfl rfl (by decide) (by decide) rfl hl.1 (Nat.le_of_ble_eq_true rfl) dX1_numberNow_39 ?_
  exact hret _ _ _ rfl dX1_numberNow_42
set_option maxHeartbeats 4000000 in
set_option maxRecDepth 100000 in
theorem c_X1_flawsOfEdges (aW : Nat → Nat) (n : Nat) (cl : Nat) (th : Nat → Nat) (ki : Nat → Nat) (va : Nat → Nat) (re : Nat → Nat) (fi : Nat → Nat) (aB : Nat → Nat) (bt : Nat → Nat) (bs : Nat) (aC : Nat → Nat) (to : Nat → Prop) (co : Nat → Nat) (ke : Nat → Int32) (nu : Nat → Int32) (fw : Nat → Nat) (v : Nat) (J : IW n cl th ki va re fi) (S : SW n cl re fi) (B9 : (∀ j, bt j ≤ 255) ∧ bs ≤ 216) (C9 : (∀ j, co j ≤ 400) ∧ (∀ j, fw j ≤ 15)) (hv9 : v < n) : CP l D (TY cI cZ cS) yX1_flawsOfEdges cX1_flawsOfEdges 3 .int 3 [.ref (aC 0), .int (nI v)] ((wW cI aW n cl th ki va re fi) ++ ((wB cI aB bt bs) ++ (wC cI cZ aC (aW 0) (aB 0) to co ke nu fw))) (.int (nI (flE re n cl to co v))) := by
  refine CP.ofI (by decide +kernel) (Nat.le_of_ble_eq_true rfl) (nar_int _) ?_
  intro p e s m args below meth c Q G K hP hret ls hl
  obtain ⟨hx, hb, hml, hown, hts⟩ := id G
  obtain ⟨hn, hcl, hth, hki, hva, hre, hfi⟩ := id J
  obtain ⟨hbt, hbs⟩ := id B9
  obtain ⟨hco, hfw⟩ := id C9
  have hl : lv_has ls 3 [(0, .ref (aC 0)), (1, .int (nI v))] := hl
  have J20 : W p l e (RM 3) s m args below meth c s.heap [] 0 0 Q (F0 m 20 ls [.int (nI (cif (0 < cov re n cl to co v 0) 1 0))]) := by
    refine lv_istore_n (lv' := [(2, .int (nI (cif (0 < cov re n cl to co v 0) 1 0))), (0, .ref (aC 0)), (1, .int (nI v))]) hx hb dX1_flawsOfEdges_20 rfl hl (by decide) rfl (fun ls hl => ?_)
    refine lv_aload_n hx hb dX1_flawsOfEdges_21 rfl (lv_at hl 1 rfl) ?_
    refine lv_iload_n hx hb dX1_flawsOfEdges_22 rfl (lv_at hl 2 rfl) ?_
    refine lv_iconst (v := (nI 1)) hx hb dX1_flawsOfEdges_23 (by decide) ?_
    refine callPV (As := [.int (nI v), .int (nI 1)]) (rest := []) (q0 := 8) (ci := 1) G K F_X1_edge (c_X1_edge aW n cl th ki va re fi aB bt bs aC to co ke nu fw v 1 J S B9 C9 (by omega) (by omega)) hP ml_X1_40 rfl rfl rfl (by decide) (by decide) rfl hl.1 (Nat.le_of_ble_eq_true rfl) dX1_flawsOfEdges_24 ?_
    have hf1 := cov_le re n cl to co hn hre hco v (by omega) 1
    refine lv_aload_n hx hb dX1_flawsOfEdges_27 rfl (lv_at hl 1 rfl) ?_
    refine lv_iload_n hx hb dX1_flawsOfEdges_28 rfl (lv_at hl 2 rfl) ?_
    refine lv_iconst (v := (nI 1)) hx hb dX1_flawsOfEdges_29 (by decide) ?_
    refine callPV (As := [.int (nI v), .int (nI 1)]) (rest := [.int (nI (cov re n cl to co v 1))]) (q0 := 8) (ci := 1) G K F_X1_edgeIfUntold (c_X1_edgeIfUntold aW n cl th ki va re fi aB bt bs aC to co ke nu fw v 1 J S B9 C9 (by omega) (by omega)) hP ml_X1_36 rfl rfl rfl (by decide) (by decide) rfl hl.1 (Nat.le_of_ble_eq_true rfl) dX1_flawsOfEdges_30 ?_
    have hf2 := usl_le re n cl hn hre v (by omega) 1
    refine c_ne G (tgt := 51) (by omega) (by omega) dX1_flawsOfEdges_33 (by decide) (fun c33 => ?_) (fun c33 => ?_)
    · -- taken at 33
      refine lv_iload_n hx hb dX1_flawsOfEdges_51 rfl (lv_at hl 0 rfl) ?_
      refine lv_iconst (v := (nI 2)) hx hb dX1_flawsOfEdges_52 (by decide) ?_
      refine lv_ior hx hb dX1_flawsOfEdges_53 ?_
      refine t_i (y := (nI (cif (0 < cov re n cl to co v 0) 1 0 + cif (cov re n cl to co v 1 ≠ usl re n cl v 1 ∨ cov re n cl to co v 2 ≠ usl re n cl v 2) 2 0))) (by first | exact or2_t (Or.inl c33) | exact or2_t (Or.inr c48)) ?_
      refine lv_istore_n (lv' := [(2, .int (nI (cif (0 < cov re n cl to co v 0) 1 0 + cif (cov re n cl to co v 1 ≠ usl re n cl v 1 ∨ cov re n cl to co v 2 ≠ usl re n cl v 2) 2 0))), (0, .ref (aC 0)), (1, .int (nI v))]) hx hb dX1_flawsOfEdges_54 rfl hl (by decide) rfl (fun ls hl => ?_)
      refine lv_aload_n hx hb dX1_flawsOfEdges_55 rfl (lv_at hl 1 rfl) ?_
      refine lv_iload_n hx hb dX1_flawsOfEdges_56 rfl (lv_at hl 2 rfl) ?_
      refine lv_iconst (v := (nI 3)) hx hb dX1_flawsOfEdges_57 (by decide) ?_
      refine callPV (As := [.int (nI v), .int (nI 3)]) (rest := []) (q0 := 8) (ci := 1) G K F_X1_edge (c_X1_edge aW n cl th ki va re fi aB bt bs aC to co ke nu fw v 3 J S B9 C9 (by omega) (by omega)) hP ml_X1_40 rfl rfl rfl (by decide) (by decide) rfl hl.1 (Nat.le_of_ble_eq_true rfl) dX1_flawsOfEdges_58 ?_
      have hf3 := cov_le re n cl to co hn hre hco v (by omega) 3
      refine lv_aload_n hx hb dX1_flawsOfEdges_61 rfl (lv_at hl 1 rfl) ?_
      refine lv_iload_n hx hb dX1_flawsOfEdges_62 rfl (lv_at hl 2 rfl) ?_
      refine lv_iconst (v := (nI 3)) hx hb dX1_flawsOfEdges_63 (by decide) ?_
      refine callPV (As := [.int (nI v), .int (nI 3)]) (rest := [.int (nI (cov re n cl to co v 3))]) (q0 := 8) (ci := 1) G K F_X1_edgeIfUntold (c_X1_edgeIfUntold aW n cl th ki va re fi aB bt bs aC to co ke nu fw v 3 J S B9 C9 (by omega) (by omega)) hP ml_X1_36 rfl rfl rfl (by decide) (by decide) rfl hl.1 (Nat.le_of_ble_eq_true rfl) dX1_flawsOfEdges_64 ?_
      have hf4 := usl_le re n cl hn hre v (by omega) 3
      refine c_eq G (tgt := 74) (by omega) (by omega) dX1_flawsOfEdges_67 (by decide) (fun c67 => ?_) (fun c67 => ?_)
      · -- taken at 67
        have hl := lv_re (l' := [(2, .int (nI (cif (0 < cov re n cl to co v 0) 1 0 + cif (cov re n cl to co v 1 ≠ usl re n cl v 1 ∨ cov re n cl to co v 2 ≠ usl re n cl v 2) 2 0 + cif (cov re n cl to co v 3 ≠ usl re n cl v 3) 4 0))), (0, .ref (aC 0)), (1, .int (nI v))]) hl (by rw [show (nI (cif (0 < cov re n cl to co v 0) 1 0 + cif (cov re n cl to co v 1 ≠ usl re n cl v 1 ∨ cov re n cl to co v 2 ≠ usl re n cl v 2) 2 0)) = (nI (cif (0 < cov re n cl to co v 0) 1 0 + cif (cov re n cl to co v 1 ≠ usl re n cl v 1 ∨ cov re n cl to co v 2 ≠ usl re n cl v 2) 2 0 + cif (cov re n cl to co v 3 ≠ usl re n cl v 3) 4 0)) from (or4_f (fun h => h c67))])
        refine lv_iload_n hx hb dX1_flawsOfEdges_74 rfl (lv_at hl 0 rfl) ?_
        exact hret _ _ _ rfl dX1_flawsOfEdges_75
      · -- not taken at 67
        refine lv_iload_n hx hb dX1_flawsOfEdges_70 rfl (lv_at hl 0 rfl) ?_
        refine lv_iconst (v := (nI 4)) hx hb dX1_flawsOfEdges_71 (by decide) ?_
        refine lv_ior hx hb dX1_flawsOfEdges_72 ?_
        refine t_i (y := (nI (cif (0 < cov re n cl to co v 0) 1 0 + cif (cov re n cl to co v 1 ≠ usl re n cl v 1 ∨ cov re n cl to co v 2 ≠ usl re n cl v 2) 2 0 + cif (cov re n cl to co v 3 ≠ usl re n cl v 3) 4 0))) (or4_t c67) ?_
        refine lv_istore_n (lv' := [(2, .int (nI (cif (0 < cov re n cl to co v 0) 1 0 + cif (cov re n cl to co v 1 ≠ usl re n cl v 1 ∨ cov re n cl to co v 2 ≠ usl re n cl v 2) 2 0 + cif (cov re n cl to co v 3 ≠ usl re n cl v 3) 4 0))), (0, .ref (aC 0)), (1, .int (nI v))]) hx hb dX1_flawsOfEdges_73 rfl hl (by decide) rfl (fun ls hl => ?_)
        refine lv_iload_n hx hb dX1_flawsOfEdges_74 rfl (lv_at hl 0 rfl) ?_
        exact hret _ _ _ rfl dX1_flawsOfEdges_75
    · -- not taken at 33
      refine lv_aload_n hx hb dX1_flawsOfEdges_36 rfl (lv_at hl 1 rfl) ?_
      refine lv_iload_n hx hb dX1_flawsOfEdges_37 rfl (lv_at hl 2 rfl) ?_
      refine lv_iconst (v := (nI 2)) hx hb dX1_flawsOfEdges_38 (by decide) ?_
      refine callPV (As := [.int (nI v), .int (nI 2)]) (rest := []) (q0 := 8) (ci := 1) G K F_X1_edge (c_X1_edge aW n cl th ki va re fi aB bt bs aC to co ke nu fw v 2 J S B9 C9 (by omega) (by omega)) hP ml_X1_40 rfl rfl rfl (by decide) (by decide) rfl hl.1 (Nat.le_of_ble_eq_true rfl) dX1_flawsOfEdges_39 ?_
      have hf5 := cov_le re n cl to co hn hre hco v (by omega) 2
      refine lv_aload_n hx hb dX1_flawsOfEdges_42 rfl (lv_at hl 1 rfl) ?_
      refine lv_iload_n hx hb dX1_flawsOfEdges_43 rfl (lv_at hl 2 rfl) ?_
      refine lv_iconst (v := (nI 2)) hx hb dX1_flawsOfEdges_44 (by decide) ?_
      refine callPV (As := [.int (nI v), .int (nI 2)]) (rest := [.int (nI (cov re n cl to co v 2))]) (q0 := 8) (ci := 1) G K F_X1_edgeIfUntold (c_X1_edgeIfUntold aW n cl th ki va re fi aB bt bs aC to co ke nu fw v 2 J S B9 C9 (by omega) (by omega)) hP ml_X1_36 rfl rfl rfl (by decide) (by decide) rfl hl.1 (Nat.le_of_ble_eq_true rfl) dX1_flawsOfEdges_45 ?_
      have hf6 := usl_le re n cl hn hre v (by omega) 2
      refine c_eq G (tgt := 55) (by omega) (by omega) dX1_flawsOfEdges_48 (by decide) (fun c48 => ?_) (fun c48 => ?_)
      · -- taken at 48
        have hl := lv_re (l' := [(2, .int (nI (cif (0 < cov re n cl to co v 0) 1 0 + cif (cov re n cl to co v 1 ≠ usl re n cl v 1 ∨ cov re n cl to co v 2 ≠ usl re n cl v 2) 2 0))), (0, .ref (aC 0)), (1, .int (nI v))]) hl (by rw [show (nI (cif (0 < cov re n cl to co v 0) 1 0)) = (nI (cif (0 < cov re n cl to co v 0) 1 0 + cif (cov re n cl to co v 1 ≠ usl re n cl v 1 ∨ cov re n cl to co v 2 ≠ usl re n cl v 2) 2 0)) from (or2_f (fun h => h.elim (fun q => q c33) (fun q => q c48)))])
        refine lv_aload_n hx hb dX1_flawsOfEdges_55 rfl (lv_at hl 1 rfl) ?_
        refine lv_iload_n hx hb dX1_flawsOfEdges_56 rfl (lv_at hl 2 rfl) ?_
        refine lv_iconst (v := (nI 3)) hx hb dX1_flawsOfEdges_57 (by decide) ?_
        refine callPV (As := [.int (nI v), .int (nI 3)]) (rest := []) (q0 := 8) (ci := 1) G K F_X1_edge (c_X1_edge aW n cl th ki va re fi aB bt bs aC to co ke nu fw v 3 J S B9 C9 (by omega) (by omega)) hP ml_X1_40 rfl rfl rfl (by decide) (by decide) rfl hl.1 (Nat.le_of_ble_eq_true rfl) dX1_flawsOfEdges_58 ?_
        have hf7 := cov_le re n cl to co hn hre hco v (by omega) 3
        refine lv_aload_n hx hb dX1_flawsOfEdges_61 rfl (lv_at hl 1 rfl) ?_
        refine lv_iload_n hx hb dX1_flawsOfEdges_62 rfl (lv_at hl 2 rfl) ?_
        refine lv_iconst (v := (nI 3)) hx hb dX1_flawsOfEdges_63 (by decide) ?_
        refine callPV (As := [.int (nI v), .int (nI 3)]) (rest := [.int (nI (cov re n cl to co v 3))]) (q0 := 8) (ci := 1) G K F_X1_edgeIfUntold (c_X1_edgeIfUntold aW n cl th ki va re fi aB bt bs aC to co ke nu fw v 3 J S B9 C9 (by omega) (by omega)) hP ml_X1_36 rfl rfl rfl (by decide) (by decide) rfl hl.1 (Nat.le_of_ble_eq_true rfl) dX1_flawsOfEdges_64 ?_
        have hf8 := usl_le re n cl hn hre v (by omega) 3
        refine c_eq G (tgt := 74) (by omega) (by omega) dX1_flawsOfEdges_67 (by decide) (fun c67 => ?_) (fun c67 => ?_)
        · -- taken at 67
          have hl := lv_re (l' := [(2, .int (nI (cif (0 < cov re n cl to co v 0) 1 0 + cif (cov re n cl to co v 1 ≠ usl re n cl v 1 ∨ cov re n cl to co v 2 ≠ usl re n cl v 2) 2 0 + cif (cov re n cl to co v 3 ≠ usl re n cl v 3) 4 0))), (0, .ref (aC 0)), (1, .int (nI v))]) hl (by rw [show (nI (cif (0 < cov re n cl to co v 0) 1 0 + cif (cov re n cl to co v 1 ≠ usl re n cl v 1 ∨ cov re n cl to co v 2 ≠ usl re n cl v 2) 2 0)) = (nI (cif (0 < cov re n cl to co v 0) 1 0 + cif (cov re n cl to co v 1 ≠ usl re n cl v 1 ∨ cov re n cl to co v 2 ≠ usl re n cl v 2) 2 0 + cif (cov re n cl to co v 3 ≠ usl re n cl v 3) 4 0)) from (or4_f (fun h => h c67))])
          refine lv_iload_n hx hb dX1_flawsOfEdges_74 rfl (lv_at hl 0 rfl) ?_
          exact hret _ _ _ rfl dX1_flawsOfEdges_75
        · -- not taken at 67
          refine lv_iload_n hx hb dX1_flawsOfEdges_70 rfl (lv_at hl 0 rfl) ?_
          refine lv_iconst (v := (nI 4)) hx hb dX1_flawsOfEdges_71 (by decide) ?_
          refine lv_ior hx hb dX1_flawsOfEdges_72 ?_
          refine t_i (y := (nI (cif (0 < cov re n cl to co v 0) 1 0 + cif (cov re n cl to co v 1 ≠ usl re n cl v 1 ∨ cov re n cl to co v 2 ≠ usl re n cl v 2) 2 0 + cif (cov re n cl to co v 3 ≠ usl re n cl v 3) 4 0))) (or4_t c67) ?_
          refine lv_istore_n (lv' := [(2, .int (nI (cif (0 < cov re n cl to co v 0) 1 0 + cif (cov re n cl to co v 1 ≠ usl re n cl v 1 ∨ cov re n cl to co v 2 ≠ usl re n cl v 2) 2 0 + cif (cov re n cl to co v 3 ≠ usl re n cl v 3) 4 0))), (0, .ref (aC 0)), (1, .int (nI v))]) hx hb dX1_flawsOfEdges_73 rfl hl (by decide) rfl (fun ls hl => ?_)
          refine lv_iload_n hx hb dX1_flawsOfEdges_74 rfl (lv_at hl 0 rfl) ?_
          exact hret _ _ _ rfl dX1_flawsOfEdges_75
      · -- not taken at 48
        refine lv_iload_n hx hb dX1_flawsOfEdges_51 rfl (lv_at hl 0 rfl) ?_
        refine lv_iconst (v := (nI 2)) hx hb dX1_flawsOfEdges_52 (by decide) ?_
        refine lv_ior hx hb dX1_flawsOfEdges_53 ?_
        refine t_i (y := (nI (cif (0 < cov re n cl to co v 0) 1 0 + cif (cov re n cl to co v 1 ≠ usl re n cl v 1 ∨ cov re n cl to co v 2 ≠ usl re n cl v 2) 2 0))) (by first | exact or2_t (Or.inl c33) | exact or2_t (Or.inr c48)) ?_
        refine lv_istore_n (lv' := [(2, .int (nI (cif (0 < cov re n cl to co v 0) 1 0 + cif (cov re n cl to co v 1 ≠ usl re n cl v 1 ∨ cov re n cl to co v 2 ≠ usl re n cl v 2) 2 0))), (0, .ref (aC 0)), (1, .int (nI v))]) hx hb dX1_flawsOfEdges_54 rfl hl (by decide) rfl (fun ls hl => ?_)
        refine lv_aload_n hx hb dX1_flawsOfEdges_55 rfl (lv_at hl 1 rfl) ?_
        refine lv_iload_n hx hb dX1_flawsOfEdges_56 rfl (lv_at hl 2 rfl) ?_
        refine lv_iconst (v := (nI 3)) hx hb dX1_flawsOfEdges_57 (by decide) ?_
        refine callPV (As := [.int (nI v), .int (nI 3)]) (rest := []) (q0 := 8) (ci := 1) G K F_X1_edge (c_X1_edge aW n cl th ki va re fi aB bt bs aC to co ke nu fw v 3 J S B9 C9 (by omega) (by omega)) hP ml_X1_40 rfl rfl rfl (by decide) (by decide) rfl hl.1 (Nat.le_of_ble_eq_true rfl) dX1_flawsOfEdges_58 ?_
        have hf9 := cov_le re n cl to co hn hre hco v (by omega) 3
        refine lv_aload_n hx hb dX1_flawsOfEdges_61 rfl (lv_at hl 1 rfl) ?_
        refine lv_iload_n hx hb dX1_flawsOfEdges_62 rfl (lv_at hl 2 rfl) ?_
        refine lv_iconst (v := (nI 3)) hx hb dX1_flawsOfEdges_63 (by decide) ?_
        refine callPV (As := [.int (nI v), .int (nI 3)]) (rest := [.int (nI (cov re n cl to co v 3))]) (q0 := 8) (ci := 1) G K F_X1_edgeIfUntold (c_X1_edgeIfUntold aW n cl th ki va re fi aB bt bs aC to co ke nu fw v 3 J S B9 C9 (by omega) (by omega)) hP ml_X1_36 rfl rfl rfl (by decide) (by decide) rfl hl.1 (Nat.le_of_ble_eq_true rfl) dX1_flawsOfEdges_64 ?_
        have hf10 := usl_le re n cl hn hre v (by omega) 3
        refine c_eq G (tgt := 74) (by omega) (by omega) dX1_flawsOfEdges_67 (by decide) (fun c67 => ?_) (fun c67 => ?_)
        · -- taken at 67
          have hl := lv_re (l' := [(2, .int (nI (cif (0 < cov re n cl to co v 0) 1 0 + cif (cov re n cl to co v 1 ≠ usl re n cl v 1 ∨ cov re n cl to co v 2 ≠ usl re n cl v 2) 2 0 + cif (cov re n cl to co v 3 ≠ usl re n cl v 3) 4 0))), (0, .ref (aC 0)), (1, .int (nI v))]) hl (by rw [show (nI (cif (0 < cov re n cl to co v 0) 1 0 + cif (cov re n cl to co v 1 ≠ usl re n cl v 1 ∨ cov re n cl to co v 2 ≠ usl re n cl v 2) 2 0)) = (nI (cif (0 < cov re n cl to co v 0) 1 0 + cif (cov re n cl to co v 1 ≠ usl re n cl v 1 ∨ cov re n cl to co v 2 ≠ usl re n cl v 2) 2 0 + cif (cov re n cl to co v 3 ≠ usl re n cl v 3) 4 0)) from (or4_f (fun h => h c67))])
          refine lv_iload_n hx hb dX1_flawsOfEdges_74 rfl (lv_at hl 0 rfl) ?_
          exact hret _ _ _ rfl dX1_flawsOfEdges_75
        · -- not taken at 67
          refine lv_iload_n hx hb dX1_flawsOfEdges_70 rfl (lv_at hl 0 rfl) ?_
          refine lv_iconst (v := (nI 4)) hx hb dX1_flawsOfEdges_71 (by decide) ?_
          refine lv_ior hx hb dX1_flawsOfEdges_72 ?_
          refine t_i (y := (nI (cif (0 < cov re n cl to co v 0) 1 0 + cif (cov re n cl to co v 1 ≠ usl re n cl v 1 ∨ cov re n cl to co v 2 ≠ usl re n cl v 2) 2 0 + cif (cov re n cl to co v 3 ≠ usl re n cl v 3) 4 0))) (or4_t c67) ?_
          refine lv_istore_n (lv' := [(2, .int (nI (cif (0 < cov re n cl to co v 0) 1 0 + cif (cov re n cl to co v 1 ≠ usl re n cl v 1 ∨ cov re n cl to co v 2 ≠ usl re n cl v 2) 2 0 + cif (cov re n cl to co v 3 ≠ usl re n cl v 3) 4 0))), (0, .ref (aC 0)), (1, .int (nI v))]) hx hb dX1_flawsOfEdges_73 rfl hl (by decide) rfl (fun ls hl => ?_)
          refine lv_iload_n hx hb dX1_flawsOfEdges_74 rfl (lv_at hl 0 rfl) ?_
          exact hret _ _ _ rfl dX1_flawsOfEdges_75
  refine lv_aload_n hx hb dX1_flawsOfEdges_0 rfl (lv_at hl 0 rfl) ?_
  refine lv_iload_n hx hb dX1_flawsOfEdges_1 rfl (lv_at hl 1 rfl) ?_
  refine lv_iconst (v := (nI 0)) hx hb dX1_flawsOfEdges_2 (by decide) ?_
  refine callPV (As := [.int (nI v), .int (nI 0)]) (rest := []) (q0 := 8) (ci := 1) G K F_X1_edge (c_X1_edge aW n cl th ki va re fi aB bt bs aC to co ke nu fw v 0 J S B9 C9 (by omega) (by omega)) hP ml_X1_40 rfl rfl rfl (by decide) (by decide) rfl hl.1 (Nat.le_of_ble_eq_true rfl) dX1_flawsOfEdges_3 ?_
  have hf11 := cov_le re n cl to co hn hre hco v (by omega) 0
  refine lv_aload_n hx hb dX1_flawsOfEdges_6 rfl (lv_at hl 0 rfl) ?_
  refine lv_iload_n hx hb dX1_flawsOfEdges_7 rfl (lv_at hl 1 rfl) ?_
  refine lv_iconst (v := (nI 0)) hx hb dX1_flawsOfEdges_8 (by decide) ?_
  refine callPV (As := [.int (nI v), .int (nI 0)]) (rest := [.int (nI (cov re n cl to co v 0))]) (q0 := 8) (ci := 1) G K F_X1_edgeIfUntold (c_X1_edgeIfUntold aW n cl th ki va re fi aB bt bs aC to co ke nu fw v 0 J S B9 C9 (by omega) (by omega)) hP ml_X1_36 rfl rfl rfl (by decide) (by decide) rfl hl.1 (Nat.le_of_ble_eq_true rfl) dX1_flawsOfEdges_9 ?_
  have hf12 := usl_le re n cl hn hre v (by omega) 0
  have hu0 := usl0 re n cl v
  refine c_ne G (tgt := 19) (by omega) (by omega) dX1_flawsOfEdges_12 (by decide) (fun c12 => ?_) (fun c12 => ?_)
  · -- taken at 12
    refine lv_iconst (v := (nI 1)) hx hb dX1_flawsOfEdges_19 (by decide) ?_
    refine t_i (y := (nI (cif (0 < cov re n cl to co v 0) 1 0))) (congrArg nI (by first | rw [cif_t (by omega)] | rw [cif_f (by omega)])) ?_
    exact J20
  · -- not taken at 12
    refine lv_iconst (v := (nI 0)) hx hb dX1_flawsOfEdges_15 (by decide) ?_
    refine lv_goto (tgt := 20) hx hb dX1_flawsOfEdges_16 (by decide) ?_
    refine t_i (y := (nI (cif (0 < cov re n cl to co v 0) 1 0))) (congrArg nI (by first | rw [cif_t (by omega)] | rw [cif_f (by omega)])) ?_
    exact J20
set_option maxHeartbeats 4000000 in
set_option maxRecDepth 100000 in
theorem c_X1_reckonAll (aW : Nat → Nat) (n : Nat) (cl : Nat) (th : Nat → Nat) (ki : Nat → Nat) (va : Nat → Nat) (re : Nat → Nat) (fi : Nat → Nat) (aB : Nat → Nat) (bt : Nat → Nat) (bs : Nat) (aC : Nat → Nat) (to : Nat → Prop) (co : Nat → Nat) (ke : Nat → Int32) (nu : Nat → Int32) (fw : Nat → Nat) (J : IW n cl th ki va re fi) (S : SW n cl re fi) (B9 : (∀ j, bt j ≤ 255) ∧ bs ≤ 216) (C9 : (∀ j, co j ≤ 400) ∧ (∀ j, fw j ≤ 15)) : CM l D (TY cI cZ cS) yX1_reckonAll cX1_reckonAll 2 none 4 [.ref (aC 0)] ((wW cI aW n cl th ki va re fi) ++ ((wB cI aB bt bs) ++ (wC cI cZ aC (aW 0) (aB 0) to co ke nu fw))) none ((wW cI aW n cl th ki va re fi) ++ ((wB cI aB bt bs) ++ (wC cI cZ aC (aW 0) (aB 0) to co ke (rkN (cls ki re cl) (fun vv => nmC bt bs (cov re n cl to co vv)) nu n) (rkF (cls ki re cl) (fun vv => flE re n cl to co vv + cif (nmC bt bs (cov re n cl to co vv) ≠ ke vv) 8 0) fw n)))) := by
  refine CM.ofV (by decide +kernel) (Nat.le_of_ble_eq_true rfl) ?_
  intro p e s m args below meth c Q A G K hA w hret ls hl
  obtain ⟨hx, hb, hml, hown, hts⟩ := id G
  obtain ⟨hn, hcl, hth, hki, hva, hre, hfi⟩ := id J
  obtain ⟨hbt, hbs⟩ := id B9
  obtain ⟨hco, hfw⟩ := id C9
  have hl : lv_has ls 2 [(0, .ref (aC 0))] := hl
  refine lv_iconst (v := (nI 0)) hx hb dX1_reckonAll_0 (by decide) ?_
  refine lv_istore_n (lv' := [(1, .int (nI 0)), (0, .ref (aC 0))]) hx hb dX1_reckonAll_1 rfl hl (by decide) rfl (fun ls hl => ?_)
  have L2 : ∀ (d i : Nat), 0 ≤ i → i + d = n → ∀ (H : Heap) (locs : List Loc), WW D A s.heap ((wW cI aW n cl th ki va re fi) ++ ((wB cI aB bt bs) ++ (wC cI cZ aC (aW 0) (aB 0) to co ke (rkN (cls ki re cl) (fun vv => nmC bt bs (cov re n cl to co vv)) nu i) (rkF (cls ki re cl) (fun vv => flE re n cl to co vv + cif (nmC bt bs (cov re n cl to co vv) ≠ ke vv) 8 0) fw i)))) H locs → ∀ (ls : Array Slot), lv_has ls 2 [(0, .ref (aC 0)), (1, .int (nI i))] → W p l e (RM 4) s m args below meth c H locs 0 0 Q (F0 m 2 ls []) := by
    intro d
    induction d with
    | zero =>
      intro i hlo2 hhi2 H locs w ls hl
      have C8 : (∀ j, co j ≤ 400) ∧ (∀ j, rkF (cls ki re cl) (fun vv => flE re n cl to co vv + cif (nmC bt bs (cov re n cl to co vv) ≠ ke vv) 8 0) fw i j ≤ 15) := ⟨hco, rkF_le (z := 15) (fun j => by have := flE_le re n cl to co j; have := cif_le (q := nmC bt bs (cov re n cl to co j) ≠ ke j) (x := 8) (y := 0) (z := 8) (by omega) (by omega); omega) hfw i⟩
      refine lv_iload_n hx hb dX1_reckonAll_2 rfl (lv_at hl 1 rfl) ?_
      refine lv_aload_n hx hb dX1_reckonAll_3 rfl (lv_at hl 0 rfl) ?_
      refine f_get G K w.1 inX1 8 (ci := 1) rfl rfl 0 rfl fl_X1_28 (v := .ref (aW 0)) rfl dX1_reckonAll_4 ?_
      refine f_get G K w.1 inX4 0 (ci := 4) rfl rfl 5 rfl fl_X1_64 (v := .int (nI n)) rfl dX1_reckonAll_7 ?_
      refine c_ge G (tgt := 74) (by omega) (by omega) dX1_reckonAll_10 (by decide) (fun c10 => ?_) (fun c10 => ?_)
      · -- taken at 10
        exact hret _ _ _ _ _ (by rw [show i = n by omega]) w dX1_reckonAll_74
      · -- not taken at 10
        exact absurd c10 (by omega)
    | succ d ih =>
      intro i hlo2 hhi2 H locs w ls hl
      have C8 : (∀ j, co j ≤ 400) ∧ (∀ j, rkF (cls ki re cl) (fun vv => flE re n cl to co vv + cif (nmC bt bs (cov re n cl to co vv) ≠ ke vv) 8 0) fw i j ≤ 15) := ⟨hco, rkF_le (z := 15) (fun j => by have := flE_le re n cl to co j; have := cif_le (q := nmC bt bs (cov re n cl to co j) ≠ ke j) (x := 8) (y := 0) (z := 8) (by omega) (by omega); omega) hfw i⟩
      refine lv_iload_n hx hb dX1_reckonAll_2 rfl (lv_at hl 1 rfl) ?_
      refine lv_aload_n hx hb dX1_reckonAll_3 rfl (lv_at hl 0 rfl) ?_
      refine f_get G K w.1 inX1 8 (ci := 1) rfl rfl 0 rfl fl_X1_28 (v := .ref (aW 0)) rfl dX1_reckonAll_4 ?_
      refine f_get G K w.1 inX4 0 (ci := 4) rfl rfl 5 rfl fl_X1_64 (v := .int (nI n)) rfl dX1_reckonAll_7 ?_
      refine c_ge G (tgt := 74) (by omega) (by omega) dX1_reckonAll_10 (by decide) (fun c10 => ?_) (fun c10 => ?_)
      · -- taken at 10
        exact absurd c10 (by omega)
      · -- not taken at 10
        refine lv_aload_n hx hb dX1_reckonAll_13 rfl (lv_at hl 0 rfl) ?_
        refine f_get G K w.1 inX1 8 (ci := 1) rfl rfl 0 rfl fl_X1_28 (v := .ref (aW 0)) rfl dX1_reckonAll_14 ?_
        refine lv_iload_n hx hb dX1_reckonAll_17 rfl (lv_at hl 1 rfl) ?_
        refine callPV (As := [.int (nI i)]) (rest := []) (q0 := 0) (ci := 4) G K F_X4_isClosedSeal (c_X4_isClosedSeal aW n cl th ki va re fi i J (by omega)) (w.1.sub (ws' := (wW cI aW n cl th ki va re fi)) [0, 1, 2, 3, 4, 5] rfl) ml_X1_68 rfl rfl rfl (by decide) (by decide) rfl hl.1 (Nat.le_of_ble_eq_true rfl) dX1_reckonAll_18 ?_
        refine b_eq G (tgt := 68) dX1_reckonAll_21 (by decide) (fun c21 => ?_) (fun c21 => ?_)
        · -- taken at 21
          have w : WW D A s.heap ((wW cI aW n cl th ki va re fi) ++ ((wB cI aB bt bs) ++ (wC cI cZ aC (aW 0) (aB 0) to co ke (rkN (cls ki re cl) (fun vv => nmC bt bs (cov re n cl to co vv)) nu (i + 1)) (rkF (cls ki re cl) (fun vv => flE re n cl to co vv + cif (nmC bt bs (cov re n cl to co vv) ≠ ke vv) 8 0) fw (i + 1))))) H locs := by
            have e1 : rkN (cls ki re cl) (fun vv => nmC bt bs (cov re n cl to co vv)) nu (i + 1) = cif (cls ki re cl i) (va_up (rkN (cls ki re cl) (fun vv => nmC bt bs (cov re n cl to co vv)) nu i) i ((fun vv => nmC bt bs (cov re n cl to co vv)) i)) (rkN (cls ki re cl) (fun vv => nmC bt bs (cov re n cl to co vv)) nu i) := rfl
            have e2 : rkF (cls ki re cl) (fun vv => flE re n cl to co vv + cif (nmC bt bs (cov re n cl to co vv) ≠ ke vv) 8 0) fw (i + 1) = cif (cls ki re cl i) (va_up (rkF (cls ki re cl) (fun vv => flE re n cl to co vv + cif (nmC bt bs (cov re n cl to co vv) ≠ ke vv) 8 0) fw i) i ((fun vv => flE re n cl to co vv + cif (nmC bt bs (cov re n cl to co vv) ≠ ke vv) 8 0) i)) (rkF (cls ki re cl) (fun vv => flE re n cl to co vv + cif (nmC bt bs (cov re n cl to co vv) ≠ ke vv) 8 0) fw i) := rfl
            rw [e1, e2]; first | (rw [cif_t c21, cif_t c21]; exact w) | (rw [cif_f c21, cif_f c21]; exact w)
          refine lv_iinc (v := (nI (i + 1))) (lv' := [(1, .int (nI (i + 1))), (0, .ref (aC 0))]) hx hb dX1_reckonAll_68 hl (k := 1) rfl (nI_inc _ 1) (by decide) rfl (fun ls hl => ?_)
          refine lv_goto (tgt := 2) hx hb dX1_reckonAll_71 (by decide) ?_
          -- slot 1: have n:i + 1, want n:(i + 1)
          exact ih (i + 1) (by omega) (by omega) H locs w ls (lv_sub hl [1, 0] rfl)
        · -- not taken at 21
          refine lv_aload_n hx hb dX1_reckonAll_24 rfl (lv_at hl 0 rfl) ?_
          refine f_get G K w.1 inX1 8 (ci := 1) rfl rfl 5 rfl fl_X1_22 (v := .ref (aC 4)) rfl dX1_reckonAll_25 ?_
          refine lv_iload_n hx hb dX1_reckonAll_28 rfl (lv_at hl 1 rfl) ?_
          refine lv_aload_n hx hb dX1_reckonAll_29 rfl (lv_at hl 0 rfl) ?_
          refine lv_iload_n hx hb dX1_reckonAll_30 rfl (lv_at hl 1 rfl) ?_
          refine callPV (As := [.int (nI i)]) (rest := [.int (nI i), .ref (aC 4)]) (q0 := 8) (ci := 1) G K F_X1_numberNow (c_X1_numberNow aW n cl th ki va re fi aB bt bs aC to co ke (rkN (cls ki re cl) (fun vv => nmC bt bs (cov re n cl to co vv)) nu i) (rkF (cls ki re cl) (fun vv => flE re n cl to co vv + cif (nmC bt bs (cov re n cl to co vv) ≠ ke vv) 8 0) fw i) i J S B9 C8 (by omega)) w.1 ml_X1_61 rfl rfl rfl (by decide) (by decide) rfl hl.1 (Nat.le_of_ble_eq_true rfl) dX1_reckonAll_31 ?_
          refine a_st G K w 12 0 (a := (aC 4)) rfl rfl (by omega) (by decide) dX1_reckonAll_34 (w2 := ((wW cI aW n cl th ki va re fi) ++ ((wB cI aB bt bs) ++ (wC cI cZ aC (aW 0) (aB 0) to co ke (va_up (rkN (cls ki re cl) (fun vv => nmC bt bs (cov re n cl to co vv)) nu i) i (nmC bt bs (cov re n cl to co i))) (rkF (cls ki re cl) (fun vv => flE re n cl to co vv + cif (nmC bt bs (cov re n cl to co vv) ≠ ke vv) 8 0) fw i))))) rfl (fun Hp1 lo2 w => ?_)
          refine lv_aload_n hx hb dX1_reckonAll_35 rfl (lv_at hl 0 rfl) ?_
          refine f_get G K w.1 inX1 8 (ci := 1) rfl rfl 6 rfl fl_X1_25 (v := .ref (aC 5)) rfl dX1_reckonAll_36 ?_
          refine lv_iload_n hx hb dX1_reckonAll_39 rfl (lv_at hl 1 rfl) ?_
          refine lv_aload_n hx hb dX1_reckonAll_40 rfl (lv_at hl 0 rfl) ?_
          refine lv_iload_n hx hb dX1_reckonAll_41 rfl (lv_at hl 1 rfl) ?_
          refine callPV (As := [.int (nI i)]) (rest := [.int (nI i), .ref (aC 5)]) (q0 := 8) (ci := 1) G K F_X1_flawsOfEdges (c_X1_flawsOfEdges aW n cl th ki va re fi aB bt bs aC to co ke (va_up (rkN (cls ki re cl) (fun vv => nmC bt bs (cov re n cl to co vv)) nu i) i (nmC bt bs (cov re n cl to co i))) (rkF (cls ki re cl) (fun vv => flE re n cl to co vv + cif (nmC bt bs (cov re n cl to co vv) ≠ ke vv) 8 0) fw i) i J S B9 C8 (by omega)) w.1 ml_X1_71 rfl rfl rfl (by decide) (by decide) rfl hl.1 (Nat.le_of_ble_eq_true rfl) dX1_reckonAll_42 ?_
          have hf3 := flE_le re n cl to co i
          refine lv_aload_n hx hb dX1_reckonAll_45 rfl (lv_at hl 0 rfl) ?_
          refine f_get G K w.1 inX1 8 (ci := 1) rfl rfl 5 rfl fl_X1_22 (v := .ref (aC 4)) rfl dX1_reckonAll_46 ?_
          refine lv_iload_n hx hb dX1_reckonAll_49 rfl (lv_at hl 1 rfl) ?_
          refine a_ld G K w.1 12 0 (a := (aC 4)) rfl rfl (by omega) (by decide) dX1_reckonAll_50 ?_
          refine t_i (y := ((fun vv => nmC bt bs (cov re n cl to co vv)) i)) (va_up_self _ _ _) ?_
          refine lv_aload_n hx hb dX1_reckonAll_51 rfl (lv_at hl 0 rfl) ?_
          refine f_get G K w.1 inX1 8 (ci := 1) rfl rfl 4 rfl fl_X1_19 (v := .ref (aC 3)) rfl dX1_reckonAll_52 ?_
          refine lv_iload_n hx hb dX1_reckonAll_55 rfl (lv_at hl 1 rfl) ?_
          refine a_ld G K w.1 11 0 (a := (aC 3)) rfl rfl (by omega) (by decide) dX1_reckonAll_56 ?_
          refine lv_icmp_ne (tgt := 64) hx hb dX1_reckonAll_57 (by decide) (fun c57 => ?_) (fun c57 => ?_)
          · -- taken at 57
            refine lv_bipush (v := (nI 8)) hx hb dX1_reckonAll_64 (by decide) ?_
            refine lv_ior hx hb dX1_reckonAll_66 ?_
            refine t_i (y := (nI ((fun vv => flE re n cl to co vv + cif (nmC bt bs (cov re n cl to co vv) ≠ ke vv) 8 0) i))) (by have h7 := flE_le re n cl to co i; first | exact (or8 h7).trans (congrArg nI (by show _ = _ + cif _ 8 0; rw [cif_t c57])) | exact (or0 h7).trans (congrArg nI (by show _ = _ + cif _ 8 0; rw [cif_f (fun h => h c57)]))) ?_
            refine a_stN G K w 13 0 (a := (aC 5)) rfl rfl (by omega) (by decide) dX1_reckonAll_67 (w2 := ((wW cI aW n cl th ki va re fi) ++ ((wB cI aB bt bs) ++ (wC cI cZ aC (aW 0) (aB 0) to co ke (va_up (rkN (cls ki re cl) (fun vv => nmC bt bs (cov re n cl to co vv)) nu i) i (nmC bt bs (cov re n cl to co i))) (va_up (rkF (cls ki re cl) (fun vv => flE re n cl to co vv + cif (nmC bt bs (cov re n cl to co vv) ≠ ke vv) 8 0) fw i) i ((fun vv => flE re n cl to co vv + cif (nmC bt bs (cov re n cl to co vv) ≠ ke vv) 8 0) i)))))) rfl (fun Hp4 lo5 w => ?_)
            have w : WW D A s.heap ((wW cI aW n cl th ki va re fi) ++ ((wB cI aB bt bs) ++ (wC cI cZ aC (aW 0) (aB 0) to co ke (rkN (cls ki re cl) (fun vv => nmC bt bs (cov re n cl to co vv)) nu (i + 1)) (rkF (cls ki re cl) (fun vv => flE re n cl to co vv + cif (nmC bt bs (cov re n cl to co vv) ≠ ke vv) 8 0) fw (i + 1))))) Hp4 lo5 := by
              have e1 : rkN (cls ki re cl) (fun vv => nmC bt bs (cov re n cl to co vv)) nu (i + 1) = cif (cls ki re cl i) (va_up (rkN (cls ki re cl) (fun vv => nmC bt bs (cov re n cl to co vv)) nu i) i ((fun vv => nmC bt bs (cov re n cl to co vv)) i)) (rkN (cls ki re cl) (fun vv => nmC bt bs (cov re n cl to co vv)) nu i) := rfl
              have e2 : rkF (cls ki re cl) (fun vv => flE re n cl to co vv + cif (nmC bt bs (cov re n cl to co vv) ≠ ke vv) 8 0) fw (i + 1) = cif (cls ki re cl i) (va_up (rkF (cls ki re cl) (fun vv => flE re n cl to co vv + cif (nmC bt bs (cov re n cl to co vv) ≠ ke vv) 8 0) fw i) i ((fun vv => flE re n cl to co vv + cif (nmC bt bs (cov re n cl to co vv) ≠ ke vv) 8 0) i)) (rkF (cls ki re cl) (fun vv => flE re n cl to co vv + cif (nmC bt bs (cov re n cl to co vv) ≠ ke vv) 8 0) fw i) := rfl
              rw [e1, e2]; first | (rw [cif_t c21, cif_t c21]; exact w) | (rw [cif_f c21, cif_f c21]; exact w)
            refine lv_iinc (v := (nI (i + 1))) (lv' := [(1, .int (nI (i + 1))), (0, .ref (aC 0))]) hx hb dX1_reckonAll_68 hl (k := 1) rfl (nI_inc _ 1) (by decide) rfl (fun ls hl => ?_)
            refine lv_goto (tgt := 2) hx hb dX1_reckonAll_71 (by decide) ?_
            -- slot 1: have n:i + 1, want n:(i + 1)
            exact ih (i + 1) (by omega) (by omega) Hp4 lo5 w ls (lv_sub hl [1, 0] rfl)
          · -- not taken at 57
            refine lv_iconst (v := (nI 0)) hx hb dX1_reckonAll_60 (by decide) ?_
            refine lv_goto (tgt := 66) hx hb dX1_reckonAll_61 (by decide) ?_
            refine lv_ior hx hb dX1_reckonAll_66 ?_
            refine t_i (y := (nI ((fun vv => flE re n cl to co vv + cif (nmC bt bs (cov re n cl to co vv) ≠ ke vv) 8 0) i))) (by have h7 := flE_le re n cl to co i; first | exact (or8 h7).trans (congrArg nI (by show _ = _ + cif _ 8 0; rw [cif_t c57])) | exact (or0 h7).trans (congrArg nI (by show _ = _ + cif _ 8 0; rw [cif_f (fun h => h c57)]))) ?_
            refine a_stN G K w 13 0 (a := (aC 5)) rfl rfl (by omega) (by decide) dX1_reckonAll_67 (w2 := ((wW cI aW n cl th ki va re fi) ++ ((wB cI aB bt bs) ++ (wC cI cZ aC (aW 0) (aB 0) to co ke (va_up (rkN (cls ki re cl) (fun vv => nmC bt bs (cov re n cl to co vv)) nu i) i (nmC bt bs (cov re n cl to co i))) (va_up (rkF (cls ki re cl) (fun vv => flE re n cl to co vv + cif (nmC bt bs (cov re n cl to co vv) ≠ ke vv) 8 0) fw i) i ((fun vv => flE re n cl to co vv + cif (nmC bt bs (cov re n cl to co vv) ≠ ke vv) 8 0) i)))))) rfl (fun Hp6 lo7 w => ?_)
            have w : WW D A s.heap ((wW cI aW n cl th ki va re fi) ++ ((wB cI aB bt bs) ++ (wC cI cZ aC (aW 0) (aB 0) to co ke (rkN (cls ki re cl) (fun vv => nmC bt bs (cov re n cl to co vv)) nu (i + 1)) (rkF (cls ki re cl) (fun vv => flE re n cl to co vv + cif (nmC bt bs (cov re n cl to co vv) ≠ ke vv) 8 0) fw (i + 1))))) Hp6 lo7 := by
              have e1 : rkN (cls ki re cl) (fun vv => nmC bt bs (cov re n cl to co vv)) nu (i + 1) = cif (cls ki re cl i) (va_up (rkN (cls ki re cl) (fun vv => nmC bt bs (cov re n cl to co vv)) nu i) i ((fun vv => nmC bt bs (cov re n cl to co vv)) i)) (rkN (cls ki re cl) (fun vv => nmC bt bs (cov re n cl to co vv)) nu i) := rfl
              have e2 : rkF (cls ki re cl) (fun vv => flE re n cl to co vv + cif (nmC bt bs (cov re n cl to co vv) ≠ ke vv) 8 0) fw (i + 1) = cif (cls ki re cl i) (va_up (rkF (cls ki re cl) (fun vv => flE re n cl to co vv + cif (nmC bt bs (cov re n cl to co vv) ≠ ke vv) 8 0) fw i) i ((fun vv => flE re n cl to co vv + cif (nmC bt bs (cov re n cl to co vv) ≠ ke vv) 8 0) i)) (rkF (cls ki re cl) (fun vv => flE re n cl to co vv + cif (nmC bt bs (cov re n cl to co vv) ≠ ke vv) 8 0) fw i) := rfl
              rw [e1, e2]; first | (rw [cif_t c21, cif_t c21]; exact w) | (rw [cif_f c21, cif_f c21]; exact w)
            refine lv_iinc (v := (nI (i + 1))) (lv' := [(1, .int (nI (i + 1))), (0, .ref (aC 0))]) hx hb dX1_reckonAll_68 hl (k := 1) rfl (nI_inc _ 1) (by decide) rfl (fun ls hl => ?_)
            refine lv_goto (tgt := 2) hx hb dX1_reckonAll_71 (by decide) ?_
            -- slot 1: have n:i + 1, want n:(i + 1)
            exact ih (i + 1) (by omega) (by omega) Hp6 lo7 w ls (lv_sub hl [1, 0] rfl)
  exact L2 (n - 0) (0) (Nat.le_refl _) (by omega) s.heap [] w ls (lv_sub hl [1, 0] rfl)
set_option maxHeartbeats 4000000 in
set_option maxRecDepth 100000 in
theorem c_X1_keepNumbers (aW : Nat → Nat) (n : Nat) (cl : Nat) (th : Nat → Nat) (ki : Nat → Nat) (va : Nat → Nat) (re : Nat → Nat) (fi : Nat → Nat) (aB : Nat → Nat) (bt : Nat → Nat) (bs : Nat) (aC : Nat → Nat) (to : Nat → Prop) (co : Nat → Nat) (ke : Nat → Int32) (nu : Nat → Int32) (fw : Nat → Nat) (r : Nat) (J : IW n cl th ki va re fi) (S : SW n cl re fi) (B9 : (∀ j, bt j ≤ 255) ∧ bs ≤ 216) (C9 : (∀ j, co j ≤ 400) ∧ (∀ j, fw j ≤ 15)) (hr9 : r ≤ cl) : CM l D (TY cI cZ cS) yX1_keepNumbers cX1_keepNumbers 3 none 4 [.ref (aC 0), .int (nI r)] ((wW cI aW n cl th ki va re fi) ++ ((wB cI aB bt bs) ++ (wC cI cZ aC (aW 0) (aB 0) to co ke nu fw))) none ((wW cI aW n cl th ki va re fi) ++ ((wB cI aB bt bs) ++ (wC cI cZ aC (aW 0) (aB 0) to co (kqR (fun vv => ki vv = 4) (fun vv => nmC bt bs (cov re n cl to co vv)) ke (cntLt re r n) (cntEq re r n)) nu fw))) := by
  refine CM.ofV (by decide +kernel) (Nat.le_of_ble_eq_true rfl) ?_
  intro p e s m args below meth c Q A G K hA w hret ls hl
  obtain ⟨hx, hb, hml, hown, hts⟩ := id G
  obtain ⟨hn, hcl, hth, hki, hva, hre, hfi⟩ := id J
  obtain ⟨hbt, hbs⟩ := id B9
  obtain ⟨hco, hfw⟩ := id C9
  have hS1 := S.1 r hr9
  have hle := cnt_le re r n
  have hl : lv_has ls 3 [(0, .ref (aC 0)), (1, .int (nI r))] := hl
  refine lv_aload_n hx hb dX1_keepNumbers_0 rfl (lv_at hl 0 rfl) ?_
  refine f_get G K w.1 inX1 8 (ci := 1) rfl rfl 0 rfl fl_X1_28 (v := .ref (aW 0)) rfl dX1_keepNumbers_1 ?_
  refine f_get G K w.1 inX4 0 (ci := 4) rfl rfl 4 rfl fl_X1_48 (v := .ref (aW 5)) rfl dX1_keepNumbers_4 ?_
  refine lv_iload_n hx hb dX1_keepNumbers_7 rfl (lv_at hl 1 rfl) ?_
  refine a_ldN G K w.1 5 0 (a := (aW 5)) rfl rfl (by omega) (by decide) dX1_keepNumbers_8 ?_
  have hb1 := hfi r
  refine t_i (y := (nI (cntLt re r n + 0))) (congrArg nI hS1) ?_
  refine lv_istore_n (lv' := [(2, .int (nI (cntLt re r n + 0))), (0, .ref (aC 0)), (1, .int (nI r))]) hx hb dX1_keepNumbers_9 rfl hl (by decide) rfl (fun ls hl => ?_)
  have L10 : ∀ (d j : Nat), 0 ≤ j → j + d = cntEq re r n → ∀ (H : Heap) (locs : List Loc), WW D A s.heap ((wW cI aW n cl th ki va re fi) ++ ((wB cI aB bt bs) ++ (wC cI cZ aC (aW 0) (aB 0) to co (kqR (fun vv => ki vv = 4) (fun vv => nmC bt bs (cov re n cl to co vv)) ke (cntLt re r n) j) nu fw))) H locs → ∀ (ls : Array Slot), lv_has ls 3 [(0, .ref (aC 0)), (1, .int (nI r)), (2, .int (nI (cntLt re r n + j)))] → W p l e (RM 4) s m args below meth c H locs 0 0 Q (F0 m 10 ls []) := by
    intro d
    induction d with
    | zero =>
      intro j hlo10 hhi10 H locs w ls hl
      refine lv_iload_n hx hb dX1_keepNumbers_10 rfl (lv_at hl 2 rfl) ?_
      refine lv_aload_n hx hb dX1_keepNumbers_11 rfl (lv_at hl 0 rfl) ?_
      refine f_get G K w.1 inX1 8 (ci := 1) rfl rfl 0 rfl fl_X1_28 (v := .ref (aW 0)) rfl dX1_keepNumbers_12 ?_
      refine lv_iload_n hx hb dX1_keepNumbers_15 rfl (lv_at hl 1 rfl) ?_
      refine callPV (As := [.int (nI r)]) (rest := [.int (nI (cntLt re r n + j))]) (q0 := 0) (ci := 4) G K F_X4_behind (c_X4_behind aW n cl th ki va re fi r J S (by omega)) (w.1.sub (ws' := (wW cI aW n cl th ki va re fi)) [0, 1, 2, 3, 4, 5] rfl) ml_X1_53 rfl rfl rfl (by decide) (by decide) rfl hl.1 (Nat.le_of_ble_eq_true rfl) dX1_keepNumbers_16 ?_
      have hf2 := cnt_le re r n
      refine c_ge G (tgt := 50) (by omega) (by omega) dX1_keepNumbers_19 (by decide) (fun c19 => ?_) (fun c19 => ?_)
      · -- taken at 19
        exact hret _ _ _ _ _ (by rw [show j = cntEq re r n by omega]) w dX1_keepNumbers_50
      · -- not taken at 19
        exact absurd c19 (by omega)
    | succ d ih =>
      intro j hlo10 hhi10 H locs w ls hl
      refine lv_iload_n hx hb dX1_keepNumbers_10 rfl (lv_at hl 2 rfl) ?_
      refine lv_aload_n hx hb dX1_keepNumbers_11 rfl (lv_at hl 0 rfl) ?_
      refine f_get G K w.1 inX1 8 (ci := 1) rfl rfl 0 rfl fl_X1_28 (v := .ref (aW 0)) rfl dX1_keepNumbers_12 ?_
      refine lv_iload_n hx hb dX1_keepNumbers_15 rfl (lv_at hl 1 rfl) ?_
      refine callPV (As := [.int (nI r)]) (rest := [.int (nI (cntLt re r n + j))]) (q0 := 0) (ci := 4) G K F_X4_behind (c_X4_behind aW n cl th ki va re fi r J S (by omega)) (w.1.sub (ws' := (wW cI aW n cl th ki va re fi)) [0, 1, 2, 3, 4, 5] rfl) ml_X1_53 rfl rfl rfl (by decide) (by decide) rfl hl.1 (Nat.le_of_ble_eq_true rfl) dX1_keepNumbers_16 ?_
      have hf3 := cnt_le re r n
      refine c_ge G (tgt := 50) (by omega) (by omega) dX1_keepNumbers_19 (by decide) (fun c19 => ?_) (fun c19 => ?_)
      · -- taken at 19
        exact absurd c19 (by omega)
      · -- not taken at 19
        refine lv_aload_n hx hb dX1_keepNumbers_22 rfl (lv_at hl 0 rfl) ?_
        refine f_get G K w.1 inX1 8 (ci := 1) rfl rfl 0 rfl fl_X1_28 (v := .ref (aW 0)) rfl dX1_keepNumbers_23 ?_
        refine lv_iload_n hx hb dX1_keepNumbers_26 rfl (lv_at hl 2 rfl) ?_
        refine callPV (As := [.int (nI (cntLt re r n + j))]) (rest := []) (q0 := 0) (ci := 4) G K F_X4_isSeal (c_X4_isSeal aW n cl th ki va re fi (cntLt re r n + j) J (by omega)) (w.1.sub (ws' := (wW cI aW n cl th ki va re fi)) [0, 1, 2, 3, 4, 5] rfl) ml_X1_57 rfl rfl rfl (by decide) (by decide) rfl hl.1 (Nat.le_of_ble_eq_true rfl) dX1_keepNumbers_27 ?_
        refine b_eq G (tgt := 44) dX1_keepNumbers_30 (by decide) (fun c30 => ?_) (fun c30 => ?_)
        · -- taken at 30
          have w : WW D A s.heap ((wW cI aW n cl th ki va re fi) ++ ((wB cI aB bt bs) ++ (wC cI cZ aC (aW 0) (aB 0) to co (kqR (fun vv => ki vv = 4) (fun vv => nmC bt bs (cov re n cl to co vv)) ke (cntLt re r n) (j + 1)) nu fw))) H locs := by
            have e1 : kqR (fun vv => ki vv = 4) (fun vv => nmC bt bs (cov re n cl to co vv)) ke (cntLt re r n) (j + 1) = cif (ki (cntLt re r n + j) = 4) (va_up (kqR (fun vv => ki vv = 4) (fun vv => nmC bt bs (cov re n cl to co vv)) ke (cntLt re r n) j) (cntLt re r n + j) ((fun vv => nmC bt bs (cov re n cl to co vv)) (cntLt re r n + j))) (kqR (fun vv => ki vv = 4) (fun vv => nmC bt bs (cov re n cl to co vv)) ke (cntLt re r n) j) := rfl
            rw [e1]; first | (rw [cif_t c30]; exact w) | (rw [cif_f c30]; exact w)
          refine lv_iinc (v := (nI (cntLt re r n + j + 1))) (lv' := [(2, .int (nI (cntLt re r n + j + 1))), (0, .ref (aC 0)), (1, .int (nI r))]) hx hb dX1_keepNumbers_44 hl (k := 2) rfl (nI_inc _ 1) (by decide) rfl (fun ls hl => ?_)
          refine lv_goto (tgt := 10) hx hb dX1_keepNumbers_47 (by decide) ?_
          -- slot 2: have n:cntLt re r n + j + 1, want n:cntLt re r n + (j + 1)
          exact ih (j + 1) (by omega) (by omega) H locs w ls (lv_sub hl [1, 2, 0] rfl)
        · -- not taken at 30
          refine lv_aload_n hx hb dX1_keepNumbers_33 rfl (lv_at hl 0 rfl) ?_
          refine f_get G K w.1 inX1 8 (ci := 1) rfl rfl 4 rfl fl_X1_19 (v := .ref (aC 3)) rfl dX1_keepNumbers_34 ?_
          refine lv_iload_n hx hb dX1_keepNumbers_37 rfl (lv_at hl 2 rfl) ?_
          refine lv_aload_n hx hb dX1_keepNumbers_38 rfl (lv_at hl 0 rfl) ?_
          refine lv_iload_n hx hb dX1_keepNumbers_39 rfl (lv_at hl 2 rfl) ?_
          refine callPV (As := [.int (nI (cntLt re r n + j))]) (rest := [.int (nI (cntLt re r n + j)), .ref (aC 3)]) (q0 := 8) (ci := 1) G K F_X1_numberNow (c_X1_numberNow aW n cl th ki va re fi aB bt bs aC to co (kqR (fun vv => ki vv = 4) (fun vv => nmC bt bs (cov re n cl to co vv)) ke (cntLt re r n) j) nu fw (cntLt re r n + j) J S B9 C9 (by omega)) w.1 ml_X1_61 rfl rfl rfl (by decide) (by decide) rfl hl.1 (Nat.le_of_ble_eq_true rfl) dX1_keepNumbers_40 ?_
          refine a_st G K w 11 0 (a := (aC 3)) rfl rfl (by omega) (by decide) dX1_keepNumbers_43 (w2 := ((wW cI aW n cl th ki va re fi) ++ ((wB cI aB bt bs) ++ (wC cI cZ aC (aW 0) (aB 0) to co (va_up (kqR (fun vv => ki vv = 4) (fun vv => nmC bt bs (cov re n cl to co vv)) ke (cntLt re r n) j) (cntLt re r n + j) (nmC bt bs (cov re n cl to co (cntLt re r n + j)))) nu fw)))) rfl (fun Hp4 lo5 w => ?_)
          have w : WW D A s.heap ((wW cI aW n cl th ki va re fi) ++ ((wB cI aB bt bs) ++ (wC cI cZ aC (aW 0) (aB 0) to co (kqR (fun vv => ki vv = 4) (fun vv => nmC bt bs (cov re n cl to co vv)) ke (cntLt re r n) (j + 1)) nu fw))) Hp4 lo5 := by
            have e1 : kqR (fun vv => ki vv = 4) (fun vv => nmC bt bs (cov re n cl to co vv)) ke (cntLt re r n) (j + 1) = cif (ki (cntLt re r n + j) = 4) (va_up (kqR (fun vv => ki vv = 4) (fun vv => nmC bt bs (cov re n cl to co vv)) ke (cntLt re r n) j) (cntLt re r n + j) ((fun vv => nmC bt bs (cov re n cl to co vv)) (cntLt re r n + j))) (kqR (fun vv => ki vv = 4) (fun vv => nmC bt bs (cov re n cl to co vv)) ke (cntLt re r n) j) := rfl
            rw [e1]; first | (rw [cif_t c30]; exact w) | (rw [cif_f c30]; exact w)
          refine lv_iinc (v := (nI (cntLt re r n + j + 1))) (lv' := [(2, .int (nI (cntLt re r n + j + 1))), (0, .ref (aC 0)), (1, .int (nI r))]) hx hb dX1_keepNumbers_44 hl (k := 2) rfl (nI_inc _ 1) (by decide) rfl (fun ls hl => ?_)
          refine lv_goto (tgt := 10) hx hb dX1_keepNumbers_47 (by decide) ?_
          -- slot 2: have n:cntLt re r n + j + 1, want n:cntLt re r n + (j + 1)
          exact ih (j + 1) (by omega) (by omega) Hp4 lo5 w ls (lv_sub hl [1, 2, 0] rfl)
  exact L10 (cntEq re r n - 0) (0) (Nat.le_refl _) (by omega) s.heap [] w ls (lv_sub hl [1, 2, 0] rfl)

end
