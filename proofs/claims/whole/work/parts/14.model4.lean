section
variable {l : Launch} {D : va_G} {cI cZ cS : ClassId}

set_option maxHeartbeats 4000000 in
set_option maxRecDepth 100000 in
theorem c_X6_greater_r (x : Int32) (y : Int32) : CP l D (TY cI cZ cS) yX6_greater cX6_greater 2 .int 0 [.int x, .int y] [] (.int (if y < x then x else y)) := by
  refine CP.ofI (by decide +kernel) (Nat.le_of_ble_eq_true rfl) (nar_int _) ?_
  intro p e s m args below meth c Q G K hP hret ls hl
  obtain ⟨hx, hb, hml, hown, hts⟩ := id G
  have hl : lv_has ls 2 [(0, .int x), (1, .int y)] := hl
  refine lv_iload_n hx hb dX6_greater_0 rfl (lv_at hl 0 rfl) ?_
  refine lv_iload_n hx hb dX6_greater_1 rfl (lv_at hl 1 rfl) ?_
  refine lv_icmp_le (tgt := 9) hx hb dX6_greater_2 (by decide) (fun c2 => ?_) (fun c2 => ?_)
  · -- taken at 2
    refine lv_iload_n hx hb dX6_greater_9 rfl (lv_at hl 1 rfl) ?_
    exact hret _ _ _ (by first | rw [if_neg c2] | rw [if_pos (by rw [Int32.lt_iff_toInt_lt]; rw [Int32.le_iff_toInt_le] at c2; omega)] | rw [if_neg (by rw [Int32.lt_iff_toInt_lt]; rw [Int32.le_iff_toInt_le] at c2; omega)]) dX6_greater_10
  · -- not taken at 2
    refine lv_iload_n hx hb dX6_greater_5 rfl (lv_at hl 0 rfl) ?_
    refine lv_goto (tgt := 10) hx hb dX6_greater_6 (by decide) ?_
    exact hret _ _ _ (by first | rw [if_neg c2] | rw [if_pos (by rw [Int32.lt_iff_toInt_lt]; rw [Int32.le_iff_toInt_le] at c2; omega)] | rw [if_neg (by rw [Int32.lt_iff_toInt_lt]; rw [Int32.le_iff_toInt_le] at c2; omega)]) dX6_greater_10
set_option maxHeartbeats 4000000 in
set_option maxRecDepth 100000 in
theorem c_X6_lesser_r (x : Int32) (y : Int32) : CP l D (TY cI cZ cS) yX6_lesser cX6_lesser 2 .int 0 [.int x, .int y] [] (.int (if x < y then x else y)) := by
  refine CP.ofI (by decide +kernel) (Nat.le_of_ble_eq_true rfl) (nar_int _) ?_
  intro p e s m args below meth c Q G K hP hret ls hl
  obtain ⟨hx, hb, hml, hown, hts⟩ := id G
  have hl : lv_has ls 2 [(0, .int x), (1, .int y)] := hl
  refine lv_iload_n hx hb dX6_lesser_0 rfl (lv_at hl 0 rfl) ?_
  refine lv_iload_n hx hb dX6_lesser_1 rfl (lv_at hl 1 rfl) ?_
  refine lv_icmp_ge (tgt := 9) hx hb dX6_lesser_2 (by decide) (fun c2 => ?_) (fun c2 => ?_)
  · -- taken at 2
    refine lv_iload_n hx hb dX6_lesser_9 rfl (lv_at hl 1 rfl) ?_
    exact hret _ _ _ (by first | rw [if_neg c2] | rw [if_pos (by rw [Int32.lt_iff_toInt_lt]; rw [Int32.le_iff_toInt_le] at c2; omega)] | rw [if_neg (by rw [Int32.lt_iff_toInt_lt]; rw [Int32.le_iff_toInt_le] at c2; omega)]) dX6_lesser_10
  · -- not taken at 2
    refine lv_iload_n hx hb dX6_lesser_5 rfl (lv_at hl 0 rfl) ?_
    refine lv_goto (tgt := 10) hx hb dX6_lesser_6 (by decide) ?_
    exact hret _ _ _ (by first | rw [if_neg c2] | rw [if_pos (by rw [Int32.lt_iff_toInt_lt]; rw [Int32.le_iff_toInt_le] at c2; omega)] | rw [if_neg (by rw [Int32.lt_iff_toInt_lt]; rw [Int32.le_iff_toInt_le] at c2; omega)]) dX6_lesser_10
set_option maxHeartbeats 4000000 in
set_option maxRecDepth 100000 in
theorem c_X6_greater_o (x : Nat) (o : Option Nat) (hx9 : x < 2 ^ 31) (ho : ∀ w, o = some w → w < 2 ^ 31) : CP l D (TY cI cZ cS) yX6_greater cX6_greater 2 .int 0 [.int (nI x), .int (oI o)] [] (.int (nI (mxO x o))) := by
  refine CP.ofI (by decide +kernel) (Nat.le_of_ble_eq_true rfl) (nar_int _) ?_
  intro p e s m args below meth c Q G K hP hret ls hl
  obtain ⟨hx, hb, hml, hown, hts⟩ := id G
  have hl : lv_has ls 2 [(0, .int (nI x)), (1, .int (oI o))] := hl
  refine lv_iload_n hx hb dX6_greater_0 rfl (lv_at hl 0 rfl) ?_
  refine lv_iload_n hx hb dX6_greater_1 rfl (lv_at hl 1 rfl) ?_
  refine no_le G (tgt := 9) (by omega) (fun w h => by have := ho w h; omega) dX6_greater_2 (by decide) (fun c2 => ?_) (fun c2 => ?_)
  · -- taken at 2
    refine lv_iload_n hx hb dX6_greater_9 rfl (lv_at hl 1 rfl) ?_
    exact hret _ _ _ (by first | exact mxO_t c2 | exact mxO_f ho c2) dX6_greater_10
  · -- not taken at 2
    refine lv_iload_n hx hb dX6_greater_5 rfl (lv_at hl 0 rfl) ?_
    refine lv_goto (tgt := 10) hx hb dX6_greater_6 (by decide) ?_
    exact hret _ _ _ (by first | exact mxO_t c2 | exact mxO_f ho c2) dX6_greater_10
set_option maxHeartbeats 4000000 in
set_option maxRecDepth 100000 in
theorem c_X6_isCover (x1 : Int32) (x2 : Int32) (x3 : Int32) (x4 : Int32) : CP l D (TY cI cZ cS) yX6_isCover cX6_isCover 4 .boolean 1 [.int x1, .int x2, .int x3, .int x4] [] (.int (bI (okC x1 x2 x3 x4))) := by
  refine CP.ofI (by decide +kernel) (Nat.le_of_ble_eq_true rfl) (bI_nar _) ?_
  intro p e s m args below meth c Q G K hP hret ls hl
  obtain ⟨hx, hb, hml, hown, hts⟩ := id G
  have hl : lv_has ls 4 [(0, .int x1), (1, .int x2), (2, .int x3), (3, .int x4)] := hl
  refine lv_iload_n hx hb dX6_isCover_0 rfl (lv_at hl 0 rfl) ?_
  refine lv_i2l (v := x1.toInt64) hx hb dX6_isCover_1 rfl ?_
  refine lv_lconst (v := ((0 : Int32)).toInt64) hx hb dX6_isCover_2 (by decide) ?_
  refine lv_iload_n hx hb dX6_isCover_3 rfl (lv_at hl 1 rfl) ?_
  refine lv_i2l (v := x2.toInt64) hx hb dX6_isCover_4 rfl ?_
  refine callPS (rest := []) G K F_X6_in (c_X6_in x1 (0 : Int32) x2) (va_P_nil D s.heap) ml_X6_51 (by decide) (by decide) rfl hl.1 (Nat.le_of_ble_eq_true rfl) dX6_isCover_5 ?_
  refine b_eq G (tgt := 52) dX6_isCover_8 (by decide) (fun c8 => ?_) (fun c8 => ?_)
  · -- taken at 8
    refine lv_iconst (v := (nI 0)) hx hb dX6_isCover_52 (by decide) ?_
    exact hret _ _ _ (by first | exact b1 (okC_i c8 c20 c32 c45) | exact b0 (fun h => c8 (okC_1 h)) | exact b0 (fun h => c20 (okC_2 h)) | exact b0 (fun h => c32 (okC_3 h)) | exact b0 (fun h => c45 (okC_4 h))) dX6_isCover_53
  · -- not taken at 8
    refine lv_iload_n hx hb dX6_isCover_11 rfl (lv_at hl 1 rfl) ?_
    refine lv_i2l (v := x2.toInt64) hx hb dX6_isCover_12 rfl ?_
    refine lv_iload_n hx hb dX6_isCover_13 rfl (lv_at hl 0 rfl) ?_
    refine lv_i2l (v := x1.toInt64) hx hb dX6_isCover_14 rfl ?_
    refine lv_iload_n hx hb dX6_isCover_15 rfl (lv_at hl 2 rfl) ?_
    refine lv_i2l (v := x3.toInt64) hx hb dX6_isCover_16 rfl ?_
    refine callPS (rest := []) G K F_X6_in (c_X6_in x2 x1 x3) (va_P_nil D s.heap) ml_X6_51 (by decide) (by decide) rfl hl.1 (Nat.le_of_ble_eq_true rfl) dX6_isCover_17 ?_
    refine b_eq G (tgt := 52) dX6_isCover_20 (by decide) (fun c20 => ?_) (fun c20 => ?_)
    · -- taken at 20
      refine lv_iconst (v := (nI 0)) hx hb dX6_isCover_52 (by decide) ?_
      exact hret _ _ _ (by first | exact b1 (okC_i c8 c20 c32 c45) | exact b0 (fun h => c8 (okC_1 h)) | exact b0 (fun h => c20 (okC_2 h)) | exact b0 (fun h => c32 (okC_3 h)) | exact b0 (fun h => c45 (okC_4 h))) dX6_isCover_53
    · -- not taken at 20
      refine lv_iload_n hx hb dX6_isCover_23 rfl (lv_at hl 2 rfl) ?_
      refine lv_i2l (v := x3.toInt64) hx hb dX6_isCover_24 rfl ?_
      refine lv_iload_n hx hb dX6_isCover_25 rfl (lv_at hl 1 rfl) ?_
      refine lv_i2l (v := x2.toInt64) hx hb dX6_isCover_26 rfl ?_
      refine lv_iload_n hx hb dX6_isCover_27 rfl (lv_at hl 3 rfl) ?_
      refine lv_i2l (v := x4.toInt64) hx hb dX6_isCover_28 rfl ?_
      refine callPS (rest := []) G K F_X6_in (c_X6_in x3 x2 x4) (va_P_nil D s.heap) ml_X6_51 (by decide) (by decide) rfl hl.1 (Nat.le_of_ble_eq_true rfl) dX6_isCover_29 ?_
      refine b_eq G (tgt := 52) dX6_isCover_32 (by decide) (fun c32 => ?_) (fun c32 => ?_)
      · -- taken at 32
        refine lv_iconst (v := (nI 0)) hx hb dX6_isCover_52 (by decide) ?_
        exact hret _ _ _ (by first | exact b1 (okC_i c8 c20 c32 c45) | exact b0 (fun h => c8 (okC_1 h)) | exact b0 (fun h => c20 (okC_2 h)) | exact b0 (fun h => c32 (okC_3 h)) | exact b0 (fun h => c45 (okC_4 h))) dX6_isCover_53
      · -- not taken at 32
        refine lv_iload_n hx hb dX6_isCover_35 rfl (lv_at hl 3 rfl) ?_
        refine lv_i2l (v := x4.toInt64) hx hb dX6_isCover_36 rfl ?_
        refine lv_iload_n hx hb dX6_isCover_37 rfl (lv_at hl 2 rfl) ?_
        refine lv_i2l (v := x3.toInt64) hx hb dX6_isCover_38 rfl ?_
        refine lv_ldc2 hx hb hown (hts _ kl_X6_104) dX6_isCover_39 ?_
        refine t_l (y := (400 : Int32).toInt64) (by decide) ?_
        refine callPS (rest := []) G K F_X6_in (c_X6_in x4 x3 (400 : Int32)) (va_P_nil D s.heap) ml_X6_51 (by decide) (by decide) rfl hl.1 (Nat.le_of_ble_eq_true rfl) dX6_isCover_42 ?_
        refine b_eq G (tgt := 52) dX6_isCover_45 (by decide) (fun c45 => ?_) (fun c45 => ?_)
        · -- taken at 45
          refine lv_iconst (v := (nI 0)) hx hb dX6_isCover_52 (by decide) ?_
          exact hret _ _ _ (by first | exact b1 (okC_i c8 c20 c32 c45) | exact b0 (fun h => c8 (okC_1 h)) | exact b0 (fun h => c20 (okC_2 h)) | exact b0 (fun h => c32 (okC_3 h)) | exact b0 (fun h => c45 (okC_4 h))) dX6_isCover_53
        · -- not taken at 45
          refine lv_iconst (v := (nI 1)) hx hb dX6_isCover_48 (by decide) ?_
          refine lv_goto (tgt := 53) hx hb dX6_isCover_49 (by decide) ?_
          exact hret _ _ _ (by first | exact b1 (okC_i c8 c20 c32 c45) | exact b0 (fun h => c8 (okC_1 h)) | exact b0 (fun h => c20 (okC_2 h)) | exact b0 (fun h => c32 (okC_3 h)) | exact b0 (fun h => c45 (okC_4 h))) dX6_isCover_53
set_option maxHeartbeats 4000000 in
set_option maxRecDepth 100000 in
theorem c_X6_finds (a : Nat → Nat) (la : Int32) (n : Nat) (cl : Nat) (go : Option Nat) (fo : Nat → Int32) (si : Nat → Nat) (it : Nat → Int32) (mo : Nat → Int32) (th : Nat → Nat) (ki : Nat → Nat) (va : Nat → Nat) (re : Nat → Nat) (to : Nat → Prop) (co : Nat → Nat) (ke : Nat → Int32) (fw : Nat → Nat) (f : Nat) (I : IM n cl go th ki va re si co fw) : CM l D (TY cI cZ cS) yX6_finds cX6_finds 2 (some .int) 0 [.ref (a 0), .int (nI f)] (wM cI cZ a la n cl go fo si it mo th ki va re to co ke fw) (some (.int ((-10) - (nI f)))) (wM cI cZ a (nI f) n cl go fo si it mo th ki va re to co ke fw) := by
  refine CM.ofI (by decide +kernel) (Nat.le_of_ble_eq_true rfl) (nar_int _) ?_
  intro p e s m args below meth c Q A G K hA w hret ls hl
  obtain ⟨hx, hb, hml, hown, hts⟩ := id G
  obtain ⟨hn, hcl, hgo, hth, hki, hva, hre, hsi, hco, hfw⟩ := id I
  have hl : lv_has ls 2 [(0, .ref (a 0)), (1, .int (nI f))] := hl
  refine lv_aload_n hx hb dX6_finds_0 rfl (lv_at hl 0 rfl) ?_
  refine lv_iload_n hx hb dX6_finds_1 rfl (lv_at hl 1 rfl) ?_
  refine f_put G K w inX6 tyX6 tyX6_ok nmX6 0 (ci := 6) rfl rfl 4 rfl fl_X6_55 rfl rfl rfl rfl dX6_finds_2 (w2 := (wM cI cZ a (nI f) n cl go fo si it mo th ki va re to co ke fw)) rfl (fun Hp1 lo2 w => ?_)
  refine lv_bipush (v := (-10)) hx hb dX6_finds_5 (by decide) ?_
  refine lv_iload_n hx hb dX6_finds_7 rfl (lv_at hl 1 rfl) ?_
  refine lv_isub hx hb dX6_finds_8 ?_
  exact hret _ _ _ _ _ _ rfl rfl w dX6_finds_9
set_option maxHeartbeats 4000000 in
set_option maxRecDepth 100000 in
theorem c_X6_sheet_bad (a : Nat → Nat) (la : Int32) (n : Nat) (cl : Nat) (go : Option Nat) (fo : Nat → Int32) (si : Nat → Nat) (it : Nat → Int32) (mo : Nat → Int32) (th : Nat → Nat) (ki : Nat → Nat) (va : Nat → Nat) (re : Nat → Nat) (to : Nat → Prop) (co : Nat → Nat) (ke : Nat → Int32) (fw : Nat → Nat) (x : Int32) (f : Int32) (k : Int32) (I : IM n cl go th ki va re si co fw) (hbad : ¬ (okR 3 x ∧ okR 2 f ∧ k ≤ nI 60)) : CM l D (TY cI cZ cS) yX6_sheet cX6_sheet 5 (some .int) 2 [.ref (a 0), .int x, .int f, .int k] (wM cI cZ a la n cl go fo si it mo th ki va re to co ke fw) (some (.int (-2))) (wM cI cZ a la n cl go fo si it mo th ki va re to co ke fw) := by
  refine CM.ofI (by decide +kernel) (Nat.le_of_ble_eq_true rfl) (nar_int _) ?_
  intro p e s m args below meth c Q A G K hA w hret ls hl
  obtain ⟨hx, hb, hml, hown, hts⟩ := id G
  obtain ⟨hn, hcl, hgo, hth, hki, hva, hre, hsi, hco, hfw⟩ := id I
  have hl : lv_has ls 5 [(0, .ref (a 0)), (1, .int x), (2, .int f), (3, .int k)] := hl
  refine lv_iload_n hx hb dX6_sheet_0 rfl (lv_at hl 1 rfl) ?_
  refine callPS (rest := []) G K F_X6_isSheet (c_X6_isSheet x) (va_P_nil D s.heap) ml_X6_60 (by decide) (by decide) rfl hl.1 (Nat.le_of_ble_eq_true rfl) dX6_sheet_1 ?_
  refine b_eq G (tgt := 25) dX6_sheet_4 (by decide) (fun c4 => ?_) (fun c4 => ?_)
  · -- taken at 4
    refine lv_bipush (v := (-2)) hx hb dX6_sheet_25 (by decide) ?_
    exact hret _ _ _ _ _ _ rfl rfl w dX6_sheet_27
  · -- not taken at 4
    refine lv_iload_n hx hb dX6_sheet_7 rfl (lv_at hl 2 rfl) ?_
    refine lv_i2l (v := f.toInt64) hx hb dX6_sheet_8 rfl ?_
    refine lv_lconst (v := ((0 : Int32)).toInt64) hx hb dX6_sheet_9 (by decide) ?_
    refine lv_ldc2 hx hb hown (hts _ kl_X6_64) dX6_sheet_10 ?_
    refine t_l (y := (2 : Int32).toInt64) (by decide) ?_
    refine callPS (rest := []) G K F_X6_in (c_X6_in f (0 : Int32) (2 : Int32)) (va_P_nil D s.heap) ml_X6_51 (by decide) (by decide) rfl hl.1 (Nat.le_of_ble_eq_true rfl) dX6_sheet_13 ?_
    refine b_eq G (tgt := 25) dX6_sheet_16 (by decide) (fun c16 => ?_) (fun c16 => ?_)
    · -- taken at 16
      refine lv_bipush (v := (-2)) hx hb dX6_sheet_25 (by decide) ?_
      exact hret _ _ _ _ _ _ rfl rfl w dX6_sheet_27
    · -- not taken at 16
      refine lv_iload_n hx hb dX6_sheet_19 rfl (lv_at hl 3 rfl) ?_
      refine lv_bipush (v := (nI 60)) hx hb dX6_sheet_20 (by decide) ?_
      refine lv_icmp_le (tgt := 28) hx hb dX6_sheet_22 (by decide) (fun c22 => ?_) (fun c22 => ?_)
      · -- taken at 22
        exact absurd ⟨okRi (by decide) c4, okRi (by decide) c16, c22⟩ hbad
      · -- not taken at 22
        refine lv_bipush (v := (-2)) hx hb dX6_sheet_25 (by decide) ?_
        exact hret _ _ _ _ _ _ rfl rfl w dX6_sheet_27
set_option maxHeartbeats 4000000 in
set_option maxRecDepth 100000 in
theorem c_X6_sheet_neg (a : Nat → Nat) (la : Int32) (n : Nat) (cl : Nat) (go : Option Nat) (fo : Nat → Int32) (si : Nat → Nat) (it : Nat → Int32) (mo : Nat → Int32) (th : Nat → Nat) (ki : Nat → Nat) (va : Nat → Nat) (re : Nat → Nat) (to : Nat → Prop) (co : Nat → Nat) (ke : Nat → Int32) (fw : Nat → Nat) (k : Int32) (i : Nat) (j : Nat) (I : IM n cl go th ki va re si co fw) (hi9 : i ≤ 3) (hj9 : j ≤ 2) (hk9 : k < 0) : CM l D (TY cI cZ cS) yX6_sheet cX6_sheet 5 (some .int) 2 [.ref (a 0), .int (nI i), .int (nI j), .int k] (wM cI cZ a la n cl go fo si it mo th ki va re to co ke fw) (some (.int ((-10) - (nI 5)))) (wM cI cZ a (nI 5) n cl go fo si it mo th ki va re to co ke fw) := by
  refine CM.ofI (by decide +kernel) (Nat.le_of_ble_eq_true rfl) (nar_int _) ?_
  intro p e s m args below meth c Q A G K hA w hret ls hl
  obtain ⟨hx, hb, hml, hown, hts⟩ := id G
  obtain ⟨hn, hcl, hgo, hth, hki, hva, hre, hsi, hco, hfw⟩ := id I
  have hl : lv_has ls 5 [(0, .ref (a 0)), (1, .int (nI i)), (2, .int (nI j)), (3, .int k)] := hl
  refine lv_iload_n hx hb dX6_sheet_0 rfl (lv_at hl 1 rfl) ?_
  refine callPS (rest := []) G K F_X6_isSheet (c_X6_isSheet (nI i)) (va_P_nil D s.heap) ml_X6_60 (by decide) (by decide) rfl hl.1 (Nat.le_of_ble_eq_true rfl) dX6_sheet_1 ?_
  refine b_eq G (tgt := 25) dX6_sheet_4 (by decide) (fun c4 => ?_) (fun c4 => ?_)
  · -- taken at 4
    exact absurd ((okN (m := 3) (by decide)).mpr ⟨i, hi9, rfl⟩) c4
  · -- not taken at 4
    refine lv_iload_n hx hb dX6_sheet_7 rfl (lv_at hl 2 rfl) ?_
    refine lv_i2l (v := (nI j).toInt64) hx hb dX6_sheet_8 rfl ?_
    refine lv_lconst (v := ((0 : Int32)).toInt64) hx hb dX6_sheet_9 (by decide) ?_
    refine lv_ldc2 hx hb hown (hts _ kl_X6_64) dX6_sheet_10 ?_
    refine t_l (y := (2 : Int32).toInt64) (by decide) ?_
    refine callPS (rest := []) G K F_X6_in (c_X6_in (nI j) (0 : Int32) (2 : Int32)) (va_P_nil D s.heap) ml_X6_51 (by decide) (by decide) rfl hl.1 (Nat.le_of_ble_eq_true rfl) dX6_sheet_13 ?_
    refine b_eq G (tgt := 25) dX6_sheet_16 (by decide) (fun c16 => ?_) (fun c16 => ?_)
    · -- taken at 16
      exact absurd ((okN (m := 2) (by decide)).mpr ⟨j, hj9, rfl⟩) c16
    · -- not taken at 16
      refine lv_iload_n hx hb dX6_sheet_19 rfl (lv_at hl 3 rfl) ?_
      refine lv_bipush (v := (nI 60)) hx hb dX6_sheet_20 (by decide) ?_
      refine lv_icmp_le (tgt := 28) hx hb dX6_sheet_22 (by decide) (fun c22 => ?_) (fun c22 => ?_)
      · -- taken at 22
        refine lv_iload_n hx hb dX6_sheet_28 rfl (lv_at hl 3 rfl) ?_
        refine lv_if_ge (tgt := 38) hx hb dX6_sheet_29 (by decide) (fun c29 => ?_) (fun c29 => ?_)
        · -- taken at 29
          exact absurd c29 (neg_nge hk9)
        · -- not taken at 29
          refine lv_aload_n hx hb dX6_sheet_32 rfl (lv_at hl 0 rfl) ?_
          refine lv_iconst (v := (nI 5)) hx hb dX6_sheet_33 (by decide) ?_
          refine callMF (As := [.int (nI 5)]) (rest := []) (q0 := 0) (ci := 6) (ws' := (wM cI cZ a (nI 5) n cl go fo si it mo th ki va re to co ke fw)) G K hA w F_X6_finds (c_X6_finds a la n cl go fo si it mo th ki va re to co ke fw 5 I) ml_X6_66 rfl rfl rfl (by decide) (by decide) rfl hl.1 (Nat.le_of_ble_eq_true rfl) dX6_sheet_34 (fun Hp1 lo2 w => ?_)
          exact hret _ _ _ _ _ _ rfl rfl w dX6_sheet_37
      · -- not taken at 22
        exact absurd (neg_le hk9) c22
set_option maxHeartbeats 4000000 in
set_option maxRecDepth 100000 in
theorem c_X6_sheet_ok (a : Nat → Nat) (la : Int32) (n : Nat) (cl : Nat) (go : Option Nat) (fo : Nat → Int32) (si : Nat → Nat) (it : Nat → Int32) (mo : Nat → Int32) (th : Nat → Nat) (ki : Nat → Nat) (va : Nat → Nat) (re : Nat → Nat) (to : Nat → Prop) (co : Nat → Nat) (ke : Nat → Int32) (fw : Nat → Nat) (i : Nat) (j : Nat) (k : Nat) (I : IM n cl go th ki va re si co fw) (hi9 : i ≤ 3) (hj9 : j ≤ 2) (hk9 : k ≤ 60) : CM l D (TY cI cZ cS) yX6_sheet cX6_sheet 5 (some .int) 2 [.ref (a 0), .int (nI i), .int (nI j), .int (nI k)] (wM cI cZ a la n cl go fo si it mo th ki va re to co ke fw) (some (.int (nI k))) (wM cI cZ a la n cl go (va_up fo i (nI j)) (va_up si i k) (stI it (60 * i) (fun _ => nI 0) k) mo th ki va re to co ke fw) := by
  refine CM.ofI (by decide +kernel) (Nat.le_of_ble_eq_true rfl) (nar_int _) ?_
  intro p e s m args below meth c Q A G K hA w hret ls hl
  obtain ⟨hx, hb, hml, hown, hts⟩ := id G
  obtain ⟨hn, hcl, hgo, hth, hki, hva, hre, hsi, hco, hfw⟩ := id I
  have hl : lv_has ls 5 [(0, .ref (a 0)), (1, .int (nI i)), (2, .int (nI j)), (3, .int (nI k))] := hl
  refine lv_iload_n hx hb dX6_sheet_0 rfl (lv_at hl 1 rfl) ?_
  refine callPS (rest := []) G K F_X6_isSheet (c_X6_isSheet (nI i)) (va_P_nil D s.heap) ml_X6_60 (by decide) (by decide) rfl hl.1 (Nat.le_of_ble_eq_true rfl) dX6_sheet_1 ?_
  refine b_eq G (tgt := 25) dX6_sheet_4 (by decide) (fun c4 => ?_) (fun c4 => ?_)
  · -- taken at 4
    exact absurd ((okN (m := 3) (by decide)).mpr ⟨i, hi9, rfl⟩) c4
  · -- not taken at 4
    refine lv_iload_n hx hb dX6_sheet_7 rfl (lv_at hl 2 rfl) ?_
    refine lv_i2l (v := (nI j).toInt64) hx hb dX6_sheet_8 rfl ?_
    refine lv_lconst (v := ((0 : Int32)).toInt64) hx hb dX6_sheet_9 (by decide) ?_
    refine lv_ldc2 hx hb hown (hts _ kl_X6_64) dX6_sheet_10 ?_
    refine t_l (y := (2 : Int32).toInt64) (by decide) ?_
    refine callPS (rest := []) G K F_X6_in (c_X6_in (nI j) (0 : Int32) (2 : Int32)) (va_P_nil D s.heap) ml_X6_51 (by decide) (by decide) rfl hl.1 (Nat.le_of_ble_eq_true rfl) dX6_sheet_13 ?_
    refine b_eq G (tgt := 25) dX6_sheet_16 (by decide) (fun c16 => ?_) (fun c16 => ?_)
    · -- taken at 16
      exact absurd ((okN (m := 2) (by decide)).mpr ⟨j, hj9, rfl⟩) c16
    · -- not taken at 16
      refine lv_iload_n hx hb dX6_sheet_19 rfl (lv_at hl 3 rfl) ?_
      refine lv_bipush (v := (nI 60)) hx hb dX6_sheet_20 (by decide) ?_
      refine c_le G (tgt := 28) (by omega) (by omega) dX6_sheet_22 (by decide) (fun c22 => ?_) (fun c22 => ?_)
      · -- taken at 22
        refine lv_iload_n hx hb dX6_sheet_28 rfl (lv_at hl 3 rfl) ?_
        refine z_ge G (tgt := 38) (by omega) dX6_sheet_29 (by decide) ?_
        refine lv_aload_n hx hb dX6_sheet_38 rfl (lv_at hl 0 rfl) ?_
        refine f_get G K w.1 inX6 0 (ci := 6) rfl rfl 0 rfl fl_X6_7 (v := .ref (a 1)) rfl dX6_sheet_39 ?_
        refine lv_iload_n hx hb dX6_sheet_42 rfl (lv_at hl 1 rfl) ?_
        refine lv_iload_n hx hb dX6_sheet_43 rfl (lv_at hl 2 rfl) ?_
        refine a_st G K w 1 0 (a := (a 1)) rfl rfl (by omega) (by decide) dX6_sheet_44 (w2 := (wM cI cZ a la n cl go (va_up fo i (nI j)) si it mo th ki va re to co ke fw)) rfl (fun Hp1 lo2 w => ?_)
        refine lv_aload_n hx hb dX6_sheet_45 rfl (lv_at hl 0 rfl) ?_
        refine f_get G K w.1 inX6 0 (ci := 6) rfl rfl 1 rfl fl_X6_13 (v := .ref (a 2)) rfl dX6_sheet_46 ?_
        refine lv_iload_n hx hb dX6_sheet_49 rfl (lv_at hl 1 rfl) ?_
        refine lv_iload_n hx hb dX6_sheet_50 rfl (lv_at hl 3 rfl) ?_
        refine a_stN G K w 2 0 (a := (a 2)) rfl rfl (by omega) (by decide) dX6_sheet_51 (w2 := (wM cI cZ a la n cl go (va_up fo i (nI j)) (va_up si i k) it mo th ki va re to co ke fw)) rfl (fun Hp3 lo4 w => ?_)
        refine lv_iconst (v := (nI 0)) hx hb dX6_sheet_52 (by decide) ?_
        refine lv_istore (lv' := [(4, .int (nI 0)), (0, .ref (a 0)), (1, .int (nI i)), (2, .int (nI j)), (3, .int (nI k))]) hx hb dX6_sheet_53 hl (by decide) rfl (fun ls hl => ?_)
        have L55 : ∀ (d u : Nat), 0 ≤ u → u + d = k → ∀ (H : Heap) (locs : List Loc), WW D A s.heap (wM cI cZ a la n cl go (va_up fo i (nI j)) (va_up si i k) (stI it (60 * i) (fun _ => nI 0) u) mo th ki va re to co ke fw) H locs → ∀ (ls : Array Slot), lv_has ls 5 [(0, .ref (a 0)), (1, .int (nI i)), (2, .int (nI j)), (3, .int (nI k)), (4, .int (nI u))] → W p l e (RM 2) s m args below meth c H locs 0 0 Q (F0 m 55 ls []) := by
          intro d
          induction d with
          | zero =>
            intro u hlo55 hhi55 H locs w ls hl
            refine lv_iload hx hb dX6_sheet_55 (lv_at hl 4 rfl) ?_
            refine lv_iload_n hx hb dX6_sheet_57 rfl (lv_at hl 3 rfl) ?_
            refine c_ge G (tgt := 80) (by omega) (by omega) dX6_sheet_58 (by decide) (fun c58 => ?_) (fun c58 => ?_)
            · -- taken at 58
              refine lv_iload_n hx hb dX6_sheet_80 rfl (lv_at hl 3 rfl) ?_
              exact hret _ _ _ _ _ _ rfl (by rw [show u = k by omega]) w dX6_sheet_81
            · -- not taken at 58
              exact absurd c58 (by omega)
          | succ d ih =>
            intro u hlo55 hhi55 H locs w ls hl
            refine lv_iload hx hb dX6_sheet_55 (lv_at hl 4 rfl) ?_
            refine lv_iload_n hx hb dX6_sheet_57 rfl (lv_at hl 3 rfl) ?_
            refine c_ge G (tgt := 80) (by omega) (by omega) dX6_sheet_58 (by decide) (fun c58 => ?_) (fun c58 => ?_)
            · -- taken at 58
              exact absurd c58 (by omega)
            · -- not taken at 58
              refine lv_aload_n hx hb dX6_sheet_61 rfl (lv_at hl 0 rfl) ?_
              refine f_get G K w.1 inX6 0 (ci := 6) rfl rfl 2 rfl fl_X6_16 (v := .ref (a 3)) rfl dX6_sheet_62 ?_
              refine lv_bipush (v := (nI 60)) hx hb dX6_sheet_65 (by decide) ?_
              refine lv_iload_n hx hb dX6_sheet_67 rfl (lv_at hl 1 rfl) ?_
              refine t_mul G dX6_sheet_68 ?_
              refine lv_iload hx hb dX6_sheet_69 (lv_at hl 4 rfl) ?_
              refine t_add G dX6_sheet_71 ?_
              refine lv_iconst (v := (nI 0)) hx hb dX6_sheet_72 (by decide) ?_
              refine a_st G K w 3 0 (a := (a 3)) rfl rfl (by omega) (by decide) dX6_sheet_73 (w2 := (wM cI cZ a la n cl go (va_up fo i (nI j)) (va_up si i k) (va_up (stI it (60 * i) (fun _ => nI 0) u) (60 * i + u) (nI 0)) mo th ki va re to co ke fw)) rfl (fun Hp5 lo6 w => ?_)
              refine lv_iinc (v := (nI (u + 1))) (lv' := [(4, .int (nI (u + 1))), (0, .ref (a 0)), (1, .int (nI i)), (2, .int (nI j)), (3, .int (nI k))]) hx hb dX6_sheet_74 hl (k := 4) rfl (nI_inc _ 1) (by decide) rfl (fun ls hl => ?_)
              refine lv_goto (tgt := 55) hx hb dX6_sheet_77 (by decide) ?_
              -- slot 4: have n:u + 1, want n:(u + 1)
              exact ih (u + 1) (by omega) (by omega) Hp5 lo6 w ls (lv_sub hl [1, 2, 3, 4, 0] rfl)
        exact L55 (k - 0) (0) (Nat.le_refl _) (by omega) Hp3 lo4 w ls (lv_sub hl [1, 2, 3, 4, 0] rfl)
      · -- not taken at 22
        exact absurd c22 (by omega)
set_option maxHeartbeats 4000000 in
set_option maxRecDepth 100000 in
theorem c_X6_lose_bad (a : Nat → Nat) (la : Int32) (n : Nat) (cl : Nat) (go : Option Nat) (fo : Nat → Int32) (si : Nat → Nat) (it : Nat → Int32) (mo : Nat → Int32) (th : Nat → Nat) (ki : Nat → Nat) (va : Nat → Nat) (re : Nat → Nat) (to : Nat → Prop) (co : Nat → Nat) (ke : Nat → Int32) (fw : Nat → Nat) (x : Int32) (I : IM n cl go th ki va re si co fw) (hbad : ¬ okR 3 x) : CM l D (TY cI cZ cS) yX6_lose cX6_lose 2 (some .int) 2 [.ref (a 0), .int x] (wM cI cZ a la n cl go fo si it mo th ki va re to co ke fw) (some (.int (-2))) (wM cI cZ a la n cl go fo si it mo th ki va re to co ke fw) := by
  refine CM.ofI (by decide +kernel) (Nat.le_of_ble_eq_true rfl) (nar_int _) ?_
  intro p e s m args below meth c Q A G K hA w hret ls hl
  obtain ⟨hx, hb, hml, hown, hts⟩ := id G
  obtain ⟨hn, hcl, hgo, hth, hki, hva, hre, hsi, hco, hfw⟩ := id I
  have hl : lv_has ls 2 [(0, .ref (a 0)), (1, .int x)] := hl
  refine lv_iload_n hx hb dX6_lose_0 rfl (lv_at hl 1 rfl) ?_
  refine callPS (rest := []) G K F_X6_isSheet (c_X6_isSheet x) (va_P_nil D s.heap) ml_X6_60 (by decide) (by decide) rfl hl.1 (Nat.le_of_ble_eq_true rfl) dX6_lose_1 ?_
  refine b_ne G (tgt := 10) dX6_lose_4 (by decide) (fun c4 => ?_) (fun c4 => ?_)
  · -- taken at 4
    exact absurd (okRi (by decide) c4) hbad
  · -- not taken at 4
    refine lv_bipush (v := (-2)) hx hb dX6_lose_7 (by decide) ?_
    exact hret _ _ _ _ _ _ rfl rfl w dX6_lose_9
set_option maxHeartbeats 4000000 in
set_option maxRecDepth 100000 in
theorem c_X6_lose_nul (a : Nat → Nat) (la : Int32) (n : Nat) (cl : Nat) (go : Option Nat) (fo : Nat → Int32) (si : Nat → Nat) (it : Nat → Int32) (mo : Nat → Int32) (th : Nat → Nat) (ki : Nat → Nat) (va : Nat → Nat) (re : Nat → Nat) (to : Nat → Prop) (co : Nat → Nat) (ke : Nat → Int32) (fw : Nat → Nat) (i : Nat) (I : IM n cl go th ki va re si co fw) (hi9 : i ≤ 3) (hf9 : fo i < 0) : CM l D (TY cI cZ cS) yX6_lose cX6_lose 2 (some .int) 2 [.ref (a 0), .int (nI i)] (wM cI cZ a la n cl go fo si it mo th ki va re to co ke fw) (some (.int ((-10) - (nI 1)))) (wM cI cZ a (nI 1) n cl go fo si it mo th ki va re to co ke fw) := by
  refine CM.ofI (by decide +kernel) (Nat.le_of_ble_eq_true rfl) (nar_int _) ?_
  intro p e s m args below meth c Q A G K hA w hret ls hl
  obtain ⟨hx, hb, hml, hown, hts⟩ := id G
  obtain ⟨hn, hcl, hgo, hth, hki, hva, hre, hsi, hco, hfw⟩ := id I
  have hl : lv_has ls 2 [(0, .ref (a 0)), (1, .int (nI i))] := hl
  refine lv_iload_n hx hb dX6_lose_0 rfl (lv_at hl 1 rfl) ?_
  refine callPS (rest := []) G K F_X6_isSheet (c_X6_isSheet (nI i)) (va_P_nil D s.heap) ml_X6_60 (by decide) (by decide) rfl hl.1 (Nat.le_of_ble_eq_true rfl) dX6_lose_1 ?_
  refine b_ne G (tgt := 10) dX6_lose_4 (by decide) (fun c4 => ?_) (fun c4 => ?_)
  · -- taken at 4
    refine lv_aload_n hx hb dX6_lose_10 rfl (lv_at hl 0 rfl) ?_
    refine f_get G K w.1 inX6 0 (ci := 6) rfl rfl 0 rfl fl_X6_7 (v := .ref (a 1)) rfl dX6_lose_11 ?_
    refine lv_iload_n hx hb dX6_lose_14 rfl (lv_at hl 1 rfl) ?_
    refine a_ld G K w.1 1 0 (a := (a 1)) rfl rfl (by omega) (by decide) dX6_lose_15 ?_
    refine lv_if_ge (tgt := 25) hx hb dX6_lose_16 (by decide) (fun c16 => ?_) (fun c16 => ?_)
    · -- taken at 16
      exact absurd c16 (neg_nge hf9)
    · -- not taken at 16
      refine lv_aload_n hx hb dX6_lose_19 rfl (lv_at hl 0 rfl) ?_
      refine lv_iconst (v := (nI 1)) hx hb dX6_lose_20 (by decide) ?_
      refine callMF (As := [.int (nI 1)]) (rest := []) (q0 := 0) (ci := 6) (ws' := (wM cI cZ a (nI 1) n cl go fo si it mo th ki va re to co ke fw)) G K hA w F_X6_finds (c_X6_finds a la n cl go fo si it mo th ki va re to co ke fw 1 I) ml_X6_66 rfl rfl rfl (by decide) (by decide) rfl hl.1 (Nat.le_of_ble_eq_true rfl) dX6_lose_21 (fun Hp1 lo2 w => ?_)
      exact hret _ _ _ _ _ _ rfl rfl w dX6_lose_24
  · -- not taken at 4
    exact absurd ((okN (m := 3) (by decide)).mpr ⟨i, hi9, rfl⟩) c4
set_option maxHeartbeats 4000000 in
set_option maxRecDepth 100000 in
theorem c_X6_lose_ok (a : Nat → Nat) (la : Int32) (n : Nat) (cl : Nat) (go : Option Nat) (fo : Nat → Int32) (si : Nat → Nat) (it : Nat → Int32) (mo : Nat → Int32) (th : Nat → Nat) (ki : Nat → Nat) (va : Nat → Nat) (re : Nat → Nat) (to : Nat → Prop) (co : Nat → Nat) (ke : Nat → Int32) (fw : Nat → Nat) (i : Nat) (I : IM n cl go th ki va re si co fw) (hi9 : i ≤ 3) (hf9 : ¬ fo i < 0) : CM l D (TY cI cZ cS) yX6_lose cX6_lose 2 (some .int) 2 [.ref (a 0), .int (nI i)] (wM cI cZ a la n cl go fo si it mo th ki va re to co ke fw) (some (.int (nI (si i)))) (wM cI cZ a la n cl go (va_up fo i (-1)) si it mo th ki va re to co ke fw) := by
  refine CM.ofI (by decide +kernel) (Nat.le_of_ble_eq_true rfl) (nar_int _) ?_
  intro p e s m args below meth c Q A G K hA w hret ls hl
  obtain ⟨hx, hb, hml, hown, hts⟩ := id G
  obtain ⟨hn, hcl, hgo, hth, hki, hva, hre, hsi, hco, hfw⟩ := id I
  have hl : lv_has ls 2 [(0, .ref (a 0)), (1, .int (nI i))] := hl
  refine lv_iload_n hx hb dX6_lose_0 rfl (lv_at hl 1 rfl) ?_
  refine callPS (rest := []) G K F_X6_isSheet (c_X6_isSheet (nI i)) (va_P_nil D s.heap) ml_X6_60 (by decide) (by decide) rfl hl.1 (Nat.le_of_ble_eq_true rfl) dX6_lose_1 ?_
  refine b_ne G (tgt := 10) dX6_lose_4 (by decide) (fun c4 => ?_) (fun c4 => ?_)
  · -- taken at 4
    refine lv_aload_n hx hb dX6_lose_10 rfl (lv_at hl 0 rfl) ?_
    refine f_get G K w.1 inX6 0 (ci := 6) rfl rfl 0 rfl fl_X6_7 (v := .ref (a 1)) rfl dX6_lose_11 ?_
    refine lv_iload_n hx hb dX6_lose_14 rfl (lv_at hl 1 rfl) ?_
    refine a_ld G K w.1 1 0 (a := (a 1)) rfl rfl (by omega) (by decide) dX6_lose_15 ?_
    refine lv_if_ge (tgt := 25) hx hb dX6_lose_16 (by decide) (fun c16 => ?_) (fun c16 => ?_)
    · -- taken at 16
      refine lv_aload_n hx hb dX6_lose_25 rfl (lv_at hl 0 rfl) ?_
      refine f_get G K w.1 inX6 0 (ci := 6) rfl rfl 0 rfl fl_X6_7 (v := .ref (a 1)) rfl dX6_lose_26 ?_
      refine lv_iload_n hx hb dX6_lose_29 rfl (lv_at hl 1 rfl) ?_
      refine lv_iconst (v := (-1)) hx hb dX6_lose_30 (by decide) ?_
      refine a_st G K w 1 0 (a := (a 1)) rfl rfl (by omega) (by decide) dX6_lose_31 (w2 := (wM cI cZ a la n cl go (va_up fo i (-1)) si it mo th ki va re to co ke fw)) rfl (fun Hp1 lo2 w => ?_)
      refine lv_aload_n hx hb dX6_lose_32 rfl (lv_at hl 0 rfl) ?_
      refine f_get G K w.1 inX6 0 (ci := 6) rfl rfl 1 rfl fl_X6_13 (v := .ref (a 2)) rfl dX6_lose_33 ?_
      refine lv_iload_n hx hb dX6_lose_36 rfl (lv_at hl 1 rfl) ?_
      refine a_ldN G K w.1 2 0 (a := (a 2)) rfl rfl (by omega) (by decide) dX6_lose_37 ?_
      have hb3 := hsi i
      exact hret _ _ _ _ _ _ rfl rfl w dX6_lose_38
    · -- not taken at 16
      exact absurd (nneg_ge hf9) c16
  · -- not taken at 4
    exact absurd ((okN (m := 3) (by decide)).mpr ⟨i, hi9, rfl⟩) c4
set_option maxHeartbeats 4000000 in
set_option maxRecDepth 100000 in
theorem c_X6_lacks_nul (a : Nat → Nat) (la : Int32) (n : Nat) (cl : Nat) (go : Option Nat) (fo : Nat → Int32) (si : Nat → Nat) (it : Nat → Int32) (mo : Nat → Int32) (th : Nat → Nat) (ki : Nat → Nat) (va : Nat → Nat) (re : Nat → Nat) (to : Nat → Prop) (co : Nat → Nat) (ke : Nat → Int32) (fw : Nat → Nat) (i : Nat) (f : Int32) (x : Int32) (I : IM n cl go th ki va re si co fw) (hi9 : i ≤ 3) (hf9 : fo i < 0) : CM l D (TY cI cZ cS) yX6_lacks cX6_lacks 4 (some .int) 1 [.ref (a 0), .int (nI i), .int f, .int x] (wM cI cZ a la n cl go fo si it mo th ki va re to co ke fw) (some (.int ((-10) - (nI 1)))) (wM cI cZ a (nI 1) n cl go fo si it mo th ki va re to co ke fw) := by
  refine CM.ofI (by decide +kernel) (Nat.le_of_ble_eq_true rfl) (nar_int _) ?_
  intro p e s m args below meth c Q A G K hA w hret ls hl
  obtain ⟨hx, hb, hml, hown, hts⟩ := id G
  obtain ⟨hn, hcl, hgo, hth, hki, hva, hre, hsi, hco, hfw⟩ := id I
  have hl : lv_has ls 4 [(0, .ref (a 0)), (1, .int (nI i)), (2, .int f), (3, .int x)] := hl
  refine lv_aload_n hx hb dX6_lacks_0 rfl (lv_at hl 0 rfl) ?_
  refine f_get G K w.1 inX6 0 (ci := 6) rfl rfl 0 rfl fl_X6_7 (v := .ref (a 1)) rfl dX6_lacks_1 ?_
  refine lv_iload_n hx hb dX6_lacks_4 rfl (lv_at hl 1 rfl) ?_
  refine a_ld G K w.1 1 0 (a := (a 1)) rfl rfl (by omega) (by decide) dX6_lacks_5 ?_
  refine lv_if_ge (tgt := 15) hx hb dX6_lacks_6 (by decide) (fun c6 => ?_) (fun c6 => ?_)
  · -- taken at 6
    exact absurd c6 (neg_nge hf9)
  · -- not taken at 6
    refine lv_aload_n hx hb dX6_lacks_9 rfl (lv_at hl 0 rfl) ?_
    refine lv_iconst (v := (nI 1)) hx hb dX6_lacks_10 (by decide) ?_
    refine callMF (As := [.int (nI 1)]) (rest := []) (q0 := 0) (ci := 6) (ws' := (wM cI cZ a (nI 1) n cl go fo si it mo th ki va re to co ke fw)) G K hA w F_X6_finds (c_X6_finds a la n cl go fo si it mo th ki va re to co ke fw 1 I) ml_X6_66 rfl rfl rfl (by decide) (by decide) rfl hl.1 (Nat.le_of_ble_eq_true rfl) dX6_lacks_11 (fun Hp1 lo2 w => ?_)
    exact hret _ _ _ _ _ _ rfl rfl w dX6_lacks_14
set_option maxHeartbeats 4000000 in
set_option maxRecDepth 100000 in
theorem c_X6_lacks_cast (a : Nat → Nat) (la : Int32) (n : Nat) (cl : Nat) (go : Option Nat) (fo : Nat → Int32) (si : Nat → Nat) (it : Nat → Int32) (mo : Nat → Int32) (th : Nat → Nat) (ki : Nat → Nat) (va : Nat → Nat) (re : Nat → Nat) (to : Nat → Prop) (co : Nat → Nat) (ke : Nat → Int32) (fw : Nat → Nat) (i : Nat) (f : Int32) (x : Int32) (I : IM n cl go th ki va re si co fw) (hi9 : i ≤ 3) (hf9 : ¬ fo i < 0) (hc9 : fo i ≠ f) : CM l D (TY cI cZ cS) yX6_lacks cX6_lacks 4 (some .int) 1 [.ref (a 0), .int (nI i), .int f, .int x] (wM cI cZ a la n cl go fo si it mo th ki va re to co ke fw) (some (.int ((-10) - (nI 3)))) (wM cI cZ a (nI 3) n cl go fo si it mo th ki va re to co ke fw) := by
  refine CM.ofI (by decide +kernel) (Nat.le_of_ble_eq_true rfl) (nar_int _) ?_
  intro p e s m args below meth c Q A G K hA w hret ls hl
  obtain ⟨hx, hb, hml, hown, hts⟩ := id G
  obtain ⟨hn, hcl, hgo, hth, hki, hva, hre, hsi, hco, hfw⟩ := id I
  have hl : lv_has ls 4 [(0, .ref (a 0)), (1, .int (nI i)), (2, .int f), (3, .int x)] := hl
  refine lv_aload_n hx hb dX6_lacks_0 rfl (lv_at hl 0 rfl) ?_
  refine f_get G K w.1 inX6 0 (ci := 6) rfl rfl 0 rfl fl_X6_7 (v := .ref (a 1)) rfl dX6_lacks_1 ?_
  refine lv_iload_n hx hb dX6_lacks_4 rfl (lv_at hl 1 rfl) ?_
  refine a_ld G K w.1 1 0 (a := (a 1)) rfl rfl (by omega) (by decide) dX6_lacks_5 ?_
  refine lv_if_ge (tgt := 15) hx hb dX6_lacks_6 (by decide) (fun c6 => ?_) (fun c6 => ?_)
  · -- taken at 6
    refine lv_aload_n hx hb dX6_lacks_15 rfl (lv_at hl 0 rfl) ?_
    refine f_get G K w.1 inX6 0 (ci := 6) rfl rfl 0 rfl fl_X6_7 (v := .ref (a 1)) rfl dX6_lacks_16 ?_
    refine lv_iload_n hx hb dX6_lacks_19 rfl (lv_at hl 1 rfl) ?_
    refine a_ld G K w.1 1 0 (a := (a 1)) rfl rfl (by omega) (by decide) dX6_lacks_20 ?_
    refine lv_iload_n hx hb dX6_lacks_21 rfl (lv_at hl 2 rfl) ?_
    refine lv_icmp_eq (tgt := 31) hx hb dX6_lacks_22 (by decide) (fun c22 => ?_) (fun c22 => ?_)
    · -- taken at 22
      exact absurd c22 hc9
    · -- not taken at 22
      refine lv_aload_n hx hb dX6_lacks_25 rfl (lv_at hl 0 rfl) ?_
      refine lv_iconst (v := (nI 3)) hx hb dX6_lacks_26 (by decide) ?_
      refine callMF (As := [.int (nI 3)]) (rest := []) (q0 := 0) (ci := 6) (ws' := (wM cI cZ a (nI 3) n cl go fo si it mo th ki va re to co ke fw)) G K hA w F_X6_finds (c_X6_finds a la n cl go fo si it mo th ki va re to co ke fw 3 I) ml_X6_66 rfl rfl rfl (by decide) (by decide) rfl hl.1 (Nat.le_of_ble_eq_true rfl) dX6_lacks_27 (fun Hp1 lo2 w => ?_)
      exact hret _ _ _ _ _ _ rfl rfl w dX6_lacks_30
  · -- not taken at 6
    exact absurd (nneg_ge hf9) c6
set_option maxHeartbeats 4000000 in
set_option maxRecDepth 100000 in
theorem c_X6_lacks_idx (a : Nat → Nat) (la : Int32) (n : Nat) (cl : Nat) (go : Option Nat) (fo : Nat → Int32) (si : Nat → Nat) (it : Nat → Int32) (mo : Nat → Int32) (th : Nat → Nat) (ki : Nat → Nat) (va : Nat → Nat) (re : Nat → Nat) (to : Nat → Prop) (co : Nat → Nat) (ke : Nat → Int32) (fw : Nat → Nat) (i : Nat) (f : Int32) (x : Int32) (I : IM n cl go th ki va re si co fw) (hi9 : i ≤ 3) (hf9 : ¬ fo i < 0) (hc9 : fo i = f) (hx9 : ¬ okW (si i) x) : CM l D (TY cI cZ cS) yX6_lacks cX6_lacks 4 (some .int) 1 [.ref (a 0), .int (nI i), .int f, .int x] (wM cI cZ a la n cl go fo si it mo th ki va re to co ke fw) (some (.int ((-10) - (nI 2)))) (wM cI cZ a (nI 2) n cl go fo si it mo th ki va re to co ke fw) := by
  refine CM.ofI (by decide +kernel) (Nat.le_of_ble_eq_true rfl) (nar_int _) ?_
  intro p e s m args below meth c Q A G K hA w hret ls hl
  obtain ⟨hx, hb, hml, hown, hts⟩ := id G
  obtain ⟨hn, hcl, hgo, hth, hki, hva, hre, hsi, hco, hfw⟩ := id I
  have hl : lv_has ls 4 [(0, .ref (a 0)), (1, .int (nI i)), (2, .int f), (3, .int x)] := hl
  refine lv_aload_n hx hb dX6_lacks_0 rfl (lv_at hl 0 rfl) ?_
  refine f_get G K w.1 inX6 0 (ci := 6) rfl rfl 0 rfl fl_X6_7 (v := .ref (a 1)) rfl dX6_lacks_1 ?_
  refine lv_iload_n hx hb dX6_lacks_4 rfl (lv_at hl 1 rfl) ?_
  refine a_ld G K w.1 1 0 (a := (a 1)) rfl rfl (by omega) (by decide) dX6_lacks_5 ?_
  refine lv_if_ge (tgt := 15) hx hb dX6_lacks_6 (by decide) (fun c6 => ?_) (fun c6 => ?_)
  · -- taken at 6
    refine lv_aload_n hx hb dX6_lacks_15 rfl (lv_at hl 0 rfl) ?_
    refine f_get G K w.1 inX6 0 (ci := 6) rfl rfl 0 rfl fl_X6_7 (v := .ref (a 1)) rfl dX6_lacks_16 ?_
    refine lv_iload_n hx hb dX6_lacks_19 rfl (lv_at hl 1 rfl) ?_
    refine a_ld G K w.1 1 0 (a := (a 1)) rfl rfl (by omega) (by decide) dX6_lacks_20 ?_
    refine lv_iload_n hx hb dX6_lacks_21 rfl (lv_at hl 2 rfl) ?_
    refine lv_icmp_eq (tgt := 31) hx hb dX6_lacks_22 (by decide) (fun c22 => ?_) (fun c22 => ?_)
    · -- taken at 22
      refine lv_iload_n hx hb dX6_lacks_31 rfl (lv_at hl 3 rfl) ?_
      refine lv_i2l (v := x.toInt64) hx hb dX6_lacks_32 rfl ?_
      refine lv_lconst (v := ((0 : Int32)).toInt64) hx hb dX6_lacks_33 (by decide) ?_
      refine lv_aload_n hx hb dX6_lacks_34 rfl (lv_at hl 0 rfl) ?_
      refine f_get G K w.1 inX6 0 (ci := 6) rfl rfl 1 rfl fl_X6_13 (v := .ref (a 2)) rfl dX6_lacks_35 ?_
      refine lv_iload_n hx hb dX6_lacks_38 rfl (lv_at hl 1 rfl) ?_
      refine a_ldN G K w.1 2 0 (a := (a 2)) rfl rfl (by omega) (by decide) dX6_lacks_39 ?_
      have hb1 := hsi i
      refine lv_iconst (v := (nI 1)) hx hb dX6_lacks_40 (by decide) ?_
      refine lv_isub hx hb dX6_lacks_41 ?_
      refine lv_i2l (v := ((nI (si i)) - (nI 1)).toInt64) hx hb dX6_lacks_42 rfl ?_
      refine callPS (rest := []) G K F_X6_in (c_X6_in x (0 : Int32) ((nI (si i)) - (nI 1))) (va_P_nil D s.heap) ml_X6_51 (by decide) (by decide) rfl hl.1 (Nat.le_of_ble_eq_true rfl) dX6_lacks_43 ?_
      refine b_eq G (tgt := 53) dX6_lacks_46 (by decide) (fun c46 => ?_) (fun c46 => ?_)
      · -- taken at 46
        refine lv_aload_n hx hb dX6_lacks_53 rfl (lv_at hl 0 rfl) ?_
        refine lv_iconst (v := (nI 2)) hx hb dX6_lacks_54 (by decide) ?_
        refine callMF (As := [.int (nI 2)]) (rest := []) (q0 := 0) (ci := 6) (ws' := (wM cI cZ a (nI 2) n cl go fo si it mo th ki va re to co ke fw)) G K hA w F_X6_finds (c_X6_finds a la n cl go fo si it mo th ki va re to co ke fw 2 I) ml_X6_66 rfl rfl rfl (by decide) (by decide) rfl hl.1 (Nat.le_of_ble_eq_true rfl) dX6_lacks_55 (fun Hp2 lo3 w => ?_)
        exact hret _ _ _ _ _ _ rfl rfl w dX6_lacks_58
      · -- not taken at 46
        exact absurd ((okZ_iff (hsi i)).mp c46) hx9
    · -- not taken at 22
      exact absurd hc9 c22
  · -- not taken at 6
    exact absurd (nneg_ge hf9) c6
set_option maxHeartbeats 4000000 in
set_option maxRecDepth 100000 in
theorem c_X6_lacks_ok (a : Nat → Nat) (la : Int32) (n : Nat) (cl : Nat) (go : Option Nat) (fo : Nat → Int32) (si : Nat → Nat) (it : Nat → Int32) (mo : Nat → Int32) (th : Nat → Nat) (ki : Nat → Nat) (va : Nat → Nat) (re : Nat → Nat) (to : Nat → Prop) (co : Nat → Nat) (ke : Nat → Int32) (fw : Nat → Nat) (i : Nat) (k : Nat) (f : Int32) (I : IM n cl go th ki va re si co fw) (hi9 : i ≤ 3) (hf9 : ¬ fo i < 0) (hc9 : fo i = f) (hx9 : k < si i) : CM l D (TY cI cZ cS) yX6_lacks cX6_lacks 4 (some .int) 1 [.ref (a 0), .int (nI i), .int f, .int (nI k)] (wM cI cZ a la n cl go fo si it mo th ki va re to co ke fw) (some (.int (nI 0))) (wM cI cZ a la n cl go fo si it mo th ki va re to co ke fw) := by
  refine CM.ofI (by decide +kernel) (Nat.le_of_ble_eq_true rfl) (nar_int _) ?_
  intro p e s m args below meth c Q A G K hA w hret ls hl
  obtain ⟨hx, hb, hml, hown, hts⟩ := id G
  obtain ⟨hn, hcl, hgo, hth, hki, hva, hre, hsi, hco, hfw⟩ := id I
  have hl : lv_has ls 4 [(0, .ref (a 0)), (1, .int (nI i)), (2, .int f), (3, .int (nI k))] := hl
  refine lv_aload_n hx hb dX6_lacks_0 rfl (lv_at hl 0 rfl) ?_
  refine f_get G K w.1 inX6 0 (ci := 6) rfl rfl 0 rfl fl_X6_7 (v := .ref (a 1)) rfl dX6_lacks_1 ?_
  refine lv_iload_n hx hb dX6_lacks_4 rfl (lv_at hl 1 rfl) ?_
  refine a_ld G K w.1 1 0 (a := (a 1)) rfl rfl (by omega) (by decide) dX6_lacks_5 ?_
  refine lv_if_ge (tgt := 15) hx hb dX6_lacks_6 (by decide) (fun c6 => ?_) (fun c6 => ?_)
  · -- taken at 6
    refine lv_aload_n hx hb dX6_lacks_15 rfl (lv_at hl 0 rfl) ?_
    refine f_get G K w.1 inX6 0 (ci := 6) rfl rfl 0 rfl fl_X6_7 (v := .ref (a 1)) rfl dX6_lacks_16 ?_
    refine lv_iload_n hx hb dX6_lacks_19 rfl (lv_at hl 1 rfl) ?_
    refine a_ld G K w.1 1 0 (a := (a 1)) rfl rfl (by omega) (by decide) dX6_lacks_20 ?_
    refine lv_iload_n hx hb dX6_lacks_21 rfl (lv_at hl 2 rfl) ?_
    refine lv_icmp_eq (tgt := 31) hx hb dX6_lacks_22 (by decide) (fun c22 => ?_) (fun c22 => ?_)
    · -- taken at 22
      refine lv_iload_n hx hb dX6_lacks_31 rfl (lv_at hl 3 rfl) ?_
      refine lv_i2l (v := (nI k).toInt64) hx hb dX6_lacks_32 rfl ?_
      refine lv_lconst (v := ((0 : Int32)).toInt64) hx hb dX6_lacks_33 (by decide) ?_
      refine lv_aload_n hx hb dX6_lacks_34 rfl (lv_at hl 0 rfl) ?_
      refine f_get G K w.1 inX6 0 (ci := 6) rfl rfl 1 rfl fl_X6_13 (v := .ref (a 2)) rfl dX6_lacks_35 ?_
      refine lv_iload_n hx hb dX6_lacks_38 rfl (lv_at hl 1 rfl) ?_
      refine a_ldN G K w.1 2 0 (a := (a 2)) rfl rfl (by omega) (by decide) dX6_lacks_39 ?_
      have hb1 := hsi i
      refine lv_iconst (v := (nI 1)) hx hb dX6_lacks_40 (by decide) ?_
      refine lv_isub hx hb dX6_lacks_41 ?_
      refine lv_i2l (v := ((nI (si i)) - (nI 1)).toInt64) hx hb dX6_lacks_42 rfl ?_
      refine callPS (rest := []) G K F_X6_in (c_X6_in (nI k) (0 : Int32) ((nI (si i)) - (nI 1))) (va_P_nil D s.heap) ml_X6_51 (by decide) (by decide) rfl hl.1 (Nat.le_of_ble_eq_true rfl) dX6_lacks_43 ?_
      refine b_eq G (tgt := 53) dX6_lacks_46 (by decide) (fun c46 => ?_) (fun c46 => ?_)
      · -- taken at 46
        exact absurd ((okZ_iff (hsi i)).mpr ⟨k, hx9, rfl⟩) c46
      · -- not taken at 46
        refine lv_iconst (v := (nI 0)) hx hb dX6_lacks_49 (by decide) ?_
        refine lv_goto (tgt := 58) hx hb dX6_lacks_50 (by decide) ?_
        exact hret _ _ _ _ _ _ rfl rfl w dX6_lacks_58
    · -- not taken at 22
      exact absurd hc9 c22
  · -- not taken at 6
    exact absurd (nneg_ge hf9) c6
set_option maxHeartbeats 4000000 in
set_option maxRecDepth 100000 in
theorem c_X6_lay_bad (a : Nat → Nat) (la : Int32) (n : Nat) (cl : Nat) (go : Option Nat) (fo : Nat → Int32) (si : Nat → Nat) (it : Nat → Int32) (mo : Nat → Int32) (th : Nat → Nat) (ki : Nat → Nat) (va : Nat → Nat) (re : Nat → Nat) (to : Nat → Prop) (co : Nat → Nat) (ke : Nat → Int32) (fw : Nat → Nat) (x : Int32) (f : Int32) (y : Int32) (v : Int32) (I : IM n cl go th ki va re si co fw) (hbad : ¬ (okR 3 x ∧ okR 2 f)) : CM l D (TY cI cZ cS) yX6_lay cX6_lay 6 (some .int) 2 [.ref (a 0), .int x, .int f, .int y, .int v] (wM cI cZ a la n cl go fo si it mo th ki va re to co ke fw) (some (.int (-2))) (wM cI cZ a la n cl go fo si it mo th ki va re to co ke fw) := by
  refine CM.ofI (by decide +kernel) (Nat.le_of_ble_eq_true rfl) (nar_int _) ?_
  intro p e s m args below meth c Q A G K hA w hret ls hl
  obtain ⟨hx, hb, hml, hown, hts⟩ := id G
  obtain ⟨hn, hcl, hgo, hth, hki, hva, hre, hsi, hco, hfw⟩ := id I
  have hl : lv_has ls 6 [(0, .ref (a 0)), (1, .int x), (2, .int f), (3, .int y), (4, .int v)] := hl
  refine lv_iload_n hx hb dX6_lay_0 rfl (lv_at hl 1 rfl) ?_
  refine callPS (rest := []) G K F_X6_isSheet (c_X6_isSheet x) (va_P_nil D s.heap) ml_X6_60 (by decide) (by decide) rfl hl.1 (Nat.le_of_ble_eq_true rfl) dX6_lay_1 ?_
  refine b_eq G (tgt := 19) dX6_lay_4 (by decide) (fun c4 => ?_) (fun c4 => ?_)
  · -- taken at 4
    refine lv_bipush (v := (-2)) hx hb dX6_lay_19 (by decide) ?_
    exact hret _ _ _ _ _ _ rfl rfl w dX6_lay_21
  · -- not taken at 4
    refine lv_iload_n hx hb dX6_lay_7 rfl (lv_at hl 2 rfl) ?_
    refine lv_i2l (v := f.toInt64) hx hb dX6_lay_8 rfl ?_
    refine lv_lconst (v := ((0 : Int32)).toInt64) hx hb dX6_lay_9 (by decide) ?_
    refine lv_ldc2 hx hb hown (hts _ kl_X6_64) dX6_lay_10 ?_
    refine t_l (y := (2 : Int32).toInt64) (by decide) ?_
    refine callPS (rest := []) G K F_X6_in (c_X6_in f (0 : Int32) (2 : Int32)) (va_P_nil D s.heap) ml_X6_51 (by decide) (by decide) rfl hl.1 (Nat.le_of_ble_eq_true rfl) dX6_lay_13 ?_
    refine b_ne G (tgt := 22) dX6_lay_16 (by decide) (fun c16 => ?_) (fun c16 => ?_)
    · -- taken at 16
      exact absurd ⟨okRi (by decide) c4, okRi (by decide) c16⟩ hbad
    · -- not taken at 16
      refine lv_bipush (v := (-2)) hx hb dX6_lay_19 (by decide) ?_
      exact hret _ _ _ _ _ _ rfl rfl w dX6_lay_21
set_option maxHeartbeats 4000000 in
set_option maxRecDepth 100000 in
theorem c_X6_lay_nul (a : Nat → Nat) (la : Int32) (n : Nat) (cl : Nat) (go : Option Nat) (fo : Nat → Int32) (si : Nat → Nat) (it : Nat → Int32) (mo : Nat → Int32) (th : Nat → Nat) (ki : Nat → Nat) (va : Nat → Nat) (re : Nat → Nat) (to : Nat → Prop) (co : Nat → Nat) (ke : Nat → Int32) (fw : Nat → Nat) (i : Nat) (j : Nat) (y : Int32) (v : Int32) (I : IM n cl go th ki va re si co fw) (hi9 : i ≤ 3) (hj9 : j ≤ 2) (hf9 : fo i < 0) : CM l D (TY cI cZ cS) yX6_lay cX6_lay 6 (some .int) 2 [.ref (a 0), .int (nI i), .int (nI j), .int y, .int v] (wM cI cZ a la n cl go fo si it mo th ki va re to co ke fw) (some (.int ((-10) - (nI 1)))) (wM cI cZ a (nI 1) n cl go fo si it mo th ki va re to co ke fw) := by
  refine CM.ofI (by decide +kernel) (Nat.le_of_ble_eq_true rfl) (nar_int _) ?_
  intro p e s m args below meth c Q A G K hA w hret ls hl
  obtain ⟨hx, hb, hml, hown, hts⟩ := id G
  obtain ⟨hn, hcl, hgo, hth, hki, hva, hre, hsi, hco, hfw⟩ := id I
  have hl : lv_has ls 6 [(0, .ref (a 0)), (1, .int (nI i)), (2, .int (nI j)), (3, .int y), (4, .int v)] := hl
  refine lv_iload_n hx hb dX6_lay_0 rfl (lv_at hl 1 rfl) ?_
  refine callPS (rest := []) G K F_X6_isSheet (c_X6_isSheet (nI i)) (va_P_nil D s.heap) ml_X6_60 (by decide) (by decide) rfl hl.1 (Nat.le_of_ble_eq_true rfl) dX6_lay_1 ?_
  refine b_eq G (tgt := 19) dX6_lay_4 (by decide) (fun c4 => ?_) (fun c4 => ?_)
  · -- taken at 4
    exact absurd ((okN (m := 3) (by decide)).mpr ⟨i, hi9, rfl⟩) c4
  · -- not taken at 4
    refine lv_iload_n hx hb dX6_lay_7 rfl (lv_at hl 2 rfl) ?_
    refine lv_i2l (v := (nI j).toInt64) hx hb dX6_lay_8 rfl ?_
    refine lv_lconst (v := ((0 : Int32)).toInt64) hx hb dX6_lay_9 (by decide) ?_
    refine lv_ldc2 hx hb hown (hts _ kl_X6_64) dX6_lay_10 ?_
    refine t_l (y := (2 : Int32).toInt64) (by decide) ?_
    refine callPS (rest := []) G K F_X6_in (c_X6_in (nI j) (0 : Int32) (2 : Int32)) (va_P_nil D s.heap) ml_X6_51 (by decide) (by decide) rfl hl.1 (Nat.le_of_ble_eq_true rfl) dX6_lay_13 ?_
    refine b_ne G (tgt := 22) dX6_lay_16 (by decide) (fun c16 => ?_) (fun c16 => ?_)
    · -- taken at 16
      refine lv_aload_n hx hb dX6_lay_22 rfl (lv_at hl 0 rfl) ?_
      refine lv_iload_n hx hb dX6_lay_23 rfl (lv_at hl 1 rfl) ?_
      refine lv_iload_n hx hb dX6_lay_24 rfl (lv_at hl 2 rfl) ?_
      refine lv_iload_n hx hb dX6_lay_25 rfl (lv_at hl 3 rfl) ?_
      refine callMF (As := [.int (nI i), .int (nI j), .int y]) (rest := []) (q0 := 0) (ci := 6) (ws' := (wM cI cZ a (nI 1) n cl go fo si it mo th ki va re to co ke fw)) G K hA w F_X6_lacks (c_X6_lacks_nul a la n cl go fo si it mo th ki va re to co ke fw i (nI j) y I hi9 hf9) ml_X6_70 rfl rfl rfl (by decide) (by decide) rfl hl.1 (Nat.le_of_ble_eq_true rfl) dX6_lay_26 (fun Hp1 lo2 w => ?_)
      refine lv_istore (lv' := [(5, .int ((-10) - (nI 1))), (0, .ref (a 0)), (1, .int (nI i)), (2, .int (nI j)), (3, .int y), (4, .int v)]) hx hb dX6_lay_29 hl (by decide) rfl (fun ls hl => ?_)
      refine lv_iload hx hb dX6_lay_31 (lv_at hl 0 rfl) ?_
      refine lv_if_eq (tgt := 39) hx hb dX6_lay_33 (by decide) (fun c33 => ?_) (fun c33 => ?_)
      · -- taken at 33
        exact absurd c33 (by decide)
      · -- not taken at 33
        refine lv_iload hx hb dX6_lay_36 (lv_at hl 0 rfl) ?_
        exact hret _ _ _ _ _ _ rfl rfl w dX6_lay_38
    · -- not taken at 16
      exact absurd ((okN (m := 2) (by decide)).mpr ⟨j, hj9, rfl⟩) c16
set_option maxHeartbeats 4000000 in
set_option maxRecDepth 100000 in
theorem c_X6_lay_cast (a : Nat → Nat) (la : Int32) (n : Nat) (cl : Nat) (go : Option Nat) (fo : Nat → Int32) (si : Nat → Nat) (it : Nat → Int32) (mo : Nat → Int32) (th : Nat → Nat) (ki : Nat → Nat) (va : Nat → Nat) (re : Nat → Nat) (to : Nat → Prop) (co : Nat → Nat) (ke : Nat → Int32) (fw : Nat → Nat) (i : Nat) (j : Nat) (y : Int32) (v : Int32) (I : IM n cl go th ki va re si co fw) (hi9 : i ≤ 3) (hj9 : j ≤ 2) (hf9 : ¬ fo i < 0) (hc9 : fo i ≠ nI j) : CM l D (TY cI cZ cS) yX6_lay cX6_lay 6 (some .int) 2 [.ref (a 0), .int (nI i), .int (nI j), .int y, .int v] (wM cI cZ a la n cl go fo si it mo th ki va re to co ke fw) (some (.int ((-10) - (nI 3)))) (wM cI cZ a (nI 3) n cl go fo si it mo th ki va re to co ke fw) := by
  refine CM.ofI (by decide +kernel) (Nat.le_of_ble_eq_true rfl) (nar_int _) ?_
  intro p e s m args below meth c Q A G K hA w hret ls hl
  obtain ⟨hx, hb, hml, hown, hts⟩ := id G
  obtain ⟨hn, hcl, hgo, hth, hki, hva, hre, hsi, hco, hfw⟩ := id I
  have hl : lv_has ls 6 [(0, .ref (a 0)), (1, .int (nI i)), (2, .int (nI j)), (3, .int y), (4, .int v)] := hl
  refine lv_iload_n hx hb dX6_lay_0 rfl (lv_at hl 1 rfl) ?_
  refine callPS (rest := []) G K F_X6_isSheet (c_X6_isSheet (nI i)) (va_P_nil D s.heap) ml_X6_60 (by decide) (by decide) rfl hl.1 (Nat.le_of_ble_eq_true rfl) dX6_lay_1 ?_
  refine b_eq G (tgt := 19) dX6_lay_4 (by decide) (fun c4 => ?_) (fun c4 => ?_)
  · -- taken at 4
    exact absurd ((okN (m := 3) (by decide)).mpr ⟨i, hi9, rfl⟩) c4
  · -- not taken at 4
    refine lv_iload_n hx hb dX6_lay_7 rfl (lv_at hl 2 rfl) ?_
    refine lv_i2l (v := (nI j).toInt64) hx hb dX6_lay_8 rfl ?_
    refine lv_lconst (v := ((0 : Int32)).toInt64) hx hb dX6_lay_9 (by decide) ?_
    refine lv_ldc2 hx hb hown (hts _ kl_X6_64) dX6_lay_10 ?_
    refine t_l (y := (2 : Int32).toInt64) (by decide) ?_
    refine callPS (rest := []) G K F_X6_in (c_X6_in (nI j) (0 : Int32) (2 : Int32)) (va_P_nil D s.heap) ml_X6_51 (by decide) (by decide) rfl hl.1 (Nat.le_of_ble_eq_true rfl) dX6_lay_13 ?_
    refine b_ne G (tgt := 22) dX6_lay_16 (by decide) (fun c16 => ?_) (fun c16 => ?_)
    · -- taken at 16
      refine lv_aload_n hx hb dX6_lay_22 rfl (lv_at hl 0 rfl) ?_
      refine lv_iload_n hx hb dX6_lay_23 rfl (lv_at hl 1 rfl) ?_
      refine lv_iload_n hx hb dX6_lay_24 rfl (lv_at hl 2 rfl) ?_
      refine lv_iload_n hx hb dX6_lay_25 rfl (lv_at hl 3 rfl) ?_
      refine callMF (As := [.int (nI i), .int (nI j), .int y]) (rest := []) (q0 := 0) (ci := 6) (ws' := (wM cI cZ a (nI 3) n cl go fo si it mo th ki va re to co ke fw)) G K hA w F_X6_lacks (c_X6_lacks_cast a la n cl go fo si it mo th ki va re to co ke fw i (nI j) y I hi9 hf9 hc9) ml_X6_70 rfl rfl rfl (by decide) (by decide) rfl hl.1 (Nat.le_of_ble_eq_true rfl) dX6_lay_26 (fun Hp1 lo2 w => ?_)
      refine lv_istore (lv' := [(5, .int ((-10) - (nI 3))), (0, .ref (a 0)), (1, .int (nI i)), (2, .int (nI j)), (3, .int y), (4, .int v)]) hx hb dX6_lay_29 hl (by decide) rfl (fun ls hl => ?_)
      refine lv_iload hx hb dX6_lay_31 (lv_at hl 0 rfl) ?_
      refine lv_if_eq (tgt := 39) hx hb dX6_lay_33 (by decide) (fun c33 => ?_) (fun c33 => ?_)
      · -- taken at 33
        exact absurd c33 (by decide)
      · -- not taken at 33
        refine lv_iload hx hb dX6_lay_36 (lv_at hl 0 rfl) ?_
        exact hret _ _ _ _ _ _ rfl rfl w dX6_lay_38
    · -- not taken at 16
      exact absurd ((okN (m := 2) (by decide)).mpr ⟨j, hj9, rfl⟩) c16
set_option maxHeartbeats 4000000 in
set_option maxRecDepth 100000 in
theorem c_X6_lay_idx (a : Nat → Nat) (la : Int32) (n : Nat) (cl : Nat) (go : Option Nat) (fo : Nat → Int32) (si : Nat → Nat) (it : Nat → Int32) (mo : Nat → Int32) (th : Nat → Nat) (ki : Nat → Nat) (va : Nat → Nat) (re : Nat → Nat) (to : Nat → Prop) (co : Nat → Nat) (ke : Nat → Int32) (fw : Nat → Nat) (i : Nat) (j : Nat) (y : Int32) (v : Int32) (I : IM n cl go th ki va re si co fw) (hi9 : i ≤ 3) (hj9 : j ≤ 2) (hf9 : ¬ fo i < 0) (hc9 : fo i = nI j) (hx9 : ¬ okW (si i) y) : CM l D (TY cI cZ cS) yX6_lay cX6_lay 6 (some .int) 2 [.ref (a 0), .int (nI i), .int (nI j), .int y, .int v] (wM cI cZ a la n cl go fo si it mo th ki va re to co ke fw) (some (.int ((-10) - (nI 2)))) (wM cI cZ a (nI 2) n cl go fo si it mo th ki va re to co ke fw) := by
  refine CM.ofI (by decide +kernel) (Nat.le_of_ble_eq_true rfl) (nar_int _) ?_
  intro p e s m args below meth c Q A G K hA w hret ls hl
  obtain ⟨hx, hb, hml, hown, hts⟩ := id G
  obtain ⟨hn, hcl, hgo, hth, hki, hva, hre, hsi, hco, hfw⟩ := id I
  have hl : lv_has ls 6 [(0, .ref (a 0)), (1, .int (nI i)), (2, .int (nI j)), (3, .int y), (4, .int v)] := hl
  refine lv_iload_n hx hb dX6_lay_0 rfl (lv_at hl 1 rfl) ?_
  refine callPS (rest := []) G K F_X6_isSheet (c_X6_isSheet (nI i)) (va_P_nil D s.heap) ml_X6_60 (by decide) (by decide) rfl hl.1 (Nat.le_of_ble_eq_true rfl) dX6_lay_1 ?_
  refine b_eq G (tgt := 19) dX6_lay_4 (by decide) (fun c4 => ?_) (fun c4 => ?_)
  · -- taken at 4
    exact absurd ((okN (m := 3) (by decide)).mpr ⟨i, hi9, rfl⟩) c4
  · -- not taken at 4
    refine lv_iload_n hx hb dX6_lay_7 rfl (lv_at hl 2 rfl) ?_
    refine lv_i2l (v := (nI j).toInt64) hx hb dX6_lay_8 rfl ?_
    refine lv_lconst (v := ((0 : Int32)).toInt64) hx hb dX6_lay_9 (by decide) ?_
    refine lv_ldc2 hx hb hown (hts _ kl_X6_64) dX6_lay_10 ?_
    refine t_l (y := (2 : Int32).toInt64) (by decide) ?_
    refine callPS (rest := []) G K F_X6_in (c_X6_in (nI j) (0 : Int32) (2 : Int32)) (va_P_nil D s.heap) ml_X6_51 (by decide) (by decide) rfl hl.1 (Nat.le_of_ble_eq_true rfl) dX6_lay_13 ?_
    refine b_ne G (tgt := 22) dX6_lay_16 (by decide) (fun c16 => ?_) (fun c16 => ?_)
    · -- taken at 16
      refine lv_aload_n hx hb dX6_lay_22 rfl (lv_at hl 0 rfl) ?_
      refine lv_iload_n hx hb dX6_lay_23 rfl (lv_at hl 1 rfl) ?_
      refine lv_iload_n hx hb dX6_lay_24 rfl (lv_at hl 2 rfl) ?_
      refine lv_iload_n hx hb dX6_lay_25 rfl (lv_at hl 3 rfl) ?_
      refine callMF (As := [.int (nI i), .int (nI j), .int y]) (rest := []) (q0 := 0) (ci := 6) (ws' := (wM cI cZ a (nI 2) n cl go fo si it mo th ki va re to co ke fw)) G K hA w F_X6_lacks (c_X6_lacks_idx a la n cl go fo si it mo th ki va re to co ke fw i (nI j) y I hi9 hf9 hc9 hx9) ml_X6_70 rfl rfl rfl (by decide) (by decide) rfl hl.1 (Nat.le_of_ble_eq_true rfl) dX6_lay_26 (fun Hp1 lo2 w => ?_)
      refine lv_istore (lv' := [(5, .int ((-10) - (nI 2))), (0, .ref (a 0)), (1, .int (nI i)), (2, .int (nI j)), (3, .int y), (4, .int v)]) hx hb dX6_lay_29 hl (by decide) rfl (fun ls hl => ?_)
      refine lv_iload hx hb dX6_lay_31 (lv_at hl 0 rfl) ?_
      refine lv_if_eq (tgt := 39) hx hb dX6_lay_33 (by decide) (fun c33 => ?_) (fun c33 => ?_)
      · -- taken at 33
        exact absurd c33 (by decide)
      · -- not taken at 33
        refine lv_iload hx hb dX6_lay_36 (lv_at hl 0 rfl) ?_
        exact hret _ _ _ _ _ _ rfl rfl w dX6_lay_38
    · -- not taken at 16
      exact absurd ((okN (m := 2) (by decide)).mpr ⟨j, hj9, rfl⟩) c16
set_option maxHeartbeats 4000000 in
set_option maxRecDepth 100000 in
theorem c_X6_lay_ok (a : Nat → Nat) (la : Int32) (n : Nat) (cl : Nat) (go : Option Nat) (fo : Nat → Int32) (si : Nat → Nat) (it : Nat → Int32) (mo : Nat → Int32) (th : Nat → Nat) (ki : Nat → Nat) (va : Nat → Nat) (re : Nat → Nat) (to : Nat → Prop) (co : Nat → Nat) (ke : Nat → Int32) (fw : Nat → Nat) (i : Nat) (j : Nat) (k : Nat) (v : Int32) (I : IM n cl go th ki va re si co fw) (hi9 : i ≤ 3) (hj9 : j ≤ 2) (hf9 : ¬ fo i < 0) (hc9 : fo i = nI j) (hx9 : k < si i) : CM l D (TY cI cZ cS) yX6_lay cX6_lay 6 (some .int) 2 [.ref (a 0), .int (nI i), .int (nI j), .int (nI k), .int v] (wM cI cZ a la n cl go fo si it mo th ki va re to co ke fw) (some (.int (nI 1))) (wM cI cZ a la n cl go fo si (va_up it (60 * i + k) (cutV (nI j) v)) mo th ki va re to co ke fw) := by
  refine CM.ofI (by decide +kernel) (Nat.le_of_ble_eq_true rfl) (nar_int _) ?_
  intro p e s m args below meth c Q A G K hA w hret ls hl
  obtain ⟨hx, hb, hml, hown, hts⟩ := id G
  obtain ⟨hn, hcl, hgo, hth, hki, hva, hre, hsi, hco, hfw⟩ := id I
  have hsi9 := hsi i
  have hl : lv_has ls 6 [(0, .ref (a 0)), (1, .int (nI i)), (2, .int (nI j)), (3, .int (nI k)), (4, .int v)] := hl
  refine lv_iload_n hx hb dX6_lay_0 rfl (lv_at hl 1 rfl) ?_
  refine callPS (rest := []) G K F_X6_isSheet (c_X6_isSheet (nI i)) (va_P_nil D s.heap) ml_X6_60 (by decide) (by decide) rfl hl.1 (Nat.le_of_ble_eq_true rfl) dX6_lay_1 ?_
  refine b_eq G (tgt := 19) dX6_lay_4 (by decide) (fun c4 => ?_) (fun c4 => ?_)
  · -- taken at 4
    exact absurd ((okN (m := 3) (by decide)).mpr ⟨i, hi9, rfl⟩) c4
  · -- not taken at 4
    refine lv_iload_n hx hb dX6_lay_7 rfl (lv_at hl 2 rfl) ?_
    refine lv_i2l (v := (nI j).toInt64) hx hb dX6_lay_8 rfl ?_
    refine lv_lconst (v := ((0 : Int32)).toInt64) hx hb dX6_lay_9 (by decide) ?_
    refine lv_ldc2 hx hb hown (hts _ kl_X6_64) dX6_lay_10 ?_
    refine t_l (y := (2 : Int32).toInt64) (by decide) ?_
    refine callPS (rest := []) G K F_X6_in (c_X6_in (nI j) (0 : Int32) (2 : Int32)) (va_P_nil D s.heap) ml_X6_51 (by decide) (by decide) rfl hl.1 (Nat.le_of_ble_eq_true rfl) dX6_lay_13 ?_
    refine b_ne G (tgt := 22) dX6_lay_16 (by decide) (fun c16 => ?_) (fun c16 => ?_)
    · -- taken at 16
      refine lv_aload_n hx hb dX6_lay_22 rfl (lv_at hl 0 rfl) ?_
      refine lv_iload_n hx hb dX6_lay_23 rfl (lv_at hl 1 rfl) ?_
      refine lv_iload_n hx hb dX6_lay_24 rfl (lv_at hl 2 rfl) ?_
      refine lv_iload_n hx hb dX6_lay_25 rfl (lv_at hl 3 rfl) ?_
      refine callMF (As := [.int (nI i), .int (nI j), .int (nI k)]) (rest := []) (q0 := 0) (ci := 6) (ws' := (wM cI cZ a la n cl go fo si it mo th ki va re to co ke fw)) G K hA w F_X6_lacks (c_X6_lacks_ok a la n cl go fo si it mo th ki va re to co ke fw i k (nI j) I hi9 hf9 hc9 hx9) ml_X6_70 rfl rfl rfl (by decide) (by decide) rfl hl.1 (Nat.le_of_ble_eq_true rfl) dX6_lay_26 (fun Hp1 lo2 w => ?_)
      refine lv_istore (lv' := [(5, .int (nI 0)), (0, .ref (a 0)), (1, .int (nI i)), (2, .int (nI j)), (3, .int (nI k)), (4, .int v)]) hx hb dX6_lay_29 hl (by decide) rfl (fun ls hl => ?_)
      refine lv_iload hx hb dX6_lay_31 (lv_at hl 0 rfl) ?_
      refine z_eq G (tgt := 39) (by omega) dX6_lay_33 (by decide) (fun c33 => ?_) (fun c33 => ?_)
      · -- taken at 33
        refine lv_aload_n hx hb dX6_lay_39 rfl (lv_at hl 1 rfl) ?_
        refine f_get G K w.1 inX6 0 (ci := 6) rfl rfl 2 rfl fl_X6_16 (v := .ref (a 3)) rfl dX6_lay_40 ?_
        refine lv_bipush (v := (nI 60)) hx hb dX6_lay_43 (by decide) ?_
        refine lv_iload_n hx hb dX6_lay_45 rfl (lv_at hl 2 rfl) ?_
        refine t_mul G dX6_lay_46 ?_
        refine lv_iload_n hx hb dX6_lay_47 rfl (lv_at hl 4 rfl) ?_
        refine t_add G dX6_lay_48 ?_
        refine lv_iload_n hx hb dX6_lay_49 rfl (lv_at hl 3 rfl) ?_
        refine lv_iload hx hb dX6_lay_50 (lv_at hl 5 rfl) ?_
        refine callPS (rest := [.int (nI (60 * i + k)), .ref (a 3)]) G K F_X6_cut (c_X6_cut (nI j) v) (va_P_nil D Hp1) ml_X6_74 (by decide) (by decide) rfl hl.1 (Nat.le_of_ble_eq_true rfl) dX6_lay_52 ?_
        refine a_st G K w 3 0 (a := (a 3)) rfl rfl (by omega) (by decide) dX6_lay_55 (w2 := (wM cI cZ a la n cl go fo si (va_up it (60 * i + k) (cutV (nI j) v)) mo th ki va re to co ke fw)) rfl (fun Hp3 lo4 w => ?_)
        refine lv_iconst (v := (nI 1)) hx hb dX6_lay_56 (by decide) ?_
        exact hret _ _ _ _ _ _ rfl rfl w dX6_lay_57
      · -- not taken at 33
        exact absurd c33 (by decide)
    · -- not taken at 16
      exact absurd ((okN (m := 2) (by decide)).mpr ⟨j, hj9, rfl⟩) c16
set_option maxHeartbeats 4000000 in
set_option maxRecDepth 100000 in
theorem c_X6_get_bad (a : Nat → Nat) (la : Int32) (n : Nat) (cl : Nat) (go : Option Nat) (fo : Nat → Int32) (si : Nat → Nat) (it : Nat → Int32) (mo : Nat → Int32) (th : Nat → Nat) (ki : Nat → Nat) (va : Nat → Nat) (re : Nat → Nat) (to : Nat → Prop) (co : Nat → Nat) (ke : Nat → Int32) (fw : Nat → Nat) (x : Int32) (f : Int32) (y : Int32) (I : IM n cl go th ki va re si co fw) (hbad : ¬ (okR 3 x ∧ okR 2 f)) : CM l D (TY cI cZ cS) yX6_get cX6_get 4 (some .int) 2 [.ref (a 0), .int x, .int f, .int y] (wM cI cZ a la n cl go fo si it mo th ki va re to co ke fw) (some (.int (-2147483648))) (wM cI cZ a la n cl go fo si it mo th ki va re to co ke fw) := by
  refine CM.ofI (by decide +kernel) (Nat.le_of_ble_eq_true rfl) (nar_int _) ?_
  intro p e s m args below meth c Q A G K hA w hret ls hl
  obtain ⟨hx, hb, hml, hown, hts⟩ := id G
  obtain ⟨hn, hcl, hgo, hth, hki, hva, hre, hsi, hco, hfw⟩ := id I
  have hl : lv_has ls 4 [(0, .ref (a 0)), (1, .int x), (2, .int f), (3, .int y)] := hl
  refine lv_iload_n hx hb dX6_get_0 rfl (lv_at hl 1 rfl) ?_
  refine callPS (rest := []) G K F_X6_isSheet (c_X6_isSheet x) (va_P_nil D s.heap) ml_X6_60 (by decide) (by decide) rfl hl.1 (Nat.le_of_ble_eq_true rfl) dX6_get_1 ?_
  refine b_eq G (tgt := 29) dX6_get_4 (by decide) (fun c4 => ?_) (fun c4 => ?_)
  · -- taken at 4
    refine lv_ldc hx hb hown (hts _ kc_X6_78) dX6_get_29 ?_
    exact hret _ _ _ _ _ _ rfl rfl w dX6_get_31
  · -- not taken at 4
    refine lv_iload_n hx hb dX6_get_7 rfl (lv_at hl 2 rfl) ?_
    refine lv_i2l (v := f.toInt64) hx hb dX6_get_8 rfl ?_
    refine lv_lconst (v := ((0 : Int32)).toInt64) hx hb dX6_get_9 (by decide) ?_
    refine lv_ldc2 hx hb hown (hts _ kl_X6_64) dX6_get_10 ?_
    refine t_l (y := (2 : Int32).toInt64) (by decide) ?_
    refine callPS (rest := []) G K F_X6_in (c_X6_in f (0 : Int32) (2 : Int32)) (va_P_nil D s.heap) ml_X6_51 (by decide) (by decide) rfl hl.1 (Nat.le_of_ble_eq_true rfl) dX6_get_13 ?_
    refine b_eq G (tgt := 29) dX6_get_16 (by decide) (fun c16 => ?_) (fun c16 => ?_)
    · -- taken at 16
      refine lv_ldc hx hb hown (hts _ kc_X6_78) dX6_get_29 ?_
      exact hret _ _ _ _ _ _ rfl rfl w dX6_get_31
    · -- not taken at 16
      exact absurd ⟨okRi (by decide) c4, okRi (by decide) c16⟩ hbad
set_option maxHeartbeats 4000000 in
set_option maxRecDepth 100000 in
theorem c_X6_get_nul (a : Nat → Nat) (la : Int32) (n : Nat) (cl : Nat) (go : Option Nat) (fo : Nat → Int32) (si : Nat → Nat) (it : Nat → Int32) (mo : Nat → Int32) (th : Nat → Nat) (ki : Nat → Nat) (va : Nat → Nat) (re : Nat → Nat) (to : Nat → Prop) (co : Nat → Nat) (ke : Nat → Int32) (fw : Nat → Nat) (i : Nat) (j : Nat) (y : Int32) (I : IM n cl go th ki va re si co fw) (hi9 : i ≤ 3) (hj9 : j ≤ 2) (hf9 : fo i < 0) : CM l D (TY cI cZ cS) yX6_get cX6_get 4 (some .int) 2 [.ref (a 0), .int (nI i), .int (nI j), .int y] (wM cI cZ a la n cl go fo si it mo th ki va re to co ke fw) (some (.int (-2147483648))) (wM cI cZ a (nI 1) n cl go fo si it mo th ki va re to co ke fw) := by
  refine CM.ofI (by decide +kernel) (Nat.le_of_ble_eq_true rfl) (nar_int _) ?_
  intro p e s m args below meth c Q A G K hA w hret ls hl
  obtain ⟨hx, hb, hml, hown, hts⟩ := id G
  obtain ⟨hn, hcl, hgo, hth, hki, hva, hre, hsi, hco, hfw⟩ := id I
  have hl : lv_has ls 4 [(0, .ref (a 0)), (1, .int (nI i)), (2, .int (nI j)), (3, .int y)] := hl
  refine lv_iload_n hx hb dX6_get_0 rfl (lv_at hl 1 rfl) ?_
  refine callPS (rest := []) G K F_X6_isSheet (c_X6_isSheet (nI i)) (va_P_nil D s.heap) ml_X6_60 (by decide) (by decide) rfl hl.1 (Nat.le_of_ble_eq_true rfl) dX6_get_1 ?_
  refine b_eq G (tgt := 29) dX6_get_4 (by decide) (fun c4 => ?_) (fun c4 => ?_)
  · -- taken at 4
    exact absurd ((okN (m := 3) (by decide)).mpr ⟨i, hi9, rfl⟩) c4
  · -- not taken at 4
    refine lv_iload_n hx hb dX6_get_7 rfl (lv_at hl 2 rfl) ?_
    refine lv_i2l (v := (nI j).toInt64) hx hb dX6_get_8 rfl ?_
    refine lv_lconst (v := ((0 : Int32)).toInt64) hx hb dX6_get_9 (by decide) ?_
    refine lv_ldc2 hx hb hown (hts _ kl_X6_64) dX6_get_10 ?_
    refine t_l (y := (2 : Int32).toInt64) (by decide) ?_
    refine callPS (rest := []) G K F_X6_in (c_X6_in (nI j) (0 : Int32) (2 : Int32)) (va_P_nil D s.heap) ml_X6_51 (by decide) (by decide) rfl hl.1 (Nat.le_of_ble_eq_true rfl) dX6_get_13 ?_
    refine b_eq G (tgt := 29) dX6_get_16 (by decide) (fun c16 => ?_) (fun c16 => ?_)
    · -- taken at 16
      exact absurd ((okN (m := 2) (by decide)).mpr ⟨j, hj9, rfl⟩) c16
    · -- not taken at 16
      refine lv_aload_n hx hb dX6_get_19 rfl (lv_at hl 0 rfl) ?_
      refine lv_iload_n hx hb dX6_get_20 rfl (lv_at hl 1 rfl) ?_
      refine lv_iload_n hx hb dX6_get_21 rfl (lv_at hl 2 rfl) ?_
      refine lv_iload_n hx hb dX6_get_22 rfl (lv_at hl 3 rfl) ?_
      refine callMF (As := [.int (nI i), .int (nI j), .int y]) (rest := []) (q0 := 0) (ci := 6) (ws' := (wM cI cZ a (nI 1) n cl go fo si it mo th ki va re to co ke fw)) G K hA w F_X6_lacks (c_X6_lacks_nul a la n cl go fo si it mo th ki va re to co ke fw i (nI j) y I hi9 hf9) ml_X6_70 rfl rfl rfl (by decide) (by decide) rfl hl.1 (Nat.le_of_ble_eq_true rfl) dX6_get_23 (fun Hp1 lo2 w => ?_)
      refine lv_if_eq (tgt := 32) hx hb dX6_get_26 (by decide) (fun c26 => ?_) (fun c26 => ?_)
      · -- taken at 26
        exact absurd c26 (by decide)
      · -- not taken at 26
        refine lv_ldc hx hb hown (hts _ kc_X6_78) dX6_get_29 ?_
        exact hret _ _ _ _ _ _ rfl rfl w dX6_get_31
set_option maxHeartbeats 4000000 in
set_option maxRecDepth 100000 in
theorem c_X6_get_cast (a : Nat → Nat) (la : Int32) (n : Nat) (cl : Nat) (go : Option Nat) (fo : Nat → Int32) (si : Nat → Nat) (it : Nat → Int32) (mo : Nat → Int32) (th : Nat → Nat) (ki : Nat → Nat) (va : Nat → Nat) (re : Nat → Nat) (to : Nat → Prop) (co : Nat → Nat) (ke : Nat → Int32) (fw : Nat → Nat) (i : Nat) (j : Nat) (y : Int32) (I : IM n cl go th ki va re si co fw) (hi9 : i ≤ 3) (hj9 : j ≤ 2) (hf9 : ¬ fo i < 0) (hc9 : fo i ≠ nI j) : CM l D (TY cI cZ cS) yX6_get cX6_get 4 (some .int) 2 [.ref (a 0), .int (nI i), .int (nI j), .int y] (wM cI cZ a la n cl go fo si it mo th ki va re to co ke fw) (some (.int (-2147483648))) (wM cI cZ a (nI 3) n cl go fo si it mo th ki va re to co ke fw) := by
  refine CM.ofI (by decide +kernel) (Nat.le_of_ble_eq_true rfl) (nar_int _) ?_
  intro p e s m args below meth c Q A G K hA w hret ls hl
  obtain ⟨hx, hb, hml, hown, hts⟩ := id G
  obtain ⟨hn, hcl, hgo, hth, hki, hva, hre, hsi, hco, hfw⟩ := id I
  have hl : lv_has ls 4 [(0, .ref (a 0)), (1, .int (nI i)), (2, .int (nI j)), (3, .int y)] := hl
  refine lv_iload_n hx hb dX6_get_0 rfl (lv_at hl 1 rfl) ?_
  refine callPS (rest := []) G K F_X6_isSheet (c_X6_isSheet (nI i)) (va_P_nil D s.heap) ml_X6_60 (by decide) (by decide) rfl hl.1 (Nat.le_of_ble_eq_true rfl) dX6_get_1 ?_
  refine b_eq G (tgt := 29) dX6_get_4 (by decide) (fun c4 => ?_) (fun c4 => ?_)
  · -- taken at 4
    exact absurd ((okN (m := 3) (by decide)).mpr ⟨i, hi9, rfl⟩) c4
  · -- not taken at 4
    refine lv_iload_n hx hb dX6_get_7 rfl (lv_at hl 2 rfl) ?_
    refine lv_i2l (v := (nI j).toInt64) hx hb dX6_get_8 rfl ?_
    refine lv_lconst (v := ((0 : Int32)).toInt64) hx hb dX6_get_9 (by decide) ?_
    refine lv_ldc2 hx hb hown (hts _ kl_X6_64) dX6_get_10 ?_
    refine t_l (y := (2 : Int32).toInt64) (by decide) ?_
    refine callPS (rest := []) G K F_X6_in (c_X6_in (nI j) (0 : Int32) (2 : Int32)) (va_P_nil D s.heap) ml_X6_51 (by decide) (by decide) rfl hl.1 (Nat.le_of_ble_eq_true rfl) dX6_get_13 ?_
    refine b_eq G (tgt := 29) dX6_get_16 (by decide) (fun c16 => ?_) (fun c16 => ?_)
    · -- taken at 16
      exact absurd ((okN (m := 2) (by decide)).mpr ⟨j, hj9, rfl⟩) c16
    · -- not taken at 16
      refine lv_aload_n hx hb dX6_get_19 rfl (lv_at hl 0 rfl) ?_
      refine lv_iload_n hx hb dX6_get_20 rfl (lv_at hl 1 rfl) ?_
      refine lv_iload_n hx hb dX6_get_21 rfl (lv_at hl 2 rfl) ?_
      refine lv_iload_n hx hb dX6_get_22 rfl (lv_at hl 3 rfl) ?_
      refine callMF (As := [.int (nI i), .int (nI j), .int y]) (rest := []) (q0 := 0) (ci := 6) (ws' := (wM cI cZ a (nI 3) n cl go fo si it mo th ki va re to co ke fw)) G K hA w F_X6_lacks (c_X6_lacks_cast a la n cl go fo si it mo th ki va re to co ke fw i (nI j) y I hi9 hf9 hc9) ml_X6_70 rfl rfl rfl (by decide) (by decide) rfl hl.1 (Nat.le_of_ble_eq_true rfl) dX6_get_23 (fun Hp1 lo2 w => ?_)
      refine lv_if_eq (tgt := 32) hx hb dX6_get_26 (by decide) (fun c26 => ?_) (fun c26 => ?_)
      · -- taken at 26
        exact absurd c26 (by decide)
      · -- not taken at 26
        refine lv_ldc hx hb hown (hts _ kc_X6_78) dX6_get_29 ?_
        exact hret _ _ _ _ _ _ rfl rfl w dX6_get_31
set_option maxHeartbeats 4000000 in
set_option maxRecDepth 100000 in
theorem c_X6_get_idx (a : Nat → Nat) (la : Int32) (n : Nat) (cl : Nat) (go : Option Nat) (fo : Nat → Int32) (si : Nat → Nat) (it : Nat → Int32) (mo : Nat → Int32) (th : Nat → Nat) (ki : Nat → Nat) (va : Nat → Nat) (re : Nat → Nat) (to : Nat → Prop) (co : Nat → Nat) (ke : Nat → Int32) (fw : Nat → Nat) (i : Nat) (j : Nat) (y : Int32) (I : IM n cl go th ki va re si co fw) (hi9 : i ≤ 3) (hj9 : j ≤ 2) (hf9 : ¬ fo i < 0) (hc9 : fo i = nI j) (hx9 : ¬ okW (si i) y) : CM l D (TY cI cZ cS) yX6_get cX6_get 4 (some .int) 2 [.ref (a 0), .int (nI i), .int (nI j), .int y] (wM cI cZ a la n cl go fo si it mo th ki va re to co ke fw) (some (.int (-2147483648))) (wM cI cZ a (nI 2) n cl go fo si it mo th ki va re to co ke fw) := by
  refine CM.ofI (by decide +kernel) (Nat.le_of_ble_eq_true rfl) (nar_int _) ?_
  intro p e s m args below meth c Q A G K hA w hret ls hl
  obtain ⟨hx, hb, hml, hown, hts⟩ := id G
  obtain ⟨hn, hcl, hgo, hth, hki, hva, hre, hsi, hco, hfw⟩ := id I
  have hl : lv_has ls 4 [(0, .ref (a 0)), (1, .int (nI i)), (2, .int (nI j)), (3, .int y)] := hl
  refine lv_iload_n hx hb dX6_get_0 rfl (lv_at hl 1 rfl) ?_
  refine callPS (rest := []) G K F_X6_isSheet (c_X6_isSheet (nI i)) (va_P_nil D s.heap) ml_X6_60 (by decide) (by decide) rfl hl.1 (Nat.le_of_ble_eq_true rfl) dX6_get_1 ?_
  refine b_eq G (tgt := 29) dX6_get_4 (by decide) (fun c4 => ?_) (fun c4 => ?_)
  · -- taken at 4
    exact absurd ((okN (m := 3) (by decide)).mpr ⟨i, hi9, rfl⟩) c4
  · -- not taken at 4
    refine lv_iload_n hx hb dX6_get_7 rfl (lv_at hl 2 rfl) ?_
    refine lv_i2l (v := (nI j).toInt64) hx hb dX6_get_8 rfl ?_
    refine lv_lconst (v := ((0 : Int32)).toInt64) hx hb dX6_get_9 (by decide) ?_
    refine lv_ldc2 hx hb hown (hts _ kl_X6_64) dX6_get_10 ?_
    refine t_l (y := (2 : Int32).toInt64) (by decide) ?_
    refine callPS (rest := []) G K F_X6_in (c_X6_in (nI j) (0 : Int32) (2 : Int32)) (va_P_nil D s.heap) ml_X6_51 (by decide) (by decide) rfl hl.1 (Nat.le_of_ble_eq_true rfl) dX6_get_13 ?_
    refine b_eq G (tgt := 29) dX6_get_16 (by decide) (fun c16 => ?_) (fun c16 => ?_)
    · -- taken at 16
      exact absurd ((okN (m := 2) (by decide)).mpr ⟨j, hj9, rfl⟩) c16
    · -- not taken at 16
      refine lv_aload_n hx hb dX6_get_19 rfl (lv_at hl 0 rfl) ?_
      refine lv_iload_n hx hb dX6_get_20 rfl (lv_at hl 1 rfl) ?_
      refine lv_iload_n hx hb dX6_get_21 rfl (lv_at hl 2 rfl) ?_
      refine lv_iload_n hx hb dX6_get_22 rfl (lv_at hl 3 rfl) ?_
      refine callMF (As := [.int (nI i), .int (nI j), .int y]) (rest := []) (q0 := 0) (ci := 6) (ws' := (wM cI cZ a (nI 2) n cl go fo si it mo th ki va re to co ke fw)) G K hA w F_X6_lacks (c_X6_lacks_idx a la n cl go fo si it mo th ki va re to co ke fw i (nI j) y I hi9 hf9 hc9 hx9) ml_X6_70 rfl rfl rfl (by decide) (by decide) rfl hl.1 (Nat.le_of_ble_eq_true rfl) dX6_get_23 (fun Hp1 lo2 w => ?_)
      refine lv_if_eq (tgt := 32) hx hb dX6_get_26 (by decide) (fun c26 => ?_) (fun c26 => ?_)
      · -- taken at 26
        exact absurd c26 (by decide)
      · -- not taken at 26
        refine lv_ldc hx hb hown (hts _ kc_X6_78) dX6_get_29 ?_
        exact hret _ _ _ _ _ _ rfl rfl w dX6_get_31
set_option maxHeartbeats 4000000 in
set_option maxRecDepth 100000 in
theorem c_X6_get_ok (a : Nat → Nat) (la : Int32) (n : Nat) (cl : Nat) (go : Option Nat) (fo : Nat → Int32) (si : Nat → Nat) (it : Nat → Int32) (mo : Nat → Int32) (th : Nat → Nat) (ki : Nat → Nat) (va : Nat → Nat) (re : Nat → Nat) (to : Nat → Prop) (co : Nat → Nat) (ke : Nat → Int32) (fw : Nat → Nat) (i : Nat) (j : Nat) (k : Nat) (I : IM n cl go th ki va re si co fw) (hi9 : i ≤ 3) (hj9 : j ≤ 2) (hf9 : ¬ fo i < 0) (hc9 : fo i = nI j) (hx9 : k < si i) : CM l D (TY cI cZ cS) yX6_get cX6_get 4 (some .int) 2 [.ref (a 0), .int (nI i), .int (nI j), .int (nI k)] (wM cI cZ a la n cl go fo si it mo th ki va re to co ke fw) (some (.int (it (60 * i + k)))) (wM cI cZ a la n cl go fo si it mo th ki va re to co ke fw) := by
  refine CM.ofI (by decide +kernel) (Nat.le_of_ble_eq_true rfl) (nar_int _) ?_
  intro p e s m args below meth c Q A G K hA w hret ls hl
  obtain ⟨hx, hb, hml, hown, hts⟩ := id G
  obtain ⟨hn, hcl, hgo, hth, hki, hva, hre, hsi, hco, hfw⟩ := id I
  have hsi9 := hsi i
  have hl : lv_has ls 4 [(0, .ref (a 0)), (1, .int (nI i)), (2, .int (nI j)), (3, .int (nI k))] := hl
  refine lv_iload_n hx hb dX6_get_0 rfl (lv_at hl 1 rfl) ?_
  refine callPS (rest := []) G K F_X6_isSheet (c_X6_isSheet (nI i)) (va_P_nil D s.heap) ml_X6_60 (by decide) (by decide) rfl hl.1 (Nat.le_of_ble_eq_true rfl) dX6_get_1 ?_
  refine b_eq G (tgt := 29) dX6_get_4 (by decide) (fun c4 => ?_) (fun c4 => ?_)
  · -- taken at 4
    exact absurd ((okN (m := 3) (by decide)).mpr ⟨i, hi9, rfl⟩) c4
  · -- not taken at 4
    refine lv_iload_n hx hb dX6_get_7 rfl (lv_at hl 2 rfl) ?_
    refine lv_i2l (v := (nI j).toInt64) hx hb dX6_get_8 rfl ?_
    refine lv_lconst (v := ((0 : Int32)).toInt64) hx hb dX6_get_9 (by decide) ?_
    refine lv_ldc2 hx hb hown (hts _ kl_X6_64) dX6_get_10 ?_
    refine t_l (y := (2 : Int32).toInt64) (by decide) ?_
    refine callPS (rest := []) G K F_X6_in (c_X6_in (nI j) (0 : Int32) (2 : Int32)) (va_P_nil D s.heap) ml_X6_51 (by decide) (by decide) rfl hl.1 (Nat.le_of_ble_eq_true rfl) dX6_get_13 ?_
    refine b_eq G (tgt := 29) dX6_get_16 (by decide) (fun c16 => ?_) (fun c16 => ?_)
    · -- taken at 16
      exact absurd ((okN (m := 2) (by decide)).mpr ⟨j, hj9, rfl⟩) c16
    · -- not taken at 16
      refine lv_aload_n hx hb dX6_get_19 rfl (lv_at hl 0 rfl) ?_
      refine lv_iload_n hx hb dX6_get_20 rfl (lv_at hl 1 rfl) ?_
      refine lv_iload_n hx hb dX6_get_21 rfl (lv_at hl 2 rfl) ?_
      refine lv_iload_n hx hb dX6_get_22 rfl (lv_at hl 3 rfl) ?_
      refine callMF (As := [.int (nI i), .int (nI j), .int (nI k)]) (rest := []) (q0 := 0) (ci := 6) (ws' := (wM cI cZ a la n cl go fo si it mo th ki va re to co ke fw)) G K hA w F_X6_lacks (c_X6_lacks_ok a la n cl go fo si it mo th ki va re to co ke fw i k (nI j) I hi9 hf9 hc9 hx9) ml_X6_70 rfl rfl rfl (by decide) (by decide) rfl hl.1 (Nat.le_of_ble_eq_true rfl) dX6_get_23 (fun Hp1 lo2 w => ?_)
      refine z_eq G (tgt := 32) (by omega) dX6_get_26 (by decide) (fun c26 => ?_) (fun c26 => ?_)
      · -- taken at 26
        refine lv_aload_n hx hb dX6_get_32 rfl (lv_at hl 0 rfl) ?_
        refine f_get G K w.1 inX6 0 (ci := 6) rfl rfl 2 rfl fl_X6_16 (v := .ref (a 3)) rfl dX6_get_33 ?_
        refine lv_bipush (v := (nI 60)) hx hb dX6_get_36 (by decide) ?_
        refine lv_iload_n hx hb dX6_get_38 rfl (lv_at hl 1 rfl) ?_
        refine t_mul G dX6_get_39 ?_
        refine lv_iload_n hx hb dX6_get_40 rfl (lv_at hl 3 rfl) ?_
        refine t_add G dX6_get_41 ?_
        refine a_ld G K w.1 3 0 (a := (a 3)) rfl rfl (by omega) (by decide) dX6_get_42 ?_
        exact hret _ _ _ _ _ _ rfl rfl w dX6_get_43
      · -- not taken at 26
        exact absurd c26 (by decide)
set_option maxHeartbeats 4000000 in
set_option maxRecDepth 100000 in
theorem c_X6_copy_bad (a : Nat → Nat) (la : Int32) (n : Nat) (cl : Nat) (go : Option Nat) (fo : Nat → Int32) (si : Nat → Nat) (it : Nat → Int32) (mo : Nat → Int32) (th : Nat → Nat) (ki : Nat → Nat) (va : Nat → Nat) (re : Nat → Nat) (to : Nat → Prop) (co : Nat → Nat) (ke : Nat → Int32) (fw : Nat → Nat) (x : Int32) (i : Int32) (y : Int32) (j : Int32) (k : Int32) (I : IM n cl go th ki va re si co fw) (hbad : ¬ (okR 3 x ∧ okR 3 y)) : CM l D (TY cI cZ cS) yX6_copy cX6_copy 7 (some .int) 2 [.ref (a 0), .int x, .int i, .int y, .int j, .int k] (wM cI cZ a la n cl go fo si it mo th ki va re to co ke fw) (some (.int (-2))) (wM cI cZ a la n cl go fo si it mo th ki va re to co ke fw) := by
  refine CM.ofI (by decide +kernel) (Nat.le_of_ble_eq_true rfl) (nar_int _) ?_
  intro p e s m args below meth c Q A G K hA w hret ls hl
  obtain ⟨hx, hb, hml, hown, hts⟩ := id G
  obtain ⟨hn, hcl, hgo, hth, hki, hva, hre, hsi, hco, hfw⟩ := id I
  have hl : lv_has ls 7 [(0, .ref (a 0)), (1, .int x), (2, .int i), (3, .int y), (4, .int j), (5, .int k)] := hl
  refine lv_iload_n hx hb dX6_copy_0 rfl (lv_at hl 1 rfl) ?_
  refine callPS (rest := []) G K F_X6_isSheet (c_X6_isSheet x) (va_P_nil D s.heap) ml_X6_60 (by decide) (by decide) rfl hl.1 (Nat.le_of_ble_eq_true rfl) dX6_copy_1 ?_
  refine b_eq G (tgt := 14) dX6_copy_4 (by decide) (fun c4 => ?_) (fun c4 => ?_)
  · -- taken at 4
    refine lv_bipush (v := (-2)) hx hb dX6_copy_14 (by decide) ?_
    exact hret _ _ _ _ _ _ rfl rfl w dX6_copy_16
  · -- not taken at 4
    refine lv_iload_n hx hb dX6_copy_7 rfl (lv_at hl 3 rfl) ?_
    refine callPS (rest := []) G K F_X6_isSheet (c_X6_isSheet y) (va_P_nil D s.heap) ml_X6_60 (by decide) (by decide) rfl hl.1 (Nat.le_of_ble_eq_true rfl) dX6_copy_8 ?_
    refine b_ne G (tgt := 17) dX6_copy_11 (by decide) (fun c11 => ?_) (fun c11 => ?_)
    · -- taken at 11
      exact absurd ⟨okRi (by decide) c4, okRi (by decide) c11⟩ hbad
    · -- not taken at 11
      refine lv_bipush (v := (-2)) hx hb dX6_copy_14 (by decide) ?_
      exact hret _ _ _ _ _ _ rfl rfl w dX6_copy_16
set_option maxHeartbeats 4000000 in
set_option maxRecDepth 100000 in
theorem c_X6_copy_nul (a : Nat → Nat) (la : Int32) (n : Nat) (cl : Nat) (go : Option Nat) (fo : Nat → Int32) (si : Nat → Nat) (it : Nat → Int32) (mo : Nat → Int32) (th : Nat → Nat) (ki : Nat → Nat) (va : Nat → Nat) (re : Nat → Nat) (to : Nat → Prop) (co : Nat → Nat) (ke : Nat → Int32) (fw : Nat → Nat) (x : Nat) (y : Nat) (i : Int32) (j : Int32) (k : Int32) (I : IM n cl go th ki va re si co fw) (hx9 : x ≤ 3) (hy9 : y ≤ 3) (hf9 : fo x < 0 ∨ fo y < 0) : CM l D (TY cI cZ cS) yX6_copy cX6_copy 7 (some .int) 2 [.ref (a 0), .int (nI x), .int i, .int (nI y), .int j, .int k] (wM cI cZ a la n cl go fo si it mo th ki va re to co ke fw) (some (.int ((-10) - (nI 1)))) (wM cI cZ a (nI 1) n cl go fo si it mo th ki va re to co ke fw) := by
  refine CM.ofI (by decide +kernel) (Nat.le_of_ble_eq_true rfl) (nar_int _) ?_
  intro p e s m args below meth c Q A G K hA w hret ls hl
  obtain ⟨hx, hb, hml, hown, hts⟩ := id G
  obtain ⟨hn, hcl, hgo, hth, hki, hva, hre, hsi, hco, hfw⟩ := id I
  have hl : lv_has ls 7 [(0, .ref (a 0)), (1, .int (nI x)), (2, .int i), (3, .int (nI y)), (4, .int j), (5, .int k)] := hl
  refine lv_iload_n hx hb dX6_copy_0 rfl (lv_at hl 1 rfl) ?_
  refine callPS (rest := []) G K F_X6_isSheet (c_X6_isSheet (nI x)) (va_P_nil D s.heap) ml_X6_60 (by decide) (by decide) rfl hl.1 (Nat.le_of_ble_eq_true rfl) dX6_copy_1 ?_
  refine b_eq G (tgt := 14) dX6_copy_4 (by decide) (fun c4 => ?_) (fun c4 => ?_)
  · -- taken at 4
    exact absurd ((okN (m := 3) (by decide)).mpr ⟨x, hx9, rfl⟩) c4
  · -- not taken at 4
    refine lv_iload_n hx hb dX6_copy_7 rfl (lv_at hl 3 rfl) ?_
    refine callPS (rest := []) G K F_X6_isSheet (c_X6_isSheet (nI y)) (va_P_nil D s.heap) ml_X6_60 (by decide) (by decide) rfl hl.1 (Nat.le_of_ble_eq_true rfl) dX6_copy_8 ?_
    refine b_ne G (tgt := 17) dX6_copy_11 (by decide) (fun c11 => ?_) (fun c11 => ?_)
    · -- taken at 11
      refine lv_aload_n hx hb dX6_copy_17 rfl (lv_at hl 0 rfl) ?_
      refine f_get G K w.1 inX6 0 (ci := 6) rfl rfl 0 rfl fl_X6_7 (v := .ref (a 1)) rfl dX6_copy_18 ?_
      refine lv_iload_n hx hb dX6_copy_21 rfl (lv_at hl 1 rfl) ?_
      refine a_ld G K w.1 1 0 (a := (a 1)) rfl rfl (by omega) (by decide) dX6_copy_22 ?_
      refine lv_if_lt (tgt := 35) hx hb dX6_copy_23 (by decide) (fun c23 => ?_) (fun c23 => ?_)
      · -- taken at 23
        refine lv_aload_n hx hb dX6_copy_35 rfl (lv_at hl 0 rfl) ?_
        refine lv_iconst (v := (nI 1)) hx hb dX6_copy_36 (by decide) ?_
        refine callMF (As := [.int (nI 1)]) (rest := []) (q0 := 0) (ci := 6) (ws' := (wM cI cZ a (nI 1) n cl go fo si it mo th ki va re to co ke fw)) G K hA w F_X6_finds (c_X6_finds a la n cl go fo si it mo th ki va re to co ke fw 1 I) ml_X6_66 rfl rfl rfl (by decide) (by decide) rfl hl.1 (Nat.le_of_ble_eq_true rfl) dX6_copy_37 (fun Hp1 lo2 w => ?_)
        exact hret _ _ _ _ _ _ rfl rfl w dX6_copy_40
      · -- not taken at 23
        refine lv_aload_n hx hb dX6_copy_26 rfl (lv_at hl 0 rfl) ?_
        refine f_get G K w.1 inX6 0 (ci := 6) rfl rfl 0 rfl fl_X6_7 (v := .ref (a 1)) rfl dX6_copy_27 ?_
        refine lv_iload_n hx hb dX6_copy_30 rfl (lv_at hl 3 rfl) ?_
        refine a_ld G K w.1 1 0 (a := (a 1)) rfl rfl (by omega) (by decide) dX6_copy_31 ?_
        refine lv_if_ge (tgt := 41) hx hb dX6_copy_32 (by decide) (fun c32 => ?_) (fun c32 => ?_)
        · -- taken at 32
          exact absurd hf9 (fun h => h.elim c23 (fun q => neg_nge q c32))
        · -- not taken at 32
          refine lv_aload_n hx hb dX6_copy_35 rfl (lv_at hl 0 rfl) ?_
          refine lv_iconst (v := (nI 1)) hx hb dX6_copy_36 (by decide) ?_
          refine callMF (As := [.int (nI 1)]) (rest := []) (q0 := 0) (ci := 6) (ws' := (wM cI cZ a (nI 1) n cl go fo si it mo th ki va re to co ke fw)) G K hA w F_X6_finds (c_X6_finds a la n cl go fo si it mo th ki va re to co ke fw 1 I) ml_X6_66 rfl rfl rfl (by decide) (by decide) rfl hl.1 (Nat.le_of_ble_eq_true rfl) dX6_copy_37 (fun Hp3 lo4 w => ?_)
          exact hret _ _ _ _ _ _ rfl rfl w dX6_copy_40
    · -- not taken at 11
      exact absurd ((okN (m := 3) (by decide)).mpr ⟨y, hy9, rfl⟩) c11
set_option maxHeartbeats 4000000 in
set_option maxRecDepth 100000 in
theorem c_X6_copy_sto (a : Nat → Nat) (la : Int32) (n : Nat) (cl : Nat) (go : Option Nat) (fo : Nat → Int32) (si : Nat → Nat) (it : Nat → Int32) (mo : Nat → Int32) (th : Nat → Nat) (ki : Nat → Nat) (va : Nat → Nat) (re : Nat → Nat) (to : Nat → Prop) (co : Nat → Nat) (ke : Nat → Int32) (fw : Nat → Nat) (x : Nat) (y : Nat) (i : Int32) (j : Int32) (k : Int32) (I : IM n cl go th ki va re si co fw) (hx9 : x ≤ 3) (hy9 : y ≤ 3) (hf9 : ¬ (fo x < 0 ∨ fo y < 0)) (hc9 : fo x ≠ fo y) : CM l D (TY cI cZ cS) yX6_copy cX6_copy 7 (some .int) 2 [.ref (a 0), .int (nI x), .int i, .int (nI y), .int j, .int k] (wM cI cZ a la n cl go fo si it mo th ki va re to co ke fw) (some (.int ((-10) - (nI 4)))) (wM cI cZ a (nI 4) n cl go fo si it mo th ki va re to co ke fw) := by
  refine CM.ofI (by decide +kernel) (Nat.le_of_ble_eq_true rfl) (nar_int _) ?_
  intro p e s m args below meth c Q A G K hA w hret ls hl
  obtain ⟨hx, hb, hml, hown, hts⟩ := id G
  obtain ⟨hn, hcl, hgo, hth, hki, hva, hre, hsi, hco, hfw⟩ := id I
  have hl : lv_has ls 7 [(0, .ref (a 0)), (1, .int (nI x)), (2, .int i), (3, .int (nI y)), (4, .int j), (5, .int k)] := hl
  refine lv_iload_n hx hb dX6_copy_0 rfl (lv_at hl 1 rfl) ?_
  refine callPS (rest := []) G K F_X6_isSheet (c_X6_isSheet (nI x)) (va_P_nil D s.heap) ml_X6_60 (by decide) (by decide) rfl hl.1 (Nat.le_of_ble_eq_true rfl) dX6_copy_1 ?_
  refine b_eq G (tgt := 14) dX6_copy_4 (by decide) (fun c4 => ?_) (fun c4 => ?_)
  · -- taken at 4
    exact absurd ((okN (m := 3) (by decide)).mpr ⟨x, hx9, rfl⟩) c4
  · -- not taken at 4
    refine lv_iload_n hx hb dX6_copy_7 rfl (lv_at hl 3 rfl) ?_
    refine callPS (rest := []) G K F_X6_isSheet (c_X6_isSheet (nI y)) (va_P_nil D s.heap) ml_X6_60 (by decide) (by decide) rfl hl.1 (Nat.le_of_ble_eq_true rfl) dX6_copy_8 ?_
    refine b_ne G (tgt := 17) dX6_copy_11 (by decide) (fun c11 => ?_) (fun c11 => ?_)
    · -- taken at 11
      refine lv_aload_n hx hb dX6_copy_17 rfl (lv_at hl 0 rfl) ?_
      refine f_get G K w.1 inX6 0 (ci := 6) rfl rfl 0 rfl fl_X6_7 (v := .ref (a 1)) rfl dX6_copy_18 ?_
      refine lv_iload_n hx hb dX6_copy_21 rfl (lv_at hl 1 rfl) ?_
      refine a_ld G K w.1 1 0 (a := (a 1)) rfl rfl (by omega) (by decide) dX6_copy_22 ?_
      refine lv_if_lt (tgt := 35) hx hb dX6_copy_23 (by decide) (fun c23 => ?_) (fun c23 => ?_)
      · -- taken at 23
        exact absurd (Or.inl c23) hf9
      · -- not taken at 23
        refine lv_aload_n hx hb dX6_copy_26 rfl (lv_at hl 0 rfl) ?_
        refine f_get G K w.1 inX6 0 (ci := 6) rfl rfl 0 rfl fl_X6_7 (v := .ref (a 1)) rfl dX6_copy_27 ?_
        refine lv_iload_n hx hb dX6_copy_30 rfl (lv_at hl 3 rfl) ?_
        refine a_ld G K w.1 1 0 (a := (a 1)) rfl rfl (by omega) (by decide) dX6_copy_31 ?_
        refine lv_if_ge (tgt := 41) hx hb dX6_copy_32 (by decide) (fun c32 => ?_) (fun c32 => ?_)
        · -- taken at 32
          refine lv_aload_n hx hb dX6_copy_41 rfl (lv_at hl 0 rfl) ?_
          refine f_get G K w.1 inX6 0 (ci := 6) rfl rfl 0 rfl fl_X6_7 (v := .ref (a 1)) rfl dX6_copy_42 ?_
          refine lv_iload_n hx hb dX6_copy_45 rfl (lv_at hl 1 rfl) ?_
          refine a_ld G K w.1 1 0 (a := (a 1)) rfl rfl (by omega) (by decide) dX6_copy_46 ?_
          refine lv_aload_n hx hb dX6_copy_47 rfl (lv_at hl 0 rfl) ?_
          refine f_get G K w.1 inX6 0 (ci := 6) rfl rfl 0 rfl fl_X6_7 (v := .ref (a 1)) rfl dX6_copy_48 ?_
          refine lv_iload_n hx hb dX6_copy_51 rfl (lv_at hl 3 rfl) ?_
          refine a_ld G K w.1 1 0 (a := (a 1)) rfl rfl (by omega) (by decide) dX6_copy_52 ?_
          refine lv_icmp_eq (tgt := 62) hx hb dX6_copy_53 (by decide) (fun c53 => ?_) (fun c53 => ?_)
          · -- taken at 53
            exact absurd c53 hc9
          · -- not taken at 53
            refine lv_aload_n hx hb dX6_copy_56 rfl (lv_at hl 0 rfl) ?_
            refine lv_iconst (v := (nI 4)) hx hb dX6_copy_57 (by decide) ?_
            refine callMF (As := [.int (nI 4)]) (rest := []) (q0 := 0) (ci := 6) (ws' := (wM cI cZ a (nI 4) n cl go fo si it mo th ki va re to co ke fw)) G K hA w F_X6_finds (c_X6_finds a la n cl go fo si it mo th ki va re to co ke fw 4 I) ml_X6_66 rfl rfl rfl (by decide) (by decide) rfl hl.1 (Nat.le_of_ble_eq_true rfl) dX6_copy_58 (fun Hp1 lo2 w => ?_)
            exact hret _ _ _ _ _ _ rfl rfl w dX6_copy_61
        · -- not taken at 32
          exact absurd (nneg_ge (fun q => hf9 (Or.inr q))) c32
    · -- not taken at 11
      exact absurd ((okN (m := 3) (by decide)).mpr ⟨y, hy9, rfl⟩) c11
set_option maxHeartbeats 4000000 in
set_option maxRecDepth 100000 in
theorem c_X6_copy_idx (a : Nat → Nat) (la : Int32) (n : Nat) (cl : Nat) (go : Option Nat) (fo : Nat → Int32) (si : Nat → Nat) (it : Nat → Int32) (mo : Nat → Int32) (th : Nat → Nat) (ki : Nat → Nat) (va : Nat → Nat) (re : Nat → Nat) (to : Nat → Prop) (co : Nat → Nat) (ke : Nat → Int32) (fw : Nat → Nat) (x : Nat) (y : Nat) (i : Int32) (j : Int32) (k : Int32) (I : IM n cl go th ki va re si co fw) (hx9 : x ≤ 3) (hy9 : y ≤ 3) (hf9 : ¬ (fo x < 0 ∨ fo y < 0)) (hc9 : fo x = fo y) (hk9 : ¬ okCp (si x) (si y) i j k) : CM l D (TY cI cZ cS) yX6_copy cX6_copy 7 (some .int) 2 [.ref (a 0), .int (nI x), .int i, .int (nI y), .int j, .int k] (wM cI cZ a la n cl go fo si it mo th ki va re to co ke fw) (some (.int ((-10) - (nI 2)))) (wM cI cZ a (nI 2) n cl go fo si it mo th ki va re to co ke fw) := by
  refine CM.ofI (by decide +kernel) (Nat.le_of_ble_eq_true rfl) (nar_int _) ?_
  intro p e s m args below meth c Q A G K hA w hret ls hl
  obtain ⟨hx, hb, hml, hown, hts⟩ := id G
  obtain ⟨hn, hcl, hgo, hth, hki, hva, hre, hsi, hco, hfw⟩ := id I
  have hl : lv_has ls 7 [(0, .ref (a 0)), (1, .int (nI x)), (2, .int i), (3, .int (nI y)), (4, .int j), (5, .int k)] := hl
  refine lv_iload_n hx hb dX6_copy_0 rfl (lv_at hl 1 rfl) ?_
  refine callPS (rest := []) G K F_X6_isSheet (c_X6_isSheet (nI x)) (va_P_nil D s.heap) ml_X6_60 (by decide) (by decide) rfl hl.1 (Nat.le_of_ble_eq_true rfl) dX6_copy_1 ?_
  refine b_eq G (tgt := 14) dX6_copy_4 (by decide) (fun c4 => ?_) (fun c4 => ?_)
  · -- taken at 4
    exact absurd ((okN (m := 3) (by decide)).mpr ⟨x, hx9, rfl⟩) c4
  · -- not taken at 4
    refine lv_iload_n hx hb dX6_copy_7 rfl (lv_at hl 3 rfl) ?_
    refine callPS (rest := []) G K F_X6_isSheet (c_X6_isSheet (nI y)) (va_P_nil D s.heap) ml_X6_60 (by decide) (by decide) rfl hl.1 (Nat.le_of_ble_eq_true rfl) dX6_copy_8 ?_
    refine b_ne G (tgt := 17) dX6_copy_11 (by decide) (fun c11 => ?_) (fun c11 => ?_)
    · -- taken at 11
      refine lv_aload_n hx hb dX6_copy_17 rfl (lv_at hl 0 rfl) ?_
      refine f_get G K w.1 inX6 0 (ci := 6) rfl rfl 0 rfl fl_X6_7 (v := .ref (a 1)) rfl dX6_copy_18 ?_
      refine lv_iload_n hx hb dX6_copy_21 rfl (lv_at hl 1 rfl) ?_
      refine a_ld G K w.1 1 0 (a := (a 1)) rfl rfl (by omega) (by decide) dX6_copy_22 ?_
      refine lv_if_lt (tgt := 35) hx hb dX6_copy_23 (by decide) (fun c23 => ?_) (fun c23 => ?_)
      · -- taken at 23
        exact absurd (Or.inl c23) hf9
      · -- not taken at 23
        refine lv_aload_n hx hb dX6_copy_26 rfl (lv_at hl 0 rfl) ?_
        refine f_get G K w.1 inX6 0 (ci := 6) rfl rfl 0 rfl fl_X6_7 (v := .ref (a 1)) rfl dX6_copy_27 ?_
        refine lv_iload_n hx hb dX6_copy_30 rfl (lv_at hl 3 rfl) ?_
        refine a_ld G K w.1 1 0 (a := (a 1)) rfl rfl (by omega) (by decide) dX6_copy_31 ?_
        refine lv_if_ge (tgt := 41) hx hb dX6_copy_32 (by decide) (fun c32 => ?_) (fun c32 => ?_)
        · -- taken at 32
          refine lv_aload_n hx hb dX6_copy_41 rfl (lv_at hl 0 rfl) ?_
          refine f_get G K w.1 inX6 0 (ci := 6) rfl rfl 0 rfl fl_X6_7 (v := .ref (a 1)) rfl dX6_copy_42 ?_
          refine lv_iload_n hx hb dX6_copy_45 rfl (lv_at hl 1 rfl) ?_
          refine a_ld G K w.1 1 0 (a := (a 1)) rfl rfl (by omega) (by decide) dX6_copy_46 ?_
          refine lv_aload_n hx hb dX6_copy_47 rfl (lv_at hl 0 rfl) ?_
          refine f_get G K w.1 inX6 0 (ci := 6) rfl rfl 0 rfl fl_X6_7 (v := .ref (a 1)) rfl dX6_copy_48 ?_
          refine lv_iload_n hx hb dX6_copy_51 rfl (lv_at hl 3 rfl) ?_
          refine a_ld G K w.1 1 0 (a := (a 1)) rfl rfl (by omega) (by decide) dX6_copy_52 ?_
          refine lv_icmp_eq (tgt := 62) hx hb dX6_copy_53 (by decide) (fun c53 => ?_) (fun c53 => ?_)
          · -- taken at 53
            refine lv_iload_n hx hb dX6_copy_62 rfl (lv_at hl 2 rfl) ?_
            refine lv_if_lt (tgt := 111) hx hb dX6_copy_63 (by decide) (fun c63 => ?_) (fun c63 => ?_)
            · -- taken at 63
              refine lv_aload_n hx hb dX6_copy_111 rfl (lv_at hl 0 rfl) ?_
              refine lv_iconst (v := (nI 2)) hx hb dX6_copy_112 (by decide) ?_
              refine callMF (As := [.int (nI 2)]) (rest := []) (q0 := 0) (ci := 6) (ws' := (wM cI cZ a (nI 2) n cl go fo si it mo th ki va re to co ke fw)) G K hA w F_X6_finds (c_X6_finds a la n cl go fo si it mo th ki va re to co ke fw 2 I) ml_X6_66 rfl rfl rfl (by decide) (by decide) rfl hl.1 (Nat.le_of_ble_eq_true rfl) dX6_copy_113 (fun Hp1 lo2 w => ?_)
              exact hret _ _ _ _ _ _ rfl rfl w dX6_copy_116
            · -- not taken at 63
              refine lv_iload hx hb dX6_copy_66 (lv_at hl 4 rfl) ?_
              refine lv_if_lt (tgt := 111) hx hb dX6_copy_68 (by decide) (fun c68 => ?_) (fun c68 => ?_)
              · -- taken at 68
                refine lv_aload_n hx hb dX6_copy_111 rfl (lv_at hl 0 rfl) ?_
                refine lv_iconst (v := (nI 2)) hx hb dX6_copy_112 (by decide) ?_
                refine callMF (As := [.int (nI 2)]) (rest := []) (q0 := 0) (ci := 6) (ws' := (wM cI cZ a (nI 2) n cl go fo si it mo th ki va re to co ke fw)) G K hA w F_X6_finds (c_X6_finds a la n cl go fo si it mo th ki va re to co ke fw 2 I) ml_X6_66 rfl rfl rfl (by decide) (by decide) rfl hl.1 (Nat.le_of_ble_eq_true rfl) dX6_copy_113 (fun Hp3 lo4 w => ?_)
                exact hret _ _ _ _ _ _ rfl rfl w dX6_copy_116
              · -- not taken at 68
                refine lv_iload hx hb dX6_copy_71 (lv_at hl 5 rfl) ?_
                refine lv_if_lt (tgt := 111) hx hb dX6_copy_73 (by decide) (fun c73 => ?_) (fun c73 => ?_)
                · -- taken at 73
                  refine lv_aload_n hx hb dX6_copy_111 rfl (lv_at hl 0 rfl) ?_
                  refine lv_iconst (v := (nI 2)) hx hb dX6_copy_112 (by decide) ?_
                  refine callMF (As := [.int (nI 2)]) (rest := []) (q0 := 0) (ci := 6) (ws' := (wM cI cZ a (nI 2) n cl go fo si it mo th ki va re to co ke fw)) G K hA w F_X6_finds (c_X6_finds a la n cl go fo si it mo th ki va re to co ke fw 2 I) ml_X6_66 rfl rfl rfl (by decide) (by decide) rfl hl.1 (Nat.le_of_ble_eq_true rfl) dX6_copy_113 (fun Hp5 lo6 w => ?_)
                  exact hret _ _ _ _ _ _ rfl rfl w dX6_copy_116
                · -- not taken at 73
                  refine lv_iload_n hx hb dX6_copy_76 rfl (lv_at hl 2 rfl) ?_
                  refine lv_i2l (v := i.toInt64) hx hb dX6_copy_77 rfl ?_
                  refine lv_iload hx hb dX6_copy_78 (lv_at hl 5 rfl) ?_
                  refine lv_i2l (v := k.toInt64) hx hb dX6_copy_80 rfl ?_
                  refine lv_ladd hx hb dX6_copy_81 ?_
                  refine lv_aload_n hx hb dX6_copy_82 rfl (lv_at hl 0 rfl) ?_
                  refine f_get G K w.1 inX6 0 (ci := 6) rfl rfl 1 rfl fl_X6_13 (v := .ref (a 2)) rfl dX6_copy_83 ?_
                  refine lv_iload_n hx hb dX6_copy_86 rfl (lv_at hl 1 rfl) ?_
                  refine a_ldN G K w.1 2 0 (a := (a 2)) rfl rfl (by omega) (by decide) dX6_copy_87 ?_
                  have hb7 := hsi x
                  refine lv_i2l (v := (nI (si x)).toInt64) hx hb dX6_copy_88 rfl ?_
                  refine W.lcmp hx hb dX6_copy_89 ?_
                  refine lv_if_gt (tgt := 111) hx hb dX6_copy_90 (by decide) (fun c90 => ?_) (fun c90 => ?_)
                  · -- taken at 90
                    refine lv_aload_n hx hb dX6_copy_111 rfl (lv_at hl 0 rfl) ?_
                    refine lv_iconst (v := (nI 2)) hx hb dX6_copy_112 (by decide) ?_
                    refine callMF (As := [.int (nI 2)]) (rest := []) (q0 := 0) (ci := 6) (ws' := (wM cI cZ a (nI 2) n cl go fo si it mo th ki va re to co ke fw)) G K hA w F_X6_finds (c_X6_finds a la n cl go fo si it mo th ki va re to co ke fw 2 I) ml_X6_66 rfl rfl rfl (by decide) (by decide) rfl hl.1 (Nat.le_of_ble_eq_true rfl) dX6_copy_113 (fun Hp8 lo9 w => ?_)
                    exact hret _ _ _ _ _ _ rfl rfl w dX6_copy_116
                  · -- not taken at 90
                    refine lv_iload hx hb dX6_copy_93 (lv_at hl 4 rfl) ?_
                    refine lv_i2l (v := j.toInt64) hx hb dX6_copy_95 rfl ?_
                    refine lv_iload hx hb dX6_copy_96 (lv_at hl 5 rfl) ?_
                    refine lv_i2l (v := k.toInt64) hx hb dX6_copy_98 rfl ?_
                    refine lv_ladd hx hb dX6_copy_99 ?_
                    refine lv_aload_n hx hb dX6_copy_100 rfl (lv_at hl 0 rfl) ?_
                    refine f_get G K w.1 inX6 0 (ci := 6) rfl rfl 1 rfl fl_X6_13 (v := .ref (a 2)) rfl dX6_copy_101 ?_
                    refine lv_iload_n hx hb dX6_copy_104 rfl (lv_at hl 3 rfl) ?_
                    refine a_ldN G K w.1 2 0 (a := (a 2)) rfl rfl (by omega) (by decide) dX6_copy_105 ?_
                    have hb10 := hsi y
                    refine lv_i2l (v := (nI (si y)).toInt64) hx hb dX6_copy_106 rfl ?_
                    refine W.lcmp hx hb dX6_copy_107 ?_
                    refine lv_if_le (tgt := 117) hx hb dX6_copy_108 (by decide) (fun c108 => ?_) (fun c108 => ?_)
                    · -- taken at 108
                      exact absurd (okCp_i (hsi x) (hsi y) c63 c68 c73 c90 c108) hk9
                    · -- not taken at 108
                      refine lv_aload_n hx hb dX6_copy_111 rfl (lv_at hl 0 rfl) ?_
                      refine lv_iconst (v := (nI 2)) hx hb dX6_copy_112 (by decide) ?_
                      refine callMF (As := [.int (nI 2)]) (rest := []) (q0 := 0) (ci := 6) (ws' := (wM cI cZ a (nI 2) n cl go fo si it mo th ki va re to co ke fw)) G K hA w F_X6_finds (c_X6_finds a la n cl go fo si it mo th ki va re to co ke fw 2 I) ml_X6_66 rfl rfl rfl (by decide) (by decide) rfl hl.1 (Nat.le_of_ble_eq_true rfl) dX6_copy_113 (fun Hp11 lo12 w => ?_)
                      exact hret _ _ _ _ _ _ rfl rfl w dX6_copy_116
          · -- not taken at 53
            exact absurd hc9 c53
        · -- not taken at 32
          exact absurd (nneg_ge (fun q => hf9 (Or.inr q))) c32
    · -- not taken at 11
      exact absurd ((okN (m := 3) (by decide)).mpr ⟨y, hy9, rfl⟩) c11
set_option maxHeartbeats 4000000 in
set_option maxRecDepth 100000 in
theorem c_X6_copy_ok (a : Nat → Nat) (la : Int32) (n : Nat) (cl : Nat) (go : Option Nat) (fo : Nat → Int32) (si : Nat → Nat) (it : Nat → Int32) (mo : Nat → Int32) (th : Nat → Nat) (ki : Nat → Nat) (va : Nat → Nat) (re : Nat → Nat) (to : Nat → Prop) (co : Nat → Nat) (ke : Nat → Int32) (fw : Nat → Nat) (x : Nat) (y : Nat) (i : Nat) (j : Nat) (k : Nat) (I : IM n cl go th ki va re si co fw) (hx9 : x ≤ 3) (hy9 : y ≤ 3) (hf9 : ¬ (fo x < 0 ∨ fo y < 0)) (hc9 : fo x = fo y) (hi9 : i + k ≤ si x) (hj9 : j + k ≤ si y) : CM l D (TY cI cZ cS) yX6_copy cX6_copy 7 (some .int) 2 [.ref (a 0), .int (nI x), .int (nI i), .int (nI y), .int (nI j), .int (nI k)] (wM cI cZ a la n cl go fo si it mo th ki va re to co ke fw) (some (.int (nI 1))) (wM cI cZ a la n cl go fo si (stI it (60 * y + j) (fun u => it (60 * x + i + u)) k) (stI mo 0 (fun u => it (60 * x + i + u)) k) th ki va re to co ke fw) := by
  refine CM.ofI (by decide +kernel) (Nat.le_of_ble_eq_true rfl) (nar_int _) ?_
  intro p e s m args below meth c Q A G K hA w hret ls hl
  obtain ⟨hx, hb, hml, hown, hts⟩ := id G
  obtain ⟨hn, hcl, hgo, hth, hki, hva, hre, hsi, hco, hfw⟩ := id I
  have hsx := hsi x
  have hsy := hsi y
  have hl : lv_has ls 7 [(0, .ref (a 0)), (1, .int (nI x)), (2, .int (nI i)), (3, .int (nI y)), (4, .int (nI j)), (5, .int (nI k))] := hl
  refine lv_iload_n hx hb dX6_copy_0 rfl (lv_at hl 1 rfl) ?_
  refine callPS (rest := []) G K F_X6_isSheet (c_X6_isSheet (nI x)) (va_P_nil D s.heap) ml_X6_60 (by decide) (by decide) rfl hl.1 (Nat.le_of_ble_eq_true rfl) dX6_copy_1 ?_
  refine b_eq G (tgt := 14) dX6_copy_4 (by decide) (fun c4 => ?_) (fun c4 => ?_)
  · -- taken at 4
    exact absurd ((okN (m := 3) (by decide)).mpr ⟨x, hx9, rfl⟩) c4
  · -- not taken at 4
    refine lv_iload_n hx hb dX6_copy_7 rfl (lv_at hl 3 rfl) ?_
    refine callPS (rest := []) G K F_X6_isSheet (c_X6_isSheet (nI y)) (va_P_nil D s.heap) ml_X6_60 (by decide) (by decide) rfl hl.1 (Nat.le_of_ble_eq_true rfl) dX6_copy_8 ?_
    refine b_ne G (tgt := 17) dX6_copy_11 (by decide) (fun c11 => ?_) (fun c11 => ?_)
    · -- taken at 11
      refine lv_aload_n hx hb dX6_copy_17 rfl (lv_at hl 0 rfl) ?_
      refine f_get G K w.1 inX6 0 (ci := 6) rfl rfl 0 rfl fl_X6_7 (v := .ref (a 1)) rfl dX6_copy_18 ?_
      refine lv_iload_n hx hb dX6_copy_21 rfl (lv_at hl 1 rfl) ?_
      refine a_ld G K w.1 1 0 (a := (a 1)) rfl rfl (by omega) (by decide) dX6_copy_22 ?_
      refine lv_if_lt (tgt := 35) hx hb dX6_copy_23 (by decide) (fun c23 => ?_) (fun c23 => ?_)
      · -- taken at 23
        exact absurd (Or.inl c23) hf9
      · -- not taken at 23
        refine lv_aload_n hx hb dX6_copy_26 rfl (lv_at hl 0 rfl) ?_
        refine f_get G K w.1 inX6 0 (ci := 6) rfl rfl 0 rfl fl_X6_7 (v := .ref (a 1)) rfl dX6_copy_27 ?_
        refine lv_iload_n hx hb dX6_copy_30 rfl (lv_at hl 3 rfl) ?_
        refine a_ld G K w.1 1 0 (a := (a 1)) rfl rfl (by omega) (by decide) dX6_copy_31 ?_
        refine lv_if_ge (tgt := 41) hx hb dX6_copy_32 (by decide) (fun c32 => ?_) (fun c32 => ?_)
        · -- taken at 32
          refine lv_aload_n hx hb dX6_copy_41 rfl (lv_at hl 0 rfl) ?_
          refine f_get G K w.1 inX6 0 (ci := 6) rfl rfl 0 rfl fl_X6_7 (v := .ref (a 1)) rfl dX6_copy_42 ?_
          refine lv_iload_n hx hb dX6_copy_45 rfl (lv_at hl 1 rfl) ?_
          refine a_ld G K w.1 1 0 (a := (a 1)) rfl rfl (by omega) (by decide) dX6_copy_46 ?_
          refine lv_aload_n hx hb dX6_copy_47 rfl (lv_at hl 0 rfl) ?_
          refine f_get G K w.1 inX6 0 (ci := 6) rfl rfl 0 rfl fl_X6_7 (v := .ref (a 1)) rfl dX6_copy_48 ?_
          refine lv_iload_n hx hb dX6_copy_51 rfl (lv_at hl 3 rfl) ?_
          refine a_ld G K w.1 1 0 (a := (a 1)) rfl rfl (by omega) (by decide) dX6_copy_52 ?_
          refine lv_icmp_eq (tgt := 62) hx hb dX6_copy_53 (by decide) (fun c53 => ?_) (fun c53 => ?_)
          · -- taken at 53
            refine lv_iload_n hx hb dX6_copy_62 rfl (lv_at hl 2 rfl) ?_
            refine z_lt G (tgt := 111) (by omega) dX6_copy_63 (by decide) ?_
            refine lv_iload hx hb dX6_copy_66 (lv_at hl 4 rfl) ?_
            refine z_lt G (tgt := 111) (by omega) dX6_copy_68 (by decide) ?_
            refine lv_iload hx hb dX6_copy_71 (lv_at hl 5 rfl) ?_
            refine z_lt G (tgt := 111) (by omega) dX6_copy_73 (by decide) ?_
            refine lv_iload_n hx hb dX6_copy_76 rfl (lv_at hl 2 rfl) ?_
            refine lv_i2l (v := (nI i).toInt64) hx hb dX6_copy_77 rfl ?_
            refine lv_iload hx hb dX6_copy_78 (lv_at hl 5 rfl) ?_
            refine lv_i2l (v := (nI k).toInt64) hx hb dX6_copy_80 rfl ?_
            refine lv_ladd hx hb dX6_copy_81 ?_
            refine lv_aload_n hx hb dX6_copy_82 rfl (lv_at hl 0 rfl) ?_
            refine f_get G K w.1 inX6 0 (ci := 6) rfl rfl 1 rfl fl_X6_13 (v := .ref (a 2)) rfl dX6_copy_83 ?_
            refine lv_iload_n hx hb dX6_copy_86 rfl (lv_at hl 1 rfl) ?_
            refine a_ldN G K w.1 2 0 (a := (a 2)) rfl rfl (by omega) (by decide) dX6_copy_87 ?_
            have hb1 := hsi x
            refine lv_i2l (v := (nI (si x)).toInt64) hx hb dX6_copy_88 rfl ?_
            refine W.lcmp hx hb dX6_copy_89 ?_
            refine lv_if_gt (tgt := 111) hx hb dX6_copy_90 (by decide) (fun c90 => ?_) (fun c90 => ?_)
            · -- taken at 90
              exact absurd c90 (cmp_sum (by omega) (by omega) (by omega) hi9)
            · -- not taken at 90
              refine lv_iload hx hb dX6_copy_93 (lv_at hl 4 rfl) ?_
              refine lv_i2l (v := (nI j).toInt64) hx hb dX6_copy_95 rfl ?_
              refine lv_iload hx hb dX6_copy_96 (lv_at hl 5 rfl) ?_
              refine lv_i2l (v := (nI k).toInt64) hx hb dX6_copy_98 rfl ?_
              refine lv_ladd hx hb dX6_copy_99 ?_
              refine lv_aload_n hx hb dX6_copy_100 rfl (lv_at hl 0 rfl) ?_
              refine f_get G K w.1 inX6 0 (ci := 6) rfl rfl 1 rfl fl_X6_13 (v := .ref (a 2)) rfl dX6_copy_101 ?_
              refine lv_iload_n hx hb dX6_copy_104 rfl (lv_at hl 3 rfl) ?_
              refine a_ldN G K w.1 2 0 (a := (a 2)) rfl rfl (by omega) (by decide) dX6_copy_105 ?_
              have hb2 := hsi y
              refine lv_i2l (v := (nI (si y)).toInt64) hx hb dX6_copy_106 rfl ?_
              refine W.lcmp hx hb dX6_copy_107 ?_
              refine lv_if_le (tgt := 117) hx hb dX6_copy_108 (by decide) (fun c108 => ?_) (fun c108 => ?_)
              · -- taken at 108
                refine lv_iconst (v := (nI 0)) hx hb dX6_copy_117 (by decide) ?_
                refine lv_istore (lv' := [(6, .int (nI 0)), (0, .ref (a 0)), (1, .int (nI x)), (2, .int (nI i)), (3, .int (nI y)), (4, .int (nI j)), (5, .int (nI k))]) hx hb dX6_copy_118 hl (by decide) rfl (fun ls hl => ?_)
                have L120 : ∀ (d u : Nat), 0 ≤ u → u + d = k → ∀ (H : Heap) (locs : List Loc), WW D A s.heap (wM cI cZ a la n cl go fo si it (stI mo 0 (fun u => it (60 * x + i + u)) u) th ki va re to co ke fw) H locs → ∀ (ls : Array Slot), lv_has ls 7 [(0, .ref (a 0)), (1, .int (nI x)), (2, .int (nI i)), (3, .int (nI y)), (4, .int (nI j)), (5, .int (nI k)), (6, .int (nI u))] → W p l e (RM 2) s m args below meth c H locs 0 0 Q (F0 m 120 ls []) := by
                  intro d
                  induction d with
                  | zero =>
                    intro u hlo120 hhi120 H locs w ls hl
                    refine lv_iload hx hb dX6_copy_120 (lv_at hl 6 rfl) ?_
                    refine lv_iload hx hb dX6_copy_122 (lv_at hl 5 rfl) ?_
                    refine c_ge G (tgt := 154) (by omega) (by omega) dX6_copy_124 (by decide) (fun c124 => ?_) (fun c124 => ?_)
                    · -- taken at 124
                      have w : WW D A s.heap (wM cI cZ a la n cl go fo si it (stI mo 0 (fun u => it (60 * x + i + u)) k) th ki va re to co ke fw) H locs := by
                        rw [show k = u by omega]; exact w
                      refine lv_iconst (v := (nI 0)) hx hb dX6_copy_154 (by decide) ?_
                      refine lv_istore (lv' := [(6, .int (nI 0)), (0, .ref (a 0)), (1, .int (nI x)), (2, .int (nI i)), (3, .int (nI y)), (4, .int (nI j)), (5, .int (nI k))]) hx hb dX6_copy_155 hl (by decide) rfl (fun ls hl => ?_)
                      have L157 : ∀ (d v : Nat), 0 ≤ v → v + d = k → ∀ (H : Heap) (locs : List Loc), WW D A s.heap (wM cI cZ a la n cl go fo si (stI it (60 * y + j) (fun u => it (60 * x + i + u)) v) (stI mo 0 (fun u => it (60 * x + i + u)) k) th ki va re to co ke fw) H locs → ∀ (ls : Array Slot), lv_has ls 7 [(0, .ref (a 0)), (1, .int (nI x)), (2, .int (nI i)), (3, .int (nI y)), (4, .int (nI j)), (5, .int (nI k)), (6, .int (nI v))] → W p l e (RM 2) s m args below meth c H locs 0 0 Q (F0 m 157 ls []) := by
                        intro d
                        induction d with
                        | zero =>
                          intro v hlo157 hhi157 H locs w ls hl
                          refine lv_iload hx hb dX6_copy_157 (lv_at hl 6 rfl) ?_
                          refine lv_iload hx hb dX6_copy_159 (lv_at hl 5 rfl) ?_
                          refine c_ge G (tgt := 192) (by omega) (by omega) dX6_copy_161 (by decide) (fun c161 => ?_) (fun c161 => ?_)
                          · -- taken at 161
                            refine lv_iconst (v := (nI 1)) hx hb dX6_copy_192 (by decide) ?_
                            exact hret _ _ _ _ _ _ rfl (by rw [show v = k by omega]) w dX6_copy_193
                          · -- not taken at 161
                            exact absurd c161 (by omega)
                        | succ d ih =>
                          intro v hlo157 hhi157 H locs w ls hl
                          refine lv_iload hx hb dX6_copy_157 (lv_at hl 6 rfl) ?_
                          refine lv_iload hx hb dX6_copy_159 (lv_at hl 5 rfl) ?_
                          refine c_ge G (tgt := 192) (by omega) (by omega) dX6_copy_161 (by decide) (fun c161 => ?_) (fun c161 => ?_)
                          · -- taken at 161
                            exact absurd c161 (by omega)
                          · -- not taken at 161
                            refine lv_aload_n hx hb dX6_copy_164 rfl (lv_at hl 0 rfl) ?_
                            refine f_get G K w.1 inX6 0 (ci := 6) rfl rfl 2 rfl fl_X6_16 (v := .ref (a 3)) rfl dX6_copy_165 ?_
                            refine lv_bipush (v := (nI 60)) hx hb dX6_copy_168 (by decide) ?_
                            refine lv_iload_n hx hb dX6_copy_170 rfl (lv_at hl 3 rfl) ?_
                            refine t_mul G dX6_copy_171 ?_
                            refine lv_iload hx hb dX6_copy_172 (lv_at hl 4 rfl) ?_
                            refine t_add G dX6_copy_174 ?_
                            refine lv_iload hx hb dX6_copy_175 (lv_at hl 6 rfl) ?_
                            refine t_add G dX6_copy_177 ?_
                            refine lv_aload_n hx hb dX6_copy_178 rfl (lv_at hl 0 rfl) ?_
                            refine f_get G K w.1 inX6 0 (ci := 6) rfl rfl 3 rfl fl_X6_19 (v := .ref (a 4)) rfl dX6_copy_179 ?_
                            refine lv_iload hx hb dX6_copy_182 (lv_at hl 6 rfl) ?_
                            refine a_ld G K w.1 4 0 (a := (a 4)) rfl rfl (by omega) (by decide) dX6_copy_184 ?_
                            refine t_i (y := (it (60 * x + i + v))) (by have := stI_in mo 0 (fun u => it (60 * x + i + u)) (d := k) (j := v) (by omega); rw [Nat.zero_add] at this; exact this) ?_
                            refine a_st G K w 3 0 (a := (a 3)) rfl rfl (by omega) (by decide) dX6_copy_185 (w2 := (wM cI cZ a la n cl go fo si (va_up (stI it (60 * y + j) (fun u => it (60 * x + i + u)) v) (60 * y + j + v) (it (60 * x + i + v))) (stI mo 0 (fun u => it (60 * x + i + u)) k) th ki va re to co ke fw)) rfl (fun Hp3 lo4 w => ?_)
                            refine lv_iinc (v := (nI (v + 1))) (lv' := [(6, .int (nI (v + 1))), (0, .ref (a 0)), (1, .int (nI x)), (2, .int (nI i)), (3, .int (nI y)), (4, .int (nI j)), (5, .int (nI k))]) hx hb dX6_copy_186 hl (k := 6) rfl (nI_inc _ 1) (by decide) rfl (fun ls hl => ?_)
                            refine lv_goto (tgt := 157) hx hb dX6_copy_189 (by decide) ?_
                            -- slot 6: have n:v + 1, want n:(v + 1)
                            exact ih (v + 1) (by omega) (by omega) Hp3 lo4 w ls (lv_sub hl [1, 2, 3, 4, 5, 6, 0] rfl)
                      exact L157 (k - 0) (0) (Nat.le_refl _) (by omega) H locs w ls (lv_sub hl [1, 2, 3, 4, 5, 6, 0] rfl)
                    · -- not taken at 124
                      exact absurd c124 (by omega)
                  | succ d ih =>
                    intro u hlo120 hhi120 H locs w ls hl
                    refine lv_iload hx hb dX6_copy_120 (lv_at hl 6 rfl) ?_
                    refine lv_iload hx hb dX6_copy_122 (lv_at hl 5 rfl) ?_
                    refine c_ge G (tgt := 154) (by omega) (by omega) dX6_copy_124 (by decide) (fun c124 => ?_) (fun c124 => ?_)
                    · -- taken at 124
                      exact absurd c124 (by omega)
                    · -- not taken at 124
                      refine lv_aload_n hx hb dX6_copy_127 rfl (lv_at hl 0 rfl) ?_
                      refine f_get G K w.1 inX6 0 (ci := 6) rfl rfl 3 rfl fl_X6_19 (v := .ref (a 4)) rfl dX6_copy_128 ?_
                      refine lv_iload hx hb dX6_copy_131 (lv_at hl 6 rfl) ?_
                      refine lv_aload_n hx hb dX6_copy_133 rfl (lv_at hl 0 rfl) ?_
                      refine f_get G K w.1 inX6 0 (ci := 6) rfl rfl 2 rfl fl_X6_16 (v := .ref (a 3)) rfl dX6_copy_134 ?_
                      refine lv_bipush (v := (nI 60)) hx hb dX6_copy_137 (by decide) ?_
                      refine lv_iload_n hx hb dX6_copy_139 rfl (lv_at hl 1 rfl) ?_
                      refine t_mul G dX6_copy_140 ?_
                      refine lv_iload_n hx hb dX6_copy_141 rfl (lv_at hl 2 rfl) ?_
                      refine t_add G dX6_copy_142 ?_
                      refine lv_iload hx hb dX6_copy_143 (lv_at hl 6 rfl) ?_
                      refine t_add G dX6_copy_145 ?_
                      refine a_ld G K w.1 3 0 (a := (a 3)) rfl rfl (by omega) (by decide) dX6_copy_146 ?_
                      refine a_st G K w 4 0 (a := (a 4)) rfl rfl (by omega) (by decide) dX6_copy_147 (w2 := (wM cI cZ a la n cl go fo si it (va_up (stI mo 0 (fun u => it (60 * x + i + u)) u) u (it (60 * x + i + u))) th ki va re to co ke fw)) rfl (fun Hp5 lo6 w => ?_)
                      have w : WW D A s.heap (wM cI cZ a la n cl go fo si it (stI mo 0 (fun u => it (60 * x + i + u)) (u + 1)) th ki va re to co ke fw) Hp5 lo6 := by
                        have e9 : stI mo 0 (fun u => it (60 * x + i + u)) (u + 1) = va_up (stI mo 0 (fun u => it (60 * x + i + u)) u) u (it (60 * x + i + u)) := by simp only [stI, Nat.zero_add]
                        rw [e9]; exact w
                      refine lv_iinc (v := (nI (u + 1))) (lv' := [(6, .int (nI (u + 1))), (0, .ref (a 0)), (1, .int (nI x)), (2, .int (nI i)), (3, .int (nI y)), (4, .int (nI j)), (5, .int (nI k))]) hx hb dX6_copy_148 hl (k := 6) rfl (nI_inc _ 1) (by decide) rfl (fun ls hl => ?_)
                      refine lv_goto (tgt := 120) hx hb dX6_copy_151 (by decide) ?_
                      -- slot 6: have n:u + 1, want n:(u + 1)
                      exact ih (u + 1) (by omega) (by omega) Hp5 lo6 w ls (lv_sub hl [1, 2, 3, 4, 5, 6, 0] rfl)
                exact L120 (k - 0) (0) (Nat.le_refl _) (by omega) s.heap [] w ls (lv_sub hl [1, 2, 3, 4, 5, 6, 0] rfl)
              · -- not taken at 108
                exact absurd (cmp_sum2 (by omega) (by omega) (by omega) hj9) c108
          · -- not taken at 53
            exact absurd hc9 c53
        · -- not taken at 32
          exact absurd (nneg_ge (fun q => hf9 (Or.inr q))) c32
    · -- not taken at 11
      exact absurd ((okN (m := 3) (by decide)).mpr ⟨y, hy9, rfl⟩) c11
set_option maxHeartbeats 4000000 in
set_option maxRecDepth 100000 in
theorem c_X6_put_bad (a : Nat → Nat) (la : Int32) (n : Nat) (cl : Nat) (go : Option Nat) (fo : Nat → Int32) (si : Nat → Nat) (it : Nat → Int32) (mo : Nat → Int32) (th : Nat → Nat) (ki : Nat → Nat) (va : Nat → Nat) (re : Nat → Nat) (to : Nat → Prop) (co : Nat → Nat) (ke : Nat → Int32) (fw : Nat → Nat) (t : Int32) (k : Int32) (v : Int32) (I : IM n cl go th ki va re si co fw) (hbad : ¬ okP t k v) : CM l D (TY cI cZ cS) yX6_put cX6_put 4 (some .int) 2 [.ref (a 0), .int t, .int k, .int v] (wM cI cZ a la n cl go fo si it mo th ki va re to co ke fw) (some (.int (-2))) (wM cI cZ a la n cl go fo si it mo th ki va re to co ke fw) := by
  refine CM.ofI (by decide +kernel) (Nat.le_of_ble_eq_true rfl) (nar_int _) ?_
  intro p e s m args below meth c Q A G K hA w hret ls hl
  obtain ⟨hx, hb, hml, hown, hts⟩ := id G
  obtain ⟨hn, hcl, hgo, hth, hki, hva, hre, hsi, hco, hfw⟩ := id I
  have hl : lv_has ls 4 [(0, .ref (a 0)), (1, .int t), (2, .int k), (3, .int v)] := hl
  refine lv_iload_n hx hb dX6_put_0 rfl (lv_at hl 1 rfl) ?_
  refine lv_i2l (v := t.toInt64) hx hb dX6_put_1 rfl ?_
  refine lv_lconst (v := ((0 : Int32)).toInt64) hx hb dX6_put_2 (by decide) ?_
  refine lv_ldc2 hx hb hown (hts _ kl_X6_81) dX6_put_3 ?_
  refine t_l (y := (15 : Int32).toInt64) (by decide) ?_
  refine callPS (rest := []) G K F_X6_in (c_X6_in t (0 : Int32) (15 : Int32)) (va_P_nil D s.heap) ml_X6_51 (by decide) (by decide) rfl hl.1 (Nat.le_of_ble_eq_true rfl) dX6_put_6 ?_
  refine b_eq G (tgt := 32) dX6_put_9 (by decide) (fun c9 => ?_) (fun c9 => ?_)
  · -- taken at 9
    refine lv_bipush (v := (-2)) hx hb dX6_put_32 (by decide) ?_
    exact hret _ _ _ _ _ _ rfl rfl w dX6_put_34
  · -- not taken at 9
    refine lv_iload_n hx hb dX6_put_12 rfl (lv_at hl 2 rfl) ?_
    refine lv_i2l (v := k.toInt64) hx hb dX6_put_13 rfl ?_
    refine lv_lconst (v := ((0 : Int32)).toInt64) hx hb dX6_put_14 (by decide) ?_
    refine lv_ldc2 hx hb hown (hts _ kl_X6_83) dX6_put_15 ?_
    refine t_l (y := (5 : Int32).toInt64) (by decide) ?_
    refine callPS (rest := []) G K F_X6_in (c_X6_in k (0 : Int32) (5 : Int32)) (va_P_nil D s.heap) ml_X6_51 (by decide) (by decide) rfl hl.1 (Nat.le_of_ble_eq_true rfl) dX6_put_18 ?_
    refine b_eq G (tgt := 32) dX6_put_21 (by decide) (fun c21 => ?_) (fun c21 => ?_)
    · -- taken at 21
      refine lv_bipush (v := (-2)) hx hb dX6_put_32 (by decide) ?_
      exact hret _ _ _ _ _ _ rfl rfl w dX6_put_34
    · -- not taken at 21
      refine lv_iload_n hx hb dX6_put_24 rfl (lv_at hl 2 rfl) ?_
      refine lv_iload_n hx hb dX6_put_25 rfl (lv_at hl 3 rfl) ?_
      refine callPS (rest := []) G K F_X6_isValue (c_X6_isValue k v) (va_P_nil D s.heap) ml_X6_85 (by decide) (by decide) rfl hl.1 (Nat.le_of_ble_eq_true rfl) dX6_put_26 ?_
      refine b_ne G (tgt := 35) dX6_put_29 (by decide) (fun c29 => ?_) (fun c29 => ?_)
      · -- taken at 29
        obtain ⟨t9, ht9, rfl⟩ := (okN (m := 15) (by decide)).mp c9
        obtain ⟨k9, hk9, rfl⟩ := (okN (m := 5) (by decide)).mp c21
        obtain ⟨v9, hv9, rfl⟩ := (val_iff hk9).mp c29
        exact absurd ⟨t9, k9, v9, ht9, hk9, hv9, rfl, rfl, rfl⟩ hbad
      · -- not taken at 29
        refine lv_bipush (v := (-2)) hx hb dX6_put_32 (by decide) ?_
        exact hret _ _ _ _ _ _ rfl rfl w dX6_put_34
set_option maxHeartbeats 4000000 in
set_option maxRecDepth 100000 in
theorem c_X6_put_full (a : Nat → Nat) (la : Int32) (n : Nat) (cl : Nat) (go : Option Nat) (fo : Nat → Int32) (si : Nat → Nat) (it : Nat → Int32) (mo : Nat → Int32) (th : Nat → Nat) (ki : Nat → Nat) (va : Nat → Nat) (re : Nat → Nat) (to : Nat → Prop) (co : Nat → Nat) (ke : Nat → Int32) (fw : Nat → Nat) (t : Nat) (k : Nat) (v : Nat) (I : IM n cl go th ki va re si co fw) (ht9 : t ≤ 15) (hk9 : k ≤ 5) (hv9 : okV k v) (hn9 : n = 40) : CM l D (TY cI cZ cS) yX6_put cX6_put 4 (some .int) 2 [.ref (a 0), .int (nI t), .int (nI k), .int (nI v)] (wM cI cZ a la n cl go fo si it mo th ki va re to co ke fw) (some (.int (-4))) (wM cI cZ a la n cl go fo si it mo th ki va re to co ke fw) := by
  refine CM.ofI (by decide +kernel) (Nat.le_of_ble_eq_true rfl) (nar_int _) ?_
  intro p e s m args below meth c Q A G K hA w hret ls hl
  obtain ⟨hx, hb, hml, hown, hts⟩ := id G
  obtain ⟨hn, hcl, hgo, hth, hki, hva, hre, hsi, hco, hfw⟩ := id I
  have hl : lv_has ls 4 [(0, .ref (a 0)), (1, .int (nI t)), (2, .int (nI k)), (3, .int (nI v))] := hl
  refine lv_iload_n hx hb dX6_put_0 rfl (lv_at hl 1 rfl) ?_
  refine lv_i2l (v := (nI t).toInt64) hx hb dX6_put_1 rfl ?_
  refine lv_lconst (v := ((0 : Int32)).toInt64) hx hb dX6_put_2 (by decide) ?_
  refine lv_ldc2 hx hb hown (hts _ kl_X6_81) dX6_put_3 ?_
  refine t_l (y := (15 : Int32).toInt64) (by decide) ?_
  refine callPS (rest := []) G K F_X6_in (c_X6_in (nI t) (0 : Int32) (15 : Int32)) (va_P_nil D s.heap) ml_X6_51 (by decide) (by decide) rfl hl.1 (Nat.le_of_ble_eq_true rfl) dX6_put_6 ?_
  refine b_eq G (tgt := 32) dX6_put_9 (by decide) (fun c9 => ?_) (fun c9 => ?_)
  · -- taken at 9
    exact absurd ((okN (m := 15) (by decide)).mpr ⟨t, ht9, rfl⟩) c9
  · -- not taken at 9
    refine lv_iload_n hx hb dX6_put_12 rfl (lv_at hl 2 rfl) ?_
    refine lv_i2l (v := (nI k).toInt64) hx hb dX6_put_13 rfl ?_
    refine lv_lconst (v := ((0 : Int32)).toInt64) hx hb dX6_put_14 (by decide) ?_
    refine lv_ldc2 hx hb hown (hts _ kl_X6_83) dX6_put_15 ?_
    refine t_l (y := (5 : Int32).toInt64) (by decide) ?_
    refine callPS (rest := []) G K F_X6_in (c_X6_in (nI k) (0 : Int32) (5 : Int32)) (va_P_nil D s.heap) ml_X6_51 (by decide) (by decide) rfl hl.1 (Nat.le_of_ble_eq_true rfl) dX6_put_18 ?_
    refine b_eq G (tgt := 32) dX6_put_21 (by decide) (fun c21 => ?_) (fun c21 => ?_)
    · -- taken at 21
      exact absurd ((okN (m := 5) (by decide)).mpr ⟨k, hk9, rfl⟩) c21
    · -- not taken at 21
      refine lv_iload_n hx hb dX6_put_24 rfl (lv_at hl 2 rfl) ?_
      refine lv_iload_n hx hb dX6_put_25 rfl (lv_at hl 3 rfl) ?_
      refine callPS (rest := []) G K F_X6_isValue (c_X6_isValue (nI k) (nI v)) (va_P_nil D s.heap) ml_X6_85 (by decide) (by decide) rfl hl.1 (Nat.le_of_ble_eq_true rfl) dX6_put_26 ?_
      refine b_ne G (tgt := 35) dX6_put_29 (by decide) (fun c29 => ?_) (fun c29 => ?_)
      · -- taken at 29
        refine lv_aload_n hx hb dX6_put_35 rfl (lv_at hl 0 rfl) ?_
        refine f_get G K w.1 inX6 0 (ci := 6) rfl rfl 5 rfl fl_X6_89 (v := .int (nI n)) rfl dX6_put_36 ?_
        refine lv_bipush (v := (nI 40)) hx hb dX6_put_39 (by decide) ?_
        refine c_ne G (tgt := 47) (by omega) (by omega) dX6_put_41 (by decide) (fun c41 => ?_) (fun c41 => ?_)
        · -- taken at 41
          exact absurd hn9 c41
        · -- not taken at 41
          refine lv_bipush (v := (-4)) hx hb dX6_put_44 (by decide) ?_
          exact hret _ _ _ _ _ _ rfl rfl w dX6_put_46
      · -- not taken at 29
        exact absurd ((val_iff hk9).mpr ⟨v, hv9, rfl⟩) c29
set_option maxHeartbeats 4000000 in
set_option maxRecDepth 100000 in
theorem c_X6_put_ok (a : Nat → Nat) (la : Int32) (n : Nat) (cl : Nat) (go : Option Nat) (fo : Nat → Int32) (si : Nat → Nat) (it : Nat → Int32) (mo : Nat → Int32) (th : Nat → Nat) (ki : Nat → Nat) (va : Nat → Nat) (re : Nat → Nat) (to : Nat → Prop) (co : Nat → Nat) (ke : Nat → Int32) (fw : Nat → Nat) (t : Nat) (k : Nat) (v : Nat) (I : IM n cl go th ki va re si co fw) (ht9 : t ≤ 15) (hk9 : k ≤ 5) (hv9 : okV k v) (hn9 : n < 40) : CM l D (TY cI cZ cS) yX6_put cX6_put 4 (some .int) 2 [.ref (a 0), .int (nI t), .int (nI k), .int (nI v)] (wM cI cZ a la n cl go fo si it mo th ki va re to co ke fw) (some (.int (nI (n + 1)))) (wM cI cZ a la (n + 1) cl go fo si it mo (va_up th n t) (va_up ki n k) (va_up va n v) (va_up re n cl) (va_up to n False) co ke fw) := by
  refine CM.ofI (by decide +kernel) (Nat.le_of_ble_eq_true rfl) (nar_int _) ?_
  intro p e s m args below meth c Q A G K hA w hret ls hl
  obtain ⟨hx, hb, hml, hown, hts⟩ := id G
  obtain ⟨hn, hcl, hgo, hth, hki, hva, hre, hsi, hco, hfw⟩ := id I
  have hv8 := okV_le hv9
  have hl : lv_has ls 4 [(0, .ref (a 0)), (1, .int (nI t)), (2, .int (nI k)), (3, .int (nI v))] := hl
  refine lv_iload_n hx hb dX6_put_0 rfl (lv_at hl 1 rfl) ?_
  refine lv_i2l (v := (nI t).toInt64) hx hb dX6_put_1 rfl ?_
  refine lv_lconst (v := ((0 : Int32)).toInt64) hx hb dX6_put_2 (by decide) ?_
  refine lv_ldc2 hx hb hown (hts _ kl_X6_81) dX6_put_3 ?_
  refine t_l (y := (15 : Int32).toInt64) (by decide) ?_
  refine callPS (rest := []) G K F_X6_in (c_X6_in (nI t) (0 : Int32) (15 : Int32)) (va_P_nil D s.heap) ml_X6_51 (by decide) (by decide) rfl hl.1 (Nat.le_of_ble_eq_true rfl) dX6_put_6 ?_
  refine b_eq G (tgt := 32) dX6_put_9 (by decide) (fun c9 => ?_) (fun c9 => ?_)
  · -- taken at 9
    exact absurd ((okN (m := 15) (by decide)).mpr ⟨t, ht9, rfl⟩) c9
  · -- not taken at 9
    refine lv_iload_n hx hb dX6_put_12 rfl (lv_at hl 2 rfl) ?_
    refine lv_i2l (v := (nI k).toInt64) hx hb dX6_put_13 rfl ?_
    refine lv_lconst (v := ((0 : Int32)).toInt64) hx hb dX6_put_14 (by decide) ?_
    refine lv_ldc2 hx hb hown (hts _ kl_X6_83) dX6_put_15 ?_
    refine t_l (y := (5 : Int32).toInt64) (by decide) ?_
    refine callPS (rest := []) G K F_X6_in (c_X6_in (nI k) (0 : Int32) (5 : Int32)) (va_P_nil D s.heap) ml_X6_51 (by decide) (by decide) rfl hl.1 (Nat.le_of_ble_eq_true rfl) dX6_put_18 ?_
    refine b_eq G (tgt := 32) dX6_put_21 (by decide) (fun c21 => ?_) (fun c21 => ?_)
    · -- taken at 21
      exact absurd ((okN (m := 5) (by decide)).mpr ⟨k, hk9, rfl⟩) c21
    · -- not taken at 21
      refine lv_iload_n hx hb dX6_put_24 rfl (lv_at hl 2 rfl) ?_
      refine lv_iload_n hx hb dX6_put_25 rfl (lv_at hl 3 rfl) ?_
      refine callPS (rest := []) G K F_X6_isValue (c_X6_isValue (nI k) (nI v)) (va_P_nil D s.heap) ml_X6_85 (by decide) (by decide) rfl hl.1 (Nat.le_of_ble_eq_true rfl) dX6_put_26 ?_
      refine b_ne G (tgt := 35) dX6_put_29 (by decide) (fun c29 => ?_) (fun c29 => ?_)
      · -- taken at 29
        refine lv_aload_n hx hb dX6_put_35 rfl (lv_at hl 0 rfl) ?_
        refine f_get G K w.1 inX6 0 (ci := 6) rfl rfl 5 rfl fl_X6_89 (v := .int (nI n)) rfl dX6_put_36 ?_
        refine lv_bipush (v := (nI 40)) hx hb dX6_put_39 (by decide) ?_
        refine c_ne G (tgt := 47) (by omega) (by omega) dX6_put_41 (by decide) (fun c41 => ?_) (fun c41 => ?_)
        · -- taken at 41
          refine lv_aload_n hx hb dX6_put_47 rfl (lv_at hl 0 rfl) ?_
          refine f_get G K w.1 inX6 0 (ci := 6) rfl rfl 6 rfl fl_X6_22 (v := .ref (a 5)) rfl dX6_put_48 ?_
          refine lv_aload_n hx hb dX6_put_51 rfl (lv_at hl 0 rfl) ?_
          refine f_get G K w.1 inX6 0 (ci := 6) rfl rfl 5 rfl fl_X6_89 (v := .int (nI n)) rfl dX6_put_52 ?_
          refine lv_iload_n hx hb dX6_put_55 rfl (lv_at hl 1 rfl) ?_
          refine a_stN G K w 5 0 (a := (a 5)) rfl rfl (by omega) (by decide) dX6_put_56 (w2 := (wM cI cZ a la n cl go fo si it mo (va_up th n t) ki va re to co ke fw)) rfl (fun Hp1 lo2 w => ?_)
          refine lv_aload_n hx hb dX6_put_57 rfl (lv_at hl 0 rfl) ?_
          refine f_get G K w.1 inX6 0 (ci := 6) rfl rfl 7 rfl fl_X6_25 (v := .ref (a 6)) rfl dX6_put_58 ?_
          refine lv_aload_n hx hb dX6_put_61 rfl (lv_at hl 0 rfl) ?_
          refine f_get G K w.1 inX6 0 (ci := 6) rfl rfl 5 rfl fl_X6_89 (v := .int (nI n)) rfl dX6_put_62 ?_
          refine lv_iload_n hx hb dX6_put_65 rfl (lv_at hl 2 rfl) ?_
          refine a_stN G K w 6 0 (a := (a 6)) rfl rfl (by omega) (by decide) dX6_put_66 (w2 := (wM cI cZ a la n cl go fo si it mo (va_up th n t) (va_up ki n k) va re to co ke fw)) rfl (fun Hp3 lo4 w => ?_)
          refine lv_aload_n hx hb dX6_put_67 rfl (lv_at hl 0 rfl) ?_
          refine f_get G K w.1 inX6 0 (ci := 6) rfl rfl 8 rfl fl_X6_28 (v := .ref (a 7)) rfl dX6_put_68 ?_
          refine lv_aload_n hx hb dX6_put_71 rfl (lv_at hl 0 rfl) ?_
          refine f_get G K w.1 inX6 0 (ci := 6) rfl rfl 5 rfl fl_X6_89 (v := .int (nI n)) rfl dX6_put_72 ?_
          refine lv_iload_n hx hb dX6_put_75 rfl (lv_at hl 3 rfl) ?_
          refine a_stN G K w 7 0 (a := (a 7)) rfl rfl (by omega) (by decide) dX6_put_76 (w2 := (wM cI cZ a la n cl go fo si it mo (va_up th n t) (va_up ki n k) (va_up va n v) re to co ke fw)) rfl (fun Hp5 lo6 w => ?_)
          refine lv_aload_n hx hb dX6_put_77 rfl (lv_at hl 0 rfl) ?_
          refine f_get G K w.1 inX6 0 (ci := 6) rfl rfl 9 rfl fl_X6_31 (v := .ref (a 8)) rfl dX6_put_78 ?_
          refine lv_aload_n hx hb dX6_put_81 rfl (lv_at hl 0 rfl) ?_
          refine f_get G K w.1 inX6 0 (ci := 6) rfl rfl 5 rfl fl_X6_89 (v := .int (nI n)) rfl dX6_put_82 ?_
          refine lv_aload_n hx hb dX6_put_85 rfl (lv_at hl 0 rfl) ?_
          refine f_get G K w.1 inX6 0 (ci := 6) rfl rfl 13 rfl fl_X6_92 (v := .int (nI cl)) rfl dX6_put_86 ?_
          refine a_stN G K w 8 0 (a := (a 8)) rfl rfl (by omega) (by decide) dX6_put_89 (w2 := (wM cI cZ a la n cl go fo si it mo (va_up th n t) (va_up ki n k) (va_up va n v) (va_up re n cl) to co ke fw)) rfl (fun Hp7 lo8 w => ?_)
          refine lv_aload_n hx hb dX6_put_90 rfl (lv_at hl 0 rfl) ?_
          refine f_get G K w.1 inX6 0 (ci := 6) rfl rfl 10 rfl fl_X6_34 (v := .ref (a 9)) rfl dX6_put_91 ?_
          refine lv_aload_n hx hb dX6_put_94 rfl (lv_at hl 0 rfl) ?_
          refine f_get G K w.1 inX6 0 (ci := 6) rfl rfl 5 rfl fl_X6_89 (v := .int (nI n)) rfl dX6_put_95 ?_
          refine lv_iconst (v := (nI 0)) hx hb dX6_put_98 (by decide) ?_
          refine a_stB G K w 9 1 (a := (a 9)) rfl rfl (by omega) (by decide) (q := False) (bI_f id).symm dX6_put_99 (w2 := (wM cI cZ a la n cl go fo si it mo (va_up th n t) (va_up ki n k) (va_up va n v) (va_up re n cl) (va_up to n False) co ke fw)) rfl (fun Hp9 lo10 w => ?_)
          refine lv_aload_n hx hb dX6_put_100 rfl (lv_at hl 0 rfl) ?_
          refine lv_dup hx hb dX6_put_101 rfl ?_
          refine f_get G K w.1 inX6 0 (ci := 6) rfl rfl 5 rfl fl_X6_89 (v := .int (nI n)) rfl dX6_put_102 ?_
          refine lv_iconst (v := (nI 1)) hx hb dX6_put_105 (by decide) ?_
          refine t_add G dX6_put_106 ?_
          refine f_put G K w inX6 tyX6 tyX6_ok nmX6 0 (ci := 6) rfl rfl 5 rfl fl_X6_89 rfl rfl rfl rfl dX6_put_107 (w2 := (wM cI cZ a la (n + 1) cl go fo si it mo (va_up th n t) (va_up ki n k) (va_up va n v) (va_up re n cl) (va_up to n False) co ke fw)) rfl (fun Hp11 lo12 w => ?_)
          refine lv_aload_n hx hb dX6_put_110 rfl (lv_at hl 0 rfl) ?_
          refine f_get G K w.1 inX6 0 (ci := 6) rfl rfl 5 rfl fl_X6_89 (v := .int (nI (n + 1))) rfl dX6_put_111 ?_
          exact hret _ _ _ _ _ _ rfl rfl w dX6_put_114
        · -- not taken at 41
          exact absurd c41 (by omega)
      · -- not taken at 29
        exact absurd ((val_iff hk9).mpr ⟨v, hv9, rfl⟩) c29
set_option maxHeartbeats 4000000 in
set_option maxRecDepth 100000 in
theorem c_X6_close_not (a : Nat → Nat) (la : Int32) (n : Nat) (cl : Nat) (go : Option Nat) (fo : Nat → Int32) (si : Nat → Nat) (it : Nat → Int32) (mo : Nat → Int32) (th : Nat → Nat) (ki : Nat → Nat) (va : Nat → Nat) (re : Nat → Nat) (to : Nat → Prop) (co : Nat → Nat) (ke : Nat → Int32) (fw : Nat → Nat) (I : IM n cl go th ki va re si co fw) (h9 : cntEq re cl n = 0) : CM l D (TY cI cZ cS) yX6_close cX6_close 2 (some .int) 6 [.ref (a 0)] (wM cI cZ a la n cl go fo si it mo th ki va re to co ke fw) (some (.int (-3))) (wM cI cZ a la n cl go fo si it mo th ki va re to co ke fw) := by
  refine CM.ofI (by decide +kernel) (Nat.le_of_ble_eq_true rfl) (nar_int _) ?_
  intro p e s m args below meth c Q A G K hA w hret ls hl
  obtain ⟨hx, hb, hml, hown, hts⟩ := id G
  obtain ⟨hn, hcl, hgo, hth, hki, hva, hre, hsi, hco, hfw⟩ := id I
  have hl : lv_has ls 2 [(0, .ref (a 0))] := hl
  refine lv_aload_n hx hb dX6_close_0 rfl (lv_at hl 0 rfl) ?_
  refine lv_aload_n hx hb dX6_close_1 rfl (lv_at hl 0 rfl) ?_
  refine f_get G K w.1 inX6 0 (ci := 6) rfl rfl 13 rfl fl_X6_92 (v := .int (nI cl)) rfl dX6_close_2 ?_
  refine callPV (As := [.int (nI cl)]) (rest := []) (q0 := 0) (ci := 6) G K F_X6_manyOf (c_X6_manyOf a la n cl go fo si it mo th ki va re to co ke fw cl I (by omega)) w.1 ml_X6_95 rfl rfl rfl (by decide) (by decide) rfl hl.1 (Nat.le_of_ble_eq_true rfl) dX6_close_5 ?_
  have hf1 := cnt_le re cl n
  refine z_ne G (tgt := 14) (by omega) dX6_close_8 (by decide) (fun c8 => ?_) (fun c8 => ?_)
  · -- taken at 8
    exact absurd h9 (by omega)
  · -- not taken at 8
    refine lv_bipush (v := (-3)) hx hb dX6_close_11 (by decide) ?_
    exact hret _ _ _ _ _ _ rfl rfl w dX6_close_13
set_option maxHeartbeats 4000000 in
set_option maxRecDepth 100000 in
theorem c_X6_close_full (a : Nat → Nat) (la : Int32) (n : Nat) (cl : Nat) (go : Option Nat) (fo : Nat → Int32) (si : Nat → Nat) (it : Nat → Int32) (mo : Nat → Int32) (th : Nat → Nat) (ki : Nat → Nat) (va : Nat → Nat) (re : Nat → Nat) (to : Nat → Prop) (co : Nat → Nat) (ke : Nat → Int32) (fw : Nat → Nat) (I : IM n cl go th ki va re si co fw) (h9 : 0 < cntEq re cl n) (h8 : cl = 7) : CM l D (TY cI cZ cS) yX6_close cX6_close 2 (some .int) 6 [.ref (a 0)] (wM cI cZ a la n cl go fo si it mo th ki va re to co ke fw) (some (.int (-4))) (wM cI cZ a la n cl go fo si it mo th ki va re to co ke fw) := by
  refine CM.ofI (by decide +kernel) (Nat.le_of_ble_eq_true rfl) (nar_int _) ?_
  intro p e s m args below meth c Q A G K hA w hret ls hl
  obtain ⟨hx, hb, hml, hown, hts⟩ := id G
  obtain ⟨hn, hcl, hgo, hth, hki, hva, hre, hsi, hco, hfw⟩ := id I
  have hl : lv_has ls 2 [(0, .ref (a 0))] := hl
  refine lv_aload_n hx hb dX6_close_0 rfl (lv_at hl 0 rfl) ?_
  refine lv_aload_n hx hb dX6_close_1 rfl (lv_at hl 0 rfl) ?_
  refine f_get G K w.1 inX6 0 (ci := 6) rfl rfl 13 rfl fl_X6_92 (v := .int (nI cl)) rfl dX6_close_2 ?_
  refine callPV (As := [.int (nI cl)]) (rest := []) (q0 := 0) (ci := 6) G K F_X6_manyOf (c_X6_manyOf a la n cl go fo si it mo th ki va re to co ke fw cl I (by omega)) w.1 ml_X6_95 rfl rfl rfl (by decide) (by decide) rfl hl.1 (Nat.le_of_ble_eq_true rfl) dX6_close_5 ?_
  have hf1 := cnt_le re cl n
  refine z_ne G (tgt := 14) (by omega) dX6_close_8 (by decide) (fun c8 => ?_) (fun c8 => ?_)
  · -- taken at 8
    refine lv_aload_n hx hb dX6_close_14 rfl (lv_at hl 0 rfl) ?_
    refine f_get G K w.1 inX6 0 (ci := 6) rfl rfl 13 rfl fl_X6_92 (v := .int (nI cl)) rfl dX6_close_15 ?_
    refine lv_bipush (v := (nI 7)) hx hb dX6_close_18 (by decide) ?_
    refine c_ne G (tgt := 26) (by omega) (by omega) dX6_close_20 (by decide) (fun c20 => ?_) (fun c20 => ?_)
    · -- taken at 20
      exact absurd h8 c20
    · -- not taken at 20
      refine lv_bipush (v := (-4)) hx hb dX6_close_23 (by decide) ?_
      exact hret _ _ _ _ _ _ rfl rfl w dX6_close_25
  · -- not taken at 8
    exact absurd c8 (by omega)
set_option maxHeartbeats 4000000 in
set_option maxRecDepth 100000 in
theorem c_X6_close_ok (a : Nat → Nat) (la : Int32) (n : Nat) (cl : Nat) (go : Option Nat) (fo : Nat → Int32) (si : Nat → Nat) (it : Nat → Int32) (mo : Nat → Int32) (th : Nat → Nat) (ki : Nat → Nat) (va : Nat → Nat) (re : Nat → Nat) (to : Nat → Prop) (co : Nat → Nat) (ke : Nat → Int32) (fw : Nat → Nat) (I : IM n cl go th ki va re si co fw) (h9 : 0 < cntEq re cl n) (h8 : cl < 7) : CM l D (TY cI cZ cS) yX6_close cX6_close 2 (some .int) 6 [.ref (a 0)] (wM cI cZ a la n cl go fo si it mo th ki va re to co ke fw) (some (.int (nI (cl + 1)))) (wM cI cZ a la n (cl + 1) go fo si it mo th ki va re to co (kpR (fun w => re w = cl ∧ ki w = 4) (numO th ki va re n (cl + 1) to co) ke n) fw) := by
  refine CM.ofI (by decide +kernel) (Nat.le_of_ble_eq_true rfl) (nar_int _) ?_
  intro p e s m args below meth c Q A G K hA w hret ls hl
  obtain ⟨hx, hb, hml, hown, hts⟩ := id G
  obtain ⟨hn, hcl, hgo, hth, hki, hva, hre, hsi, hco, hfw⟩ := id I
  have I2 : IM n (cl + 1) go th ki va re si co fw := IM_cl I h8
  have hl : lv_has ls 2 [(0, .ref (a 0))] := hl
  refine lv_aload_n hx hb dX6_close_0 rfl (lv_at hl 0 rfl) ?_
  refine lv_aload_n hx hb dX6_close_1 rfl (lv_at hl 0 rfl) ?_
  refine f_get G K w.1 inX6 0 (ci := 6) rfl rfl 13 rfl fl_X6_92 (v := .int (nI cl)) rfl dX6_close_2 ?_
  refine callPV (As := [.int (nI cl)]) (rest := []) (q0 := 0) (ci := 6) G K F_X6_manyOf (c_X6_manyOf a la n cl go fo si it mo th ki va re to co ke fw cl I (by omega)) w.1 ml_X6_95 rfl rfl rfl (by decide) (by decide) rfl hl.1 (Nat.le_of_ble_eq_true rfl) dX6_close_5 ?_
  have hf1 := cnt_le re cl n
  refine z_ne G (tgt := 14) (by omega) dX6_close_8 (by decide) (fun c8 => ?_) (fun c8 => ?_)
  · -- taken at 8
    refine lv_aload_n hx hb dX6_close_14 rfl (lv_at hl 0 rfl) ?_
    refine f_get G K w.1 inX6 0 (ci := 6) rfl rfl 13 rfl fl_X6_92 (v := .int (nI cl)) rfl dX6_close_15 ?_
    refine lv_bipush (v := (nI 7)) hx hb dX6_close_18 (by decide) ?_
    refine c_ne G (tgt := 26) (by omega) (by omega) dX6_close_20 (by decide) (fun c20 => ?_) (fun c20 => ?_)
    · -- taken at 20
      refine lv_aload_n hx hb dX6_close_26 rfl (lv_at hl 0 rfl) ?_
      refine lv_dup hx hb dX6_close_27 rfl ?_
      refine f_get G K w.1 inX6 0 (ci := 6) rfl rfl 13 rfl fl_X6_92 (v := .int (nI cl)) rfl dX6_close_28 ?_
      refine lv_iconst (v := (nI 1)) hx hb dX6_close_31 (by decide) ?_
      refine t_add G dX6_close_32 ?_
      refine f_put G K w inX6 tyX6 tyX6_ok nmX6 0 (ci := 6) rfl rfl 13 rfl fl_X6_92 rfl rfl rfl rfl dX6_close_33 (w2 := (wM cI cZ a la n (cl + 1) go fo si it mo th ki va re to co ke fw)) rfl (fun Hp2 lo3 w => ?_)
      refine lv_iconst (v := (nI 0)) hx hb dX6_close_36 (by decide) ?_
      refine lv_istore_n (lv' := [(1, .int (nI 0)), (0, .ref (a 0))]) hx hb dX6_close_37 rfl hl (by decide) rfl (fun ls hl => ?_)
      have L38 : ∀ (d i : Nat), 0 ≤ i → i + d = n → ∀ (H : Heap) (locs : List Loc), WW D A s.heap (wM cI cZ a la n (cl + 1) go fo si it mo th ki va re to co (kpR (fun w => re w = cl ∧ ki w = 4) (numO th ki va re n (cl + 1) to co) ke i) fw) H locs → ∀ (ls : Array Slot), lv_has ls 2 [(0, .ref (a 0)), (1, .int (nI i))] → W p l e (RM 6) s m args below meth c H locs 0 0 Q (F0 m 38 ls []) := by
        intro d
        induction d with
        | zero =>
          intro i hlo38 hhi38 H locs w ls hl
          refine lv_iload_n hx hb dX6_close_38 rfl (lv_at hl 1 rfl) ?_
          refine lv_aload_n hx hb dX6_close_39 rfl (lv_at hl 0 rfl) ?_
          refine f_get G K w.1 inX6 0 (ci := 6) rfl rfl 5 rfl fl_X6_89 (v := .int (nI n)) rfl dX6_close_40 ?_
          refine c_ge G (tgt := 97) (by omega) (by omega) dX6_close_43 (by decide) (fun c43 => ?_) (fun c43 => ?_)
          · -- taken at 43
            refine lv_aload_n hx hb dX6_close_97 rfl (lv_at hl 0 rfl) ?_
            refine f_get G K w.1 inX6 0 (ci := 6) rfl rfl 13 rfl fl_X6_92 (v := .int (nI (cl + 1))) rfl dX6_close_98 ?_
            exact hret _ _ _ _ _ _ rfl (by rw [show i = n by omega]) w dX6_close_101
          · -- not taken at 43
            exact absurd c43 (by omega)
        | succ d ih =>
          intro i hlo38 hhi38 H locs w ls hl
          refine lv_iload_n hx hb dX6_close_38 rfl (lv_at hl 1 rfl) ?_
          refine lv_aload_n hx hb dX6_close_39 rfl (lv_at hl 0 rfl) ?_
          refine f_get G K w.1 inX6 0 (ci := 6) rfl rfl 5 rfl fl_X6_89 (v := .int (nI n)) rfl dX6_close_40 ?_
          refine c_ge G (tgt := 97) (by omega) (by omega) dX6_close_43 (by decide) (fun c43 => ?_) (fun c43 => ?_)
          · -- taken at 43
            exact absurd c43 (by omega)
          · -- not taken at 43
            refine lv_aload_n hx hb dX6_close_46 rfl (lv_at hl 0 rfl) ?_
            refine f_get G K w.1 inX6 0 (ci := 6) rfl rfl 12 rfl fl_X6_41 (v := .ref (a 11)) rfl dX6_close_47 ?_
            refine lv_iload_n hx hb dX6_close_50 rfl (lv_at hl 1 rfl) ?_
            refine lv_aload_n hx hb dX6_close_51 rfl (lv_at hl 0 rfl) ?_
            refine f_get G K w.1 inX6 0 (ci := 6) rfl rfl 9 rfl fl_X6_31 (v := .ref (a 8)) rfl dX6_close_52 ?_
            refine lv_iload_n hx hb dX6_close_55 rfl (lv_at hl 1 rfl) ?_
            refine a_ldN G K w.1 8 0 (a := (a 8)) rfl rfl (by omega) (by decide) dX6_close_56 ?_
            have hb4 := hre i
            refine lv_aload_n hx hb dX6_close_57 rfl (lv_at hl 0 rfl) ?_
            refine f_get G K w.1 inX6 0 (ci := 6) rfl rfl 13 rfl fl_X6_92 (v := .int (nI (cl + 1))) rfl dX6_close_58 ?_
            refine lv_iconst (v := (nI 1)) hx hb dX6_close_61 (by decide) ?_
            refine t_sub G (by omega) dX6_close_62 ?_
            refine c_ne G (tgt := 84) (by omega) (by omega) dX6_close_63 (by decide) (fun c63 => ?_) (fun c63 => ?_)
            · -- taken at 63
              refine lv_aload_n hx hb dX6_close_84 rfl (lv_at hl 0 rfl) ?_
              refine f_get G K w.1 inX6 0 (ci := 6) rfl rfl 12 rfl fl_X6_41 (v := .ref (a 11)) rfl dX6_close_85 ?_
              refine lv_iload_n hx hb dX6_close_88 rfl (lv_at hl 1 rfl) ?_
              refine a_ld G K w.1 11 0 (a := (a 11)) rfl rfl (by omega) (by decide) dX6_close_89 ?_
              refine t_i (y := (cif ((fun w => re w = cl ∧ ki w = 4) i) ((numO th ki va re n (cl + 1) to co) i) (kpR (fun w => re w = cl ∧ ki w = 4) (numO th ki va re n (cl + 1) to co) ke i i))) (by first | exact (cif_t (q := (fun w => re w = cl ∧ ki w = 4) i) ⟨by omega, c73⟩).symm | exact (cif_f (q := (fun w => re w = cl ∧ ki w = 4) i) (fun h => c73 h.2)).symm | exact (cif_f (q := (fun w => re w = cl ∧ ki w = 4) i) (fun h => c63 (by have := h.1; omega))).symm) ?_
              refine a_st G K w 11 0 (a := (a 11)) rfl rfl (by omega) (by decide) dX6_close_90 (w2 := (wM cI cZ a la n (cl + 1) go fo si it mo th ki va re to co (va_up (kpR (fun w => re w = cl ∧ ki w = 4) (numO th ki va re n (cl + 1) to co) ke i) i (cif ((fun w => re w = cl ∧ ki w = 4) i) ((numO th ki va re n (cl + 1) to co) i) (kpR (fun w => re w = cl ∧ ki w = 4) (numO th ki va re n (cl + 1) to co) ke i i))) fw)) rfl (fun Hp5 lo6 w => ?_)
              refine lv_iinc (v := (nI (i + 1))) (lv' := [(1, .int (nI (i + 1))), (0, .ref (a 0))]) hx hb dX6_close_91 hl (k := 1) rfl (nI_inc _ 1) (by decide) rfl (fun ls hl => ?_)
              refine lv_goto (tgt := 38) hx hb dX6_close_94 (by decide) ?_
              -- slot 1: have n:i + 1, want n:(i + 1)
              exact ih (i + 1) (by omega) (by omega) Hp5 lo6 w ls (lv_sub hl [1, 0] rfl)
            · -- not taken at 63
              refine lv_aload_n hx hb dX6_close_66 rfl (lv_at hl 0 rfl) ?_
              refine f_get G K w.1 inX6 0 (ci := 6) rfl rfl 7 rfl fl_X6_25 (v := .ref (a 6)) rfl dX6_close_67 ?_
              refine lv_iload_n hx hb dX6_close_70 rfl (lv_at hl 1 rfl) ?_
              refine a_ldN G K w.1 6 0 (a := (a 6)) rfl rfl (by omega) (by decide) dX6_close_71 ?_
              have hb7 := hki i
              refine lv_iconst (v := (nI 4)) hx hb dX6_close_72 (by decide) ?_
              refine c_ne G (tgt := 84) (by omega) (by omega) dX6_close_73 (by decide) (fun c73 => ?_) (fun c73 => ?_)
              · -- taken at 73
                refine lv_aload_n hx hb dX6_close_84 rfl (lv_at hl 0 rfl) ?_
                refine f_get G K w.1 inX6 0 (ci := 6) rfl rfl 12 rfl fl_X6_41 (v := .ref (a 11)) rfl dX6_close_85 ?_
                refine lv_iload_n hx hb dX6_close_88 rfl (lv_at hl 1 rfl) ?_
                refine a_ld G K w.1 11 0 (a := (a 11)) rfl rfl (by omega) (by decide) dX6_close_89 ?_
                refine t_i (y := (cif ((fun w => re w = cl ∧ ki w = 4) i) ((numO th ki va re n (cl + 1) to co) i) (kpR (fun w => re w = cl ∧ ki w = 4) (numO th ki va re n (cl + 1) to co) ke i i))) (by first | exact (cif_t (q := (fun w => re w = cl ∧ ki w = 4) i) ⟨by omega, c73⟩).symm | exact (cif_f (q := (fun w => re w = cl ∧ ki w = 4) i) (fun h => c73 h.2)).symm | exact (cif_f (q := (fun w => re w = cl ∧ ki w = 4) i) (fun h => c63 (by have := h.1; omega))).symm) ?_
                refine a_st G K w 11 0 (a := (a 11)) rfl rfl (by omega) (by decide) dX6_close_90 (w2 := (wM cI cZ a la n (cl + 1) go fo si it mo th ki va re to co (va_up (kpR (fun w => re w = cl ∧ ki w = 4) (numO th ki va re n (cl + 1) to co) ke i) i (cif ((fun w => re w = cl ∧ ki w = 4) i) ((numO th ki va re n (cl + 1) to co) i) (kpR (fun w => re w = cl ∧ ki w = 4) (numO th ki va re n (cl + 1) to co) ke i i))) fw)) rfl (fun Hp8 lo9 w => ?_)
                refine lv_iinc (v := (nI (i + 1))) (lv' := [(1, .int (nI (i + 1))), (0, .ref (a 0))]) hx hb dX6_close_91 hl (k := 1) rfl (nI_inc _ 1) (by decide) rfl (fun ls hl => ?_)
                refine lv_goto (tgt := 38) hx hb dX6_close_94 (by decide) ?_
                -- slot 1: have n:i + 1, want n:(i + 1)
                exact ih (i + 1) (by omega) (by omega) Hp8 lo9 w ls (lv_sub hl [1, 0] rfl)
              · -- not taken at 73
                refine lv_aload_n hx hb dX6_close_76 rfl (lv_at hl 0 rfl) ?_
                refine lv_iload_n hx hb dX6_close_77 rfl (lv_at hl 1 rfl) ?_
                refine callPV (As := [.int (nI i)]) (rest := [.int (nI i), .ref (a 11)]) (q0 := 0) (ci := 6) G K F_X6_numberOf (c_X6_numberOf a la n (cl + 1) go fo si it mo th ki va re to co (kpR (fun w => re w = cl ∧ ki w = 4) (numO th ki va re n (cl + 1) to co) ke i) fw i I2 (by omega)) w.1 ml_X6_98 rfl rfl rfl (by decide) (by decide) rfl hl.1 (Nat.le_of_ble_eq_true rfl) dX6_close_78 ?_
                refine lv_goto (tgt := 90) hx hb dX6_close_81 (by decide) ?_
                refine t_i (y := (cif ((fun w => re w = cl ∧ ki w = 4) i) ((numO th ki va re n (cl + 1) to co) i) (kpR (fun w => re w = cl ∧ ki w = 4) (numO th ki va re n (cl + 1) to co) ke i i))) (by first | exact (cif_t (q := (fun w => re w = cl ∧ ki w = 4) i) ⟨by omega, c73⟩).symm | exact (cif_f (q := (fun w => re w = cl ∧ ki w = 4) i) (fun h => c73 h.2)).symm | exact (cif_f (q := (fun w => re w = cl ∧ ki w = 4) i) (fun h => c63 (by have := h.1; omega))).symm) ?_
                refine a_st G K w 11 0 (a := (a 11)) rfl rfl (by omega) (by decide) dX6_close_90 (w2 := (wM cI cZ a la n (cl + 1) go fo si it mo th ki va re to co (va_up (kpR (fun w => re w = cl ∧ ki w = 4) (numO th ki va re n (cl + 1) to co) ke i) i (cif ((fun w => re w = cl ∧ ki w = 4) i) ((numO th ki va re n (cl + 1) to co) i) (kpR (fun w => re w = cl ∧ ki w = 4) (numO th ki va re n (cl + 1) to co) ke i i))) fw)) rfl (fun Hp10 lo11 w => ?_)
                refine lv_iinc (v := (nI (i + 1))) (lv' := [(1, .int (nI (i + 1))), (0, .ref (a 0))]) hx hb dX6_close_91 hl (k := 1) rfl (nI_inc _ 1) (by decide) rfl (fun ls hl => ?_)
                refine lv_goto (tgt := 38) hx hb dX6_close_94 (by decide) ?_
                -- slot 1: have n:i + 1, want n:(i + 1)
                exact ih (i + 1) (by omega) (by omega) Hp10 lo11 w ls (lv_sub hl [1, 0] rfl)
      exact L38 (n - 0) (0) (Nat.le_refl _) (by omega) Hp2 lo3 w ls (lv_sub hl [1, 0] rfl)
    · -- not taken at 20
      exact absurd c20 (by omega)
  · -- not taken at 8
    exact absurd c8 (by omega)
set_option maxHeartbeats 4000000 in
set_option maxRecDepth 100000 in
theorem c_X6_undo_not (a : Nat → Nat) (la : Int32) (n : Nat) (cl : Nat) (go : Option Nat) (fo : Nat → Int32) (si : Nat → Nat) (it : Nat → Int32) (mo : Nat → Int32) (th : Nat → Nat) (ki : Nat → Nat) (va : Nat → Nat) (re : Nat → Nat) (to : Nat → Prop) (co : Nat → Nat) (ke : Nat → Int32) (fw : Nat → Nat) (I : IM n cl go th ki va re si co fw) (h9 : cntEq re cl n = 0) : CM l D (TY cI cZ cS) yX6_undo cX6_undo 1 (some .int) 1 [.ref (a 0)] (wM cI cZ a la n cl go fo si it mo th ki va re to co ke fw) (some (.int (-3))) (wM cI cZ a la n cl go fo si it mo th ki va re to co ke fw) := by
  refine CM.ofI (by decide +kernel) (Nat.le_of_ble_eq_true rfl) (nar_int _) ?_
  intro p e s m args below meth c Q A G K hA w hret ls hl
  obtain ⟨hx, hb, hml, hown, hts⟩ := id G
  obtain ⟨hn, hcl, hgo, hth, hki, hva, hre, hsi, hco, hfw⟩ := id I
  have hl : lv_has ls 1 [(0, .ref (a 0))] := hl
  refine lv_aload_n hx hb dX6_undo_0 rfl (lv_at hl 0 rfl) ?_
  refine lv_aload_n hx hb dX6_undo_1 rfl (lv_at hl 0 rfl) ?_
  refine f_get G K w.1 inX6 0 (ci := 6) rfl rfl 13 rfl fl_X6_92 (v := .int (nI cl)) rfl dX6_undo_2 ?_
  refine callPV (As := [.int (nI cl)]) (rest := []) (q0 := 0) (ci := 6) G K F_X6_manyOf (c_X6_manyOf a la n cl go fo si it mo th ki va re to co ke fw cl I (by omega)) w.1 ml_X6_95 rfl rfl rfl (by decide) (by decide) rfl hl.1 (Nat.le_of_ble_eq_true rfl) dX6_undo_5 ?_
  have hf1 := cnt_le re cl n
  refine z_ne G (tgt := 14) (by omega) dX6_undo_8 (by decide) (fun c8 => ?_) (fun c8 => ?_)
  · -- taken at 8
    exact absurd h9 (by omega)
  · -- not taken at 8
    refine lv_bipush (v := (-3)) hx hb dX6_undo_11 (by decide) ?_
    exact hret _ _ _ _ _ _ rfl rfl w dX6_undo_13
set_option maxHeartbeats 4000000 in
set_option maxRecDepth 100000 in
theorem c_X6_undo_ok (a : Nat → Nat) (la : Int32) (n : Nat) (cl : Nat) (go : Option Nat) (fo : Nat → Int32) (si : Nat → Nat) (it : Nat → Int32) (mo : Nat → Int32) (th : Nat → Nat) (ki : Nat → Nat) (va : Nat → Nat) (re : Nat → Nat) (to : Nat → Prop) (co : Nat → Nat) (ke : Nat → Int32) (fw : Nat → Nat) (I : IM n cl go th ki va re si co fw) (h9 : 0 < cntEq re cl n) : CM l D (TY cI cZ cS) yX6_undo cX6_undo 1 (some .int) 1 [.ref (a 0)] (wM cI cZ a la n cl go fo si it mo th ki va re to co ke fw) (some (.int (nI (n - 1)))) (wM cI cZ a la (n - 1) cl go fo si it mo th ki va re to co ke fw) := by
  refine CM.ofI (by decide +kernel) (Nat.le_of_ble_eq_true rfl) (nar_int _) ?_
  intro p e s m args below meth c Q A G K hA w hret ls hl
  obtain ⟨hx, hb, hml, hown, hts⟩ := id G
  obtain ⟨hn, hcl, hgo, hth, hki, hva, hre, hsi, hco, hfw⟩ := id I
  have hl : lv_has ls 1 [(0, .ref (a 0))] := hl
  refine lv_aload_n hx hb dX6_undo_0 rfl (lv_at hl 0 rfl) ?_
  refine lv_aload_n hx hb dX6_undo_1 rfl (lv_at hl 0 rfl) ?_
  refine f_get G K w.1 inX6 0 (ci := 6) rfl rfl 13 rfl fl_X6_92 (v := .int (nI cl)) rfl dX6_undo_2 ?_
  refine callPV (As := [.int (nI cl)]) (rest := []) (q0 := 0) (ci := 6) G K F_X6_manyOf (c_X6_manyOf a la n cl go fo si it mo th ki va re to co ke fw cl I (by omega)) w.1 ml_X6_95 rfl rfl rfl (by decide) (by decide) rfl hl.1 (Nat.le_of_ble_eq_true rfl) dX6_undo_5 ?_
  have hf1 := cnt_le re cl n
  refine z_ne G (tgt := 14) (by omega) dX6_undo_8 (by decide) (fun c8 => ?_) (fun c8 => ?_)
  · -- taken at 8
    refine lv_aload_n hx hb dX6_undo_14 rfl (lv_at hl 0 rfl) ?_
    refine lv_dup hx hb dX6_undo_15 rfl ?_
    refine f_get G K w.1 inX6 0 (ci := 6) rfl rfl 5 rfl fl_X6_89 (v := .int (nI n)) rfl dX6_undo_16 ?_
    refine lv_iconst (v := (nI 1)) hx hb dX6_undo_19 (by decide) ?_
    refine t_sub G (by omega) dX6_undo_20 ?_
    refine f_put G K w inX6 tyX6 tyX6_ok nmX6 0 (ci := 6) rfl rfl 5 rfl fl_X6_89 rfl rfl rfl rfl dX6_undo_21 (w2 := (wM cI cZ a la (n - 1) cl go fo si it mo th ki va re to co ke fw)) rfl (fun Hp2 lo3 w => ?_)
    refine lv_aload_n hx hb dX6_undo_24 rfl (lv_at hl 0 rfl) ?_
    refine f_get G K w.1 inX6 0 (ci := 6) rfl rfl 5 rfl fl_X6_89 (v := .int (nI (n - 1))) rfl dX6_undo_25 ?_
    exact hret _ _ _ _ _ _ rfl rfl w dX6_undo_28
  · -- not taken at 8
    exact absurd c8 (by omega)
set_option maxHeartbeats 4000000 in
set_option maxRecDepth 100000 in
theorem c_X6_cover_bad (a : Nat → Nat) (la : Int32) (n : Nat) (cl : Nat) (go : Option Nat) (fo : Nat → Int32) (si : Nat → Nat) (it : Nat → Int32) (mo : Nat → Int32) (th : Nat → Nat) (ki : Nat → Nat) (va : Nat → Nat) (re : Nat → Nat) (to : Nat → Prop) (co : Nat → Nat) (ke : Nat → Int32) (fw : Nat → Nat) (x : Int32) (x1 : Int32) (x2 : Int32) (x3 : Int32) (x4 : Int32) (I : IM n cl go th ki va re si co fw) (hbad : ¬ (okW n x ∧ okC x1 x2 x3 x4)) : CM l D (TY cI cZ cS) yX6_cover cX6_cover 6 (some .int) 2 [.ref (a 0), .int x, .int x1, .int x2, .int x3, .int x4] (wM cI cZ a la n cl go fo si it mo th ki va re to co ke fw) (some (.int (-2))) (wM cI cZ a la n cl go fo si it mo th ki va re to co ke fw) := by
  refine CM.ofI (by decide +kernel) (Nat.le_of_ble_eq_true rfl) (nar_int _) ?_
  intro p e s m args below meth c Q A G K hA w hret ls hl
  obtain ⟨hx, hb, hml, hown, hts⟩ := id G
  obtain ⟨hn, hcl, hgo, hth, hki, hva, hre, hsi, hco, hfw⟩ := id I
  have hl : lv_has ls 6 [(0, .ref (a 0)), (1, .int x), (2, .int x1), (3, .int x2), (4, .int x3), (5, .int x4)] := hl
  refine lv_aload_n hx hb dX6_cover_0 rfl (lv_at hl 0 rfl) ?_
  refine lv_iload_n hx hb dX6_cover_1 rfl (lv_at hl 1 rfl) ?_
  refine callPV (As := [.int x]) (rest := []) (q0 := 0) (ci := 6) G K F_X6_isWrite (c_X6_isWrite a la n cl go fo si it mo th ki va re to co ke fw x I) w.1 ml_X6_106 rfl rfl rfl (by decide) (by decide) rfl hl.1 (Nat.le_of_ble_eq_true rfl) dX6_cover_2 ?_
  refine b_eq G (tgt := 20) dX6_cover_5 (by decide) (fun c5 => ?_) (fun c5 => ?_)
  · -- taken at 5
    refine lv_bipush (v := (-2)) hx hb dX6_cover_20 (by decide) ?_
    exact hret _ _ _ _ _ _ rfl rfl w dX6_cover_22
  · -- not taken at 5
    refine lv_iload_n hx hb dX6_cover_8 rfl (lv_at hl 2 rfl) ?_
    refine lv_iload_n hx hb dX6_cover_9 rfl (lv_at hl 3 rfl) ?_
    refine lv_iload hx hb dX6_cover_10 (lv_at hl 4 rfl) ?_
    refine lv_iload hx hb dX6_cover_12 (lv_at hl 5 rfl) ?_
    refine callPS (rest := []) G K F_X6_isCover (c_X6_isCover x1 x2 x3 x4) (va_P_nil D s.heap) ml_X6_109 (by decide) (by decide) rfl hl.1 (Nat.le_of_ble_eq_true rfl) dX6_cover_14 ?_
    refine b_ne G (tgt := 23) dX6_cover_17 (by decide) (fun c17 => ?_) (fun c17 => ?_)
    · -- taken at 17
      exact absurd ⟨c5, c17⟩ hbad
    · -- not taken at 17
      refine lv_bipush (v := (-2)) hx hb dX6_cover_20 (by decide) ?_
      exact hret _ _ _ _ _ _ rfl rfl w dX6_cover_22
set_option maxHeartbeats 4000000 in
set_option maxRecDepth 100000 in
theorem c_X6_cover_not (a : Nat → Nat) (la : Int32) (n : Nat) (cl : Nat) (go : Option Nat) (fo : Nat → Int32) (si : Nat → Nat) (it : Nat → Int32) (mo : Nat → Int32) (th : Nat → Nat) (ki : Nat → Nat) (va : Nat → Nat) (re : Nat → Nat) (to : Nat → Prop) (co : Nat → Nat) (ke : Nat → Int32) (fw : Nat → Nat) (k : Nat) (x1 : Int32) (x2 : Int32) (x3 : Int32) (x4 : Int32) (I : IM n cl go th ki va re si co fw) (hk9 : k < n) (hc9 : okC x1 x2 x3 x4) (hs9 : ¬ (ki k = 4 ∧ ¬ re k < cl)) : CM l D (TY cI cZ cS) yX6_cover cX6_cover 6 (some .int) 2 [.ref (a 0), .int (nI k), .int x1, .int x2, .int x3, .int x4] (wM cI cZ a la n cl go fo si it mo th ki va re to co ke fw) (some (.int (-3))) (wM cI cZ a la n cl go fo si it mo th ki va re to co ke fw) := by
  refine CM.ofI (by decide +kernel) (Nat.le_of_ble_eq_true rfl) (nar_int _) ?_
  intro p e s m args below meth c Q A G K hA w hret ls hl
  obtain ⟨hx, hb, hml, hown, hts⟩ := id G
  obtain ⟨hn, hcl, hgo, hth, hki, hva, hre, hsi, hco, hfw⟩ := id I
  have hl : lv_has ls 6 [(0, .ref (a 0)), (1, .int (nI k)), (2, .int x1), (3, .int x2), (4, .int x3), (5, .int x4)] := hl
  refine lv_aload_n hx hb dX6_cover_0 rfl (lv_at hl 0 rfl) ?_
  refine lv_iload_n hx hb dX6_cover_1 rfl (lv_at hl 1 rfl) ?_
  refine callPV (As := [.int (nI k)]) (rest := []) (q0 := 0) (ci := 6) G K F_X6_isWrite (c_X6_isWrite a la n cl go fo si it mo th ki va re to co ke fw (nI k) I) w.1 ml_X6_106 rfl rfl rfl (by decide) (by decide) rfl hl.1 (Nat.le_of_ble_eq_true rfl) dX6_cover_2 ?_
  refine b_eq G (tgt := 20) dX6_cover_5 (by decide) (fun c5 => ?_) (fun c5 => ?_)
  · -- taken at 5
    exact absurd ⟨k, hk9, rfl⟩ c5
  · -- not taken at 5
    refine lv_iload_n hx hb dX6_cover_8 rfl (lv_at hl 2 rfl) ?_
    refine lv_iload_n hx hb dX6_cover_9 rfl (lv_at hl 3 rfl) ?_
    refine lv_iload hx hb dX6_cover_10 (lv_at hl 4 rfl) ?_
    refine lv_iload hx hb dX6_cover_12 (lv_at hl 5 rfl) ?_
    refine callPS (rest := []) G K F_X6_isCover (c_X6_isCover x1 x2 x3 x4) (va_P_nil D s.heap) ml_X6_109 (by decide) (by decide) rfl hl.1 (Nat.le_of_ble_eq_true rfl) dX6_cover_14 ?_
    refine b_ne G (tgt := 23) dX6_cover_17 (by decide) (fun c17 => ?_) (fun c17 => ?_)
    · -- taken at 17
      refine lv_aload_n hx hb dX6_cover_23 rfl (lv_at hl 0 rfl) ?_
      refine lv_iload_n hx hb dX6_cover_24 rfl (lv_at hl 1 rfl) ?_
      refine callPV (As := [.int (nI k)]) (rest := []) (q0 := 0) (ci := 6) G K F_X6_isSeal (c_X6_isSeal a la n cl go fo si it mo th ki va re to co ke fw k I (by omega)) w.1 ml_X6_101 rfl rfl rfl (by decide) (by decide) rfl hl.1 (Nat.le_of_ble_eq_true rfl) dX6_cover_25 ?_
      refine b_eq G (tgt := 39) dX6_cover_28 (by decide) (fun c28 => ?_) (fun c28 => ?_)
      · -- taken at 28
        refine lv_bipush (v := (-3)) hx hb dX6_cover_39 (by decide) ?_
        exact hret _ _ _ _ _ _ rfl rfl w dX6_cover_41
      · -- not taken at 28
        refine lv_aload_n hx hb dX6_cover_31 rfl (lv_at hl 0 rfl) ?_
        refine lv_iload_n hx hb dX6_cover_32 rfl (lv_at hl 1 rfl) ?_
        refine callPV (As := [.int (nI k)]) (rest := []) (q0 := 0) (ci := 6) G K F_X6_isClosed (c_X6_isClosed a la n cl go fo si it mo th ki va re to co ke fw k I (by omega)) w.1 ml_X6_113 rfl rfl rfl (by decide) (by decide) rfl hl.1 (Nat.le_of_ble_eq_true rfl) dX6_cover_33 ?_
        refine b_eq G (tgt := 42) dX6_cover_36 (by decide) (fun c36 => ?_) (fun c36 => ?_)
        · -- taken at 36
          exact absurd ⟨c28, fun q => c36 ⟨c28, q⟩⟩ hs9
        · -- not taken at 36
          refine lv_bipush (v := (-3)) hx hb dX6_cover_39 (by decide) ?_
          exact hret _ _ _ _ _ _ rfl rfl w dX6_cover_41
    · -- not taken at 17
      exact absurd hc9 c17
set_option maxHeartbeats 4000000 in
set_option maxRecDepth 100000 in
theorem c_X6_cover_ok (a : Nat → Nat) (la : Int32) (n : Nat) (cl : Nat) (go : Option Nat) (fo : Nat → Int32) (si : Nat → Nat) (it : Nat → Int32) (mo : Nat → Int32) (th : Nat → Nat) (ki : Nat → Nat) (va : Nat → Nat) (re : Nat → Nat) (to : Nat → Prop) (co : Nat → Nat) (ke : Nat → Int32) (fw : Nat → Nat) (k : Nat) (x1 : Nat) (x2 : Nat) (x3 : Nat) (x4 : Nat) (I : IM n cl go th ki va re si co fw) (hk9 : k < n) (hc9 : okC (nI x1) (nI x2) (nI x3) (nI x4)) (hs9 : ki k = 4) (hr9 : ¬ re k < cl) : CM l D (TY cI cZ cS) yX6_cover cX6_cover 6 (some .int) 2 [.ref (a 0), .int (nI k), .int (nI x1), .int (nI x2), .int (nI x3), .int (nI x4)] (wM cI cZ a la n cl go fo si it mo th ki va re to co ke fw) (some (.int (nI 1))) (wM cI cZ a la n cl go fo si it mo th ki va re (va_up to k True) (va_up (va_up (va_up (va_up co (4 * k) x1) (4 * k + 1) x2) (4 * k + 2) x3) (4 * k + 3) x4) ke fw) := by
  refine CM.ofI (by decide +kernel) (Nat.le_of_ble_eq_true rfl) (nar_int _) ?_
  intro p e s m args below meth c Q A G K hA w hret ls hl
  obtain ⟨hx, hb, hml, hown, hts⟩ := id G
  obtain ⟨hn, hcl, hgo, hth, hki, hva, hre, hsi, hco, hfw⟩ := id I
  have hl : lv_has ls 6 [(0, .ref (a 0)), (1, .int (nI k)), (2, .int (nI x1)), (3, .int (nI x2)), (4, .int (nI x3)), (5, .int (nI x4))] := hl
  refine lv_aload_n hx hb dX6_cover_0 rfl (lv_at hl 0 rfl) ?_
  refine lv_iload_n hx hb dX6_cover_1 rfl (lv_at hl 1 rfl) ?_
  refine callPV (As := [.int (nI k)]) (rest := []) (q0 := 0) (ci := 6) G K F_X6_isWrite (c_X6_isWrite a la n cl go fo si it mo th ki va re to co ke fw (nI k) I) w.1 ml_X6_106 rfl rfl rfl (by decide) (by decide) rfl hl.1 (Nat.le_of_ble_eq_true rfl) dX6_cover_2 ?_
  refine b_eq G (tgt := 20) dX6_cover_5 (by decide) (fun c5 => ?_) (fun c5 => ?_)
  · -- taken at 5
    exact absurd ⟨k, hk9, rfl⟩ c5
  · -- not taken at 5
    refine lv_iload_n hx hb dX6_cover_8 rfl (lv_at hl 2 rfl) ?_
    refine lv_iload_n hx hb dX6_cover_9 rfl (lv_at hl 3 rfl) ?_
    refine lv_iload hx hb dX6_cover_10 (lv_at hl 4 rfl) ?_
    refine lv_iload hx hb dX6_cover_12 (lv_at hl 5 rfl) ?_
    refine callPS (rest := []) G K F_X6_isCover (c_X6_isCover (nI x1) (nI x2) (nI x3) (nI x4)) (va_P_nil D s.heap) ml_X6_109 (by decide) (by decide) rfl hl.1 (Nat.le_of_ble_eq_true rfl) dX6_cover_14 ?_
    refine b_ne G (tgt := 23) dX6_cover_17 (by decide) (fun c17 => ?_) (fun c17 => ?_)
    · -- taken at 17
      refine lv_aload_n hx hb dX6_cover_23 rfl (lv_at hl 0 rfl) ?_
      refine lv_iload_n hx hb dX6_cover_24 rfl (lv_at hl 1 rfl) ?_
      refine callPV (As := [.int (nI k)]) (rest := []) (q0 := 0) (ci := 6) G K F_X6_isSeal (c_X6_isSeal a la n cl go fo si it mo th ki va re to co ke fw k I (by omega)) w.1 ml_X6_101 rfl rfl rfl (by decide) (by decide) rfl hl.1 (Nat.le_of_ble_eq_true rfl) dX6_cover_25 ?_
      refine b_eq G (tgt := 39) dX6_cover_28 (by decide) (fun c28 => ?_) (fun c28 => ?_)
      · -- taken at 28
        exact absurd hs9 c28
      · -- not taken at 28
        refine lv_aload_n hx hb dX6_cover_31 rfl (lv_at hl 0 rfl) ?_
        refine lv_iload_n hx hb dX6_cover_32 rfl (lv_at hl 1 rfl) ?_
        refine callPV (As := [.int (nI k)]) (rest := []) (q0 := 0) (ci := 6) G K F_X6_isClosed (c_X6_isClosed a la n cl go fo si it mo th ki va re to co ke fw k I (by omega)) w.1 ml_X6_113 rfl rfl rfl (by decide) (by decide) rfl hl.1 (Nat.le_of_ble_eq_true rfl) dX6_cover_33 ?_
        refine b_eq G (tgt := 42) dX6_cover_36 (by decide) (fun c36 => ?_) (fun c36 => ?_)
        · -- taken at 36
          refine lv_aload_n hx hb dX6_cover_42 rfl (lv_at hl 0 rfl) ?_
          refine f_get G K w.1 inX6 0 (ci := 6) rfl rfl 10 rfl fl_X6_34 (v := .ref (a 9)) rfl dX6_cover_43 ?_
          refine lv_iload_n hx hb dX6_cover_46 rfl (lv_at hl 1 rfl) ?_
          refine lv_iconst (v := (nI 1)) hx hb dX6_cover_47 (by decide) ?_
          refine a_stB G K w 9 1 (a := (a 9)) rfl rfl (by omega) (by decide) (q := True) (bI_t trivial).symm dX6_cover_48 (w2 := (wM cI cZ a la n cl go fo si it mo th ki va re (va_up to k True) co ke fw)) rfl (fun Hp1 lo2 w => ?_)
          refine lv_aload_n hx hb dX6_cover_49 rfl (lv_at hl 0 rfl) ?_
          refine f_get G K w.1 inX6 0 (ci := 6) rfl rfl 11 rfl fl_X6_38 (v := .ref (a 10)) rfl dX6_cover_50 ?_
          refine lv_iconst (v := (nI 4)) hx hb dX6_cover_53 (by decide) ?_
          refine lv_iload_n hx hb dX6_cover_54 rfl (lv_at hl 1 rfl) ?_
          refine t_mul G dX6_cover_55 ?_
          refine lv_iload_n hx hb dX6_cover_56 rfl (lv_at hl 2 rfl) ?_
          refine a_stN G K w 10 0 (a := (a 10)) rfl rfl (by omega) (by decide) dX6_cover_57 (w2 := (wM cI cZ a la n cl go fo si it mo th ki va re (va_up to k True) (va_up co (4 * k) x1) ke fw)) rfl (fun Hp3 lo4 w => ?_)
          refine lv_aload_n hx hb dX6_cover_58 rfl (lv_at hl 0 rfl) ?_
          refine f_get G K w.1 inX6 0 (ci := 6) rfl rfl 11 rfl fl_X6_38 (v := .ref (a 10)) rfl dX6_cover_59 ?_
          refine lv_iconst (v := (nI 4)) hx hb dX6_cover_62 (by decide) ?_
          refine lv_iload_n hx hb dX6_cover_63 rfl (lv_at hl 1 rfl) ?_
          refine t_mul G dX6_cover_64 ?_
          refine lv_iconst (v := (nI 1)) hx hb dX6_cover_65 (by decide) ?_
          refine t_add G dX6_cover_66 ?_
          refine lv_iload_n hx hb dX6_cover_67 rfl (lv_at hl 3 rfl) ?_
          refine a_stN G K w 10 0 (a := (a 10)) rfl rfl (by omega) (by decide) dX6_cover_68 (w2 := (wM cI cZ a la n cl go fo si it mo th ki va re (va_up to k True) (va_up (va_up co (4 * k) x1) (4 * k + 1) x2) ke fw)) rfl (fun Hp5 lo6 w => ?_)
          refine lv_aload_n hx hb dX6_cover_69 rfl (lv_at hl 0 rfl) ?_
          refine f_get G K w.1 inX6 0 (ci := 6) rfl rfl 11 rfl fl_X6_38 (v := .ref (a 10)) rfl dX6_cover_70 ?_
          refine lv_iconst (v := (nI 4)) hx hb dX6_cover_73 (by decide) ?_
          refine lv_iload_n hx hb dX6_cover_74 rfl (lv_at hl 1 rfl) ?_
          refine t_mul G dX6_cover_75 ?_
          refine lv_iconst (v := (nI 2)) hx hb dX6_cover_76 (by decide) ?_
          refine t_add G dX6_cover_77 ?_
          refine lv_iload hx hb dX6_cover_78 (lv_at hl 4 rfl) ?_
          refine a_stN G K w 10 0 (a := (a 10)) rfl rfl (by omega) (by decide) dX6_cover_80 (w2 := (wM cI cZ a la n cl go fo si it mo th ki va re (va_up to k True) (va_up (va_up (va_up co (4 * k) x1) (4 * k + 1) x2) (4 * k + 2) x3) ke fw)) rfl (fun Hp7 lo8 w => ?_)
          refine lv_aload_n hx hb dX6_cover_81 rfl (lv_at hl 0 rfl) ?_
          refine f_get G K w.1 inX6 0 (ci := 6) rfl rfl 11 rfl fl_X6_38 (v := .ref (a 10)) rfl dX6_cover_82 ?_
          refine lv_iconst (v := (nI 4)) hx hb dX6_cover_85 (by decide) ?_
          refine lv_iload_n hx hb dX6_cover_86 rfl (lv_at hl 1 rfl) ?_
          refine t_mul G dX6_cover_87 ?_
          refine lv_iconst (v := (nI 3)) hx hb dX6_cover_88 (by decide) ?_
          refine t_add G dX6_cover_89 ?_
          refine lv_iload hx hb dX6_cover_90 (lv_at hl 5 rfl) ?_
          refine a_stN G K w 10 0 (a := (a 10)) rfl rfl (by omega) (by decide) dX6_cover_92 (w2 := (wM cI cZ a la n cl go fo si it mo th ki va re (va_up to k True) (va_up (va_up (va_up (va_up co (4 * k) x1) (4 * k + 1) x2) (4 * k + 2) x3) (4 * k + 3) x4) ke fw)) rfl (fun Hp9 lo10 w => ?_)
          refine lv_iconst (v := (nI 1)) hx hb dX6_cover_93 (by decide) ?_
          exact hret _ _ _ _ _ _ rfl rfl w dX6_cover_94
        · -- not taken at 36
          exact absurd c36.2 hr9
    · -- not taken at 17
      exact absurd hc9 c17
set_option maxHeartbeats 4000000 in
set_option maxRecDepth 100000 in
theorem c_X6_alter_bad (a : Nat → Nat) (la : Int32) (n : Nat) (cl : Nat) (go : Option Nat) (fo : Nat → Int32) (si : Nat → Nat) (it : Nat → Int32) (mo : Nat → Int32) (th : Nat → Nat) (ki : Nat → Nat) (va : Nat → Nat) (re : Nat → Nat) (to : Nat → Prop) (co : Nat → Nat) (ke : Nat → Int32) (fw : Nat → Nat) (x : Int32) (v : Int32) (I : IM n cl go th ki va re si co fw) (hbad : ¬ ∃ k v9, k < n ∧ okV (ki k) v9 ∧ x = nI k ∧ v = nI v9) : CM l D (TY cI cZ cS) yX6_alter cX6_alter 4 (some .int) 2 [.ref (a 0), .int x, .int v] (wM cI cZ a la n cl go fo si it mo th ki va re to co ke fw) (some (.int (-2))) (wM cI cZ a la n cl go fo si it mo th ki va re to co ke fw) := by
  refine CM.ofI (by decide +kernel) (Nat.le_of_ble_eq_true rfl) (nar_int _) ?_
  intro p e s m args below meth c Q A G K hA w hret ls hl
  obtain ⟨hx, hb, hml, hown, hts⟩ := id G
  obtain ⟨hn, hcl, hgo, hth, hki, hva, hre, hsi, hco, hfw⟩ := id I
  have hl : lv_has ls 4 [(0, .ref (a 0)), (1, .int x), (2, .int v)] := hl
  refine lv_aload_n hx hb dX6_alter_0 rfl (lv_at hl 0 rfl) ?_
  refine lv_iload_n hx hb dX6_alter_1 rfl (lv_at hl 1 rfl) ?_
  refine callPV (As := [.int x]) (rest := []) (q0 := 0) (ci := 6) G K F_X6_isWrite (c_X6_isWrite a la n cl go fo si it mo th ki va re to co ke fw x I) w.1 ml_X6_106 rfl rfl rfl (by decide) (by decide) rfl hl.1 (Nat.le_of_ble_eq_true rfl) dX6_alter_2 ?_
  refine b_eq G (tgt := 21) dX6_alter_5 (by decide) (fun c5 => ?_) (fun c5 => ?_)
  · -- taken at 5
    refine lv_bipush (v := (-2)) hx hb dX6_alter_21 (by decide) ?_
    exact hret _ _ _ _ _ _ rfl rfl w dX6_alter_23
  · -- not taken at 5
    obtain ⟨k, hk, rfl⟩ := c5
    refine lv_aload_n hx hb dX6_alter_8 rfl (lv_at hl 0 rfl) ?_
    refine f_get G K w.1 inX6 0 (ci := 6) rfl rfl 7 rfl fl_X6_25 (v := .ref (a 6)) rfl dX6_alter_9 ?_
    refine lv_iload_n hx hb dX6_alter_12 rfl (lv_at hl 1 rfl) ?_
    refine a_ldN G K w.1 6 0 (a := (a 6)) rfl rfl (by omega) (by decide) dX6_alter_13 ?_
    have hb1 := hki k
    refine lv_iload_n hx hb dX6_alter_14 rfl (lv_at hl 2 rfl) ?_
    refine callPS (rest := []) G K F_X6_isValue (c_X6_isValue (nI (ki k)) v) (va_P_nil D s.heap) ml_X6_85 (by decide) (by decide) rfl hl.1 (Nat.le_of_ble_eq_true rfl) dX6_alter_15 ?_
    refine b_ne G (tgt := 24) dX6_alter_18 (by decide) (fun c18 => ?_) (fun c18 => ?_)
    · -- taken at 18
      obtain ⟨v9, hv9, rfl⟩ := (val_iff (hki k)).mp c18
      exact absurd ⟨k, v9, hk, hv9, rfl, rfl⟩ hbad
    · -- not taken at 18
      refine lv_bipush (v := (-2)) hx hb dX6_alter_21 (by decide) ?_
      exact hret _ _ _ _ _ _ rfl rfl w dX6_alter_23
set_option maxHeartbeats 4000000 in
set_option maxRecDepth 100000 in
theorem c_X6_alter_ok (a : Nat → Nat) (la : Int32) (n : Nat) (cl : Nat) (go : Option Nat) (fo : Nat → Int32) (si : Nat → Nat) (it : Nat → Int32) (mo : Nat → Int32) (th : Nat → Nat) (ki : Nat → Nat) (va : Nat → Nat) (re : Nat → Nat) (to : Nat → Prop) (co : Nat → Nat) (ke : Nat → Int32) (fw : Nat → Nat) (k : Nat) (v : Nat) (I : IM n cl go th ki va re si co fw) (hk9 : k < n) (hv9 : okV (ki k) v) : CM l D (TY cI cZ cS) yX6_alter cX6_alter 4 (some .int) 2 [.ref (a 0), .int (nI k), .int (nI v)] (wM cI cZ a la n cl go fo si it mo th ki va re to co ke fw) (some (.int (nI (va k)))) (wM cI cZ a la n cl go fo si it mo th ki (va_up va k v) re to co ke fw) := by
  refine CM.ofI (by decide +kernel) (Nat.le_of_ble_eq_true rfl) (nar_int _) ?_
  intro p e s m args below meth c Q A G K hA w hret ls hl
  obtain ⟨hx, hb, hml, hown, hts⟩ := id G
  obtain ⟨hn, hcl, hgo, hth, hki, hva, hre, hsi, hco, hfw⟩ := id I
  have hv8 := okV_le hv9
  have hl : lv_has ls 4 [(0, .ref (a 0)), (1, .int (nI k)), (2, .int (nI v))] := hl
  refine lv_aload_n hx hb dX6_alter_0 rfl (lv_at hl 0 rfl) ?_
  refine lv_iload_n hx hb dX6_alter_1 rfl (lv_at hl 1 rfl) ?_
  refine callPV (As := [.int (nI k)]) (rest := []) (q0 := 0) (ci := 6) G K F_X6_isWrite (c_X6_isWrite a la n cl go fo si it mo th ki va re to co ke fw (nI k) I) w.1 ml_X6_106 rfl rfl rfl (by decide) (by decide) rfl hl.1 (Nat.le_of_ble_eq_true rfl) dX6_alter_2 ?_
  refine b_eq G (tgt := 21) dX6_alter_5 (by decide) (fun c5 => ?_) (fun c5 => ?_)
  · -- taken at 5
    exact absurd ⟨k, hk9, rfl⟩ c5
  · -- not taken at 5
    refine lv_aload_n hx hb dX6_alter_8 rfl (lv_at hl 0 rfl) ?_
    refine f_get G K w.1 inX6 0 (ci := 6) rfl rfl 7 rfl fl_X6_25 (v := .ref (a 6)) rfl dX6_alter_9 ?_
    refine lv_iload_n hx hb dX6_alter_12 rfl (lv_at hl 1 rfl) ?_
    refine a_ldN G K w.1 6 0 (a := (a 6)) rfl rfl (by omega) (by decide) dX6_alter_13 ?_
    have hb1 := hki k
    refine lv_iload_n hx hb dX6_alter_14 rfl (lv_at hl 2 rfl) ?_
    refine callPS (rest := []) G K F_X6_isValue (c_X6_isValue (nI (ki k)) (nI v)) (va_P_nil D s.heap) ml_X6_85 (by decide) (by decide) rfl hl.1 (Nat.le_of_ble_eq_true rfl) dX6_alter_15 ?_
    refine b_ne G (tgt := 24) dX6_alter_18 (by decide) (fun c18 => ?_) (fun c18 => ?_)
    · -- taken at 18
      refine lv_aload_n hx hb dX6_alter_24 rfl (lv_at hl 0 rfl) ?_
      refine f_get G K w.1 inX6 0 (ci := 6) rfl rfl 8 rfl fl_X6_28 (v := .ref (a 7)) rfl dX6_alter_25 ?_
      refine lv_iload_n hx hb dX6_alter_28 rfl (lv_at hl 1 rfl) ?_
      refine a_ldN G K w.1 7 0 (a := (a 7)) rfl rfl (by omega) (by decide) dX6_alter_29 ?_
      have hb2 := hva k
      refine lv_istore_n (lv' := [(3, .int (nI (va k))), (0, .ref (a 0)), (1, .int (nI k)), (2, .int (nI v))]) hx hb dX6_alter_30 rfl hl (by decide) rfl (fun ls hl => ?_)
      refine lv_aload_n hx hb dX6_alter_31 rfl (lv_at hl 1 rfl) ?_
      refine f_get G K w.1 inX6 0 (ci := 6) rfl rfl 8 rfl fl_X6_28 (v := .ref (a 7)) rfl dX6_alter_32 ?_
      refine lv_iload_n hx hb dX6_alter_35 rfl (lv_at hl 2 rfl) ?_
      refine lv_iload_n hx hb dX6_alter_36 rfl (lv_at hl 3 rfl) ?_
      refine a_stN G K w 7 0 (a := (a 7)) rfl rfl (by omega) (by decide) dX6_alter_37 (w2 := (wM cI cZ a la n cl go fo si it mo th ki (va_up va k v) re to co ke fw)) rfl (fun Hp3 lo4 w => ?_)
      refine lv_iload_n hx hb dX6_alter_38 rfl (lv_at hl 0 rfl) ?_
      exact hret _ _ _ _ _ _ rfl rfl w dX6_alter_39
    · -- not taken at 18
      exact absurd ((val_iff (hki k)).mpr ⟨v, hv9, rfl⟩) c18
set_option maxHeartbeats 4000000 in
set_option maxRecDepth 100000 in
theorem c_X6_looks (a : Nat → Nat) (la : Int32) (n : Nat) (cl : Nat) (go : Option Nat) (fo : Nat → Int32) (si : Nat → Nat) (it : Nat → Int32) (mo : Nat → Int32) (th : Nat → Nat) (ki : Nat → Nat) (va : Nat → Nat) (re : Nat → Nat) (to : Nat → Prop) (co : Nat → Nat) (ke : Nat → Int32) (fw : Nat → Nat) (I : IM n cl go th ki va re si co fw) : CM l D (TY cI cZ cS) yX6_looks cX6_looks 2 none 7 [.ref (a 0)] (wM cI cZ a la n cl go fo si it mo th ki va re to co ke fw) none (wM cI cZ a la n cl go fo si it mo th ki va re to co ke (lkA th ki va re n cl to co ke fw)) := by
  refine CM.ofV (by decide +kernel) (Nat.le_of_ble_eq_true rfl) ?_
  intro p e s m args below meth c Q A G K hA w hret ls hl
  obtain ⟨hx, hb, hml, hown, hts⟩ := id G
  obtain ⟨hn, hcl, hgo, hth, hki, hva, hre, hsi, hco, hfw⟩ := id I
  have hl : lv_has ls 2 [(0, .ref (a 0))] := hl
  refine lv_iconst (v := (nI 0)) hx hb dX6_looks_0 (by decide) ?_
  refine lv_istore_n (lv' := [(1, .int (nI 0)), (0, .ref (a 0))]) hx hb dX6_looks_1 rfl hl (by decide) rfl (fun ls hl => ?_)
  have L2 : ∀ (d i : Nat), 0 ≤ i → i + d = n → ∀ (H : Heap) (locs : List Loc), WW D A s.heap (wM cI cZ a la n cl go fo si it mo th ki va re to co ke (lkF (cls ki re cl) (flO th ki va re n cl to co ke) fw i)) H locs → ∀ (ls : Array Slot), lv_has ls 2 [(0, .ref (a 0)), (1, .int (nI i))] → W p l e (RM 7) s m args below meth c H locs 0 0 Q (F0 m 2 ls []) := by
    intro d
    induction d with
    | zero =>
      intro i hlo2 hhi2 H locs w ls hl
      have I2 : IM n cl go th ki va re si co (lkF (cls ki re cl) (flO th ki va re n cl to co ke) fw i) := IM_fw I (lkF_le (flO_le th ki va re n cl to co ke) hfw i)
      refine lv_iload_n hx hb dX6_looks_2 rfl (lv_at hl 1 rfl) ?_
      refine lv_aload_n hx hb dX6_looks_3 rfl (lv_at hl 0 rfl) ?_
      refine f_get G K w.1 inX6 0 (ci := 6) rfl rfl 5 rfl fl_X6_89 (v := .int (nI n)) rfl dX6_looks_4 ?_
      refine c_ge G (tgt := 39) (by omega) (by omega) dX6_looks_7 (by decide) (fun c7 => ?_) (fun c7 => ?_)
      · -- taken at 7
        exact hret _ _ _ _ _ (by unfold lkA; rw [show i = n by omega]) w dX6_looks_39
      · -- not taken at 7
        exact absurd c7 (by omega)
    | succ d ih =>
      intro i hlo2 hhi2 H locs w ls hl
      have I2 : IM n cl go th ki va re si co (lkF (cls ki re cl) (flO th ki va re n cl to co ke) fw i) := IM_fw I (lkF_le (flO_le th ki va re n cl to co ke) hfw i)
      refine lv_iload_n hx hb dX6_looks_2 rfl (lv_at hl 1 rfl) ?_
      refine lv_aload_n hx hb dX6_looks_3 rfl (lv_at hl 0 rfl) ?_
      refine f_get G K w.1 inX6 0 (ci := 6) rfl rfl 5 rfl fl_X6_89 (v := .int (nI n)) rfl dX6_looks_4 ?_
      refine c_ge G (tgt := 39) (by omega) (by omega) dX6_looks_7 (by decide) (fun c7 => ?_) (fun c7 => ?_)
      · -- taken at 7
        exact absurd c7 (by omega)
      · -- not taken at 7
        refine lv_aload_n hx hb dX6_looks_10 rfl (lv_at hl 0 rfl) ?_
        refine f_get G K w.1 inX6 0 (ci := 6) rfl rfl 15 rfl fl_X6_48 (v := .ref (a 12)) rfl dX6_looks_11 ?_
        refine lv_iload_n hx hb dX6_looks_14 rfl (lv_at hl 1 rfl) ?_
        refine lv_aload_n hx hb dX6_looks_15 rfl (lv_at hl 0 rfl) ?_
        refine lv_iload_n hx hb dX6_looks_16 rfl (lv_at hl 1 rfl) ?_
        refine callPV (As := [.int (nI i)]) (rest := [.int (nI i), .ref (a 12)]) (q0 := 0) (ci := 6) G K F_X6_isClosed (c_X6_isClosed a la n cl go fo si it mo th ki va re to co ke (lkF (cls ki re cl) (flO th ki va re n cl to co ke) fw i) i I2 (by omega)) w.1 ml_X6_113 rfl rfl rfl (by decide) (by decide) rfl hl.1 (Nat.le_of_ble_eq_true rfl) dX6_looks_17 ?_
        refine b_eq G (tgt := 31) dX6_looks_20 (by decide) (fun c20 => ?_) (fun c20 => ?_)
        · -- taken at 20
          refine lv_iconst (v := (nI 0)) hx hb dX6_looks_31 (by decide) ?_
          refine t_i (y := (nI (cif (cls ki re cl i) (flO th ki va re n cl to co ke i) 0))) (congrArg nI (by first | exact (cif_t (q := cls ki re cl i) c20).symm | exact (cif_f (q := cls ki re cl i) c20).symm)) ?_
          refine a_stN G K w 12 0 (a := (a 12)) rfl rfl (by omega) (by decide) dX6_looks_32 (w2 := (wM cI cZ a la n cl go fo si it mo th ki va re to co ke (va_up (lkF (cls ki re cl) (flO th ki va re n cl to co ke) fw i) i (cif (cls ki re cl i) (flO th ki va re n cl to co ke i) 0)))) rfl (fun Hp1 lo2 w => ?_)
          refine lv_iinc (v := (nI (i + 1))) (lv' := [(1, .int (nI (i + 1))), (0, .ref (a 0))]) hx hb dX6_looks_33 hl (k := 1) rfl (nI_inc _ 1) (by decide) rfl (fun ls hl => ?_)
          refine lv_goto (tgt := 2) hx hb dX6_looks_36 (by decide) ?_
          -- slot 1: have n:i + 1, want n:(i + 1)
          exact ih (i + 1) (by omega) (by omega) Hp1 lo2 w ls (lv_sub hl [1, 0] rfl)
        · -- not taken at 20
          refine lv_aload_n hx hb dX6_looks_23 rfl (lv_at hl 0 rfl) ?_
          refine lv_iload_n hx hb dX6_looks_24 rfl (lv_at hl 1 rfl) ?_
          refine callPV (As := [.int (nI i)]) (rest := [.int (nI i), .ref (a 12)]) (q0 := 0) (ci := 6) G K F_X6_flawsOf (c_X6_flawsOf a la n cl go fo si it mo th ki va re to co ke (lkF (cls ki re cl) (flO th ki va re n cl to co ke) fw i) i I2 (by omega)) w.1 ml_X6_185 rfl rfl rfl (by decide) (by decide) rfl hl.1 (Nat.le_of_ble_eq_true rfl) dX6_looks_25 ?_
          have hf3 := flO_le th ki va re n cl to co ke i
          refine lv_goto (tgt := 32) hx hb dX6_looks_28 (by decide) ?_
          refine t_i (y := (nI (cif (cls ki re cl i) (flO th ki va re n cl to co ke i) 0))) (congrArg nI (by first | exact (cif_t (q := cls ki re cl i) c20).symm | exact (cif_f (q := cls ki re cl i) c20).symm)) ?_
          refine a_stN G K w 12 0 (a := (a 12)) rfl rfl (by omega) (by decide) dX6_looks_32 (w2 := (wM cI cZ a la n cl go fo si it mo th ki va re to co ke (va_up (lkF (cls ki re cl) (flO th ki va re n cl to co ke) fw i) i (cif (cls ki re cl i) (flO th ki va re n cl to co ke i) 0)))) rfl (fun Hp4 lo5 w => ?_)
          refine lv_iinc (v := (nI (i + 1))) (lv' := [(1, .int (nI (i + 1))), (0, .ref (a 0))]) hx hb dX6_looks_33 hl (k := 1) rfl (nI_inc _ 1) (by decide) rfl (fun ls hl => ?_)
          refine lv_goto (tgt := 2) hx hb dX6_looks_36 (by decide) ?_
          -- slot 1: have n:i + 1, want n:(i + 1)
          exact ih (i + 1) (by omega) (by omega) Hp4 lo5 w ls (lv_sub hl [1, 0] rfl)
  exact L2 (n - 0) (0) (Nat.le_refl _) (by omega) s.heap [] w ls (lv_sub hl [1, 0] rfl)
set_option maxHeartbeats 4000000 in
set_option maxRecDepth 100000 in
theorem c_X6_holdingBy (a : Nat → Nat) (la : Int32) (n : Nat) (cl : Nat) (go : Option Nat) (fo : Nat → Int32) (si : Nat → Nat) (it : Nat → Int32) (mo : Nat → Int32) (th : Nat → Nat) (ki : Nat → Nat) (va : Nat → Nat) (re : Nat → Nat) (to : Nat → Prop) (co : Nat → Nat) (ke : Nat → Int32) (fw : Nat → Nat) (q : Nat) (I : IM n cl go th ki va re si co fw) (hq9 : q < 2 ^ 31) : CM l D (TY cI cZ cS) yX6_holdingBy cX6_holdingBy 2 (some .int) 8 [.ref (a 0), .int (nI q)] (wM cI cZ a la n cl go fo si it mo th ki va re to co ke fw) (some (.int (nI (cif (q = 0) (hoN th ki va re go n cl to co ke) (cntP (cls ki re cl) n))))) (wM cI cZ a la n cl go fo si it mo th ki va re to co ke (lkA th ki va re n cl to co ke fw)) := by
  refine CM.ofI (by decide +kernel) (Nat.le_of_ble_eq_true rfl) (nar_int _) ?_
  intro p e s m args below meth c Q A G K hA w hret ls hl
  obtain ⟨hx, hb, hml, hown, hts⟩ := id G
  obtain ⟨hn, hcl, hgo, hth, hki, hva, hre, hsi, hco, hfw⟩ := id I
  have I2 : IM n cl go th ki va re si co (lkA th ki va re n cl to co ke fw) := IM_fw I (lkA_le th ki va re n cl to co ke hfw)
  have hl : lv_has ls 2 [(0, .ref (a 0)), (1, .int (nI q))] := hl
  refine lv_aload_n hx hb dX6_holdingBy_0 rfl (lv_at hl 0 rfl) ?_
  refine callMF (As := []) (rest := []) (q0 := 0) (ci := 6) (ws' := (wM cI cZ a la n cl go fo si it mo th ki va re to co ke (lkA th ki va re n cl to co ke fw))) G K hA w F_X6_looks (c_X6_looks a la n cl go fo si it mo th ki va re to co ke fw I) ml_X6_230 rfl rfl rfl (by decide) (by decide) rfl hl.1 (Nat.le_of_ble_eq_true rfl) dX6_holdingBy_1 (fun Hp1 lo2 w => ?_)
  refine lv_iload_n hx hb dX6_holdingBy_4 rfl (lv_at hl 1 rfl) ?_
  refine z_ne G (tgt := 15) (by omega) dX6_holdingBy_5 (by decide) (fun c5 => ?_) (fun c5 => ?_)
  · -- taken at 5
    refine lv_aload_n hx hb dX6_holdingBy_15 rfl (lv_at hl 0 rfl) ?_
    refine callPV (As := []) (rest := []) (q0 := 0) (ci := 6) G K F_X6_manySeals (c_X6_manySeals a la n cl go fo si it mo th ki va re to co ke (lkA th ki va re n cl to co ke fw) I2) w.1 ml_X6_236 rfl rfl rfl (by decide) (by decide) rfl hl.1 (Nat.le_of_ble_eq_true rfl) dX6_holdingBy_16 ?_
    exact hret _ _ _ _ _ _ (congrArg nI (by first | (rw [cif_t c5]; exact mho_lk th ki va re go n cl to co ke fw) | rw [cif_f (by omega)])) rfl w dX6_holdingBy_19
  · -- not taken at 5
    refine lv_aload_n hx hb dX6_holdingBy_8 rfl (lv_at hl 0 rfl) ?_
    refine callPV (As := []) (rest := []) (q0 := 0) (ci := 6) G K F_X6_manyHold (c_X6_manyHold a la n cl go fo si it mo th ki va re to co ke (lkA th ki va re n cl to co ke fw) I2) w.1 ml_X6_233 rfl rfl rfl (by decide) (by decide) rfl hl.1 (Nat.le_of_ble_eq_true rfl) dX6_holdingBy_9 ?_
    have hf3 := mho_le th ki va re go n cl (lkA th ki va re n cl to co ke fw) n
    refine lv_goto (tgt := 19) hx hb dX6_holdingBy_12 (by decide) ?_
    exact hret _ _ _ _ _ _ (congrArg nI (by first | (rw [cif_t c5]; exact mho_lk th ki va re go n cl to co ke fw) | rw [cif_f (by omega)])) rfl w dX6_holdingBy_19
set_option maxHeartbeats 4000000 in
set_option maxRecDepth 100000 in
theorem c_X6_holding_bad (a : Nat → Nat) (la : Int32) (n : Nat) (cl : Nat) (go : Option Nat) (fo : Nat → Int32) (si : Nat → Nat) (it : Nat → Int32) (mo : Nat → Int32) (th : Nat → Nat) (ki : Nat → Nat) (va : Nat → Nat) (re : Nat → Nat) (to : Nat → Prop) (co : Nat → Nat) (ke : Nat → Int32) (fw : Nat → Nat) (x : Int32) (I : IM n cl go th ki va re si co fw) (hbad : ¬ okR 1 x) : CM l D (TY cI cZ cS) yX6_holding cX6_holding 2 (some .int) 9 [.ref (a 0), .int x] (wM cI cZ a la n cl go fo si it mo th ki va re to co ke fw) (some (.int (-2))) (wM cI cZ a la n cl go fo si it mo th ki va re to co ke fw) := by
  refine CM.ofI (by decide +kernel) (Nat.le_of_ble_eq_true rfl) (nar_int _) ?_
  intro p e s m args below meth c Q A G K hA w hret ls hl
  obtain ⟨hx, hb, hml, hown, hts⟩ := id G
  obtain ⟨hn, hcl, hgo, hth, hki, hva, hre, hsi, hco, hfw⟩ := id I
  have hl : lv_has ls 2 [(0, .ref (a 0)), (1, .int x)] := hl
  refine lv_iload_n hx hb dX6_holding_0 rfl (lv_at hl 1 rfl) ?_
  refine callPS (rest := []) G K F_X6_isTwo (c_X6_isTwo x) (va_P_nil D s.heap) ml_X6_179 (by decide) (by decide) rfl hl.1 (Nat.le_of_ble_eq_true rfl) dX6_holding_1 ?_
  refine b_eq G (tgt := 15) dX6_holding_4 (by decide) (fun c4 => ?_) (fun c4 => ?_)
  · -- taken at 4
    refine lv_bipush (v := (-2)) hx hb dX6_holding_15 (by decide) ?_
    exact hret _ _ _ _ _ _ rfl rfl w dX6_holding_17
  · -- not taken at 4
    exact absurd (okRi (by decide) c4) hbad
set_option maxHeartbeats 4000000 in
set_option maxRecDepth 100000 in
theorem c_X6_holding_ok (a : Nat → Nat) (la : Int32) (n : Nat) (cl : Nat) (go : Option Nat) (fo : Nat → Int32) (si : Nat → Nat) (it : Nat → Int32) (mo : Nat → Int32) (th : Nat → Nat) (ki : Nat → Nat) (va : Nat → Nat) (re : Nat → Nat) (to : Nat → Prop) (co : Nat → Nat) (ke : Nat → Int32) (fw : Nat → Nat) (q : Nat) (I : IM n cl go th ki va re si co fw) (hq9 : q ≤ 1) : CM l D (TY cI cZ cS) yX6_holding cX6_holding 2 (some .int) 9 [.ref (a 0), .int (nI q)] (wM cI cZ a la n cl go fo si it mo th ki va re to co ke fw) (some (.int (nI (cif (q = 0) (hoN th ki va re go n cl to co ke) (cntP (cls ki re cl) n))))) (wM cI cZ a la n cl go fo si it mo th ki va re to co ke (lkA th ki va re n cl to co ke fw)) := by
  refine CM.ofI (by decide +kernel) (Nat.le_of_ble_eq_true rfl) (nar_int _) ?_
  intro p e s m args below meth c Q A G K hA w hret ls hl
  obtain ⟨hx, hb, hml, hown, hts⟩ := id G
  obtain ⟨hn, hcl, hgo, hth, hki, hva, hre, hsi, hco, hfw⟩ := id I
  have hl : lv_has ls 2 [(0, .ref (a 0)), (1, .int (nI q))] := hl
  refine lv_iload_n hx hb dX6_holding_0 rfl (lv_at hl 1 rfl) ?_
  refine callPS (rest := []) G K F_X6_isTwo (c_X6_isTwo (nI q)) (va_P_nil D s.heap) ml_X6_179 (by decide) (by decide) rfl hl.1 (Nat.le_of_ble_eq_true rfl) dX6_holding_1 ?_
  refine b_eq G (tgt := 15) dX6_holding_4 (by decide) (fun c4 => ?_) (fun c4 => ?_)
  · -- taken at 4
    exact absurd ((okN (m := 1) (by decide)).mpr ⟨q, hq9, rfl⟩) c4
  · -- not taken at 4
    refine lv_aload_n hx hb dX6_holding_7 rfl (lv_at hl 0 rfl) ?_
    refine lv_iload_n hx hb dX6_holding_8 rfl (lv_at hl 1 rfl) ?_
    refine callMF (As := [.int (nI q)]) (rest := []) (q0 := 0) (ci := 6) (ws' := (wM cI cZ a la n cl go fo si it mo th ki va re to co ke (lkA th ki va re n cl to co ke fw))) G K hA w F_X6_holdingBy (c_X6_holdingBy a la n cl go fo si it mo th ki va re to co ke fw q I (by omega)) ml_X6_239 rfl rfl rfl (by decide) (by decide) rfl hl.1 (Nat.le_of_ble_eq_true rfl) dX6_holding_9 (fun Hp1 lo2 w => ?_)
    refine lv_goto (tgt := 17) hx hb dX6_holding_12 (by decide) ?_
    exact hret _ _ _ _ _ _ rfl rfl w dX6_holding_17
set_option maxHeartbeats 4000000 in
set_option maxRecDepth 100000 in
theorem c_X6_betterBy (a : Nat → Nat) (la : Int32) (n : Nat) (cl : Nat) (go : Option Nat) (fo : Nat → Int32) (si : Nat → Nat) (it : Nat → Int32) (mo : Nat → Int32) (th : Nat → Nat) (ki : Nat → Nat) (va : Nat → Nat) (re : Nat → Nat) (to : Nat → Prop) (co : Nat → Nat) (ke : Nat → Int32) (fw : Nat → Nat) (q : Nat) (I : IM n cl go th ki va re si co fw) (hq9 : q < 2 ^ 31) (hg9 : go = none) : CM l D (TY cI cZ cS) yX6_betterBy cX6_betterBy 6 (some .int) 8 [.ref (a 0), .int (nI q)] (wM cI cZ a la n cl go fo si it mo th ki va re to co ke fw) (some (.int (oI (cif (q = 0) (bst (fun k => hoN th ki va re (some k) n cl to co ke) n) (mst (fun k => hoN th ki va re (some k) n cl to co ke) n))))) (wM cI cZ a la n cl go fo si it mo th ki va re to co ke (lkA th ki va re n cl to co ke fw)) := by
  refine CM.ofI (by decide +kernel) (Nat.le_of_ble_eq_true rfl) (nar_int _) ?_
  intro p e s m args below meth c Q A G K hA w hret ls hl
  obtain ⟨hx, hb, hml, hown, hts⟩ := id G
  obtain ⟨hn, hcl, hgo, hth, hki, hva, hre, hsi, hco, hfw⟩ := id I
  have I2 : IM n cl go th ki va re si co (lkA th ki va re n cl to co ke fw) := IM_fw I (lkA_le th ki va re n cl to co ke hfw)
  have hms : ∀ i w, mst (fun k => hoN th ki va re (some k) n cl to co ke) i = some w → w < 41 := fun i w h => Nat.lt_succ_of_le (mst_lt (z := 40) (fun k => Nat.le_trans (hoN_le th ki va re (some k) n cl to co ke) hn) i w h)
  have hl : lv_has ls 6 [(0, .ref (a 0)), (1, .int (nI q))] := hl
  refine lv_iconst (v := (-1)) hx hb dX6_betterBy_0 (by decide) ?_
  refine t_i (y := (oI (bst (fun k => hoN th ki va re (some k) n cl to co ke) 0))) rfl ?_
  refine lv_istore_n (lv' := [(2, .int (oI (bst (fun k => hoN th ki va re (some k) n cl to co ke) 0))), (0, .ref (a 0)), (1, .int (nI q))]) hx hb dX6_betterBy_1 rfl hl (by decide) rfl (fun ls hl => ?_)
  refine lv_iconst (v := (-1)) hx hb dX6_betterBy_2 (by decide) ?_
  refine t_i (y := (oI (mst (fun k => hoN th ki va re (some k) n cl to co ke) 0))) rfl ?_
  refine lv_istore_n (lv' := [(3, .int (oI (mst (fun k => hoN th ki va re (some k) n cl to co ke) 0))), (2, .int (oI (bst (fun k => hoN th ki va re (some k) n cl to co ke) 0))), (0, .ref (a 0)), (1, .int (nI q))]) hx hb dX6_betterBy_3 rfl hl (by decide) rfl (fun ls hl => ?_)
  refine lv_aload_n hx hb dX6_betterBy_4 rfl (lv_at hl 2 rfl) ?_
  refine callMF (As := []) (rest := []) (q0 := 0) (ci := 6) (ws' := (wM cI cZ a la n cl go fo si it mo th ki va re to co ke (lkA th ki va re n cl to co ke fw))) G K hA w F_X6_looks (c_X6_looks a la n cl go fo si it mo th ki va re to co ke fw I) ml_X6_230 rfl rfl rfl (by decide) (by decide) rfl hl.1 (Nat.le_of_ble_eq_true rfl) dX6_betterBy_5 (fun Hp1 lo2 w => ?_)
  refine lv_iconst (v := (nI 0)) hx hb dX6_betterBy_8 (by decide) ?_
  refine lv_istore (lv' := [(4, .int (nI 0)), (3, .int (oI (mst (fun k => hoN th ki va re (some k) n cl to co ke) 0))), (2, .int (oI (bst (fun k => hoN th ki va re (some k) n cl to co ke) 0))), (0, .ref (a 0)), (1, .int (nI q))]) hx hb dX6_betterBy_9 hl (by decide) rfl (fun ls hl => ?_)
  have L11 : ∀ (d i : Nat), 0 ≤ i → i + d = n → ∀ (H : Heap) (locs : List Loc), WW D A s.heap (wM cI cZ a la n cl (cif (i = 0) go (some (i - 1))) fo si it mo th ki va re to co ke (lkA th ki va re n cl to co ke fw)) H locs → ∀ (ls : Array Slot), lv_has ls 6 [(0, .ref (a 0)), (1, .int (nI q)), (2, .int (oI (bst (fun k => hoN th ki va re (some k) n cl to co ke) i))), (3, .int (oI (mst (fun k => hoN th ki va re (some k) n cl to co ke) i))), (4, .int (nI i))] → W p l e (RM 8) s m args below meth c H locs 0 0 Q (F0 m 11 ls []) := by
    intro d
    induction d with
    | zero =>
      intro i hlo11 hhi11 H locs w ls hl
      refine lv_iload hx hb dX6_betterBy_11 (lv_at hl 4 rfl) ?_
      refine lv_aload_n hx hb dX6_betterBy_13 rfl (lv_at hl 0 rfl) ?_
      refine f_get G K w.1 inX6 0 (ci := 6) rfl rfl 5 rfl fl_X6_89 (v := .int (nI n)) rfl dX6_betterBy_14 ?_
      refine c_ge G (tgt := 58) (by omega) (by omega) dX6_betterBy_17 (by decide) (fun c17 => ?_) (fun c17 => ?_)
      · -- taken at 17
        refine lv_aload_n hx hb dX6_betterBy_58 rfl (lv_at hl 0 rfl) ?_
        refine lv_iconst (v := (-1)) hx hb dX6_betterBy_59 (by decide) ?_
        refine f_put G K w inX6 tyX6 tyX6_ok nmX6 0 (ci := 6) rfl rfl 14 rfl fl_X6_44 rfl rfl rfl rfl dX6_betterBy_60 (w2 := (wM cI cZ a la n cl none fo si it mo th ki va re to co ke (lkA th ki va re n cl to co ke fw))) rfl (fun Hp3 lo4 w => ?_)
        refine lv_iload_n hx hb dX6_betterBy_63 rfl (lv_at hl 1 rfl) ?_
        refine z_ne G (tgt := 71) (by omega) dX6_betterBy_64 (by decide) (fun c64 => ?_) (fun c64 => ?_)
        · -- taken at 64
          refine lv_iload_n hx hb dX6_betterBy_71 rfl (lv_at hl 3 rfl) ?_
          exact hret _ _ _ _ _ _ (by rw [show i = n by omega]; first | rw [cif_t c64] | rw [cif_f (by omega)]) (by subst hg9; rfl) w dX6_betterBy_72
        · -- not taken at 64
          refine lv_iload_n hx hb dX6_betterBy_67 rfl (lv_at hl 2 rfl) ?_
          refine lv_goto (tgt := 72) hx hb dX6_betterBy_68 (by decide) ?_
          exact hret _ _ _ _ _ _ (by rw [show i = n by omega]; first | rw [cif_t c64] | rw [cif_f (by omega)]) (by subst hg9; rfl) w dX6_betterBy_72
      · -- not taken at 17
        exact absurd c17 (by omega)
    | succ d ih =>
      intro i hlo11 hhi11 H locs w ls hl
      refine lv_iload hx hb dX6_betterBy_11 (lv_at hl 4 rfl) ?_
      refine lv_aload_n hx hb dX6_betterBy_13 rfl (lv_at hl 0 rfl) ?_
      refine f_get G K w.1 inX6 0 (ci := 6) rfl rfl 5 rfl fl_X6_89 (v := .int (nI n)) rfl dX6_betterBy_14 ?_
      refine c_ge G (tgt := 58) (by omega) (by omega) dX6_betterBy_17 (by decide) (fun c17 => ?_) (fun c17 => ?_)
      · -- taken at 17
        exact absurd c17 (by omega)
      · -- not taken at 17
        have I3 : IM n cl (some i) th ki va re si co (lkA th ki va re n cl to co ke fw) := IM_go I2 (fun w h => by cases h; omega)
        refine lv_aload_n hx hb dX6_betterBy_20 rfl (lv_at hl 0 rfl) ?_
        refine lv_iload hx hb dX6_betterBy_21 (lv_at hl 4 rfl) ?_
        refine f_put G K w inX6 tyX6 tyX6_ok nmX6 0 (ci := 6) rfl rfl 14 rfl fl_X6_44 rfl rfl rfl rfl dX6_betterBy_23 (w2 := (wM cI cZ a la n cl (some i) fo si it mo th ki va re to co ke (lkA th ki va re n cl to co ke fw))) rfl (fun Hp5 lo6 w => ?_)
        refine lv_aload_n hx hb dX6_betterBy_26 rfl (lv_at hl 0 rfl) ?_
        refine callPV (As := []) (rest := []) (q0 := 0) (ci := 6) G K F_X6_manyHold (c_X6_manyHold a la n cl (some i) fo si it mo th ki va re to co ke (lkA th ki va re n cl to co ke fw) I3) w.1 ml_X6_233 rfl rfl rfl (by decide) (by decide) rfl hl.1 (Nat.le_of_ble_eq_true rfl) dX6_betterBy_27 ?_
        have hf7 := mho_le th ki va re (some i) n cl (lkA th ki va re n cl to co ke fw) n
        refine t_i (y := (nI (hoN th ki va re (some i) n cl to co ke))) (congrArg nI (mho_lk th ki va re (some i) n cl to co ke fw)) ?_
        have hho := hoN_le th ki va re (some i) n cl to co ke
        refine lv_istore (lv' := [(5, .int (nI (hoN th ki va re (some i) n cl to co ke))), (0, .ref (a 0)), (1, .int (nI q)), (2, .int (oI (bst (fun k => hoN th ki va re (some k) n cl to co ke) i))), (3, .int (oI (mst (fun k => hoN th ki va re (some k) n cl to co ke) i))), (4, .int (nI i))]) hx hb dX6_betterBy_30 hl (by decide) rfl (fun ls hl => ?_)
        refine lv_iload hx hb dX6_betterBy_32 (lv_at hl 0 rfl) ?_
        refine lv_iload_n hx hb dX6_betterBy_34 rfl (lv_at hl 4 rfl) ?_
        refine no_le G (tgt := 43) (by omega) (fun w h => by have := (hms i) w h; omega) dX6_betterBy_35 (by decide) (fun c35 => ?_) (fun c35 => ?_)
        · -- taken at 35
          refine lv_iload_n hx hb dX6_betterBy_43 rfl (lv_at hl 3 rfl) ?_
          refine t_i (y := (oI (bst (fun k => hoN th ki va re (some k) n cl to co ke) (i + 1)))) (by first | exact congrArg oI (bst_t (g := (fun k => hoN th ki va re (some k) n cl to co ke)) c35) | exact congrArg oI (bst_f (g := (fun k => hoN th ki va re (some k) n cl to co ke)) c35)) ?_
          refine lv_istore_n (lv' := [(2, .int (oI (bst (fun k => hoN th ki va re (some k) n cl to co ke) (i + 1)))), (5, .int (nI (hoN th ki va re (some i) n cl to co ke))), (0, .ref (a 0)), (1, .int (nI q)), (3, .int (oI (mst (fun k => hoN th ki va re (some k) n cl to co ke) i))), (4, .int (nI i))]) hx hb dX6_betterBy_44 rfl hl (by decide) rfl (fun ls hl => ?_)
          refine lv_iload hx hb dX6_betterBy_45 (lv_at hl 1 rfl) ?_
          refine lv_iload_n hx hb dX6_betterBy_47 rfl (lv_at hl 4 rfl) ?_
          refine callPS (rest := []) G K F_X6_greater (c_X6_greater_o (hoN th ki va re (some i) n cl to co ke) (mst (fun k => hoN th ki va re (some k) n cl to co ke) i) (by omega) (fun w h => by have := hms i w h; omega)) (va_P_nil D Hp5) ml_X6_204 (by decide) (by decide) rfl hl.1 (Nat.le_of_ble_eq_true rfl) dX6_betterBy_48 ?_
          refine t_i (y := (oI (mst (fun k => hoN th ki va re (some k) n cl to co ke) (i + 1)))) rfl ?_
          refine lv_istore_n (lv' := [(3, .int (oI (mst (fun k => hoN th ki va re (some k) n cl to co ke) (i + 1)))), (2, .int (oI (bst (fun k => hoN th ki va re (some k) n cl to co ke) (i + 1)))), (5, .int (nI (hoN th ki va re (some i) n cl to co ke))), (0, .ref (a 0)), (1, .int (nI q)), (4, .int (nI i))]) hx hb dX6_betterBy_51 rfl hl (by decide) rfl (fun ls hl => ?_)
          have w : WW D A s.heap (wM cI cZ a la n cl (cif (i + 1 = 0) go (some (i + 1 - 1))) fo si it mo th ki va re to co ke (lkA th ki va re n cl to co ke fw)) Hp5 lo6 := by
            rw [cif_f (Nat.succ_ne_zero i), Nat.add_sub_cancel]; exact w
          refine lv_iinc (v := (nI (i + 1))) (lv' := [(4, .int (nI (i + 1))), (3, .int (oI (mst (fun k => hoN th ki va re (some k) n cl to co ke) (i + 1)))), (2, .int (oI (bst (fun k => hoN th ki va re (some k) n cl to co ke) (i + 1)))), (5, .int (nI (hoN th ki va re (some i) n cl to co ke))), (0, .ref (a 0)), (1, .int (nI q))]) hx hb dX6_betterBy_52 hl (k := 5) rfl (nI_inc _ 1) (by decide) rfl (fun ls hl => ?_)
          refine lv_goto (tgt := 11) hx hb dX6_betterBy_55 (by decide) ?_
          -- slot 4: have n:i + 1, want n:(i + 1)
          exact ih (i + 1) (by omega) (by omega) Hp5 lo6 w ls (lv_sub hl [4, 5, 2, 1, 0] rfl)
        · -- not taken at 35
          refine lv_iload hx hb dX6_betterBy_38 (lv_at hl 5 rfl) ?_
          refine lv_goto (tgt := 44) hx hb dX6_betterBy_40 (by decide) ?_
          refine t_i (y := (oI (bst (fun k => hoN th ki va re (some k) n cl to co ke) (i + 1)))) (by first | exact congrArg oI (bst_t (g := (fun k => hoN th ki va re (some k) n cl to co ke)) c35) | exact congrArg oI (bst_f (g := (fun k => hoN th ki va re (some k) n cl to co ke)) c35)) ?_
          refine lv_istore_n (lv' := [(2, .int (oI (bst (fun k => hoN th ki va re (some k) n cl to co ke) (i + 1)))), (5, .int (nI (hoN th ki va re (some i) n cl to co ke))), (0, .ref (a 0)), (1, .int (nI q)), (3, .int (oI (mst (fun k => hoN th ki va re (some k) n cl to co ke) i))), (4, .int (nI i))]) hx hb dX6_betterBy_44 rfl hl (by decide) rfl (fun ls hl => ?_)
          refine lv_iload hx hb dX6_betterBy_45 (lv_at hl 1 rfl) ?_
          refine lv_iload_n hx hb dX6_betterBy_47 rfl (lv_at hl 4 rfl) ?_
          refine callPS (rest := []) G K F_X6_greater (c_X6_greater_o (hoN th ki va re (some i) n cl to co ke) (mst (fun k => hoN th ki va re (some k) n cl to co ke) i) (by omega) (fun w h => by have := hms i w h; omega)) (va_P_nil D Hp5) ml_X6_204 (by decide) (by decide) rfl hl.1 (Nat.le_of_ble_eq_true rfl) dX6_betterBy_48 ?_
          refine t_i (y := (oI (mst (fun k => hoN th ki va re (some k) n cl to co ke) (i + 1)))) rfl ?_
          refine lv_istore_n (lv' := [(3, .int (oI (mst (fun k => hoN th ki va re (some k) n cl to co ke) (i + 1)))), (2, .int (oI (bst (fun k => hoN th ki va re (some k) n cl to co ke) (i + 1)))), (5, .int (nI (hoN th ki va re (some i) n cl to co ke))), (0, .ref (a 0)), (1, .int (nI q)), (4, .int (nI i))]) hx hb dX6_betterBy_51 rfl hl (by decide) rfl (fun ls hl => ?_)
          have w : WW D A s.heap (wM cI cZ a la n cl (cif (i + 1 = 0) go (some (i + 1 - 1))) fo si it mo th ki va re to co ke (lkA th ki va re n cl to co ke fw)) Hp5 lo6 := by
            rw [cif_f (Nat.succ_ne_zero i), Nat.add_sub_cancel]; exact w
          refine lv_iinc (v := (nI (i + 1))) (lv' := [(4, .int (nI (i + 1))), (3, .int (oI (mst (fun k => hoN th ki va re (some k) n cl to co ke) (i + 1)))), (2, .int (oI (bst (fun k => hoN th ki va re (some k) n cl to co ke) (i + 1)))), (5, .int (nI (hoN th ki va re (some i) n cl to co ke))), (0, .ref (a 0)), (1, .int (nI q))]) hx hb dX6_betterBy_52 hl (k := 5) rfl (nI_inc _ 1) (by decide) rfl (fun ls hl => ?_)
          refine lv_goto (tgt := 11) hx hb dX6_betterBy_55 (by decide) ?_
          -- slot 4: have n:i + 1, want n:(i + 1)
          exact ih (i + 1) (by omega) (by omega) Hp5 lo6 w ls (lv_sub hl [4, 5, 2, 1, 0] rfl)
  exact L11 (n - 0) (0) (Nat.le_refl _) (by omega) Hp1 lo2 (by rw [cif_t rfl]; exact w) ls (lv_sub hl [3, 4, 2, 1, 0] rfl)
set_option maxHeartbeats 4000000 in
set_option maxRecDepth 100000 in
theorem c_X6_better_bad (a : Nat → Nat) (la : Int32) (n : Nat) (cl : Nat) (go : Option Nat) (fo : Nat → Int32) (si : Nat → Nat) (it : Nat → Int32) (mo : Nat → Int32) (th : Nat → Nat) (ki : Nat → Nat) (va : Nat → Nat) (re : Nat → Nat) (to : Nat → Prop) (co : Nat → Nat) (ke : Nat → Int32) (fw : Nat → Nat) (x : Int32) (I : IM n cl go th ki va re si co fw) (hbad : ¬ okR 1 x) : CM l D (TY cI cZ cS) yX6_better cX6_better 2 (some .int) 9 [.ref (a 0), .int x] (wM cI cZ a la n cl go fo si it mo th ki va re to co ke fw) (some (.int (-2))) (wM cI cZ a la n cl go fo si it mo th ki va re to co ke fw) := by
  refine CM.ofI (by decide +kernel) (Nat.le_of_ble_eq_true rfl) (nar_int _) ?_
  intro p e s m args below meth c Q A G K hA w hret ls hl
  obtain ⟨hx, hb, hml, hown, hts⟩ := id G
  obtain ⟨hn, hcl, hgo, hth, hki, hva, hre, hsi, hco, hfw⟩ := id I
  have hl : lv_has ls 2 [(0, .ref (a 0)), (1, .int x)] := hl
  refine lv_iload_n hx hb dX6_better_0 rfl (lv_at hl 1 rfl) ?_
  refine callPS (rest := []) G K F_X6_isTwo (c_X6_isTwo x) (va_P_nil D s.heap) ml_X6_179 (by decide) (by decide) rfl hl.1 (Nat.le_of_ble_eq_true rfl) dX6_better_1 ?_
  refine b_eq G (tgt := 15) dX6_better_4 (by decide) (fun c4 => ?_) (fun c4 => ?_)
  · -- taken at 4
    refine lv_bipush (v := (-2)) hx hb dX6_better_15 (by decide) ?_
    exact hret _ _ _ _ _ _ rfl rfl w dX6_better_17
  · -- not taken at 4
    exact absurd (okRi (by decide) c4) hbad
set_option maxHeartbeats 4000000 in
set_option maxRecDepth 100000 in
theorem c_X6_better_ok (a : Nat → Nat) (la : Int32) (n : Nat) (cl : Nat) (go : Option Nat) (fo : Nat → Int32) (si : Nat → Nat) (it : Nat → Int32) (mo : Nat → Int32) (th : Nat → Nat) (ki : Nat → Nat) (va : Nat → Nat) (re : Nat → Nat) (to : Nat → Prop) (co : Nat → Nat) (ke : Nat → Int32) (fw : Nat → Nat) (q : Nat) (I : IM n cl go th ki va re si co fw) (hq9 : q ≤ 1) (hg9 : go = none) : CM l D (TY cI cZ cS) yX6_better cX6_better 2 (some .int) 9 [.ref (a 0), .int (nI q)] (wM cI cZ a la n cl go fo si it mo th ki va re to co ke fw) (some (.int (oI (cif (q = 0) (bst (fun k => hoN th ki va re (some k) n cl to co ke) n) (mst (fun k => hoN th ki va re (some k) n cl to co ke) n))))) (wM cI cZ a la n cl go fo si it mo th ki va re to co ke (lkA th ki va re n cl to co ke fw)) := by
  refine CM.ofI (by decide +kernel) (Nat.le_of_ble_eq_true rfl) (nar_int _) ?_
  intro p e s m args below meth c Q A G K hA w hret ls hl
  obtain ⟨hx, hb, hml, hown, hts⟩ := id G
  obtain ⟨hn, hcl, hgo, hth, hki, hva, hre, hsi, hco, hfw⟩ := id I
  have hl : lv_has ls 2 [(0, .ref (a 0)), (1, .int (nI q))] := hl
  refine lv_iload_n hx hb dX6_better_0 rfl (lv_at hl 1 rfl) ?_
  refine callPS (rest := []) G K F_X6_isTwo (c_X6_isTwo (nI q)) (va_P_nil D s.heap) ml_X6_179 (by decide) (by decide) rfl hl.1 (Nat.le_of_ble_eq_true rfl) dX6_better_1 ?_
  refine b_eq G (tgt := 15) dX6_better_4 (by decide) (fun c4 => ?_) (fun c4 => ?_)
  · -- taken at 4
    exact absurd ((okN (m := 1) (by decide)).mpr ⟨q, hq9, rfl⟩) c4
  · -- not taken at 4
    refine lv_aload_n hx hb dX6_better_7 rfl (lv_at hl 0 rfl) ?_
    refine lv_iload_n hx hb dX6_better_8 rfl (lv_at hl 1 rfl) ?_
    refine callMF (As := [.int (nI q)]) (rest := []) (q0 := 0) (ci := 6) (ws' := (wM cI cZ a la n cl go fo si it mo th ki va re to co ke (lkA th ki va re n cl to co ke fw))) G K hA w F_X6_betterBy (c_X6_betterBy a la n cl go fo si it mo th ki va re to co ke fw q I (by omega) hg9) ml_X6_242 rfl rfl rfl (by decide) (by decide) rfl hl.1 (Nat.le_of_ble_eq_true rfl) dX6_better_9 (fun Hp1 lo2 w => ?_)
    refine lv_goto (tgt := 17) hx hb dX6_better_12 (by decide) ?_
    exact hret _ _ _ _ _ _ rfl rfl w dX6_better_17
set_option maxHeartbeats 4000000 in
set_option maxRecDepth 100000 in
theorem c_X6_tell_bad (a : Nat → Nat) (la : Int32) (n : Nat) (cl : Nat) (go : Option Nat) (fo : Nat → Int32) (si : Nat → Nat) (it : Nat → Int32) (mo : Nat → Int32) (th : Nat → Nat) (ki : Nat → Nat) (va : Nat → Nat) (re : Nat → Nat) (to : Nat → Prop) (co : Nat → Nat) (ke : Nat → Int32) (fw : Nat → Nat) (f : Int32) (x : Int32) (I : IM n cl go th ki va re si co fw) (hbad : ¬ (okR 400 f ∧ okR 3 x)) : CM l D (TY cI cZ cS) yX6_tell cX6_tell 5 (some .int) 3 [.ref (a 0), .int f, .int x] (wM cI cZ a la n cl go fo si it mo th ki va re to co ke fw) (some (.int (-2))) (wM cI cZ a la n cl go fo si it mo th ki va re to co ke fw) := by
  refine CM.ofI (by decide +kernel) (Nat.le_of_ble_eq_true rfl) (nar_int _) ?_
  intro p e s m args below meth c Q A G K hA w hret ls hl
  obtain ⟨hx, hb, hml, hown, hts⟩ := id G
  obtain ⟨hn, hcl, hgo, hth, hki, hva, hre, hsi, hco, hfw⟩ := id I
  have hl : lv_has ls 5 [(0, .ref (a 0)), (1, .int f), (2, .int x)] := hl
  refine lv_iload_n hx hb dX6_tell_0 rfl (lv_at hl 1 rfl) ?_
  refine lv_i2l (v := f.toInt64) hx hb dX6_tell_1 rfl ?_
  refine lv_lconst (v := ((0 : Int32)).toInt64) hx hb dX6_tell_2 (by decide) ?_
  refine lv_ldc2 hx hb hown (hts _ kl_X6_104) dX6_tell_3 ?_
  refine t_l (y := (400 : Int32).toInt64) (by decide) ?_
  refine callPS (rest := []) G K F_X6_in (c_X6_in f (0 : Int32) (400 : Int32)) (va_P_nil D s.heap) ml_X6_51 (by decide) (by decide) rfl hl.1 (Nat.le_of_ble_eq_true rfl) dX6_tell_6 ?_
  refine b_eq G (tgt := 19) dX6_tell_9 (by decide) (fun c9 => ?_) (fun c9 => ?_)
  · -- taken at 9
    refine lv_bipush (v := (-2)) hx hb dX6_tell_19 (by decide) ?_
    exact hret _ _ _ _ _ _ rfl rfl w dX6_tell_21
  · -- not taken at 9
    refine lv_iload_n hx hb dX6_tell_12 rfl (lv_at hl 2 rfl) ?_
    refine callPS (rest := []) G K F_X6_isSheet (c_X6_isSheet x) (va_P_nil D s.heap) ml_X6_60 (by decide) (by decide) rfl hl.1 (Nat.le_of_ble_eq_true rfl) dX6_tell_13 ?_
    refine b_ne G (tgt := 22) dX6_tell_16 (by decide) (fun c16 => ?_) (fun c16 => ?_)
    · -- taken at 16
      exact absurd ⟨okRi (by decide) c9, okRi (by decide) c16⟩ hbad
    · -- not taken at 16
      refine lv_bipush (v := (-2)) hx hb dX6_tell_19 (by decide) ?_
      exact hret _ _ _ _ _ _ rfl rfl w dX6_tell_21
set_option maxHeartbeats 4000000 in
set_option maxRecDepth 100000 in
theorem c_X6_tell_nul (a : Nat → Nat) (la : Int32) (n : Nat) (cl : Nat) (go : Option Nat) (fo : Nat → Int32) (si : Nat → Nat) (it : Nat → Int32) (mo : Nat → Int32) (th : Nat → Nat) (ki : Nat → Nat) (va : Nat → Nat) (re : Nat → Nat) (to : Nat → Prop) (co : Nat → Nat) (ke : Nat → Int32) (fw : Nat → Nat) (f : Nat) (x : Nat) (I : IM n cl go th ki va re si co fw) (hf9 : f ≤ 400) (hx9 : x ≤ 3) (hn9 : fo x < 0) : CM l D (TY cI cZ cS) yX6_tell cX6_tell 5 (some .int) 3 [.ref (a 0), .int (nI f), .int (nI x)] (wM cI cZ a la n cl go fo si it mo th ki va re to co ke fw) (some (.int ((-10) - (nI 1)))) (wM cI cZ a (nI 1) n cl go fo si it mo th ki va re to co ke fw) := by
  refine CM.ofI (by decide +kernel) (Nat.le_of_ble_eq_true rfl) (nar_int _) ?_
  intro p e s m args below meth c Q A G K hA w hret ls hl
  obtain ⟨hx, hb, hml, hown, hts⟩ := id G
  obtain ⟨hn, hcl, hgo, hth, hki, hva, hre, hsi, hco, hfw⟩ := id I
  have hl : lv_has ls 5 [(0, .ref (a 0)), (1, .int (nI f)), (2, .int (nI x))] := hl
  refine lv_iload_n hx hb dX6_tell_0 rfl (lv_at hl 1 rfl) ?_
  refine lv_i2l (v := (nI f).toInt64) hx hb dX6_tell_1 rfl ?_
  refine lv_lconst (v := ((0 : Int32)).toInt64) hx hb dX6_tell_2 (by decide) ?_
  refine lv_ldc2 hx hb hown (hts _ kl_X6_104) dX6_tell_3 ?_
  refine t_l (y := (400 : Int32).toInt64) (by decide) ?_
  refine callPS (rest := []) G K F_X6_in (c_X6_in (nI f) (0 : Int32) (400 : Int32)) (va_P_nil D s.heap) ml_X6_51 (by decide) (by decide) rfl hl.1 (Nat.le_of_ble_eq_true rfl) dX6_tell_6 ?_
  refine b_eq G (tgt := 19) dX6_tell_9 (by decide) (fun c9 => ?_) (fun c9 => ?_)
  · -- taken at 9
    exact absurd ((okN (m := 400) (by decide)).mpr ⟨f, hf9, rfl⟩) c9
  · -- not taken at 9
    refine lv_iload_n hx hb dX6_tell_12 rfl (lv_at hl 2 rfl) ?_
    refine callPS (rest := []) G K F_X6_isSheet (c_X6_isSheet (nI x)) (va_P_nil D s.heap) ml_X6_60 (by decide) (by decide) rfl hl.1 (Nat.le_of_ble_eq_true rfl) dX6_tell_13 ?_
    refine b_ne G (tgt := 22) dX6_tell_16 (by decide) (fun c16 => ?_) (fun c16 => ?_)
    · -- taken at 16
      refine lv_aload_n hx hb dX6_tell_22 rfl (lv_at hl 0 rfl) ?_
      refine f_get G K w.1 inX6 0 (ci := 6) rfl rfl 0 rfl fl_X6_7 (v := .ref (a 1)) rfl dX6_tell_23 ?_
      refine lv_iload_n hx hb dX6_tell_26 rfl (lv_at hl 2 rfl) ?_
      refine a_ld G K w.1 1 0 (a := (a 1)) rfl rfl (by omega) (by decide) dX6_tell_27 ?_
      refine lv_if_ge (tgt := 37) hx hb dX6_tell_28 (by decide) (fun c28 => ?_) (fun c28 => ?_)
      · -- taken at 28
        exact absurd c28 (neg_nge hn9)
      · -- not taken at 28
        refine lv_aload_n hx hb dX6_tell_31 rfl (lv_at hl 0 rfl) ?_
        refine lv_iconst (v := (nI 1)) hx hb dX6_tell_32 (by decide) ?_
        refine callMF (As := [.int (nI 1)]) (rest := []) (q0 := 0) (ci := 6) (ws' := (wM cI cZ a (nI 1) n cl go fo si it mo th ki va re to co ke fw)) G K hA w F_X6_finds (c_X6_finds a la n cl go fo si it mo th ki va re to co ke fw 1 I) ml_X6_66 rfl rfl rfl (by decide) (by decide) rfl hl.1 (Nat.le_of_ble_eq_true rfl) dX6_tell_33 (fun Hp1 lo2 w => ?_)
        exact hret _ _ _ _ _ _ rfl rfl w dX6_tell_36
    · -- not taken at 16
      exact absurd ((okN (m := 3) (by decide)).mpr ⟨x, hx9, rfl⟩) c16
set_option maxHeartbeats 4000000 in
set_option maxRecDepth 100000 in
theorem c_X6_tell_ok (a : Nat → Nat) (la : Int32) (n : Nat) (cl : Nat) (go : Option Nat) (fo : Nat → Int32) (si : Nat → Nat) (it : Nat → Int32) (mo : Nat → Int32) (th : Nat → Nat) (ki : Nat → Nat) (va : Nat → Nat) (re : Nat → Nat) (to : Nat → Prop) (co : Nat → Nat) (ke : Nat → Int32) (fw : Nat → Nat) (f : Nat) (x : Nat) (I : IM n cl go th ki va re si co fw) (hf9 : f ≤ 400) (hx9 : x ≤ 3) (hn9 : ¬ fo x < 0) : CM l D (TY cI cZ cS) yX6_tell cX6_tell 5 (some .int) 3 [.ref (a 0), .int (nI f), .int (nI x)] (wM cI cZ a la n cl go fo si it mo th ki va re to co ke fw) (some (.int (nI (min (si x) (5 * n + 2 * cl - f))))) (wM cI cZ a la n cl go fo si (stI it (60 * x) (fun u => cutV (fo x) (oI (byteA th ki va re n cl (f + u)))) (min (si x) (5 * n + 2 * cl - f))) mo th ki va re to co ke fw) := by
  refine CM.ofI (by decide +kernel) (Nat.le_of_ble_eq_true rfl) (nar_int _) ?_
  intro p e s m args below meth c Q A G K hA w hret ls hl
  obtain ⟨hx, hb, hml, hown, hts⟩ := id G
  obtain ⟨hn, hcl, hgo, hth, hki, hva, hre, hsi, hco, hfw⟩ := id I
  have hl : lv_has ls 5 [(0, .ref (a 0)), (1, .int (nI f)), (2, .int (nI x))] := hl
  refine lv_iload_n hx hb dX6_tell_0 rfl (lv_at hl 1 rfl) ?_
  refine lv_i2l (v := (nI f).toInt64) hx hb dX6_tell_1 rfl ?_
  refine lv_lconst (v := ((0 : Int32)).toInt64) hx hb dX6_tell_2 (by decide) ?_
  refine lv_ldc2 hx hb hown (hts _ kl_X6_104) dX6_tell_3 ?_
  refine t_l (y := (400 : Int32).toInt64) (by decide) ?_
  refine callPS (rest := []) G K F_X6_in (c_X6_in (nI f) (0 : Int32) (400 : Int32)) (va_P_nil D s.heap) ml_X6_51 (by decide) (by decide) rfl hl.1 (Nat.le_of_ble_eq_true rfl) dX6_tell_6 ?_
  refine b_eq G (tgt := 19) dX6_tell_9 (by decide) (fun c9 => ?_) (fun c9 => ?_)
  · -- taken at 9
    exact absurd ((okN (m := 400) (by decide)).mpr ⟨f, hf9, rfl⟩) c9
  · -- not taken at 9
    refine lv_iload_n hx hb dX6_tell_12 rfl (lv_at hl 2 rfl) ?_
    refine callPS (rest := []) G K F_X6_isSheet (c_X6_isSheet (nI x)) (va_P_nil D s.heap) ml_X6_60 (by decide) (by decide) rfl hl.1 (Nat.le_of_ble_eq_true rfl) dX6_tell_13 ?_
    refine b_ne G (tgt := 22) dX6_tell_16 (by decide) (fun c16 => ?_) (fun c16 => ?_)
    · -- taken at 16
      refine lv_aload_n hx hb dX6_tell_22 rfl (lv_at hl 0 rfl) ?_
      refine f_get G K w.1 inX6 0 (ci := 6) rfl rfl 0 rfl fl_X6_7 (v := .ref (a 1)) rfl dX6_tell_23 ?_
      refine lv_iload_n hx hb dX6_tell_26 rfl (lv_at hl 2 rfl) ?_
      refine a_ld G K w.1 1 0 (a := (a 1)) rfl rfl (by omega) (by decide) dX6_tell_27 ?_
      refine lv_if_ge (tgt := 37) hx hb dX6_tell_28 (by decide) (fun c28 => ?_) (fun c28 => ?_)
      · -- taken at 28
        refine lv_aload_n hx hb dX6_tell_37 rfl (lv_at hl 0 rfl) ?_
        refine f_get G K w.1 inX6 0 (ci := 6) rfl rfl 1 rfl fl_X6_13 (v := .ref (a 2)) rfl dX6_tell_38 ?_
        refine lv_iload_n hx hb dX6_tell_41 rfl (lv_at hl 2 rfl) ?_
        refine a_ldN G K w.1 2 0 (a := (a 2)) rfl rfl (by omega) (by decide) dX6_tell_42 ?_
        have hb1 := hsi x
        refine lv_aload_n hx hb dX6_tell_43 rfl (lv_at hl 0 rfl) ?_
        refine callPV (As := []) (rest := [.int (nI (si x))]) (q0 := 0) (ci := 6) G K F_X6_allBytes (c_X6_allBytes a la n cl go fo si it mo th ki va re to co ke fw I) w.1 ml_X6_128 rfl rfl rfl (by decide) (by decide) rfl hl.1 (Nat.le_of_ble_eq_true rfl) dX6_tell_44 ?_
        refine lv_iload_n hx hb dX6_tell_47 rfl (lv_at hl 1 rfl) ?_
        refine lv_isub hx hb dX6_tell_48 ?_
        refine lv_iconst (v := (nI 0)) hx hb dX6_tell_49 (by decide) ?_
        refine callPS (rest := [.int (nI (si x))]) G K F_X6_greater (c_X6_greater_r ((nI (5 * n + 2 * cl)) - (nI f)) (nI 0)) (va_P_nil D s.heap) ml_X6_204 (by decide) (by decide) rfl hl.1 (Nat.le_of_ble_eq_true rfl) dX6_tell_50 ?_
        refine t_i (y := (nI (5 * n + 2 * cl - f))) (tr_sub (by omega) (by omega)) ?_
        refine callPS (rest := []) G K F_X6_lesser (c_X6_lesser (si x) (5 * n + 2 * cl - f) (by omega) (by omega)) (va_P_nil D s.heap) ml_X6_173 (by decide) (by decide) rfl hl.1 (Nat.le_of_ble_eq_true rfl) dX6_tell_53 ?_
        refine lv_istore_n (lv' := [(3, .int (nI (min (si x) (5 * n + 2 * cl - f)))), (0, .ref (a 0)), (1, .int (nI f)), (2, .int (nI x))]) hx hb dX6_tell_56 rfl hl (by decide) rfl (fun ls hl => ?_)
        refine lv_iconst (v := (nI 0)) hx hb dX6_tell_57 (by decide) ?_
        refine lv_istore (lv' := [(4, .int (nI 0)), (3, .int (nI (min (si x) (5 * n + 2 * cl - f)))), (0, .ref (a 0)), (1, .int (nI f)), (2, .int (nI x))]) hx hb dX6_tell_58 hl (by decide) rfl (fun ls hl => ?_)
        have L60 : ∀ (d u : Nat), 0 ≤ u → u + d = min (si x) (5 * n + 2 * cl - f) → ∀ (H : Heap) (locs : List Loc), WW D A s.heap (wM cI cZ a la n cl go fo si (stI it (60 * x) (fun u => cutV (fo x) (oI (byteA th ki va re n cl (f + u)))) u) mo th ki va re to co ke fw) H locs → ∀ (ls : Array Slot), lv_has ls 5 [(0, .ref (a 0)), (1, .int (nI f)), (2, .int (nI x)), (3, .int (nI (min (si x) (5 * n + 2 * cl - f)))), (4, .int (nI u))] → W p l e (RM 3) s m args below meth c H locs 0 0 Q (F0 m 60 ls []) := by
          intro d
          induction d with
          | zero =>
            intro u hlo60 hhi60 H locs w ls hl
            have hsx := hsi x
            refine lv_iload hx hb dX6_tell_60 (lv_at hl 4 rfl) ?_
            refine lv_iload_n hx hb dX6_tell_62 rfl (lv_at hl 3 rfl) ?_
            refine c_ge G (tgt := 101) (by omega) (by omega) dX6_tell_63 (by decide) (fun c63 => ?_) (fun c63 => ?_)
            · -- taken at 63
              refine lv_iload_n hx hb dX6_tell_101 rfl (lv_at hl 3 rfl) ?_
              exact hret _ _ _ _ _ _ rfl (by rw [show u = min (si x) (5 * n + 2 * cl - f) by omega]) w dX6_tell_102
            · -- not taken at 63
              exact absurd c63 (by omega)
          | succ d ih =>
            intro u hlo60 hhi60 H locs w ls hl
            have hsx := hsi x
            refine lv_iload hx hb dX6_tell_60 (lv_at hl 4 rfl) ?_
            refine lv_iload_n hx hb dX6_tell_62 rfl (lv_at hl 3 rfl) ?_
            refine c_ge G (tgt := 101) (by omega) (by omega) dX6_tell_63 (by decide) (fun c63 => ?_) (fun c63 => ?_)
            · -- taken at 63
              exact absurd c63 (by omega)
            · -- not taken at 63
              refine lv_aload_n hx hb dX6_tell_66 rfl (lv_at hl 0 rfl) ?_
              refine f_get G K w.1 inX6 0 (ci := 6) rfl rfl 2 rfl fl_X6_16 (v := .ref (a 3)) rfl dX6_tell_67 ?_
              refine lv_bipush (v := (nI 60)) hx hb dX6_tell_70 (by decide) ?_
              refine lv_iload_n hx hb dX6_tell_72 rfl (lv_at hl 2 rfl) ?_
              refine t_mul G dX6_tell_73 ?_
              refine lv_iload hx hb dX6_tell_74 (lv_at hl 4 rfl) ?_
              refine t_add G dX6_tell_76 ?_
              refine lv_aload_n hx hb dX6_tell_77 rfl (lv_at hl 0 rfl) ?_
              refine f_get G K w.1 inX6 0 (ci := 6) rfl rfl 0 rfl fl_X6_7 (v := .ref (a 1)) rfl dX6_tell_78 ?_
              refine lv_iload_n hx hb dX6_tell_81 rfl (lv_at hl 2 rfl) ?_
              refine a_ld G K w.1 1 0 (a := (a 1)) rfl rfl (by omega) (by decide) dX6_tell_82 ?_
              refine lv_aload_n hx hb dX6_tell_83 rfl (lv_at hl 0 rfl) ?_
              refine lv_iload_n hx hb dX6_tell_84 rfl (lv_at hl 1 rfl) ?_
              refine lv_iload hx hb dX6_tell_85 (lv_at hl 4 rfl) ?_
              refine t_add G dX6_tell_87 ?_
              refine callPV (As := [.int (nI (f + u))]) (rest := [.int (fo x), .int (nI (60 * x + u)), .ref (a 3)]) (q0 := 0) (ci := 6) G K F_X6_byteAt (c_X6_byteAt a la n cl go fo si (stI it (60 * x) (fun u => cutV (fo x) (oI (byteA th ki va re n cl (f + u)))) u) mo th ki va re to co ke fw (f + u) I (by omega)) w.1 ml_X6_132 rfl rfl rfl (by decide) (by decide) rfl hl.1 (Nat.le_of_ble_eq_true rfl) dX6_tell_88 ?_
              refine callPS (rest := [.int (nI (60 * x + u)), .ref (a 3)]) G K F_X6_cut (c_X6_cut (fo x) (oI (byteA th ki va re n cl (f + u)))) (va_P_nil D H) ml_X6_74 (by decide) (by decide) rfl hl.1 (Nat.le_of_ble_eq_true rfl) dX6_tell_91 ?_
              refine a_st G K w 3 0 (a := (a 3)) rfl rfl (by omega) (by decide) dX6_tell_94 (w2 := (wM cI cZ a la n cl go fo si (va_up (stI it (60 * x) (fun u => cutV (fo x) (oI (byteA th ki va re n cl (f + u)))) u) (60 * x + u) (cutV (fo x) (oI (byteA th ki va re n cl (f + u))))) mo th ki va re to co ke fw)) rfl (fun Hp2 lo3 w => ?_)
              refine lv_iinc (v := (nI (u + 1))) (lv' := [(4, .int (nI (u + 1))), (0, .ref (a 0)), (1, .int (nI f)), (2, .int (nI x)), (3, .int (nI (min (si x) (5 * n + 2 * cl - f))))]) hx hb dX6_tell_95 hl (k := 4) rfl (nI_inc _ 1) (by decide) rfl (fun ls hl => ?_)
              refine lv_goto (tgt := 60) hx hb dX6_tell_98 (by decide) ?_
              -- slot 4: have n:u + 1, want n:(u + 1)
              exact ih (u + 1) (by omega) (by omega) Hp2 lo3 w ls (lv_sub hl [1, 2, 3, 4, 0] rfl)
        exact L60 (min (si x) (5 * n + 2 * cl - f) - 0) (0) (Nat.le_refl _) (by omega) s.heap [] w ls (lv_sub hl [2, 3, 4, 1, 0] rfl)
      · -- not taken at 28
        exact absurd (nneg_ge hn9) c28
    · -- not taken at 16
      exact absurd ((okN (m := 3) (by decide)).mpr ⟨x, hx9, rfl⟩) c16
set_option maxHeartbeats 4000000 in
set_option maxRecDepth 100000 in
theorem c_X6_count_ok (a : Nat → Nat) (la : Int32) (n : Nat) (cl : Nat) (go : Option Nat) (fo : Nat → Int32) (si : Nat → Nat) (it : Nat → Int32) (mo : Nat → Int32) (th : Nat → Nat) (ki : Nat → Nat) (va : Nat → Nat) (re : Nat → Nat) (to : Nat → Prop) (co : Nat → Nat) (ke : Nat → Int32) (fw : Nat → Nat) (q : Nat) (I : IM n cl go th ki va re si co fw) (hq9 : q ≤ 8) : CM l D (TY cI cZ cS) yX6_count cX6_count 2 (some .int) 9 [.ref (a 0), .int (nI q)] (wM cI cZ a la n cl go fo si it mo th ki va re to co ke fw) (some (.int (cnN th ki va re go n cl to co ke la q))) (wM cI cZ a la n cl go fo si it mo th ki va re to co ke (cif (q = 4) (lkA th ki va re n cl to co ke fw) fw)) := by
  refine CM.ofI (by decide +kernel) (Nat.le_of_ble_eq_true rfl) (nar_int _) ?_
  intro p e s m args below meth c Q A G K hA w hret ls hl
  obtain ⟨hx, hb, hml, hown, hts⟩ := id G
  obtain ⟨hn, hcl, hgo, hth, hki, hva, hre, hsi, hco, hfw⟩ := id I
  have hl : lv_has ls 2 [(0, .ref (a 0)), (1, .int (nI q))] := hl
  refine lv_iload_n hx hb dX6_count_0 rfl (lv_at hl 1 rfl) ?_
  rcases (show q = 0 ∨ q = 1 ∨ q = 2 ∨ q = 3 ∨ q = 4 ∨ q = 5 ∨ q = 6 ∨ q = 7 ∨ q = 8 by omega) with rfl | rfl | rfl | rfl | rfl | rfl | rfl | rfl | rfl
  · -- 0
    refine lv_tableIn (off := 51) (tgt := 52) hx hb dX6_count_1 (by decide) (by decide) (by decide) (by decide) ?_
    refine lv_aload_n hx hb dX6_count_52 rfl (lv_at hl 0 rfl) ?_
    refine f_get G K w.1 inX6 0 (ci := 6) rfl rfl 5 rfl fl_X6_89 (v := .int (nI n)) rfl dX6_count_53 ?_
    exact hret _ _ _ _ _ _ rfl (by first | rw [cif_f (by decide)] | rw [cif_t rfl]) w dX6_count_56
  · -- 1
    refine lv_tableIn (off := 56) (tgt := 57) hx hb dX6_count_1 (by decide) (by decide) (by decide) (by decide) ?_
    refine lv_aload_n hx hb dX6_count_57 rfl (lv_at hl 0 rfl) ?_
    refine f_get G K w.1 inX6 0 (ci := 6) rfl rfl 13 rfl fl_X6_92 (v := .int (nI cl)) rfl dX6_count_58 ?_
    exact hret _ _ _ _ _ _ rfl (by first | rw [cif_f (by decide)] | rw [cif_t rfl]) w dX6_count_61
  · -- 2
    refine lv_tableIn (off := 61) (tgt := 62) hx hb dX6_count_1 (by decide) (by decide) (by decide) (by decide) ?_
    refine lv_aload_n hx hb dX6_count_62 rfl (lv_at hl 0 rfl) ?_
    refine callPV (As := []) (rest := []) (q0 := 0) (ci := 6) G K F_X6_allBytes (c_X6_allBytes a la n cl go fo si it mo th ki va re to co ke fw I) w.1 ml_X6_128 rfl rfl rfl (by decide) (by decide) rfl hl.1 (Nat.le_of_ble_eq_true rfl) dX6_count_63 ?_
    exact hret _ _ _ _ _ _ rfl (by first | rw [cif_f (by decide)] | rw [cif_t rfl]) w dX6_count_66
  · -- 3
    refine lv_tableIn (off := 66) (tgt := 67) hx hb dX6_count_1 (by decide) (by decide) (by decide) (by decide) ?_
    refine lv_aload_n hx hb dX6_count_67 rfl (lv_at hl 0 rfl) ?_
    refine callPV (As := []) (rest := []) (q0 := 0) (ci := 6) G K F_X6_manySeals (c_X6_manySeals a la n cl go fo si it mo th ki va re to co ke fw I) w.1 ml_X6_236 rfl rfl rfl (by decide) (by decide) rfl hl.1 (Nat.le_of_ble_eq_true rfl) dX6_count_68 ?_
    exact hret _ _ _ _ _ _ rfl (by first | rw [cif_f (by decide)] | rw [cif_t rfl]) w dX6_count_71
  · -- 4
    refine lv_tableIn (off := 71) (tgt := 72) hx hb dX6_count_1 (by decide) (by decide) (by decide) (by decide) ?_
    refine lv_aload_n hx hb dX6_count_72 rfl (lv_at hl 0 rfl) ?_
    refine lv_iconst (v := (nI 0)) hx hb dX6_count_73 (by decide) ?_
    refine callMF (As := [.int (nI 0)]) (rest := []) (q0 := 0) (ci := 6) (ws' := (wM cI cZ a la n cl go fo si it mo th ki va re to co ke (lkA th ki va re n cl to co ke fw))) G K hA w F_X6_holdingBy (c_X6_holdingBy a la n cl go fo si it mo th ki va re to co ke fw 0 I (by omega)) ml_X6_239 rfl rfl rfl (by decide) (by decide) rfl hl.1 (Nat.le_of_ble_eq_true rfl) dX6_count_74 (fun Hp1 lo2 w => ?_)
    exact hret _ _ _ _ _ _ rfl (by first | rw [cif_f (by decide)] | rw [cif_t rfl]) w dX6_count_77
  · -- 5
    refine lv_tableIn (off := 77) (tgt := 78) hx hb dX6_count_1 (by decide) (by decide) (by decide) (by decide) ?_
    refine lv_aload_n hx hb dX6_count_78 rfl (lv_at hl 0 rfl) ?_
    refine callPV (As := []) (rest := []) (q0 := 0) (ci := 6) G K F_X6_manyThere (c_X6_manyThere a la n cl go fo si it mo th ki va re to co ke fw I) w.1 ml_X6_245 rfl rfl rfl (by decide) (by decide) rfl hl.1 (Nat.le_of_ble_eq_true rfl) dX6_count_79 ?_
    exact hret _ _ _ _ _ _ rfl (by first | rw [cif_f (by decide)] | rw [cif_t rfl]) w dX6_count_82
  · -- 6
    refine lv_tableIn (off := 82) (tgt := 83) hx hb dX6_count_1 (by decide) (by decide) (by decide) (by decide) ?_
    refine lv_aload_n hx hb dX6_count_83 rfl (lv_at hl 0 rfl) ?_
    refine callPV (As := []) (rest := []) (q0 := 0) (ci := 6) G K F_X6_manyShadowed (c_X6_manyShadowed a la n cl go fo si it mo th ki va re to co ke fw I) w.1 ml_X6_248 rfl rfl rfl (by decide) (by decide) rfl hl.1 (Nat.le_of_ble_eq_true rfl) dX6_count_84 ?_
    exact hret _ _ _ _ _ _ rfl (by first | rw [cif_f (by decide)] | rw [cif_t rfl]) w dX6_count_87
  · -- 7
    refine lv_tableIn (off := 87) (tgt := 88) hx hb dX6_count_1 (by decide) (by decide) (by decide) (by decide) ?_
    refine lv_aload_n hx hb dX6_count_88 rfl (lv_at hl 0 rfl) ?_
    refine lv_aload_n hx hb dX6_count_89 rfl (lv_at hl 0 rfl) ?_
    refine f_get G K w.1 inX6 0 (ci := 6) rfl rfl 13 rfl fl_X6_92 (v := .int (nI cl)) rfl dX6_count_90 ?_
    refine callPV (As := [.int (nI cl)]) (rest := []) (q0 := 0) (ci := 6) G K F_X6_allowedIn (c_X6_allowedIn a la n cl go fo si it mo th ki va re to co ke fw cl I (by omega)) w.1 ml_X6_224 rfl rfl rfl (by decide) (by decide) rfl hl.1 (Nat.le_of_ble_eq_true rfl) dX6_count_93 ?_
    have hf3 := alw_le ki va re cl n
    exact hret _ _ _ _ _ _ rfl (by first | rw [cif_f (by decide)] | rw [cif_t rfl]) w dX6_count_96
  · -- 8
    refine lv_tableIn (off := 96) (tgt := 97) hx hb dX6_count_1 (by decide) (by decide) (by decide) (by decide) ?_
    refine lv_aload_n hx hb dX6_count_97 rfl (lv_at hl 0 rfl) ?_
    refine f_get G K w.1 inX6 0 (ci := 6) rfl rfl 4 rfl fl_X6_55 (v := .int la) rfl dX6_count_98 ?_
    exact hret _ _ _ _ _ _ rfl (by first | rw [cif_f (by decide)] | rw [cif_t rfl]) w dX6_count_101

end
