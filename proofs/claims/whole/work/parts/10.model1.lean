section
variable {l : Launch} {D : va_G} {cI cZ cS : ClassId}

set_option maxHeartbeats 4000000 in
set_option maxRecDepth 100000 in
theorem c_X6_in (x : Int32) (lo : Int32) (hi : Int32) : CP l D (TY cI cZ cS) yX6_in cX6_in 6 .boolean 0 [.long x.toInt64, .long lo.toInt64, .long hi.toInt64] [] (.int (bI (lo ≤ x ∧ x ≤ hi))) := by
  refine CP.ofI (by decide +kernel) (Nat.le_of_ble_eq_true rfl) (bI_nar _) ?_
  intro p e s m args below meth c Q G K hP hret ls hl
  obtain ⟨hx, hb, hml, hown, hts⟩ := id G
  have hl : lv_has ls 6 [(0, .long x.toInt64), (2, .long lo.toInt64), (4, .long hi.toInt64)] := hl
  refine lv_lload_n hx hb dX6_in_0 rfl (lv_at hl 0 rfl) ?_
  refine lv_lload_n hx hb dX6_in_1 rfl (lv_at hl 1 rfl) ?_
  refine W.lcmp hx hb dX6_in_2 ?_
  refine lv_if_lt (tgt := 17) hx hb dX6_in_3 (by decide) (fun c3 => ?_) (fun c3 => ?_)
  · -- taken at 3
    refine lv_iconst (v := (nI 0)) hx hb dX6_in_17 (by decide) ?_
    exact hret _ _ _ (by first | exact in_lt c3 | exact in_gt c10 | exact in_ok c3 c10) dX6_in_18
  · -- not taken at 3
    refine lv_lload_n hx hb dX6_in_6 rfl (lv_at hl 0 rfl) ?_
    refine lv_lload hx hb dX6_in_7 (lv_at hl 2 rfl) ?_
    refine W.lcmp hx hb dX6_in_9 ?_
    refine lv_if_gt (tgt := 17) hx hb dX6_in_10 (by decide) (fun c10 => ?_) (fun c10 => ?_)
    · -- taken at 10
      refine lv_iconst (v := (nI 0)) hx hb dX6_in_17 (by decide) ?_
      exact hret _ _ _ (by first | exact in_lt c3 | exact in_gt c10 | exact in_ok c3 c10) dX6_in_18
    · -- not taken at 10
      refine lv_iconst (v := (nI 1)) hx hb dX6_in_13 (by decide) ?_
      refine lv_goto (tgt := 18) hx hb dX6_in_14 (by decide) ?_
      exact hret _ _ _ (by first | exact in_lt c3 | exact in_gt c10 | exact in_ok c3 c10) dX6_in_18
set_option maxHeartbeats 4000000 in
set_option maxRecDepth 100000 in
theorem c_X6_isTwo (x : Int32) : CP l D (TY cI cZ cS) yX6_isTwo cX6_isTwo 1 .boolean 1 [.int x] [] (.int (bI ((0 : Int32) ≤ x ∧ x ≤ (1 : Int32)))) := by
  refine CP.ofI (by decide +kernel) (Nat.le_of_ble_eq_true rfl) (bI_nar _) ?_
  intro p e s m args below meth c Q G K hP hret ls hl
  obtain ⟨hx, hb, hml, hown, hts⟩ := id G
  have hl : lv_has ls 1 [(0, .int x)] := hl
  refine lv_iload_n hx hb dX6_isTwo_0 rfl (lv_at hl 0 rfl) ?_
  refine lv_i2l (v := x.toInt64) hx hb dX6_isTwo_1 rfl ?_
  refine lv_lconst (v := ((0 : Int32)).toInt64) hx hb dX6_isTwo_2 (by decide) ?_
  refine lv_lconst (v := ((1 : Int32)).toInt64) hx hb dX6_isTwo_3 (by decide) ?_
  refine callPS (rest := []) G K F_X6_in (c_X6_in x (0 : Int32) (1 : Int32)) (va_P_nil D s.heap) ml_X6_51 (by decide) (by decide) rfl hl.1 (Nat.le_of_ble_eq_true rfl) dX6_isTwo_4 ?_
  exact hret _ _ _ rfl dX6_isTwo_7
set_option maxHeartbeats 4000000 in
set_option maxRecDepth 100000 in
theorem c_X6_isSheet (x : Int32) : CP l D (TY cI cZ cS) yX6_isSheet cX6_isSheet 1 .boolean 1 [.int x] [] (.int (bI ((0 : Int32) ≤ x ∧ x ≤ (3 : Int32)))) := by
  refine CP.ofI (by decide +kernel) (Nat.le_of_ble_eq_true rfl) (bI_nar _) ?_
  intro p e s m args below meth c Q G K hP hret ls hl
  obtain ⟨hx, hb, hml, hown, hts⟩ := id G
  have hl : lv_has ls 1 [(0, .int x)] := hl
  refine lv_iload_n hx hb dX6_isSheet_0 rfl (lv_at hl 0 rfl) ?_
  refine lv_i2l (v := x.toInt64) hx hb dX6_isSheet_1 rfl ?_
  refine lv_lconst (v := ((0 : Int32)).toInt64) hx hb dX6_isSheet_2 (by decide) ?_
  refine lv_ldc2 hx hb hown (hts _ kl_X6_58) dX6_isSheet_3 ?_
  refine t_l (y := (3 : Int32).toInt64) (by decide) ?_
  refine callPS (rest := []) G K F_X6_in (c_X6_in x (0 : Int32) (3 : Int32)) (va_P_nil D s.heap) ml_X6_51 (by decide) (by decide) rfl hl.1 (Nat.le_of_ble_eq_true rfl) dX6_isSheet_6 ?_
  exact hret _ _ _ rfl dX6_isSheet_9
set_option maxHeartbeats 4000000 in
set_option maxRecDepth 100000 in
theorem c_X6_isThing (x : Int32) : CP l D (TY cI cZ cS) yX6_isThing cX6_isThing 1 .boolean 1 [.int x] [] (.int (bI ((0 : Int32) ≤ x ∧ x ≤ (15 : Int32)))) := by
  refine CP.ofI (by decide +kernel) (Nat.le_of_ble_eq_true rfl) (bI_nar _) ?_
  intro p e s m args below meth c Q G K hP hret ls hl
  obtain ⟨hx, hb, hml, hown, hts⟩ := id G
  have hl : lv_has ls 1 [(0, .int x)] := hl
  refine lv_iload_n hx hb dX6_isThing_0 rfl (lv_at hl 0 rfl) ?_
  refine lv_i2l (v := x.toInt64) hx hb dX6_isThing_1 rfl ?_
  refine lv_lconst (v := ((0 : Int32)).toInt64) hx hb dX6_isThing_2 (by decide) ?_
  refine lv_ldc2 hx hb hown (hts _ kl_X6_81) dX6_isThing_3 ?_
  refine t_l (y := (15 : Int32).toInt64) (by decide) ?_
  refine callPS (rest := []) G K F_X6_in (c_X6_in x (0 : Int32) (15 : Int32)) (va_P_nil D s.heap) ml_X6_51 (by decide) (by decide) rfl hl.1 (Nat.le_of_ble_eq_true rfl) dX6_isThing_6 ?_
  exact hret _ _ _ rfl dX6_isThing_9
set_option maxHeartbeats 4000000 in
set_option maxRecDepth 100000 in
theorem c_X6_isIn (x : Nat) (k : Nat) (hx9 : x < 65536) (hk9 : k < 16) : CP l D (TY cI cZ cS) yX6_isIn cX6_isIn 2 .boolean 0 [.int (nI x), .int (nI k)] [] (.int (bI (x.testBit k = true))) := by
  refine CP.ofI (by decide +kernel) (Nat.le_of_ble_eq_true rfl) (bI_nar _) ?_
  intro p e s m args below meth c Q G K hP hret ls hl
  obtain ⟨hx, hb, hml, hown, hts⟩ := id G
  have hl : lv_has ls 2 [(0, .int (nI x)), (1, .int (nI k))] := hl
  refine lv_iload_n hx hb dX6_isIn_0 rfl (lv_at hl 0 rfl) ?_
  refine lv_iload_n hx hb dX6_isIn_1 rfl (lv_at hl 1 rfl) ?_
  refine lv_ishr hx hb dX6_isIn_2 ?_
  refine lv_iconst (v := (nI 1)) hx hb dX6_isIn_3 (by decide) ?_
  refine lv_iand hx hb dX6_isIn_4 ?_
  refine t_i (y := (nI (x / 2 ^ k % 2))) (sh_bit hx9 hk9) ?_
  refine lv_iconst (v := (nI 1)) hx hb dX6_isIn_5 (by decide) ?_
  refine c_ne G (tgt := 13) (Nat.lt_of_lt_of_le (Nat.mod_lt _ (by decide)) (by decide)) (by omega) dX6_isIn_6 (by decide) (fun c6 => ?_) (fun c6 => ?_)
  · -- taken at 6
    refine lv_iconst (v := (nI 0)) hx hb dX6_isIn_13 (by decide) ?_
    exact hret _ _ _ (by first | exact b1 ((tb_iff x k).mp c6) | exact b0 (fun h => c6 ((tb_iff x k).mpr h))) dX6_isIn_14
  · -- not taken at 6
    refine lv_iconst (v := (nI 1)) hx hb dX6_isIn_9 (by decide) ?_
    refine lv_goto (tgt := 14) hx hb dX6_isIn_10 (by decide) ?_
    exact hret _ _ _ (by first | exact b1 ((tb_iff x k).mp c6) | exact b0 (fun h => c6 ((tb_iff x k).mpr h))) dX6_isIn_14
set_option maxHeartbeats 4000000 in
set_option maxRecDepth 100000 in
theorem c_X6_lesser (x : Nat) (y : Nat) (hx9 : x < 2 ^ 31) (hy9 : y < 2 ^ 31) : CP l D (TY cI cZ cS) yX6_lesser cX6_lesser 2 .int 0 [.int (nI x), .int (nI y)] [] (.int (nI (min x y))) := by
  refine CP.ofI (by decide +kernel) (Nat.le_of_ble_eq_true rfl) (nar_int _) ?_
  intro p e s m args below meth c Q G K hP hret ls hl
  obtain ⟨hx, hb, hml, hown, hts⟩ := id G
  have hl : lv_has ls 2 [(0, .int (nI x)), (1, .int (nI y))] := hl
  refine lv_iload_n hx hb dX6_lesser_0 rfl (lv_at hl 0 rfl) ?_
  refine lv_iload_n hx hb dX6_lesser_1 rfl (lv_at hl 1 rfl) ?_
  refine c_ge G (tgt := 9) (by omega) (by omega) dX6_lesser_2 (by decide) (fun c2 => ?_) (fun c2 => ?_)
  · -- taken at 2
    refine lv_iload_n hx hb dX6_lesser_9 rfl (lv_at hl 1 rfl) ?_
    exact hret _ _ _ (congrArg nI (by omega)) dX6_lesser_10
  · -- not taken at 2
    refine lv_iload_n hx hb dX6_lesser_5 rfl (lv_at hl 0 rfl) ?_
    refine lv_goto (tgt := 10) hx hb dX6_lesser_6 (by decide) ?_
    exact hret _ _ _ (congrArg nI (by omega)) dX6_lesser_10
set_option maxHeartbeats 4000000 in
set_option maxRecDepth 100000 in
theorem c_X6_greater (x : Nat) (y : Nat) (hx9 : x < 2 ^ 31) (hy9 : y < 2 ^ 31) : CP l D (TY cI cZ cS) yX6_greater cX6_greater 2 .int 0 [.int (nI x), .int (nI y)] [] (.int (nI (max x y))) := by
  refine CP.ofI (by decide +kernel) (Nat.le_of_ble_eq_true rfl) (nar_int _) ?_
  intro p e s m args below meth c Q G K hP hret ls hl
  obtain ⟨hx, hb, hml, hown, hts⟩ := id G
  have hl : lv_has ls 2 [(0, .int (nI x)), (1, .int (nI y))] := hl
  refine lv_iload_n hx hb dX6_greater_0 rfl (lv_at hl 0 rfl) ?_
  refine lv_iload_n hx hb dX6_greater_1 rfl (lv_at hl 1 rfl) ?_
  refine c_le G (tgt := 9) (by omega) (by omega) dX6_greater_2 (by decide) (fun c2 => ?_) (fun c2 => ?_)
  · -- taken at 2
    refine lv_iload_n hx hb dX6_greater_9 rfl (lv_at hl 1 rfl) ?_
    exact hret _ _ _ (congrArg nI (by omega)) dX6_greater_10
  · -- not taken at 2
    refine lv_iload_n hx hb dX6_greater_5 rfl (lv_at hl 0 rfl) ?_
    refine lv_goto (tgt := 10) hx hb dX6_greater_6 (by decide) ?_
    exact hret _ _ _ (congrArg nI (by omega)) dX6_greater_10
set_option maxHeartbeats 4000000 in
set_option maxRecDepth 100000 in
theorem c_X6_isValue (k : Int32) (v : Int32) : CP l D (TY cI cZ cS) yX6_isValue cX6_isValue 2 .boolean 1 [.int k, .int v] [] (.int (bI (0 ≤ v ∧ v ≤ (if k = nI 4 then 2 else 65535)))) := by
  refine CP.ofI (by decide +kernel) (Nat.le_of_ble_eq_true rfl) (bI_nar _) ?_
  intro p e s m args below meth c Q G K hP hret ls hl
  obtain ⟨hx, hb, hml, hown, hts⟩ := id G
  have hl : lv_has ls 2 [(0, .int k), (1, .int v)] := hl
  refine lv_iload_n hx hb dX6_isValue_0 rfl (lv_at hl 1 rfl) ?_
  refine lv_i2l (v := v.toInt64) hx hb dX6_isValue_1 rfl ?_
  refine lv_lconst (v := ((0 : Int32)).toInt64) hx hb dX6_isValue_2 (by decide) ?_
  refine lv_iload_n hx hb dX6_isValue_3 rfl (lv_at hl 0 rfl) ?_
  refine lv_iconst (v := (nI 4)) hx hb dX6_isValue_4 (by decide) ?_
  refine lv_icmp_ne (tgt := 14) hx hb dX6_isValue_5 (by decide) (fun c5 => ?_) (fun c5 => ?_)
  · -- taken at 5
    refine lv_ldc2 hx hb hown (hts _ kl_X6_79) dX6_isValue_14 ?_
    refine t_l (y := (65535 : Int32).toInt64) (by decide) ?_
    refine callPS (rest := []) G K F_X6_in (c_X6_in v (0 : Int32) (65535 : Int32)) (va_P_nil D s.heap) ml_X6_51 (by decide) (by decide) rfl hl.1 (Nat.le_of_ble_eq_true rfl) dX6_isValue_17 ?_
    exact hret _ _ _ (bI_iff (by first | rw [if_pos c5] | rw [if_neg c5])) dX6_isValue_20
  · -- not taken at 5
    refine lv_ldc2 hx hb hown (hts _ kl_X6_64) dX6_isValue_8 ?_
    refine t_l (y := (2 : Int32).toInt64) (by decide) ?_
    refine lv_goto (tgt := 17) hx hb dX6_isValue_11 (by decide) ?_
    refine callPS (rest := []) G K F_X6_in (c_X6_in v (0 : Int32) (2 : Int32)) (va_P_nil D s.heap) ml_X6_51 (by decide) (by decide) rfl hl.1 (Nat.le_of_ble_eq_true rfl) dX6_isValue_17 ?_
    exact hret _ _ _ (bI_iff (by first | rw [if_pos c5] | rw [if_neg c5])) dX6_isValue_20
set_option maxHeartbeats 4000000 in
set_option maxRecDepth 100000 in
theorem c_X6_manyOf (a : Nat → Nat) (la : Int32) (n : Nat) (cl : Nat) (go : Option Nat) (fo : Nat → Int32) (si : Nat → Nat) (it : Nat → Int32) (mo : Nat → Int32) (th : Nat → Nat) (ki : Nat → Nat) (va : Nat → Nat) (re : Nat → Nat) (to : Nat → Prop) (co : Nat → Nat) (ke : Nat → Int32) (fw : Nat → Nat) (r : Nat) (I : IM n cl go th ki va re si co fw) (hr9 : r < 2 ^ 31) : CP l D (TY cI cZ cS) yX6_manyOf cX6_manyOf 4 .int 0 [.ref (a 0), .int (nI r)] (wM cI cZ a la n cl go fo si it mo th ki va re to co ke fw) (.int (nI (cntEq re r n))) := by
  refine CP.ofI (by decide +kernel) (Nat.le_of_ble_eq_true rfl) (nar_int _) ?_
  intro p e s m args below meth c Q G K hP hret ls hl
  obtain ⟨hx, hb, hml, hown, hts⟩ := id G
  obtain ⟨hn, hcl, hgo, hth, hki, hva, hre, hsi, hco, hfw⟩ := id I
  have hl : lv_has ls 4 [(0, .ref (a 0)), (1, .int (nI r))] := hl
  refine lv_iconst (v := (nI 0)) hx hb dX6_manyOf_0 (by decide) ?_
  refine lv_istore_n (lv' := [(2, .int (nI 0)), (0, .ref (a 0)), (1, .int (nI r))]) hx hb dX6_manyOf_1 rfl hl (by decide) rfl (fun ls hl => ?_)
  refine lv_iconst (v := (nI 0)) hx hb dX6_manyOf_2 (by decide) ?_
  refine lv_istore_n (lv' := [(3, .int (nI 0)), (2, .int (nI 0)), (0, .ref (a 0)), (1, .int (nI r))]) hx hb dX6_manyOf_3 rfl hl (by decide) rfl (fun ls hl => ?_)
  have L4 : ∀ (d i : Nat), 0 ≤ i → i + d = n → ∀ (ls : Array Slot), lv_has ls 4 [(0, .ref (a 0)), (1, .int (nI r)), (2, .int (nI (cntEq re r i))), (3, .int (nI i))] → W p l e (RM 0) s m args below meth c s.heap [] 0 0 Q (F0 m 4 ls []) := by
    intro d
    induction d with
    | zero =>
      intro i hlo4 hhi4 ls hl
      refine lv_iload_n hx hb dX6_manyOf_4 rfl (lv_at hl 3 rfl) ?_
      refine lv_aload_n hx hb dX6_manyOf_5 rfl (lv_at hl 0 rfl) ?_
      refine f_get G K hP inX6 0 (ci := 6) rfl rfl 5 rfl fl_X6_89 (v := .int (nI n)) rfl dX6_manyOf_6 ?_
      refine c_ge G (tgt := 36) (by omega) (by omega) dX6_manyOf_9 (by decide) (fun c9 => ?_) (fun c9 => ?_)
      · -- taken at 9
        refine lv_iload_n hx hb dX6_manyOf_36 rfl (lv_at hl 2 rfl) ?_
        exact hret _ _ _ (congrArg nI (by rw [show i = n by omega])) dX6_manyOf_37
      · -- not taken at 9
        exact absurd c9 (by omega)
    | succ d ih =>
      intro i hlo4 hhi4 ls hl
      refine lv_iload_n hx hb dX6_manyOf_4 rfl (lv_at hl 3 rfl) ?_
      refine lv_aload_n hx hb dX6_manyOf_5 rfl (lv_at hl 0 rfl) ?_
      refine f_get G K hP inX6 0 (ci := 6) rfl rfl 5 rfl fl_X6_89 (v := .int (nI n)) rfl dX6_manyOf_6 ?_
      refine c_ge G (tgt := 36) (by omega) (by omega) dX6_manyOf_9 (by decide) (fun c9 => ?_) (fun c9 => ?_)
      · -- taken at 9
        exact absurd c9 (by omega)
      · -- not taken at 9
        refine lv_iload_n hx hb dX6_manyOf_12 rfl (lv_at hl 2 rfl) ?_
        refine lv_aload_n hx hb dX6_manyOf_13 rfl (lv_at hl 0 rfl) ?_
        refine f_get G K hP inX6 0 (ci := 6) rfl rfl 9 rfl fl_X6_31 (v := .ref (a 8)) rfl dX6_manyOf_14 ?_
        refine lv_iload_n hx hb dX6_manyOf_17 rfl (lv_at hl 3 rfl) ?_
        refine a_ldN G K hP 8 0 (a := (a 8)) rfl rfl (by omega) (by decide) dX6_manyOf_18 ?_
        have hb1 := hre i
        refine lv_iload_n hx hb dX6_manyOf_19 rfl (lv_at hl 1 rfl) ?_
        refine c_ne G (tgt := 27) (by omega) (by omega) dX6_manyOf_20 (by decide) (fun c20 => ?_) (fun c20 => ?_)
        · -- taken at 20
          refine lv_iconst (v := (nI 0)) hx hb dX6_manyOf_27 (by decide) ?_
          refine t_add G dX6_manyOf_28 ?_
          refine t_i (y := (nI (cntEq re r (i + 1)))) (congrArg nI (by first | exact (cntEq_t c20).symm | exact (cntEq_f c20).symm)) ?_
          refine lv_istore_n (lv' := [(2, .int (nI (cntEq re r (i + 1)))), (0, .ref (a 0)), (1, .int (nI r)), (3, .int (nI i))]) hx hb dX6_manyOf_29 rfl hl (by decide) rfl (fun ls hl => ?_)
          refine lv_iinc (v := (nI (i + 1))) (lv' := [(3, .int (nI (i + 1))), (2, .int (nI (cntEq re r (i + 1)))), (0, .ref (a 0)), (1, .int (nI r))]) hx hb dX6_manyOf_30 hl (k := 3) rfl (nI_inc _ 1) (by decide) rfl (fun ls hl => ?_)
          refine lv_goto (tgt := 4) hx hb dX6_manyOf_33 (by decide) ?_
          -- slot 3: have n:i + 1, want n:(i + 1)
          exact ih (i + 1) (by omega) (by omega) ls (lv_sub hl [2, 3, 1, 0] rfl)
        · -- not taken at 20
          refine lv_iconst (v := (nI 1)) hx hb dX6_manyOf_23 (by decide) ?_
          refine lv_goto (tgt := 28) hx hb dX6_manyOf_24 (by decide) ?_
          refine t_add G dX6_manyOf_28 ?_
          refine t_i (y := (nI (cntEq re r (i + 1)))) (congrArg nI (by first | exact (cntEq_t c20).symm | exact (cntEq_f c20).symm)) ?_
          refine lv_istore_n (lv' := [(2, .int (nI (cntEq re r (i + 1)))), (0, .ref (a 0)), (1, .int (nI r)), (3, .int (nI i))]) hx hb dX6_manyOf_29 rfl hl (by decide) rfl (fun ls hl => ?_)
          refine lv_iinc (v := (nI (i + 1))) (lv' := [(3, .int (nI (i + 1))), (2, .int (nI (cntEq re r (i + 1)))), (0, .ref (a 0)), (1, .int (nI r))]) hx hb dX6_manyOf_30 hl (k := 3) rfl (nI_inc _ 1) (by decide) rfl (fun ls hl => ?_)
          refine lv_goto (tgt := 4) hx hb dX6_manyOf_33 (by decide) ?_
          -- slot 3: have n:i + 1, want n:(i + 1)
          exact ih (i + 1) (by omega) (by omega) ls (lv_sub hl [2, 3, 1, 0] rfl)
  exact L4 (n - 0) (0) (Nat.le_refl _) (by omega) ls (lv_sub hl [2, 3, 1, 0] rfl)
set_option maxHeartbeats 4000000 in
set_option maxRecDepth 100000 in
theorem c_X6_firstOf (a : Nat → Nat) (la : Int32) (n : Nat) (cl : Nat) (go : Option Nat) (fo : Nat → Int32) (si : Nat → Nat) (it : Nat → Int32) (mo : Nat → Int32) (th : Nat → Nat) (ki : Nat → Nat) (va : Nat → Nat) (re : Nat → Nat) (to : Nat → Prop) (co : Nat → Nat) (ke : Nat → Int32) (fw : Nat → Nat) (r : Nat) (I : IM n cl go th ki va re si co fw) (hr9 : r < 2 ^ 31) : CP l D (TY cI cZ cS) yX6_firstOf cX6_firstOf 4 .int 0 [.ref (a 0), .int (nI r)] (wM cI cZ a la n cl go fo si it mo th ki va re to co ke fw) (.int (nI (cntLt re r n))) := by
  refine CP.ofI (by decide +kernel) (Nat.le_of_ble_eq_true rfl) (nar_int _) ?_
  intro p e s m args below meth c Q G K hP hret ls hl
  obtain ⟨hx, hb, hml, hown, hts⟩ := id G
  obtain ⟨hn, hcl, hgo, hth, hki, hva, hre, hsi, hco, hfw⟩ := id I
  have hl : lv_has ls 4 [(0, .ref (a 0)), (1, .int (nI r))] := hl
  refine lv_iconst (v := (nI 0)) hx hb dX6_firstOf_0 (by decide) ?_
  refine lv_istore_n (lv' := [(2, .int (nI 0)), (0, .ref (a 0)), (1, .int (nI r))]) hx hb dX6_firstOf_1 rfl hl (by decide) rfl (fun ls hl => ?_)
  refine lv_iconst (v := (nI 0)) hx hb dX6_firstOf_2 (by decide) ?_
  refine lv_istore_n (lv' := [(3, .int (nI 0)), (2, .int (nI 0)), (0, .ref (a 0)), (1, .int (nI r))]) hx hb dX6_firstOf_3 rfl hl (by decide) rfl (fun ls hl => ?_)
  have L4 : ∀ (d i : Nat), 0 ≤ i → i + d = n → ∀ (ls : Array Slot), lv_has ls 4 [(0, .ref (a 0)), (1, .int (nI r)), (2, .int (nI (cntLt re r i))), (3, .int (nI i))] → W p l e (RM 0) s m args below meth c s.heap [] 0 0 Q (F0 m 4 ls []) := by
    intro d
    induction d with
    | zero =>
      intro i hlo4 hhi4 ls hl
      refine lv_iload_n hx hb dX6_firstOf_4 rfl (lv_at hl 3 rfl) ?_
      refine lv_aload_n hx hb dX6_firstOf_5 rfl (lv_at hl 0 rfl) ?_
      refine f_get G K hP inX6 0 (ci := 6) rfl rfl 5 rfl fl_X6_89 (v := .int (nI n)) rfl dX6_firstOf_6 ?_
      refine c_ge G (tgt := 36) (by omega) (by omega) dX6_firstOf_9 (by decide) (fun c9 => ?_) (fun c9 => ?_)
      · -- taken at 9
        refine lv_iload_n hx hb dX6_firstOf_36 rfl (lv_at hl 2 rfl) ?_
        exact hret _ _ _ (congrArg nI (by rw [show i = n by omega])) dX6_firstOf_37
      · -- not taken at 9
        exact absurd c9 (by omega)
    | succ d ih =>
      intro i hlo4 hhi4 ls hl
      refine lv_iload_n hx hb dX6_firstOf_4 rfl (lv_at hl 3 rfl) ?_
      refine lv_aload_n hx hb dX6_firstOf_5 rfl (lv_at hl 0 rfl) ?_
      refine f_get G K hP inX6 0 (ci := 6) rfl rfl 5 rfl fl_X6_89 (v := .int (nI n)) rfl dX6_firstOf_6 ?_
      refine c_ge G (tgt := 36) (by omega) (by omega) dX6_firstOf_9 (by decide) (fun c9 => ?_) (fun c9 => ?_)
      · -- taken at 9
        exact absurd c9 (by omega)
      · -- not taken at 9
        refine lv_iload_n hx hb dX6_firstOf_12 rfl (lv_at hl 2 rfl) ?_
        refine lv_aload_n hx hb dX6_firstOf_13 rfl (lv_at hl 0 rfl) ?_
        refine f_get G K hP inX6 0 (ci := 6) rfl rfl 9 rfl fl_X6_31 (v := .ref (a 8)) rfl dX6_firstOf_14 ?_
        refine lv_iload_n hx hb dX6_firstOf_17 rfl (lv_at hl 3 rfl) ?_
        refine a_ldN G K hP 8 0 (a := (a 8)) rfl rfl (by omega) (by decide) dX6_firstOf_18 ?_
        have hb1 := hre i
        refine lv_iload_n hx hb dX6_firstOf_19 rfl (lv_at hl 1 rfl) ?_
        refine c_ge G (tgt := 27) (by omega) (by omega) dX6_firstOf_20 (by decide) (fun c20 => ?_) (fun c20 => ?_)
        · -- taken at 20
          refine lv_iconst (v := (nI 0)) hx hb dX6_firstOf_27 (by decide) ?_
          refine t_add G dX6_firstOf_28 ?_
          refine t_i (y := (nI (cntLt re r (i + 1)))) (congrArg nI (by first | exact (cntLt_t c20).symm | exact (cntLt_f c20).symm)) ?_
          refine lv_istore_n (lv' := [(2, .int (nI (cntLt re r (i + 1)))), (0, .ref (a 0)), (1, .int (nI r)), (3, .int (nI i))]) hx hb dX6_firstOf_29 rfl hl (by decide) rfl (fun ls hl => ?_)
          refine lv_iinc (v := (nI (i + 1))) (lv' := [(3, .int (nI (i + 1))), (2, .int (nI (cntLt re r (i + 1)))), (0, .ref (a 0)), (1, .int (nI r))]) hx hb dX6_firstOf_30 hl (k := 3) rfl (nI_inc _ 1) (by decide) rfl (fun ls hl => ?_)
          refine lv_goto (tgt := 4) hx hb dX6_firstOf_33 (by decide) ?_
          -- slot 3: have n:i + 1, want n:(i + 1)
          exact ih (i + 1) (by omega) (by omega) ls (lv_sub hl [2, 3, 1, 0] rfl)
        · -- not taken at 20
          refine lv_iconst (v := (nI 1)) hx hb dX6_firstOf_23 (by decide) ?_
          refine lv_goto (tgt := 28) hx hb dX6_firstOf_24 (by decide) ?_
          refine t_add G dX6_firstOf_28 ?_
          refine t_i (y := (nI (cntLt re r (i + 1)))) (congrArg nI (by first | exact (cntLt_t c20).symm | exact (cntLt_f c20).symm)) ?_
          refine lv_istore_n (lv' := [(2, .int (nI (cntLt re r (i + 1)))), (0, .ref (a 0)), (1, .int (nI r)), (3, .int (nI i))]) hx hb dX6_firstOf_29 rfl hl (by decide) rfl (fun ls hl => ?_)
          refine lv_iinc (v := (nI (i + 1))) (lv' := [(3, .int (nI (i + 1))), (2, .int (nI (cntLt re r (i + 1)))), (0, .ref (a 0)), (1, .int (nI r))]) hx hb dX6_firstOf_30 hl (k := 3) rfl (nI_inc _ 1) (by decide) rfl (fun ls hl => ?_)
          refine lv_goto (tgt := 4) hx hb dX6_firstOf_33 (by decide) ?_
          -- slot 3: have n:i + 1, want n:(i + 1)
          exact ih (i + 1) (by omega) (by omega) ls (lv_sub hl [2, 3, 1, 0] rfl)
  exact L4 (n - 0) (0) (Nat.le_refl _) (by omega) ls (lv_sub hl [2, 3, 1, 0] rfl)
set_option maxHeartbeats 4000000 in
set_option maxRecDepth 100000 in
theorem c_X6_isWrite (a : Nat → Nat) (la : Int32) (n : Nat) (cl : Nat) (go : Option Nat) (fo : Nat → Int32) (si : Nat → Nat) (it : Nat → Int32) (mo : Nat → Int32) (th : Nat → Nat) (ki : Nat → Nat) (va : Nat → Nat) (re : Nat → Nat) (to : Nat → Prop) (co : Nat → Nat) (ke : Nat → Int32) (fw : Nat → Nat) (w : Int32) (I : IM n cl go th ki va re si co fw) : CP l D (TY cI cZ cS) yX6_isWrite cX6_isWrite 2 .boolean 1 [.ref (a 0), .int w] (wM cI cZ a la n cl go fo si it mo th ki va re to co ke fw) (.int (bI (okW n w))) := by
  refine CP.ofI (by decide +kernel) (Nat.le_of_ble_eq_true rfl) (bI_nar _) ?_
  intro p e s m args below meth c Q G K hP hret ls hl
  obtain ⟨hx, hb, hml, hown, hts⟩ := id G
  obtain ⟨hn, hcl, hgo, hth, hki, hva, hre, hsi, hco, hfw⟩ := id I
  have hl : lv_has ls 2 [(0, .ref (a 0)), (1, .int w)] := hl
  refine lv_iload_n hx hb dX6_isWrite_0 rfl (lv_at hl 1 rfl) ?_
  refine lv_i2l (v := w.toInt64) hx hb dX6_isWrite_1 rfl ?_
  refine lv_lconst (v := ((0 : Int32)).toInt64) hx hb dX6_isWrite_2 (by decide) ?_
  refine lv_aload_n hx hb dX6_isWrite_3 rfl (lv_at hl 0 rfl) ?_
  refine f_get G K hP inX6 0 (ci := 6) rfl rfl 5 rfl fl_X6_89 (v := .int (nI n)) rfl dX6_isWrite_4 ?_
  refine lv_iconst (v := (nI 1)) hx hb dX6_isWrite_7 (by decide) ?_
  refine lv_isub hx hb dX6_isWrite_8 ?_
  refine lv_i2l (v := ((nI n) - (nI 1)).toInt64) hx hb dX6_isWrite_9 rfl ?_
  refine callPS (rest := []) G K F_X6_in (c_X6_in w (0 : Int32) ((nI n) - (nI 1))) (va_P_nil D s.heap) ml_X6_51 (by decide) (by decide) rfl hl.1 (Nat.le_of_ble_eq_true rfl) dX6_isWrite_10 ?_
  exact hret _ _ _ (bI_iff (okW_iff hn)) dX6_isWrite_13
set_option maxHeartbeats 4000000 in
set_option maxRecDepth 100000 in
theorem c_X6_isSeal (a : Nat → Nat) (la : Int32) (n : Nat) (cl : Nat) (go : Option Nat) (fo : Nat → Int32) (si : Nat → Nat) (it : Nat → Int32) (mo : Nat → Int32) (th : Nat → Nat) (ki : Nat → Nat) (va : Nat → Nat) (re : Nat → Nat) (to : Nat → Prop) (co : Nat → Nat) (ke : Nat → Int32) (fw : Nat → Nat) (w : Nat) (I : IM n cl go th ki va re si co fw) (hw9 : w < 40) : CP l D (TY cI cZ cS) yX6_isSeal cX6_isSeal 2 .boolean 0 [.ref (a 0), .int (nI w)] (wM cI cZ a la n cl go fo si it mo th ki va re to co ke fw) (.int (bI (ki w = 4))) := by
  refine CP.ofI (by decide +kernel) (Nat.le_of_ble_eq_true rfl) (bI_nar _) ?_
  intro p e s m args below meth c Q G K hP hret ls hl
  obtain ⟨hx, hb, hml, hown, hts⟩ := id G
  obtain ⟨hn, hcl, hgo, hth, hki, hva, hre, hsi, hco, hfw⟩ := id I
  have hl : lv_has ls 2 [(0, .ref (a 0)), (1, .int (nI w))] := hl
  refine lv_aload_n hx hb dX6_isSeal_0 rfl (lv_at hl 0 rfl) ?_
  refine f_get G K hP inX6 0 (ci := 6) rfl rfl 7 rfl fl_X6_25 (v := .ref (a 6)) rfl dX6_isSeal_1 ?_
  refine lv_iload_n hx hb dX6_isSeal_4 rfl (lv_at hl 1 rfl) ?_
  refine a_ldN G K hP 6 0 (a := (a 6)) rfl rfl (by omega) (by decide) dX6_isSeal_5 ?_
  have hb1 := hki w
  refine lv_iconst (v := (nI 4)) hx hb dX6_isSeal_6 (by decide) ?_
  refine c_ne G (tgt := 14) (by omega) (by omega) dX6_isSeal_7 (by decide) (fun c7 => ?_) (fun c7 => ?_)
  · -- taken at 7
    refine lv_iconst (v := (nI 0)) hx hb dX6_isSeal_14 (by decide) ?_
    exact hret _ _ _ (by first | exact b1 c7 | exact b0 c7) dX6_isSeal_15
  · -- not taken at 7
    refine lv_iconst (v := (nI 1)) hx hb dX6_isSeal_10 (by decide) ?_
    refine lv_goto (tgt := 15) hx hb dX6_isSeal_11 (by decide) ?_
    exact hret _ _ _ (by first | exact b1 c7 | exact b0 c7) dX6_isSeal_15
set_option maxHeartbeats 4000000 in
set_option maxRecDepth 100000 in
theorem c_X6_isClosed (a : Nat → Nat) (la : Int32) (n : Nat) (cl : Nat) (go : Option Nat) (fo : Nat → Int32) (si : Nat → Nat) (it : Nat → Int32) (mo : Nat → Int32) (th : Nat → Nat) (ki : Nat → Nat) (va : Nat → Nat) (re : Nat → Nat) (to : Nat → Prop) (co : Nat → Nat) (ke : Nat → Int32) (fw : Nat → Nat) (w : Nat) (I : IM n cl go th ki va re si co fw) (hw9 : w < 40) : CP l D (TY cI cZ cS) yX6_isClosed cX6_isClosed 2 .boolean 1 [.ref (a 0), .int (nI w)] (wM cI cZ a la n cl go fo si it mo th ki va re to co ke fw) (.int (bI (ki w = 4 ∧ re w < cl))) := by
  refine CP.ofI (by decide +kernel) (Nat.le_of_ble_eq_true rfl) (bI_nar _) ?_
  intro p e s m args below meth c Q G K hP hret ls hl
  obtain ⟨hx, hb, hml, hown, hts⟩ := id G
  obtain ⟨hn, hcl, hgo, hth, hki, hva, hre, hsi, hco, hfw⟩ := id I
  have hl : lv_has ls 2 [(0, .ref (a 0)), (1, .int (nI w))] := hl
  refine lv_aload_n hx hb dX6_isClosed_0 rfl (lv_at hl 0 rfl) ?_
  refine lv_iload_n hx hb dX6_isClosed_1 rfl (lv_at hl 1 rfl) ?_
  refine callPV (As := [.int (nI w)]) (rest := []) (q0 := 0) (ci := 6) G K F_X6_isSeal (c_X6_isSeal a la n cl go fo si it mo th ki va re to co ke fw w I (by omega)) hP ml_X6_101 rfl rfl rfl (by decide) (by decide) rfl hl.1 (Nat.le_of_ble_eq_true rfl) dX6_isClosed_2 ?_
  refine b_eq G (tgt := 25) dX6_isClosed_5 (by decide) (fun c5 => ?_) (fun c5 => ?_)
  · -- taken at 5
    refine lv_iconst (v := (nI 0)) hx hb dX6_isClosed_25 (by decide) ?_
    exact hret _ _ _ (by first | exact b1 ⟨c5, c18⟩ | exact b0 (fun h => c5 h.1) | exact b0 (fun h => Nat.not_lt.mpr c18 h.2)) dX6_isClosed_26
  · -- not taken at 5
    refine lv_aload_n hx hb dX6_isClosed_8 rfl (lv_at hl 0 rfl) ?_
    refine f_get G K hP inX6 0 (ci := 6) rfl rfl 9 rfl fl_X6_31 (v := .ref (a 8)) rfl dX6_isClosed_9 ?_
    refine lv_iload_n hx hb dX6_isClosed_12 rfl (lv_at hl 1 rfl) ?_
    refine a_ldN G K hP 8 0 (a := (a 8)) rfl rfl (by omega) (by decide) dX6_isClosed_13 ?_
    have hb1 := hre w
    refine lv_aload_n hx hb dX6_isClosed_14 rfl (lv_at hl 0 rfl) ?_
    refine f_get G K hP inX6 0 (ci := 6) rfl rfl 13 rfl fl_X6_92 (v := .int (nI cl)) rfl dX6_isClosed_15 ?_
    refine c_ge G (tgt := 25) (by omega) (by omega) dX6_isClosed_18 (by decide) (fun c18 => ?_) (fun c18 => ?_)
    · -- taken at 18
      refine lv_iconst (v := (nI 0)) hx hb dX6_isClosed_25 (by decide) ?_
      exact hret _ _ _ (by first | exact b1 ⟨c5, c18⟩ | exact b0 (fun h => c5 h.1) | exact b0 (fun h => Nat.not_lt.mpr c18 h.2)) dX6_isClosed_26
    · -- not taken at 18
      refine lv_iconst (v := (nI 1)) hx hb dX6_isClosed_21 (by decide) ?_
      refine lv_goto (tgt := 26) hx hb dX6_isClosed_22 (by decide) ?_
      exact hret _ _ _ (by first | exact b1 ⟨c5, c18⟩ | exact b0 (fun h => c5 h.1) | exact b0 (fun h => Nat.not_lt.mpr c18 h.2)) dX6_isClosed_26
set_option maxHeartbeats 4000000 in
set_option maxRecDepth 100000 in
theorem c_X6_placeOf (a : Nat → Nat) (la : Int32) (n : Nat) (cl : Nat) (go : Option Nat) (fo : Nat → Int32) (si : Nat → Nat) (it : Nat → Int32) (mo : Nat → Int32) (th : Nat → Nat) (ki : Nat → Nat) (va : Nat → Nat) (re : Nat → Nat) (to : Nat → Prop) (co : Nat → Nat) (ke : Nat → Int32) (fw : Nat → Nat) (w : Nat) (I : IM n cl go th ki va re si co fw) (hw9 : w < 40) : CP l D (TY cI cZ cS) yX6_placeOf cX6_placeOf 2 .int 0 [.ref (a 0), .int (nI w)] (wM cI cZ a la n cl go fo si it mo th ki va re to co ke fw) (.int (nI (5 * w + 2 * re w))) := by
  refine CP.ofI (by decide +kernel) (Nat.le_of_ble_eq_true rfl) (nar_int _) ?_
  intro p e s m args below meth c Q G K hP hret ls hl
  obtain ⟨hx, hb, hml, hown, hts⟩ := id G
  obtain ⟨hn, hcl, hgo, hth, hki, hva, hre, hsi, hco, hfw⟩ := id I
  have hl : lv_has ls 2 [(0, .ref (a 0)), (1, .int (nI w))] := hl
  refine lv_iconst (v := (nI 5)) hx hb dX6_placeOf_0 (by decide) ?_
  refine lv_iload_n hx hb dX6_placeOf_1 rfl (lv_at hl 1 rfl) ?_
  refine t_mul G dX6_placeOf_2 ?_
  refine lv_iconst (v := (nI 2)) hx hb dX6_placeOf_3 (by decide) ?_
  refine lv_aload_n hx hb dX6_placeOf_4 rfl (lv_at hl 0 rfl) ?_
  refine f_get G K hP inX6 0 (ci := 6) rfl rfl 9 rfl fl_X6_31 (v := .ref (a 8)) rfl dX6_placeOf_5 ?_
  refine lv_iload_n hx hb dX6_placeOf_8 rfl (lv_at hl 1 rfl) ?_
  refine a_ldN G K hP 8 0 (a := (a 8)) rfl rfl (by omega) (by decide) dX6_placeOf_9 ?_
  have hb1 := hre w
  refine t_mul G dX6_placeOf_10 ?_
  refine t_add G dX6_placeOf_11 ?_
  exact hret _ _ _ rfl dX6_placeOf_12
set_option maxHeartbeats 4000000 in
set_option maxRecDepth 100000 in
theorem c_X6_beginOf (a : Nat → Nat) (la : Int32) (n : Nat) (cl : Nat) (go : Option Nat) (fo : Nat → Int32) (si : Nat → Nat) (it : Nat → Int32) (mo : Nat → Int32) (th : Nat → Nat) (ki : Nat → Nat) (va : Nat → Nat) (re : Nat → Nat) (to : Nat → Prop) (co : Nat → Nat) (ke : Nat → Int32) (fw : Nat → Nat) (r : Nat) (I : IM n cl go th ki va re si co fw) (hr9 : r < 2 ^ 31) : CP l D (TY cI cZ cS) yX6_beginOf cX6_beginOf 2 .int 1 [.ref (a 0), .int (nI r)] (wM cI cZ a la n cl go fo si it mo th ki va re to co ke fw) (.int (nI (begB re n r))) := by
  refine CP.ofI (by decide +kernel) (Nat.le_of_ble_eq_true rfl) (nar_int _) ?_
  intro p e s m args below meth c Q G K hP hret ls hl
  obtain ⟨hx, hb, hml, hown, hts⟩ := id G
  obtain ⟨hn, hcl, hgo, hth, hki, hva, hre, hsi, hco, hfw⟩ := id I
  have hl : lv_has ls 2 [(0, .ref (a 0)), (1, .int (nI r))] := hl
  refine lv_iconst (v := (nI 5)) hx hb dX6_beginOf_0 (by decide) ?_
  refine lv_aload_n hx hb dX6_beginOf_1 rfl (lv_at hl 0 rfl) ?_
  refine lv_iload_n hx hb dX6_beginOf_2 rfl (lv_at hl 1 rfl) ?_
  refine callPV (As := [.int (nI r)]) (rest := [.int (nI 5)]) (q0 := 0) (ci := 6) G K F_X6_firstOf (c_X6_firstOf a la n cl go fo si it mo th ki va re to co ke fw r I (by omega)) hP ml_X6_119 rfl rfl rfl (by decide) (by decide) rfl hl.1 (Nat.le_of_ble_eq_true rfl) dX6_beginOf_3 ?_
  have hf1 := cnt_le re r n
  refine t_mul G dX6_beginOf_6 ?_
  refine lv_iconst (v := (nI 2)) hx hb dX6_beginOf_7 (by decide) ?_
  refine lv_iload_n hx hb dX6_beginOf_8 rfl (lv_at hl 1 rfl) ?_
  refine t_mul G dX6_beginOf_9 ?_
  refine t_add G dX6_beginOf_10 ?_
  exact hret _ _ _ rfl dX6_beginOf_11
set_option maxHeartbeats 4000000 in
set_option maxRecDepth 100000 in
theorem c_X6_endOf (a : Nat → Nat) (la : Int32) (n : Nat) (cl : Nat) (go : Option Nat) (fo : Nat → Int32) (si : Nat → Nat) (it : Nat → Int32) (mo : Nat → Int32) (th : Nat → Nat) (ki : Nat → Nat) (va : Nat → Nat) (re : Nat → Nat) (to : Nat → Prop) (co : Nat → Nat) (ke : Nat → Int32) (fw : Nat → Nat) (r : Nat) (I : IM n cl go th ki va re si co fw) (hr9 : r < 2 ^ 31) : CP l D (TY cI cZ cS) yX6_endOf cX6_endOf 2 .int 2 [.ref (a 0), .int (nI r)] (wM cI cZ a la n cl go fo si it mo th ki va re to co ke fw) (.int (nI (endB re n cl r))) := by
  refine CP.ofI (by decide +kernel) (Nat.le_of_ble_eq_true rfl) (nar_int _) ?_
  intro p e s m args below meth c Q G K hP hret ls hl
  obtain ⟨hx, hb, hml, hown, hts⟩ := id G
  obtain ⟨hn, hcl, hgo, hth, hki, hva, hre, hsi, hco, hfw⟩ := id I
  have hl : lv_has ls 2 [(0, .ref (a 0)), (1, .int (nI r))] := hl
  refine lv_aload_n hx hb dX6_endOf_0 rfl (lv_at hl 0 rfl) ?_
  refine lv_iload_n hx hb dX6_endOf_1 rfl (lv_at hl 1 rfl) ?_
  refine callPV (As := [.int (nI r)]) (rest := []) (q0 := 0) (ci := 6) G K F_X6_beginOf (c_X6_beginOf a la n cl go fo si it mo th ki va re to co ke fw r I (by omega)) hP ml_X6_122 rfl rfl rfl (by decide) (by decide) rfl hl.1 (Nat.le_of_ble_eq_true rfl) dX6_endOf_2 ?_
  have hf1 := cnt_le re r n
  have hf2 := begB_eq re n r
  refine lv_iconst (v := (nI 5)) hx hb dX6_endOf_5 (by decide) ?_
  refine lv_aload_n hx hb dX6_endOf_6 rfl (lv_at hl 0 rfl) ?_
  refine lv_iload_n hx hb dX6_endOf_7 rfl (lv_at hl 1 rfl) ?_
  refine callPV (As := [.int (nI r)]) (rest := [.int (nI 5), .int (nI (begB re n r))]) (q0 := 0) (ci := 6) G K F_X6_manyOf (c_X6_manyOf a la n cl go fo si it mo th ki va re to co ke fw r I (by omega)) hP ml_X6_95 rfl rfl rfl (by decide) (by decide) rfl hl.1 (Nat.le_of_ble_eq_true rfl) dX6_endOf_8 ?_
  have hf3 := cnt_le re r n
  refine t_mul G dX6_endOf_11 ?_
  refine t_add G dX6_endOf_12 ?_
  refine lv_iload_n hx hb dX6_endOf_13 rfl (lv_at hl 1 rfl) ?_
  refine lv_aload_n hx hb dX6_endOf_14 rfl (lv_at hl 0 rfl) ?_
  refine f_get G K hP inX6 0 (ci := 6) rfl rfl 13 rfl fl_X6_92 (v := .int (nI cl)) rfl dX6_endOf_15 ?_
  refine c_ge G (tgt := 25) (by omega) (by omega) dX6_endOf_18 (by decide) (fun c18 => ?_) (fun c18 => ?_)
  · -- taken at 18
    refine lv_iconst (v := (nI 0)) hx hb dX6_endOf_25 (by decide) ?_
    refine t_add G dX6_endOf_26 ?_
    exact hret _ _ _ (congrArg nI (by unfold endB; first | rw [if_pos c18] | rw [if_neg (Nat.not_lt.mpr c18)])) dX6_endOf_27
  · -- not taken at 18
    refine lv_iconst (v := (nI 2)) hx hb dX6_endOf_21 (by decide) ?_
    refine lv_goto (tgt := 26) hx hb dX6_endOf_22 (by decide) ?_
    refine t_add G dX6_endOf_26 ?_
    exact hret _ _ _ (congrArg nI (by unfold endB; first | rw [if_pos c18] | rw [if_neg (Nat.not_lt.mpr c18)])) dX6_endOf_27
set_option maxHeartbeats 4000000 in
set_option maxRecDepth 100000 in
theorem c_X6_allBytes (a : Nat → Nat) (la : Int32) (n : Nat) (cl : Nat) (go : Option Nat) (fo : Nat → Int32) (si : Nat → Nat) (it : Nat → Int32) (mo : Nat → Int32) (th : Nat → Nat) (ki : Nat → Nat) (va : Nat → Nat) (re : Nat → Nat) (to : Nat → Prop) (co : Nat → Nat) (ke : Nat → Int32) (fw : Nat → Nat) (I : IM n cl go th ki va re si co fw) : CP l D (TY cI cZ cS) yX6_allBytes cX6_allBytes 1 .int 0 [.ref (a 0)] (wM cI cZ a la n cl go fo si it mo th ki va re to co ke fw) (.int (nI (5 * n + 2 * cl))) := by
  refine CP.ofI (by decide +kernel) (Nat.le_of_ble_eq_true rfl) (nar_int _) ?_
  intro p e s m args below meth c Q G K hP hret ls hl
  obtain ⟨hx, hb, hml, hown, hts⟩ := id G
  obtain ⟨hn, hcl, hgo, hth, hki, hva, hre, hsi, hco, hfw⟩ := id I
  have hl : lv_has ls 1 [(0, .ref (a 0))] := hl
  refine lv_iconst (v := (nI 5)) hx hb dX6_allBytes_0 (by decide) ?_
  refine lv_aload_n hx hb dX6_allBytes_1 rfl (lv_at hl 0 rfl) ?_
  refine f_get G K hP inX6 0 (ci := 6) rfl rfl 5 rfl fl_X6_89 (v := .int (nI n)) rfl dX6_allBytes_2 ?_
  refine t_mul G dX6_allBytes_5 ?_
  refine lv_iconst (v := (nI 2)) hx hb dX6_allBytes_6 (by decide) ?_
  refine lv_aload_n hx hb dX6_allBytes_7 rfl (lv_at hl 0 rfl) ?_
  refine f_get G K hP inX6 0 (ci := 6) rfl rfl 13 rfl fl_X6_92 (v := .int (nI cl)) rfl dX6_allBytes_8 ?_
  refine t_mul G dX6_allBytes_11 ?_
  refine t_add G dX6_allBytes_12 ?_
  exact hret _ _ _ rfl dX6_allBytes_13
set_option maxHeartbeats 4000000 in
set_option maxRecDepth 100000 in
theorem c_X6_byteOf (a : Nat → Nat) (la : Int32) (n : Nat) (cl : Nat) (go : Option Nat) (fo : Nat → Int32) (si : Nat → Nat) (it : Nat → Int32) (mo : Nat → Int32) (th : Nat → Nat) (ki : Nat → Nat) (va : Nat → Nat) (re : Nat → Nat) (to : Nat → Prop) (co : Nat → Nat) (ke : Nat → Int32) (fw : Nat → Nat) (w : Nat) (i : Nat) (I : IM n cl go th ki va re si co fw) (hw9 : w < 40) (hi9 : i < 2 ^ 31) : CP l D (TY cI cZ cS) yX6_byteOf cX6_byteOf 3 .int 0 [.ref (a 0), .int (nI w), .int (nI i)] (wM cI cZ a la n cl go fo si it mo th ki va re to co ke fw) (.int (nI (byteO th ki va w i))) := by
  refine CP.ofI (by decide +kernel) (Nat.le_of_ble_eq_true rfl) (nar_int _) ?_
  intro p e s m args below meth c Q G K hP hret ls hl
  obtain ⟨hx, hb, hml, hown, hts⟩ := id G
  obtain ⟨hn, hcl, hgo, hth, hki, hva, hre, hsi, hco, hfw⟩ := id I
  have hl : lv_has ls 3 [(0, .ref (a 0)), (1, .int (nI w)), (2, .int (nI i))] := hl
  refine lv_iload_n hx hb dX6_byteOf_0 rfl (lv_at hl 2 rfl) ?_
  rcases (show i = 0 ∨ i = 1 ∨ i = 2 ∨ i = 3 ∨ 3 < i by omega) with rfl | rfl | rfl | rfl | hsw1
  · -- 0
    refine lv_tableIn (off := 31) (tgt := 32) hx hb dX6_byteOf_1 (by decide) (by decide) (by decide) (by decide) ?_
    refine lv_bipush (v := (nI 79)) hx hb dX6_byteOf_32 (by decide) ?_
    exact hret _ _ _ (congrArg nI (by unfold byteO; (repeat' split) <;> first | rfl | omega)) dX6_byteOf_34
  · -- 1
    refine lv_tableIn (off := 34) (tgt := 35) hx hb dX6_byteOf_1 (by decide) (by decide) (by decide) (by decide) ?_
    refine lv_aload_n hx hb dX6_byteOf_35 rfl (lv_at hl 0 rfl) ?_
    refine f_get G K hP inX6 0 (ci := 6) rfl rfl 6 rfl fl_X6_22 (v := .ref (a 5)) rfl dX6_byteOf_36 ?_
    refine lv_iload_n hx hb dX6_byteOf_39 rfl (lv_at hl 1 rfl) ?_
    refine a_ldN G K hP 5 0 (a := (a 5)) rfl rfl (by omega) (by decide) dX6_byteOf_40 ?_
    have hb1 := hth w
    exact hret _ _ _ (congrArg nI (by unfold byteO; (repeat' split) <;> first | rfl | omega)) dX6_byteOf_41
  · -- 2
    refine lv_tableIn (off := 41) (tgt := 42) hx hb dX6_byteOf_1 (by decide) (by decide) (by decide) (by decide) ?_
    refine lv_aload_n hx hb dX6_byteOf_42 rfl (lv_at hl 0 rfl) ?_
    refine f_get G K hP inX6 0 (ci := 6) rfl rfl 7 rfl fl_X6_25 (v := .ref (a 6)) rfl dX6_byteOf_43 ?_
    refine lv_iload_n hx hb dX6_byteOf_46 rfl (lv_at hl 1 rfl) ?_
    refine a_ldN G K hP 6 0 (a := (a 6)) rfl rfl (by omega) (by decide) dX6_byteOf_47 ?_
    have hb2 := hki w
    exact hret _ _ _ (congrArg nI (by unfold byteO; (repeat' split) <;> first | rfl | omega)) dX6_byteOf_48
  · -- 3
    refine lv_tableIn (off := 48) (tgt := 49) hx hb dX6_byteOf_1 (by decide) (by decide) (by decide) (by decide) ?_
    refine lv_aload_n hx hb dX6_byteOf_49 rfl (lv_at hl 0 rfl) ?_
    refine f_get G K hP inX6 0 (ci := 6) rfl rfl 8 rfl fl_X6_28 (v := .ref (a 7)) rfl dX6_byteOf_50 ?_
    refine lv_iload_n hx hb dX6_byteOf_53 rfl (lv_at hl 1 rfl) ?_
    refine a_ldN G K hP 7 0 (a := (a 7)) rfl rfl (by omega) (by decide) dX6_byteOf_54 ?_
    have hb3 := hva w
    refine lv_sipush (v := (nI 256)) hx hb dX6_byteOf_55 (by decide) ?_
    refine t_div G (by omega) (by decide) (by decide) dX6_byteOf_58 ?_
    exact hret _ _ _ (congrArg nI (by unfold byteO; (repeat' split) <;> first | rfl | omega)) dX6_byteOf_59
  · -- other
    refine lv_tableOut (tgt := 60) hx hb dX6_byteOf_1 (Or.inr (by rw [nI_toInt (by omega)]; omega)) (by decide) ?_
    refine lv_aload_n hx hb dX6_byteOf_60 rfl (lv_at hl 0 rfl) ?_
    refine f_get G K hP inX6 0 (ci := 6) rfl rfl 8 rfl fl_X6_28 (v := .ref (a 7)) rfl dX6_byteOf_61 ?_
    refine lv_iload_n hx hb dX6_byteOf_64 rfl (lv_at hl 1 rfl) ?_
    refine a_ldN G K hP 7 0 (a := (a 7)) rfl rfl (by omega) (by decide) dX6_byteOf_65 ?_
    have hb4 := hva w
    refine lv_sipush (v := (nI 256)) hx hb dX6_byteOf_66 (by decide) ?_
    refine t_rem G (by omega) (by decide) (by decide) dX6_byteOf_69 ?_
    exact hret _ _ _ (congrArg nI (by unfold byteO; (repeat' split) <;> first | rfl | omega)) dX6_byteOf_70
set_option maxHeartbeats 4000000 in
set_option maxRecDepth 100000 in
theorem c_X6_writeBy (a : Nat → Nat) (la : Int32) (n : Nat) (cl : Nat) (go : Option Nat) (fo : Nat → Int32) (si : Nat → Nat) (it : Nat → Int32) (mo : Nat → Int32) (th : Nat → Nat) (ki : Nat → Nat) (va : Nat → Nat) (re : Nat → Nat) (to : Nat → Prop) (co : Nat → Nat) (ke : Nat → Int32) (fw : Nat → Nat) (w : Nat) (q : Nat) (I : IM n cl go th ki va re si co fw) (hw9 : w < 40) (hq9 : q < 2 ^ 31) : CP l D (TY cI cZ cS) yX6_writeBy cX6_writeBy 3 .int 1 [.ref (a 0), .int (nI w), .int (nI q)] (wM cI cZ a la n cl go fo si it mo th ki va re to co ke fw) (.int (nI (wrB th ki va re w q))) := by
  refine CP.ofI (by decide +kernel) (Nat.le_of_ble_eq_true rfl) (nar_int _) ?_
  intro p e s m args below meth c Q G K hP hret ls hl
  obtain ⟨hx, hb, hml, hown, hts⟩ := id G
  obtain ⟨hn, hcl, hgo, hth, hki, hva, hre, hsi, hco, hfw⟩ := id I
  have hl : lv_has ls 3 [(0, .ref (a 0)), (1, .int (nI w)), (2, .int (nI q))] := hl
  refine lv_iload_n hx hb dX6_writeBy_0 rfl (lv_at hl 2 rfl) ?_
  rcases (show q = 0 ∨ q = 1 ∨ q = 2 ∨ q = 3 ∨ 3 < q by omega) with rfl | rfl | rfl | rfl | hsw1
  · -- 0
    refine lv_tableIn (off := 31) (tgt := 32) hx hb dX6_writeBy_1 (by decide) (by decide) (by decide) (by decide) ?_
    refine lv_aload_n hx hb dX6_writeBy_32 rfl (lv_at hl 0 rfl) ?_
    refine f_get G K hP inX6 0 (ci := 6) rfl rfl 6 rfl fl_X6_22 (v := .ref (a 5)) rfl dX6_writeBy_33 ?_
    refine lv_iload_n hx hb dX6_writeBy_36 rfl (lv_at hl 1 rfl) ?_
    refine a_ldN G K hP 5 0 (a := (a 5)) rfl rfl (by omega) (by decide) dX6_writeBy_37 ?_
    have hb1 := hth w
    exact hret _ _ _ (congrArg nI (by unfold wrB; (repeat' split) <;> first | rfl | omega)) dX6_writeBy_38
  · -- 1
    refine lv_tableIn (off := 38) (tgt := 39) hx hb dX6_writeBy_1 (by decide) (by decide) (by decide) (by decide) ?_
    refine lv_aload_n hx hb dX6_writeBy_39 rfl (lv_at hl 0 rfl) ?_
    refine f_get G K hP inX6 0 (ci := 6) rfl rfl 7 rfl fl_X6_25 (v := .ref (a 6)) rfl dX6_writeBy_40 ?_
    refine lv_iload_n hx hb dX6_writeBy_43 rfl (lv_at hl 1 rfl) ?_
    refine a_ldN G K hP 6 0 (a := (a 6)) rfl rfl (by omega) (by decide) dX6_writeBy_44 ?_
    have hb2 := hki w
    exact hret _ _ _ (congrArg nI (by unfold wrB; (repeat' split) <;> first | rfl | omega)) dX6_writeBy_45
  · -- 2
    refine lv_tableIn (off := 45) (tgt := 46) hx hb dX6_writeBy_1 (by decide) (by decide) (by decide) (by decide) ?_
    refine lv_aload_n hx hb dX6_writeBy_46 rfl (lv_at hl 0 rfl) ?_
    refine f_get G K hP inX6 0 (ci := 6) rfl rfl 8 rfl fl_X6_28 (v := .ref (a 7)) rfl dX6_writeBy_47 ?_
    refine lv_iload_n hx hb dX6_writeBy_50 rfl (lv_at hl 1 rfl) ?_
    refine a_ldN G K hP 7 0 (a := (a 7)) rfl rfl (by omega) (by decide) dX6_writeBy_51 ?_
    have hb3 := hva w
    exact hret _ _ _ (congrArg nI (by unfold wrB; (repeat' split) <;> first | rfl | omega)) dX6_writeBy_52
  · -- 3
    refine lv_tableIn (off := 52) (tgt := 53) hx hb dX6_writeBy_1 (by decide) (by decide) (by decide) (by decide) ?_
    refine lv_aload_n hx hb dX6_writeBy_53 rfl (lv_at hl 0 rfl) ?_
    refine f_get G K hP inX6 0 (ci := 6) rfl rfl 9 rfl fl_X6_31 (v := .ref (a 8)) rfl dX6_writeBy_54 ?_
    refine lv_iload_n hx hb dX6_writeBy_57 rfl (lv_at hl 1 rfl) ?_
    refine a_ldN G K hP 8 0 (a := (a 8)) rfl rfl (by omega) (by decide) dX6_writeBy_58 ?_
    have hb4 := hre w
    exact hret _ _ _ (congrArg nI (by unfold wrB; (repeat' split) <;> first | rfl | omega)) dX6_writeBy_59
  · -- other
    refine lv_tableOut (tgt := 60) hx hb dX6_writeBy_1 (Or.inr (by rw [nI_toInt (by omega)]; omega)) (by decide) ?_
    refine lv_aload_n hx hb dX6_writeBy_60 rfl (lv_at hl 0 rfl) ?_
    refine lv_iload_n hx hb dX6_writeBy_61 rfl (lv_at hl 1 rfl) ?_
    refine callPV (As := [.int (nI w)]) (rest := []) (q0 := 0) (ci := 6) G K F_X6_placeOf (c_X6_placeOf a la n cl go fo si it mo th ki va re to co ke fw w I (by omega)) hP ml_X6_135 rfl rfl rfl (by decide) (by decide) rfl hl.1 (Nat.le_of_ble_eq_true rfl) dX6_writeBy_62 ?_
    exact hret _ _ _ (congrArg nI (by unfold wrB; (repeat' split) <;> first | rfl | omega)) dX6_writeBy_65
set_option maxHeartbeats 4000000 in
set_option maxRecDepth 100000 in
theorem c_X6_isRevision (a : Nat → Nat) (la : Int32) (n : Nat) (cl : Nat) (go : Option Nat) (fo : Nat → Int32) (si : Nat → Nat) (it : Nat → Int32) (mo : Nat → Int32) (th : Nat → Nat) (ki : Nat → Nat) (va : Nat → Nat) (re : Nat → Nat) (to : Nat → Prop) (co : Nat → Nat) (ke : Nat → Int32) (fw : Nat → Nat) (x : Int32) (I : IM n cl go th ki va re si co fw) : CP l D (TY cI cZ cS) yX6_isRevision cX6_isRevision 2 .boolean 1 [.ref (a 0), .int x] (wM cI cZ a la n cl go fo si it mo th ki va re to co ke fw) (.int (bI (okR cl x))) := by
  refine CP.ofI (by decide +kernel) (Nat.le_of_ble_eq_true rfl) (bI_nar _) ?_
  intro p e s m args below meth c Q G K hP hret ls hl
  obtain ⟨hx, hb, hml, hown, hts⟩ := id G
  obtain ⟨hn, hcl, hgo, hth, hki, hva, hre, hsi, hco, hfw⟩ := id I
  have hl : lv_has ls 2 [(0, .ref (a 0)), (1, .int x)] := hl
  refine lv_iload_n hx hb dX6_isRevision_0 rfl (lv_at hl 1 rfl) ?_
  refine lv_i2l (v := x.toInt64) hx hb dX6_isRevision_1 rfl ?_
  refine lv_lconst (v := ((0 : Int32)).toInt64) hx hb dX6_isRevision_2 (by decide) ?_
  refine lv_aload_n hx hb dX6_isRevision_3 rfl (lv_at hl 0 rfl) ?_
  refine f_get G K hP inX6 0 (ci := 6) rfl rfl 13 rfl fl_X6_92 (v := .int (nI cl)) rfl dX6_isRevision_4 ?_
  refine lv_i2l (v := (nI cl).toInt64) hx hb dX6_isRevision_7 rfl ?_
  refine callPS (rest := []) G K F_X6_in (c_X6_in x (0 : Int32) (nI cl)) (va_P_nil D s.heap) ml_X6_51 (by decide) (by decide) rfl hl.1 (Nat.le_of_ble_eq_true rfl) dX6_isRevision_8 ?_
  exact hret _ _ _ (bI_iff (okR_iff hcl)) dX6_isRevision_11
set_option maxHeartbeats 4000000 in
set_option maxRecDepth 100000 in
theorem c_X6_revisionBy (a : Nat → Nat) (la : Int32) (n : Nat) (cl : Nat) (go : Option Nat) (fo : Nat → Int32) (si : Nat → Nat) (it : Nat → Int32) (mo : Nat → Int32) (th : Nat → Nat) (ki : Nat → Nat) (va : Nat → Nat) (re : Nat → Nat) (to : Nat → Prop) (co : Nat → Nat) (ke : Nat → Int32) (fw : Nat → Nat) (r : Nat) (q : Nat) (I : IM n cl go th ki va re si co fw) (hr9 : r < 2 ^ 31) (hq9 : q < 2 ^ 31) : CP l D (TY cI cZ cS) yX6_revisionBy cX6_revisionBy 3 .int 3 [.ref (a 0), .int (nI r), .int (nI q)] (wM cI cZ a la n cl go fo si it mo th ki va re to co ke fw) (.int (nI (rvB re n cl r q))) := by
  refine CP.ofI (by decide +kernel) (Nat.le_of_ble_eq_true rfl) (nar_int _) ?_
  intro p e s m args below meth c Q G K hP hret ls hl
  obtain ⟨hx, hb, hml, hown, hts⟩ := id G
  obtain ⟨hn, hcl, hgo, hth, hki, hva, hre, hsi, hco, hfw⟩ := id I
  have hl : lv_has ls 3 [(0, .ref (a 0)), (1, .int (nI r)), (2, .int (nI q))] := hl
  refine lv_iload_n hx hb dX6_revisionBy_0 rfl (lv_at hl 2 rfl) ?_
  refine z_ne G (tgt := 12) (by omega) dX6_revisionBy_1 (by decide) (fun c1 => ?_) (fun c1 => ?_)
  · -- taken at 1
    refine lv_iload_n hx hb dX6_revisionBy_12 rfl (lv_at hl 2 rfl) ?_
    refine lv_iconst (v := (nI 1)) hx hb dX6_revisionBy_13 (by decide) ?_
    refine c_ne G (tgt := 25) (by omega) (by omega) dX6_revisionBy_14 (by decide) (fun c14 => ?_) (fun c14 => ?_)
    · -- taken at 14
      refine lv_iload_n hx hb dX6_revisionBy_25 rfl (lv_at hl 2 rfl) ?_
      refine lv_iconst (v := (nI 2)) hx hb dX6_revisionBy_26 (by decide) ?_
      refine c_ne G (tgt := 38) (by omega) (by omega) dX6_revisionBy_27 (by decide) (fun c27 => ?_) (fun c27 => ?_)
      · -- taken at 27
        refine lv_aload_n hx hb dX6_revisionBy_38 rfl (lv_at hl 0 rfl) ?_
        refine lv_iload_n hx hb dX6_revisionBy_39 rfl (lv_at hl 1 rfl) ?_
        refine callPV (As := [.int (nI r)]) (rest := []) (q0 := 0) (ci := 6) G K F_X6_endOf (c_X6_endOf a la n cl go fo si it mo th ki va re to co ke fw r I (by omega)) hP ml_X6_143 rfl rfl rfl (by decide) (by decide) rfl hl.1 (Nat.le_of_ble_eq_true rfl) dX6_revisionBy_40 ?_
        exact hret _ _ _ (congrArg nI (by unfold rvB; (repeat' split) <;> first | rfl | omega)) dX6_revisionBy_43
      · -- not taken at 27
        refine lv_aload_n hx hb dX6_revisionBy_30 rfl (lv_at hl 0 rfl) ?_
        refine lv_iload_n hx hb dX6_revisionBy_31 rfl (lv_at hl 1 rfl) ?_
        refine callPV (As := [.int (nI r)]) (rest := []) (q0 := 0) (ci := 6) G K F_X6_beginOf (c_X6_beginOf a la n cl go fo si it mo th ki va re to co ke fw r I (by omega)) hP ml_X6_122 rfl rfl rfl (by decide) (by decide) rfl hl.1 (Nat.le_of_ble_eq_true rfl) dX6_revisionBy_32 ?_
        have hf1 := cnt_le re r n
        have hf2 := begB_eq re n r
        refine lv_goto (tgt := 43) hx hb dX6_revisionBy_35 (by decide) ?_
        exact hret _ _ _ (congrArg nI (by unfold rvB; (repeat' split) <;> first | rfl | omega)) dX6_revisionBy_43
    · -- not taken at 14
      refine lv_aload_n hx hb dX6_revisionBy_17 rfl (lv_at hl 0 rfl) ?_
      refine lv_iload_n hx hb dX6_revisionBy_18 rfl (lv_at hl 1 rfl) ?_
      refine callPV (As := [.int (nI r)]) (rest := []) (q0 := 0) (ci := 6) G K F_X6_manyOf (c_X6_manyOf a la n cl go fo si it mo th ki va re to co ke fw r I (by omega)) hP ml_X6_95 rfl rfl rfl (by decide) (by decide) rfl hl.1 (Nat.le_of_ble_eq_true rfl) dX6_revisionBy_19 ?_
      have hf3 := cnt_le re r n
      refine lv_goto (tgt := 43) hx hb dX6_revisionBy_22 (by decide) ?_
      exact hret _ _ _ (congrArg nI (by unfold rvB; (repeat' split) <;> first | rfl | omega)) dX6_revisionBy_43
  · -- not taken at 1
    refine lv_aload_n hx hb dX6_revisionBy_4 rfl (lv_at hl 0 rfl) ?_
    refine lv_iload_n hx hb dX6_revisionBy_5 rfl (lv_at hl 1 rfl) ?_
    refine callPV (As := [.int (nI r)]) (rest := []) (q0 := 0) (ci := 6) G K F_X6_firstOf (c_X6_firstOf a la n cl go fo si it mo th ki va re to co ke fw r I (by omega)) hP ml_X6_119 rfl rfl rfl (by decide) (by decide) rfl hl.1 (Nat.le_of_ble_eq_true rfl) dX6_revisionBy_6 ?_
    have hf4 := cnt_le re r n
    refine lv_goto (tgt := 43) hx hb dX6_revisionBy_9 (by decide) ?_
    exact hret _ _ _ (congrArg nI (by unfold rvB; (repeat' split) <;> first | rfl | omega)) dX6_revisionBy_43
set_option maxHeartbeats 4000000 in
set_option maxRecDepth 100000 in
theorem c_X6_lastOf (a : Nat → Nat) (la : Int32) (n : Nat) (cl : Nat) (go : Option Nat) (fo : Nat → Int32) (si : Nat → Nat) (it : Nat → Int32) (mo : Nat → Int32) (th : Nat → Nat) (ki : Nat → Nat) (va : Nat → Nat) (re : Nat → Nat) (to : Nat → Prop) (co : Nat → Nat) (ke : Nat → Int32) (fw : Nat → Nat) (t : Nat) (r : Nat) (I : IM n cl go th ki va re si co fw) (ht9 : t < 2 ^ 31) (hr9 : r < 2 ^ 31) : CP l D (TY cI cZ cS) yX6_lastOf cX6_lastOf 5 .int 0 [.ref (a 0), .int (nI t), .int (nI r)] (wM cI cZ a la n cl go fo si it mo th ki va re to co ke fw) (.int (oI (lastT th ki re go t r n))) := by
  refine CP.ofI (by decide +kernel) (Nat.le_of_ble_eq_true rfl) (nar_int _) ?_
  intro p e s m args below meth c Q G K hP hret ls hl
  obtain ⟨hx, hb, hml, hown, hts⟩ := id G
  obtain ⟨hn, hcl, hgo, hth, hki, hva, hre, hsi, hco, hfw⟩ := id I
  have hl : lv_has ls 5 [(0, .ref (a 0)), (1, .int (nI t)), (2, .int (nI r))] := hl
  refine lv_iconst (v := (-1)) hx hb dX6_lastOf_0 (by decide) ?_
  refine lv_istore_n (lv' := [(3, .int (-1)), (0, .ref (a 0)), (1, .int (nI t)), (2, .int (nI r))]) hx hb dX6_lastOf_1 rfl hl (by decide) rfl (fun ls hl => ?_)
  refine lv_iconst (v := (nI 0)) hx hb dX6_lastOf_2 (by decide) ?_
  refine lv_istore (lv' := [(4, .int (nI 0)), (3, .int (-1)), (0, .ref (a 0)), (1, .int (nI t)), (2, .int (nI r))]) hx hb dX6_lastOf_3 hl (by decide) rfl (fun ls hl => ?_)
  have L5 : ∀ (d i : Nat), 0 ≤ i → i + d = n → ∀ (ls : Array Slot), lv_has ls 5 [(0, .ref (a 0)), (1, .int (nI t)), (2, .int (nI r)), (3, .int (oI (lastW th re go t r i))), (4, .int (nI i))] → W p l e (RM 0) s m args below meth c s.heap [] 0 0 Q (F0 m 5 ls []) := by
    intro d
    induction d with
    | zero =>
      intro i hlo5 hhi5 ls hl
      refine lv_iload hx hb dX6_lastOf_5 (lv_at hl 4 rfl) ?_
      refine lv_aload_n hx hb dX6_lastOf_7 rfl (lv_at hl 0 rfl) ?_
      refine f_get G K hP inX6 0 (ci := 6) rfl rfl 5 rfl fl_X6_89 (v := .int (nI n)) rfl dX6_lastOf_8 ?_
      refine c_ge G (tgt := 58) (by omega) (by omega) dX6_lastOf_11 (by decide) (fun c11 => ?_) (fun c11 => ?_)
      · -- taken at 11
        obtain rfl : i = n := by omega
        refine lv_iload_n hx hb dX6_lastOf_58 rfl (lv_at hl 3 rfl) ?_
        refine lv_iconst (v := (-1)) hx hb dX6_lastOf_59 (by decide) ?_
        refine o_eq G (tgt := 73) (fun w h => by have := (lastW_lt th re go t r i) w h; omega) dX6_lastOf_60 (by decide) (fun c60 => ?_) (fun c60 => ?_)
        · -- taken at 60
          refine lv_iconst (v := (-1)) hx hb dX6_lastOf_73 (by decide) ?_
          refine lv_goto (tgt := 78) hx hb dX6_lastOf_74 (by decide) ?_
          exact hret _ _ _ (by first | exact congrArg oI (lastT_n c60) | exact congrArg oI (lastT_g hv c70) | exact congrArg oI (lastT_s hv c70)) dX6_lastOf_78
        · -- not taken at 60
          obtain ⟨v, hv⟩ := Option.ne_none_iff_exists'.mp c60
          have hv9 := lastW_lt th re go t r i v hv
          refine lv_aload_n hx hb dX6_lastOf_63 rfl (lv_at hl 0 rfl) ?_
          refine f_get G K hP inX6 0 (ci := 6) rfl rfl 7 rfl fl_X6_25 (v := .ref (a 6)) rfl dX6_lastOf_64 ?_
          refine lv_iload_n hx hb dX6_lastOf_67 rfl (lv_at hl 3 rfl) ?_
          refine t_i (y := (nI v)) (by rw [hv]; rfl) ?_
          refine a_ldN G K hP 6 0 (a := (a 6)) rfl rfl (by omega) (by decide) dX6_lastOf_68 ?_
          have hb1 := hki v
          refine lv_iconst (v := (nI 5)) hx hb dX6_lastOf_69 (by decide) ?_
          refine c_ne G (tgt := 77) (by omega) (by omega) dX6_lastOf_70 (by decide) (fun c70 => ?_) (fun c70 => ?_)
          · -- taken at 70
            refine lv_iload_n hx hb dX6_lastOf_77 rfl (lv_at hl 3 rfl) ?_
            exact hret _ _ _ (by first | exact congrArg oI (lastT_n c60) | exact congrArg oI (lastT_g hv c70) | exact congrArg oI (lastT_s hv c70)) dX6_lastOf_78
          · -- not taken at 70
            refine lv_iconst (v := (-1)) hx hb dX6_lastOf_73 (by decide) ?_
            refine lv_goto (tgt := 78) hx hb dX6_lastOf_74 (by decide) ?_
            exact hret _ _ _ (by first | exact congrArg oI (lastT_n c60) | exact congrArg oI (lastT_g hv c70) | exact congrArg oI (lastT_s hv c70)) dX6_lastOf_78
      · -- not taken at 11
        exact absurd c11 (by omega)
    | succ d ih =>
      intro i hlo5 hhi5 ls hl
      refine lv_iload hx hb dX6_lastOf_5 (lv_at hl 4 rfl) ?_
      refine lv_aload_n hx hb dX6_lastOf_7 rfl (lv_at hl 0 rfl) ?_
      refine f_get G K hP inX6 0 (ci := 6) rfl rfl 5 rfl fl_X6_89 (v := .int (nI n)) rfl dX6_lastOf_8 ?_
      refine c_ge G (tgt := 58) (by omega) (by omega) dX6_lastOf_11 (by decide) (fun c11 => ?_) (fun c11 => ?_)
      · -- taken at 11
        exact absurd c11 (by omega)
      · -- not taken at 11
        refine lv_aload_n hx hb dX6_lastOf_14 rfl (lv_at hl 0 rfl) ?_
        refine f_get G K hP inX6 0 (ci := 6) rfl rfl 6 rfl fl_X6_22 (v := .ref (a 5)) rfl dX6_lastOf_15 ?_
        refine lv_iload hx hb dX6_lastOf_18 (lv_at hl 4 rfl) ?_
        refine a_ldN G K hP 5 0 (a := (a 5)) rfl rfl (by omega) (by decide) dX6_lastOf_20 ?_
        have hb2 := hth i
        refine lv_iload_n hx hb dX6_lastOf_21 rfl (lv_at hl 1 rfl) ?_
        refine c_ne G (tgt := 50) (by omega) (by omega) dX6_lastOf_22 (by decide) (fun c22 => ?_) (fun c22 => ?_)
        · -- taken at 22
          refine lv_iload_n hx hb dX6_lastOf_50 rfl (lv_at hl 3 rfl) ?_
          refine t_i (y := (oI (lastW th re go t r (i + 1)))) (by first | exact congrArg oI (lastW_t c22 c33 c42) | exact congrArg oI (lastW_f1 c22) | exact congrArg oI (lastW_f2 c33) | exact congrArg oI (lastW_f3 c42)) ?_
          refine lv_istore_n (lv' := [(3, .int (oI (lastW th re go t r (i + 1)))), (0, .ref (a 0)), (1, .int (nI t)), (2, .int (nI r)), (4, .int (nI i))]) hx hb dX6_lastOf_51 rfl hl (by decide) rfl (fun ls hl => ?_)
          refine lv_iinc (v := (nI (i + 1))) (lv' := [(4, .int (nI (i + 1))), (3, .int (oI (lastW th re go t r (i + 1)))), (0, .ref (a 0)), (1, .int (nI t)), (2, .int (nI r))]) hx hb dX6_lastOf_52 hl (k := 4) rfl (nI_inc _ 1) (by decide) rfl (fun ls hl => ?_)
          refine lv_goto (tgt := 5) hx hb dX6_lastOf_55 (by decide) ?_
          -- slot 4: have n:i + 1, want n:(i + 1)
          exact ih (i + 1) (by omega) (by omega) ls (lv_sub hl [2, 3, 4, 1, 0] rfl)
        · -- not taken at 22
          refine lv_aload_n hx hb dX6_lastOf_25 rfl (lv_at hl 0 rfl) ?_
          refine f_get G K hP inX6 0 (ci := 6) rfl rfl 9 rfl fl_X6_31 (v := .ref (a 8)) rfl dX6_lastOf_26 ?_
          refine lv_iload hx hb dX6_lastOf_29 (lv_at hl 4 rfl) ?_
          refine a_ldN G K hP 8 0 (a := (a 8)) rfl rfl (by omega) (by decide) dX6_lastOf_31 ?_
          have hb3 := hre i
          refine lv_iload_n hx hb dX6_lastOf_32 rfl (lv_at hl 2 rfl) ?_
          refine c_gt G (tgt := 50) (by omega) (by omega) dX6_lastOf_33 (by decide) (fun c33 => ?_) (fun c33 => ?_)
          · -- taken at 33
            refine lv_iload_n hx hb dX6_lastOf_50 rfl (lv_at hl 3 rfl) ?_
            refine t_i (y := (oI (lastW th re go t r (i + 1)))) (by first | exact congrArg oI (lastW_t c22 c33 c42) | exact congrArg oI (lastW_f1 c22) | exact congrArg oI (lastW_f2 c33) | exact congrArg oI (lastW_f3 c42)) ?_
            refine lv_istore_n (lv' := [(3, .int (oI (lastW th re go t r (i + 1)))), (0, .ref (a 0)), (1, .int (nI t)), (2, .int (nI r)), (4, .int (nI i))]) hx hb dX6_lastOf_51 rfl hl (by decide) rfl (fun ls hl => ?_)
            refine lv_iinc (v := (nI (i + 1))) (lv' := [(4, .int (nI (i + 1))), (3, .int (oI (lastW th re go t r (i + 1)))), (0, .ref (a 0)), (1, .int (nI t)), (2, .int (nI r))]) hx hb dX6_lastOf_52 hl (k := 4) rfl (nI_inc _ 1) (by decide) rfl (fun ls hl => ?_)
            refine lv_goto (tgt := 5) hx hb dX6_lastOf_55 (by decide) ?_
            -- slot 4: have n:i + 1, want n:(i + 1)
            exact ih (i + 1) (by omega) (by omega) ls (lv_sub hl [2, 3, 4, 1, 0] rfl)
          · -- not taken at 33
            refine lv_iload hx hb dX6_lastOf_36 (lv_at hl 4 rfl) ?_
            refine lv_aload_n hx hb dX6_lastOf_38 rfl (lv_at hl 0 rfl) ?_
            refine f_get G K hP inX6 0 (ci := 6) rfl rfl 14 rfl fl_X6_44 (v := .int (oI go)) rfl dX6_lastOf_39 ?_
            refine no_eq G (tgt := 50) (by omega) (fun w h => by have := hgo w h; omega) dX6_lastOf_42 (by decide) (fun c42 => ?_) (fun c42 => ?_)
            · -- taken at 42
              refine lv_iload_n hx hb dX6_lastOf_50 rfl (lv_at hl 3 rfl) ?_
              refine t_i (y := (oI (lastW th re go t r (i + 1)))) (by first | exact congrArg oI (lastW_t c22 c33 c42) | exact congrArg oI (lastW_f1 c22) | exact congrArg oI (lastW_f2 c33) | exact congrArg oI (lastW_f3 c42)) ?_
              refine lv_istore_n (lv' := [(3, .int (oI (lastW th re go t r (i + 1)))), (0, .ref (a 0)), (1, .int (nI t)), (2, .int (nI r)), (4, .int (nI i))]) hx hb dX6_lastOf_51 rfl hl (by decide) rfl (fun ls hl => ?_)
              refine lv_iinc (v := (nI (i + 1))) (lv' := [(4, .int (nI (i + 1))), (3, .int (oI (lastW th re go t r (i + 1)))), (0, .ref (a 0)), (1, .int (nI t)), (2, .int (nI r))]) hx hb dX6_lastOf_52 hl (k := 4) rfl (nI_inc _ 1) (by decide) rfl (fun ls hl => ?_)
              refine lv_goto (tgt := 5) hx hb dX6_lastOf_55 (by decide) ?_
              -- slot 4: have n:i + 1, want n:(i + 1)
              exact ih (i + 1) (by omega) (by omega) ls (lv_sub hl [2, 3, 4, 1, 0] rfl)
            · -- not taken at 42
              refine lv_iload hx hb dX6_lastOf_45 (lv_at hl 4 rfl) ?_
              refine lv_goto (tgt := 51) hx hb dX6_lastOf_47 (by decide) ?_
              refine t_i (y := (oI (lastW th re go t r (i + 1)))) (by first | exact congrArg oI (lastW_t c22 c33 c42) | exact congrArg oI (lastW_f1 c22) | exact congrArg oI (lastW_f2 c33) | exact congrArg oI (lastW_f3 c42)) ?_
              refine lv_istore_n (lv' := [(3, .int (oI (lastW th re go t r (i + 1)))), (0, .ref (a 0)), (1, .int (nI t)), (2, .int (nI r)), (4, .int (nI i))]) hx hb dX6_lastOf_51 rfl hl (by decide) rfl (fun ls hl => ?_)
              refine lv_iinc (v := (nI (i + 1))) (lv' := [(4, .int (nI (i + 1))), (3, .int (oI (lastW th re go t r (i + 1)))), (0, .ref (a 0)), (1, .int (nI t)), (2, .int (nI r))]) hx hb dX6_lastOf_52 hl (k := 4) rfl (nI_inc _ 1) (by decide) rfl (fun ls hl => ?_)
              refine lv_goto (tgt := 5) hx hb dX6_lastOf_55 (by decide) ?_
              -- slot 4: have n:i + 1, want n:(i + 1)
              exact ih (i + 1) (by omega) (by omega) ls (lv_sub hl [2, 3, 4, 1, 0] rfl)
  exact L5 (n - 0) (0) (Nat.le_refl _) (by omega) ls (lv_sub hl [2, 3, 4, 1, 0] rfl)

end
