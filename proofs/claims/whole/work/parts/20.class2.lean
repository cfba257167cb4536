section
variable {l : Launch} {D : va_G} {cI cZ cS : ClassId}
set_option maxHeartbeats 4000000 in
set_option maxRecDepth 100000 in
theorem c_J7_rangeCheck_23922 (len : Nat) (x : Nat) (y : Nat) (h1 : x ≤ y) (h2 : y ≤ len) (h3 : len < 2 ^ 31) : CPv l D (TY cI cZ cS) yJ7_rangeCheck_23922 cJ7_rangeCheck_23922 3 0 [.int (nI len), .int (nI x), .int (nI y)] := by
  refine CPv.of (by decide +kernel) (Nat.le_of_ble_eq_true rfl) ?_
  intro p e s m args below meth c Q G K hret ls hl
  obtain ⟨hx, hb, hml, hown, hts⟩ := id G
  have hl : lv_has ls 3 [(0, .int (nI len)), (1, .int (nI x)), (2, .int (nI y))] := hl
  refine lv_iload_n hx hb dJ7_rangeCheck_23922_0 rfl (lv_at hl 1 rfl) ?_
  refine lv_iload_n hx hb dJ7_rangeCheck_23922_1 rfl (lv_at hl 2 rfl) ?_
  refine c_le G (tgt := 46) (by omega) (by omega) dJ7_rangeCheck_23922_2 (by decide) (fun c2 => ?_) (fun c2 => ?_)
  · -- taken at 2
    refine lv_iload_n hx hb dJ7_rangeCheck_23922_46 rfl (lv_at hl 1 rfl) ?_
    refine z_ge G (tgt := 59) (by omega) dJ7_rangeCheck_23922_47 (by decide) ?_
    refine lv_iload_n hx hb dJ7_rangeCheck_23922_59 rfl (lv_at hl 2 rfl) ?_
    refine lv_iload_n hx hb dJ7_rangeCheck_23922_60 rfl (lv_at hl 0 rfl) ?_
    refine c_le G (tgt := 73) (by omega) (by omega) dJ7_rangeCheck_23922_61 (by decide) (fun c61 => ?_) (fun c61 => ?_)
    · -- taken at 61
      exact hret _ _ dJ7_rangeCheck_23922_73
    · -- not taken at 61
      exact absurd c61 (by omega)
  · -- not taken at 2
    exact absurd c2 (by omega)
set_option maxHeartbeats 4000000 in
set_option maxRecDepth 100000 in
theorem c_J7_fill_fda19 (x : Nat) (len : Nat) (f : Nat → Int32) (b : Nat) (q : Nat) (v : Int32) (h1 : b ≤ q) (h2 : q ≤ len) (h3 : len < 2 ^ 31) : CM l D (TY cI cZ cS) yJ7_fill_fda19 cJ7_fill_fda19 5 none 1 [.ref x, .int (nI b), .int (nI q), .int v] (wA cI x len f) none (wA cI x len (stG f b v (q - b))) := by
  refine CM.ofV (by decide +kernel) (Nat.le_of_ble_eq_true rfl) ?_
  intro p e s m args below meth c Q A G K hA w hret ls hl
  obtain ⟨hx, hb, hml, hown, hts⟩ := id G
  have hl : lv_has ls 5 [(0, .ref x), (1, .int (nI b)), (2, .int (nI q)), (3, .int v)] := hl
  refine lv_aload_n hx hb dJ7_fill_fda19_0 rfl (lv_at hl 0 rfl) ?_
  refine va_alen hx hb K w.1 0 0 rfl rfl (v := nI len) rfl dJ7_fill_fda19_1 ?_
  refine lv_iload_n hx hb dJ7_fill_fda19_2 rfl (lv_at hl 1 rfl) ?_
  refine lv_iload_n hx hb dJ7_fill_fda19_3 rfl (lv_at hl 2 rfl) ?_
  refine callPSv (rest := []) G K F_J7_rangeCheck_23922 (c_J7_rangeCheck_23922 len b q (by omega) (by omega) (by omega)) ml_J7_13 (by decide) (by decide) rfl hl.1 (Nat.le_of_ble_eq_true rfl) dJ7_fill_fda19_4 ?_
  refine lv_iload_n hx hb dJ7_fill_fda19_7 rfl (lv_at hl 1 rfl) ?_
  refine lv_istore (lv' := [(4, .int (nI b)), (0, .ref x), (1, .int (nI b)), (2, .int (nI q)), (3, .int v)]) hx hb dJ7_fill_fda19_8 hl (by decide) rfl (fun ls hl => ?_)
  have L10 : ∀ (d j : Nat), 0 ≤ j → j + d = q - b → ∀ (H : Heap) (locs : List Loc), WW D A s.heap (wA cI x len (stG f b v j)) H locs → ∀ (ls : Array Slot), lv_has ls 5 [(0, .ref x), (1, .int (nI b)), (2, .int (nI q)), (3, .int v), (4, .int (nI (b + j)))] → W p l e (RM 1) s m args below meth c H locs 0 0 Q (F0 m 10 ls []) := by
    intro d
    induction d with
    | zero =>
      intro j hlo10 hhi10 H locs w ls hl
      refine lv_iload hx hb dJ7_fill_fda19_10 (lv_at hl 4 rfl) ?_
      refine lv_iload_n hx hb dJ7_fill_fda19_12 rfl (lv_at hl 2 rfl) ?_
      refine c_ge G (tgt := 27) (by omega) (by omega) dJ7_fill_fda19_13 (by decide) (fun c13 => ?_) (fun c13 => ?_)
      · -- taken at 13
        exact hret _ _ _ _ _ (by rw [show j = q - b by omega]) w dJ7_fill_fda19_27
      · -- not taken at 13
        exact absurd c13 (by omega)
    | succ d ih =>
      intro j hlo10 hhi10 H locs w ls hl
      refine lv_iload hx hb dJ7_fill_fda19_10 (lv_at hl 4 rfl) ?_
      refine lv_iload_n hx hb dJ7_fill_fda19_12 rfl (lv_at hl 2 rfl) ?_
      refine c_ge G (tgt := 27) (by omega) (by omega) dJ7_fill_fda19_13 (by decide) (fun c13 => ?_) (fun c13 => ?_)
      · -- taken at 13
        exact absurd c13 (by omega)
      · -- not taken at 13
        refine lv_aload_n hx hb dJ7_fill_fda19_16 rfl (lv_at hl 0 rfl) ?_
        refine lv_iload hx hb dJ7_fill_fda19_17 (lv_at hl 4 rfl) ?_
        refine lv_iload_n hx hb dJ7_fill_fda19_19 rfl (lv_at hl 3 rfl) ?_
        refine a_st G K w 0 0 (a := x) rfl rfl (by omega) (by omega) dJ7_fill_fda19_20 (w2 := (wA cI x len (va_up (stG f b v j) (b + j) v))) rfl (fun Hp1 lo2 w => ?_)
        refine lv_iinc (v := (nI (b + j + 1))) (lv' := [(4, .int (nI (b + j + 1))), (0, .ref x), (1, .int (nI b)), (2, .int (nI q)), (3, .int v)]) hx hb dJ7_fill_fda19_21 hl (k := 4) rfl (nI_inc _ 1) (by decide) rfl (fun ls hl => ?_)
        refine lv_goto (tgt := 10) hx hb dJ7_fill_fda19_24 (by decide) ?_
        -- slot 4: have n:b + j + 1, want n:b + (j + 1)
        exact ih (j + 1) (by omega) (by omega) Hp1 lo2 w ls (lv_sub hl [1, 2, 3, 4, 0] rfl)
  exact L10 (q - b - 0) (0) (Nat.le_refl _) (by omega) s.heap [] w ls (lv_sub hl [1, 2, 3, 4, 0] rfl)
theorem c_fill_o (x len : Nat) (f : Nat → Option Nat) (b q : Nat) (v : Option Nat) (h1 : b ≤ q) (h2 : q ≤ len) (h3 : len < 2 ^ 31) : CM l D (TY cI cZ cS) yJ7_fill_fda19 cJ7_fill_fda19 5 none 1 [.ref x, .int (nI b), .int (nI q), .int (oI v)] (wAo cI x len f) none (wAo cI x len (stG f b v (q - b))) := by
  have h := c_J7_fill_fda19 (l := l) (D := D) (cI := cI) (cZ := cZ) (cS := cS) x len (fun j => oI (f j)) b q (oI v) h1 h2 h3
  rw [stG_oI] at h
  exact h
set_option maxHeartbeats 4000000 in
set_option maxRecDepth 100000 in
theorem c_J7_fill_53178 (x : Nat) (len : Nat) (f : Nat → Int32) (v : Int32) (h3 : len < 2 ^ 31) : CM l D (TY cI cZ cS) yJ7_fill_53178 cJ7_fill_53178 4 none 0 [.ref x, .int v] (wA cI x len f) none (wA cI x len (stG f 0 v len)) := by
  refine CM.ofV (by decide +kernel) (Nat.le_of_ble_eq_true rfl) ?_
  intro p e s m args below meth c Q A G K hA w hret ls hl
  obtain ⟨hx, hb, hml, hown, hts⟩ := id G
  have hl : lv_has ls 4 [(0, .ref x), (1, .int v)] := hl
  refine lv_iconst (v := (nI 0)) hx hb dJ7_fill_53178_0 (by decide) ?_
  refine lv_istore_n (lv' := [(2, .int (nI 0)), (0, .ref x), (1, .int v)]) hx hb dJ7_fill_53178_1 rfl hl (by decide) rfl (fun ls hl => ?_)
  refine lv_aload_n hx hb dJ7_fill_53178_2 rfl (lv_at hl 1 rfl) ?_
  refine va_alen hx hb K w.1 0 0 rfl rfl (v := nI len) rfl dJ7_fill_53178_3 ?_
  refine lv_istore_n (lv' := [(3, .int (nI len)), (2, .int (nI 0)), (0, .ref x), (1, .int v)]) hx hb dJ7_fill_53178_4 rfl hl (by decide) rfl (fun ls hl => ?_)
  have L5 : ∀ (d j : Nat), 0 ≤ j → j + d = len → ∀ (H : Heap) (locs : List Loc), WW D A s.heap (wA cI x len (stG f 0 v j)) H locs → ∀ (ls : Array Slot), lv_has ls 4 [(0, .ref x), (1, .int v), (2, .int (nI (0 + j))), (3, .int (nI len))] → W p l e (RM 0) s m args below meth c H locs 0 0 Q (F0 m 5 ls []) := by
    intro d
    induction d with
    | zero =>
      intro j hlo5 hhi5 H locs w ls hl
      refine lv_iload_n hx hb dJ7_fill_53178_5 rfl (lv_at hl 2 rfl) ?_
      refine lv_iload_n hx hb dJ7_fill_53178_6 rfl (lv_at hl 3 rfl) ?_
      refine c_ge G (tgt := 20) (by omega) (by omega) dJ7_fill_53178_7 (by decide) (fun c7 => ?_) (fun c7 => ?_)
      · -- taken at 7
        exact hret _ _ _ _ _ (by rw [show j = len by omega]) w dJ7_fill_53178_20
      · -- not taken at 7
        exact absurd c7 (by omega)
    | succ d ih =>
      intro j hlo5 hhi5 H locs w ls hl
      refine lv_iload_n hx hb dJ7_fill_53178_5 rfl (lv_at hl 2 rfl) ?_
      refine lv_iload_n hx hb dJ7_fill_53178_6 rfl (lv_at hl 3 rfl) ?_
      refine c_ge G (tgt := 20) (by omega) (by omega) dJ7_fill_53178_7 (by decide) (fun c7 => ?_) (fun c7 => ?_)
      · -- taken at 7
        exact absurd c7 (by omega)
      · -- not taken at 7
        refine lv_aload_n hx hb dJ7_fill_53178_10 rfl (lv_at hl 0 rfl) ?_
        refine lv_iload_n hx hb dJ7_fill_53178_11 rfl (lv_at hl 2 rfl) ?_
        refine lv_iload_n hx hb dJ7_fill_53178_12 rfl (lv_at hl 1 rfl) ?_
        refine a_st G K w 0 0 (a := x) rfl rfl (by omega) (by omega) dJ7_fill_53178_13 (w2 := (wA cI x len (va_up (stG f 0 v j) (0 + j) v))) rfl (fun Hp1 lo2 w => ?_)
        refine lv_iinc (v := (nI (0 + j + 1))) (lv' := [(2, .int (nI (0 + j + 1))), (0, .ref x), (1, .int v), (3, .int (nI len))]) hx hb dJ7_fill_53178_14 hl (k := 2) rfl (nI_inc _ 1) (by decide) rfl (fun ls hl => ?_)
        refine lv_goto (tgt := 5) hx hb dJ7_fill_53178_17 (by decide) ?_
        -- slot 2: have n:0 + j + 1, want n:0 + (j + 1)
        exact ih (j + 1) (by omega) (by omega) Hp1 lo2 w ls (lv_sub hl [1, 2, 0, 3] rfl)
  exact L5 (len - 0) (0) (Nat.le_refl _) (by omega) s.heap [] w ls (lv_sub hl [2, 3, 1, 0] rfl)
set_option maxHeartbeats 4000000 in
set_option maxRecDepth 100000 in
theorem c_J6_bitCount_0f7a4 (x : Int32) : CP l D (TY cI cZ cS) yJ6_bitCount_0f7a4 cJ6_bitCount_0f7a4 1 .int 0 [.int x] [] (.int (bcR x)) := by
  refine CP.ofI (by decide +kernel) (Nat.le_of_ble_eq_true rfl) (nar_int _) ?_
  intro p e s m args below meth c Q G K hP hret ls hl
  obtain ⟨hx, hb, hml, hown, hts⟩ := id G
  have hl : lv_has ls 1 [(0, .int x)] := hl
  refine lv_iload_n hx hb dJ6_bitCount_0f7a4_0 rfl (lv_at hl 0 rfl) ?_
  refine lv_iload_n hx hb dJ6_bitCount_0f7a4_1 rfl (lv_at hl 0 rfl) ?_
  refine lv_iconst (v := (nI 1)) hx hb dJ6_bitCount_0f7a4_2 (by decide) ?_
  refine lv_iushr hx hb dJ6_bitCount_0f7a4_3 rfl ?_
  refine lv_ldcw hx hb hown (hts _ kc_J6_265) dJ6_bitCount_0f7a4_4 ?_
  refine t_i (y := nI 1431655765) (by decide) ?_
  refine lv_iand hx hb dJ6_bitCount_0f7a4_7 ?_
  refine lv_isub hx hb dJ6_bitCount_0f7a4_8 ?_
  refine lv_istore_n (lv' := [(0, .int (x - (((x.toUInt32 >>> ((nI 1).toUInt32 &&& Int32.toUInt32 31)).toInt32) &&& (nI 1431655765))))]) hx hb dJ6_bitCount_0f7a4_9 rfl hl (by decide) rfl (fun ls hl => ?_)
  refine lv_iload_n hx hb dJ6_bitCount_0f7a4_10 rfl (lv_at hl 0 rfl) ?_
  refine lv_ldcw hx hb hown (hts _ kc_J6_266) dJ6_bitCount_0f7a4_11 ?_
  refine t_i (y := nI 858993459) (by decide) ?_
  refine lv_iand hx hb dJ6_bitCount_0f7a4_14 ?_
  refine lv_iload_n hx hb dJ6_bitCount_0f7a4_15 rfl (lv_at hl 0 rfl) ?_
  refine lv_iconst (v := (nI 2)) hx hb dJ6_bitCount_0f7a4_16 (by decide) ?_
  refine lv_iushr hx hb dJ6_bitCount_0f7a4_17 rfl ?_
  refine lv_ldcw hx hb hown (hts _ kc_J6_266) dJ6_bitCount_0f7a4_18 ?_
  refine t_i (y := nI 858993459) (by decide) ?_
  refine lv_iand hx hb dJ6_bitCount_0f7a4_21 ?_
  refine lv_iadd hx hb dJ6_bitCount_0f7a4_22 ?_
  refine lv_istore_n (lv' := [(0, .int (((x - (((x.toUInt32 >>> ((nI 1).toUInt32 &&& Int32.toUInt32 31)).toInt32) &&& (nI 1431655765))) &&& (nI 858993459)) + ((((x - (((x.toUInt32 >>> ((nI 1).toUInt32 &&& Int32.toUInt32 31)).toInt32) &&& (nI 1431655765))).toUInt32 >>> ((nI 2).toUInt32 &&& Int32.toUInt32 31)).toInt32) &&& (nI 858993459))))]) hx hb dJ6_bitCount_0f7a4_23 rfl hl (by decide) rfl (fun ls hl => ?_)
  refine lv_iload_n hx hb dJ6_bitCount_0f7a4_24 rfl (lv_at hl 0 rfl) ?_
  refine lv_iload_n hx hb dJ6_bitCount_0f7a4_25 rfl (lv_at hl 0 rfl) ?_
  refine lv_iconst (v := (nI 4)) hx hb dJ6_bitCount_0f7a4_26 (by decide) ?_
  refine lv_iushr hx hb dJ6_bitCount_0f7a4_27 rfl ?_
  refine lv_iadd hx hb dJ6_bitCount_0f7a4_28 ?_
  refine lv_ldcw hx hb hown (hts _ kc_J6_267) dJ6_bitCount_0f7a4_29 ?_
  refine t_i (y := nI 252645135) (by decide) ?_
  refine lv_iand hx hb dJ6_bitCount_0f7a4_32 ?_
  refine lv_istore_n (lv' := [(0, .int (((((x - (((x.toUInt32 >>> ((nI 1).toUInt32 &&& Int32.toUInt32 31)).toInt32) &&& (nI 1431655765))) &&& (nI 858993459)) + ((((x - (((x.toUInt32 >>> ((nI 1).toUInt32 &&& Int32.toUInt32 31)).toInt32) &&& (nI 1431655765))).toUInt32 >>> ((nI 2).toUInt32 &&& Int32.toUInt32 31)).toInt32) &&& (nI 858993459))) + (((((x - (((x.toUInt32 >>> ((nI 1).toUInt32 &&& Int32.toUInt32 31)).toInt32) &&& (nI 1431655765))) &&& (nI 858993459)) + ((((x - (((x.toUInt32 >>> ((nI 1).toUInt32 &&& Int32.toUInt32 31)).toInt32) &&& (nI 1431655765))).toUInt32 >>> ((nI 2).toUInt32 &&& Int32.toUInt32 31)).toInt32) &&& (nI 858993459))).toUInt32 >>> ((nI 4).toUInt32 &&& Int32.toUInt32 31)).toInt32)) &&& (nI 252645135)))]) hx hb dJ6_bitCount_0f7a4_33 rfl hl (by decide) rfl (fun ls hl => ?_)
  refine lv_iload_n hx hb dJ6_bitCount_0f7a4_34 rfl (lv_at hl 0 rfl) ?_
  refine lv_iload_n hx hb dJ6_bitCount_0f7a4_35 rfl (lv_at hl 0 rfl) ?_
  refine lv_bipush (v := (nI 8)) hx hb dJ6_bitCount_0f7a4_36 (by decide) ?_
  refine lv_iushr hx hb dJ6_bitCount_0f7a4_38 rfl ?_
  refine lv_iadd hx hb dJ6_bitCount_0f7a4_39 ?_
  refine lv_istore_n (lv' := [(0, .int ((((((x - (((x.toUInt32 >>> ((nI 1).toUInt32 &&& Int32.toUInt32 31)).toInt32) &&& (nI 1431655765))) &&& (nI 858993459)) + ((((x - (((x.toUInt32 >>> ((nI 1).toUInt32 &&& Int32.toUInt32 31)).toInt32) &&& (nI 1431655765))).toUInt32 >>> ((nI 2).toUInt32 &&& Int32.toUInt32 31)).toInt32) &&& (nI 858993459))) + (((((x - (((x.toUInt32 >>> ((nI 1).toUInt32 &&& Int32.toUInt32 31)).toInt32) &&& (nI 1431655765))) &&& (nI 858993459)) + ((((x - (((x.toUInt32 >>> ((nI 1).toUInt32 &&& Int32.toUInt32 31)).toInt32) &&& (nI 1431655765))).toUInt32 >>> ((nI 2).toUInt32 &&& Int32.toUInt32 31)).toInt32) &&& (nI 858993459))).toUInt32 >>> ((nI 4).toUInt32 &&& Int32.toUInt32 31)).toInt32)) &&& (nI 252645135)) + (((((((x - (((x.toUInt32 >>> ((nI 1).toUInt32 &&& Int32.toUInt32 31)).toInt32) &&& (nI 1431655765))) &&& (nI 858993459)) + ((((x - (((x.toUInt32 >>> ((nI 1).toUInt32 &&& Int32.toUInt32 31)).toInt32) &&& (nI 1431655765))).toUInt32 >>> ((nI 2).toUInt32 &&& Int32.toUInt32 31)).toInt32) &&& (nI 858993459))) + (((((x - (((x.toUInt32 >>> ((nI 1).toUInt32 &&& Int32.toUInt32 31)).toInt32) &&& (nI 1431655765))) &&& (nI 858993459)) + ((((x - (((x.toUInt32 >>> ((nI 1).toUInt32 &&& Int32.toUInt32 31)).toInt32) &&& (nI 1431655765))).toUInt32 >>> ((nI 2).toUInt32 &&& Int32.toUInt32 31)).toInt32) &&& (nI 858993459))).toUInt32 >>> ((nI 4).toUInt32 &&& Int32.toUInt32 31)).toInt32)) &&& (nI 252645135)).toUInt32 >>> ((nI 8).toUInt32 &&& Int32.toUInt32 31)).toInt32)))]) hx hb dJ6_bitCount_0f7a4_40 rfl hl (by decide) rfl (fun ls hl => ?_)
  refine lv_iload_n hx hb dJ6_bitCount_0f7a4_41 rfl (lv_at hl 0 rfl) ?_
  refine lv_iload_n hx hb dJ6_bitCount_0f7a4_42 rfl (lv_at hl 0 rfl) ?_
  refine lv_bipush (v := (nI 16)) hx hb dJ6_bitCount_0f7a4_43 (by decide) ?_
  refine lv_iushr hx hb dJ6_bitCount_0f7a4_45 rfl ?_
  refine lv_iadd hx hb dJ6_bitCount_0f7a4_46 ?_
  refine lv_istore_n (lv' := [(0, .int (((((((x - (((x.toUInt32 >>> ((nI 1).toUInt32 &&& Int32.toUInt32 31)).toInt32) &&& (nI 1431655765))) &&& (nI 858993459)) + ((((x - (((x.toUInt32 >>> ((nI 1).toUInt32 &&& Int32.toUInt32 31)).toInt32) &&& (nI 1431655765))).toUInt32 >>> ((nI 2).toUInt32 &&& Int32.toUInt32 31)).toInt32) &&& (nI 858993459))) + (((((x - (((x.toUInt32 >>> ((nI 1).toUInt32 &&& Int32.toUInt32 31)).toInt32) &&& (nI 1431655765))) &&& (nI 858993459)) + ((((x - (((x.toUInt32 >>> ((nI 1).toUInt32 &&& Int32.toUInt32 31)).toInt32) &&& (nI 1431655765))).toUInt32 >>> ((nI 2).toUInt32 &&& Int32.toUInt32 31)).toInt32) &&& (nI 858993459))).toUInt32 >>> ((nI 4).toUInt32 &&& Int32.toUInt32 31)).toInt32)) &&& (nI 252645135)) + (((((((x - (((x.toUInt32 >>> ((nI 1).toUInt32 &&& Int32.toUInt32 31)).toInt32) &&& (nI 1431655765))) &&& (nI 858993459)) + ((((x - (((x.toUInt32 >>> ((nI 1).toUInt32 &&& Int32.toUInt32 31)).toInt32) &&& (nI 1431655765))).toUInt32 >>> ((nI 2).toUInt32 &&& Int32.toUInt32 31)).toInt32) &&& (nI 858993459))) + (((((x - (((x.toUInt32 >>> ((nI 1).toUInt32 &&& Int32.toUInt32 31)).toInt32) &&& (nI 1431655765))) &&& (nI 858993459)) + ((((x - (((x.toUInt32 >>> ((nI 1).toUInt32 &&& Int32.toUInt32 31)).toInt32) &&& (nI 1431655765))).toUInt32 >>> ((nI 2).toUInt32 &&& Int32.toUInt32 31)).toInt32) &&& (nI 858993459))).toUInt32 >>> ((nI 4).toUInt32 &&& Int32.toUInt32 31)).toInt32)) &&& (nI 252645135)).toUInt32 >>> ((nI 8).toUInt32 &&& Int32.toUInt32 31)).toInt32)) + ((((((((x - (((x.toUInt32 >>> ((nI 1).toUInt32 &&& Int32.toUInt32 31)).toInt32) &&& (nI 1431655765))) &&& (nI 858993459)) + ((((x - (((x.toUInt32 >>> ((nI 1).toUInt32 &&& Int32.toUInt32 31)).toInt32) &&& (nI 1431655765))).toUInt32 >>> ((nI 2).toUInt32 &&& Int32.toUInt32 31)).toInt32) &&& (nI 858993459))) + (((((x - (((x.toUInt32 >>> ((nI 1).toUInt32 &&& Int32.toUInt32 31)).toInt32) &&& (nI 1431655765))) &&& (nI 858993459)) + ((((x - (((x.toUInt32 >>> ((nI 1).toUInt32 &&& Int32.toUInt32 31)).toInt32) &&& (nI 1431655765))).toUInt32 >>> ((nI 2).toUInt32 &&& Int32.toUInt32 31)).toInt32) &&& (nI 858993459))).toUInt32 >>> ((nI 4).toUInt32 &&& Int32.toUInt32 31)).toInt32)) &&& (nI 252645135)) + (((((((x - (((x.toUInt32 >>> ((nI 1).toUInt32 &&& Int32.toUInt32 31)).toInt32) &&& (nI 1431655765))) &&& (nI 858993459)) + ((((x - (((x.toUInt32 >>> ((nI 1).toUInt32 &&& Int32.toUInt32 31)).toInt32) &&& (nI 1431655765))).toUInt32 >>> ((nI 2).toUInt32 &&& Int32.toUInt32 31)).toInt32) &&& (nI 858993459))) + (((((x - (((x.toUInt32 >>> ((nI 1).toUInt32 &&& Int32.toUInt32 31)).toInt32) &&& (nI 1431655765))) &&& (nI 858993459)) + ((((x - (((x.toUInt32 >>> ((nI 1).toUInt32 &&& Int32.toUInt32 31)).toInt32) &&& (nI 1431655765))).toUInt32 >>> ((nI 2).toUInt32 &&& Int32.toUInt32 31)).toInt32) &&& (nI 858993459))).toUInt32 >>> ((nI 4).toUInt32 &&& Int32.toUInt32 31)).toInt32)) &&& (nI 252645135)).toUInt32 >>> ((nI 8).toUInt32 &&& Int32.toUInt32 31)).toInt32)).toUInt32 >>> ((nI 16).toUInt32 &&& Int32.toUInt32 31)).toInt32)))]) hx hb dJ6_bitCount_0f7a4_47 rfl hl (by decide) rfl (fun ls hl => ?_)
  refine lv_iload_n hx hb dJ6_bitCount_0f7a4_48 rfl (lv_at hl 0 rfl) ?_
  refine lv_bipush (v := (nI 63)) hx hb dJ6_bitCount_0f7a4_49 (by decide) ?_
  refine lv_iand hx hb dJ6_bitCount_0f7a4_51 ?_
  exact hret _ _ _ rfl dJ6_bitCount_0f7a4_52
set_option maxHeartbeats 4000000 in
set_option maxRecDepth 100000 in
theorem c_X2_isIn (x : Nat) (k : Nat) (hx9 : x < 65536) (hk9 : k < 16) : CP l D (TY cI cZ cS) yX2_isIn cX2_isIn 2 .boolean 0 [.int (nI x), .int (nI k)] [] (.int (bI (x.testBit k = true))) := by
  refine CP.ofI (by decide +kernel) (Nat.le_of_ble_eq_true rfl) (bI_nar _) ?_
  intro p e s m args below meth c Q G K hP hret ls hl
  obtain ⟨hx, hb, hml, hown, hts⟩ := id G
  have hl : lv_has ls 2 [(0, .int (nI x)), (1, .int (nI k))] := hl
  refine lv_iload_n hx hb dX2_isIn_0 rfl (lv_at hl 0 rfl) ?_
  refine lv_iload_n hx hb dX2_isIn_1 rfl (lv_at hl 1 rfl) ?_
  refine lv_ishr hx hb dX2_isIn_2 ?_
  refine lv_iconst (v := (nI 1)) hx hb dX2_isIn_3 (by decide) ?_
  refine lv_iand hx hb dX2_isIn_4 ?_
  refine t_i (y := (nI (x / 2 ^ k % 2))) (sh_bit hx9 hk9) ?_
  have hm9 := Nat.mod_lt (x / 2 ^ k) (by decide : 2 > 0)
  have ht9 := tb_iff x k
  refine z_eq G (tgt := 12) (by omega) dX2_isIn_5 (by decide) (fun c5 => ?_) (fun c5 => ?_)
  · -- taken at 5
    refine lv_iconst (v := (nI 0)) hx hb dX2_isIn_12 (by decide) ?_
    exact hret _ _ _ (by first | exact b1 (ht9.mp (by omega)) | exact b0 (fun h => by have := ht9.mpr h; omega)) dX2_isIn_13
  · -- not taken at 5
    refine lv_iconst (v := (nI 1)) hx hb dX2_isIn_8 (by decide) ?_
    refine lv_goto (tgt := 13) hx hb dX2_isIn_9 (by decide) ?_
    exact hret _ _ _ (by first | exact b1 (ht9.mp (by omega)) | exact b0 (fun h => by have := ht9.mpr h; omega)) dX2_isIn_13
set_option maxHeartbeats 4000000 in
set_option maxRecDepth 100000 in
theorem c_X2_isFilling (x : Nat) (y : Nat) (hx9 : x < 2 ^ 31) (hy9 : y < 2 ^ 31) : CP l D (TY cI cZ cS) yX2_isFilling cX2_isFilling 2 .boolean 0 [.int (nI x), .int (nI y)] [] (.int (bI ((x = 1 ∧ y = 1) ∨ (x = 5 ∧ y = 4)))) := by
  refine CP.ofI (by decide +kernel) (Nat.le_of_ble_eq_true rfl) (bI_nar _) ?_
  intro p e s m args below meth c Q G K hP hret ls hl
  obtain ⟨hx, hb, hml, hown, hts⟩ := id G
  have hl : lv_has ls 2 [(0, .int (nI x)), (1, .int (nI y))] := hl
  refine lv_iload_n hx hb dX2_isFilling_0 rfl (lv_at hl 0 rfl) ?_
  refine lv_iconst (v := (nI 1)) hx hb dX2_isFilling_1 (by decide) ?_
  refine c_ne G (tgt := 10) (by omega) (by omega) dX2_isFilling_2 (by decide) (fun c2 => ?_) (fun c2 => ?_)
  · -- taken at 2
    refine lv_iload_n hx hb dX2_isFilling_10 rfl (lv_at hl 0 rfl) ?_
    refine lv_iconst (v := (nI 5)) hx hb dX2_isFilling_11 (by decide) ?_
    refine c_ne G (tgt := 24) (by omega) (by omega) dX2_isFilling_12 (by decide) (fun c12 => ?_) (fun c12 => ?_)
    · -- taken at 12
      refine lv_iconst (v := (nI 0)) hx hb dX2_isFilling_24 (by decide) ?_
      exact hret _ _ _ (by first | exact b1 (by omega) | exact b0 (by omega)) dX2_isFilling_25
    · -- not taken at 12
      refine lv_iload_n hx hb dX2_isFilling_15 rfl (lv_at hl 1 rfl) ?_
      refine lv_iconst (v := (nI 4)) hx hb dX2_isFilling_16 (by decide) ?_
      refine c_ne G (tgt := 24) (by omega) (by omega) dX2_isFilling_17 (by decide) (fun c17 => ?_) (fun c17 => ?_)
      · -- taken at 17
        refine lv_iconst (v := (nI 0)) hx hb dX2_isFilling_24 (by decide) ?_
        exact hret _ _ _ (by first | exact b1 (by omega) | exact b0 (by omega)) dX2_isFilling_25
      · -- not taken at 17
        refine lv_iconst (v := (nI 1)) hx hb dX2_isFilling_20 (by decide) ?_
        refine lv_goto (tgt := 25) hx hb dX2_isFilling_21 (by decide) ?_
        exact hret _ _ _ (by first | exact b1 (by omega) | exact b0 (by omega)) dX2_isFilling_25
  · -- not taken at 2
    refine lv_iload_n hx hb dX2_isFilling_5 rfl (lv_at hl 1 rfl) ?_
    refine lv_iconst (v := (nI 1)) hx hb dX2_isFilling_6 (by decide) ?_
    refine c_eq G (tgt := 20) (by omega) (by omega) dX2_isFilling_7 (by decide) (fun c7 => ?_) (fun c7 => ?_)
    · -- taken at 7
      refine lv_iconst (v := (nI 1)) hx hb dX2_isFilling_20 (by decide) ?_
      refine lv_goto (tgt := 25) hx hb dX2_isFilling_21 (by decide) ?_
      exact hret _ _ _ (by first | exact b1 (by omega) | exact b0 (by omega)) dX2_isFilling_25
    · -- not taken at 7
      refine lv_iload_n hx hb dX2_isFilling_10 rfl (lv_at hl 0 rfl) ?_
      refine lv_iconst (v := (nI 5)) hx hb dX2_isFilling_11 (by decide) ?_
      refine c_ne G (tgt := 24) (by omega) (by omega) dX2_isFilling_12 (by decide) (fun c12 => ?_) (fun c12 => ?_)
      · -- taken at 12
        refine lv_iconst (v := (nI 0)) hx hb dX2_isFilling_24 (by decide) ?_
        exact hret _ _ _ (by first | exact b1 (by omega) | exact b0 (by omega)) dX2_isFilling_25
      · -- not taken at 12
        refine lv_iload_n hx hb dX2_isFilling_15 rfl (lv_at hl 1 rfl) ?_
        refine lv_iconst (v := (nI 4)) hx hb dX2_isFilling_16 (by decide) ?_
        refine c_ne G (tgt := 24) (by omega) (by omega) dX2_isFilling_17 (by decide) (fun c17 => ?_) (fun c17 => ?_)
        · -- taken at 17
          refine lv_iconst (v := (nI 0)) hx hb dX2_isFilling_24 (by decide) ?_
          exact hret _ _ _ (by first | exact b1 (by omega) | exact b0 (by omega)) dX2_isFilling_25
        · -- not taken at 17
          refine lv_iconst (v := (nI 1)) hx hb dX2_isFilling_20 (by decide) ?_
          refine lv_goto (tgt := 25) hx hb dX2_isFilling_21 (by decide) ?_
          exact hret _ _ _ (by first | exact b1 (by omega) | exact b0 (by omega)) dX2_isFilling_25
set_option maxHeartbeats 4000000 in
set_option maxRecDepth 100000 in
theorem c_X2_isNoteOrGone (x : Nat) (hx9 : x < 2 ^ 31) : CP l D (TY cI cZ cS) yX2_isNoteOrGone cX2_isNoteOrGone 1 .boolean 0 [.int (nI x)] [] (.int (bI (x = 2 ∨ x = 5))) := by
  refine CP.ofI (by decide +kernel) (Nat.le_of_ble_eq_true rfl) (bI_nar _) ?_
  intro p e s m args below meth c Q G K hP hret ls hl
  obtain ⟨hx, hb, hml, hown, hts⟩ := id G
  have hl : lv_has ls 1 [(0, .int (nI x))] := hl
  refine lv_iload_n hx hb dX2_isNoteOrGone_0 rfl (lv_at hl 0 rfl) ?_
  refine lv_iconst (v := (nI 2)) hx hb dX2_isNoteOrGone_1 (by decide) ?_
  refine c_eq G (tgt := 10) (by omega) (by omega) dX2_isNoteOrGone_2 (by decide) (fun c2 => ?_) (fun c2 => ?_)
  · -- taken at 2
    refine lv_iconst (v := (nI 1)) hx hb dX2_isNoteOrGone_10 (by decide) ?_
    refine lv_goto (tgt := 15) hx hb dX2_isNoteOrGone_11 (by decide) ?_
    exact hret _ _ _ (by first | exact b1 (by omega) | exact b0 (by omega)) dX2_isNoteOrGone_15
  · -- not taken at 2
    refine lv_iload_n hx hb dX2_isNoteOrGone_5 rfl (lv_at hl 0 rfl) ?_
    refine lv_iconst (v := (nI 5)) hx hb dX2_isNoteOrGone_6 (by decide) ?_
    refine c_ne G (tgt := 14) (by omega) (by omega) dX2_isNoteOrGone_7 (by decide) (fun c7 => ?_) (fun c7 => ?_)
    · -- taken at 7
      refine lv_iconst (v := (nI 0)) hx hb dX2_isNoteOrGone_14 (by decide) ?_
      exact hret _ _ _ (by first | exact b1 (by omega) | exact b0 (by omega)) dX2_isNoteOrGone_15
    · -- not taken at 7
      refine lv_iconst (v := (nI 1)) hx hb dX2_isNoteOrGone_10 (by decide) ?_
      refine lv_goto (tgt := 15) hx hb dX2_isNoteOrGone_11 (by decide) ?_
      exact hret _ _ _ (by first | exact b1 (by omega) | exact b0 (by omega)) dX2_isNoteOrGone_15
set_option maxHeartbeats 4000000 in
set_option maxRecDepth 100000 in
theorem c_X2_latestOf (aW : Nat → Nat) (n : Nat) (cl : Nat) (th : Nat → Nat) (ki : Nat → Nat) (va : Nat → Nat) (re : Nat → Nat) (fi : Nat → Nat) (aH : Nat → Nat) (lt : Nat → Option Nat) (tr : Nat → Nat) (sh : Nat → Nat) (cr : Nat → Nat) (ct : Nat → Nat) (cu : Nat → Nat) (ve : Nat → Nat) (ta : Nat → Nat) (ch : Nat) (r : Nat) (t : Nat) (J : IW n cl th ki va re fi) (S : SW n cl re fi) (H9 : IHd lt tr sh cr ct cu ve ta ch) (hr9 : r ≤ 7) (ht9 : t ≤ 15) : CP l D (TY cI cZ cS) yX2_latestOf cX2_latestOf 3 .int 0 [.ref (aH 0), .int (nI r), .int (nI t)] ((wW cI aW n cl th ki va re fi) ++ (wH cI aH (aW 0) lt tr sh cr ct cu ve ta ch)) (.int (oI (lt (r * 16 + t)))) := by
  refine CP.ofI (by decide +kernel) (Nat.le_of_ble_eq_true rfl) (nar_int _) ?_
  intro p e s m args below meth c Q G K hP hret ls hl
  obtain ⟨hx, hb, hml, hown, hts⟩ := id G
  obtain ⟨hn, hcl, hth, hki, hva, hre, hfi⟩ := id J
  obtain ⟨hlt, htr, hsh, hcr, hct, hcu, hve, hta, hch⟩ := id H9
  have hl : lv_has ls 3 [(0, .ref (aH 0)), (1, .int (nI r)), (2, .int (nI t))] := hl
  refine lv_aload_n hx hb dX2_latestOf_0 rfl (lv_at hl 0 rfl) ?_
  refine f_get G K hP inX2 6 (ci := 2) rfl rfl 1 rfl fl_X2_9 (v := .ref (aH 1)) rfl dX2_latestOf_1 ?_
  refine lv_iload_n hx hb dX2_latestOf_4 rfl (lv_at hl 1 rfl) ?_
  refine lv_bipush (v := (nI 16)) hx hb dX2_latestOf_5 (by decide) ?_
  refine t_mul G dX2_latestOf_7 ?_
  refine lv_iload_n hx hb dX2_latestOf_8 rfl (lv_at hl 2 rfl) ?_
  refine t_add G dX2_latestOf_9 ?_
  refine a_ldO G K hP 7 0 (a := (aH 1)) rfl rfl (by omega) (by decide) dX2_latestOf_10 ?_
  exact hret _ _ _ rfl dX2_latestOf_11
set_option maxHeartbeats 4000000 in
set_option maxRecDepth 100000 in
theorem c_X2_changesBehind (aW : Nat → Nat) (n : Nat) (cl : Nat) (th : Nat → Nat) (ki : Nat → Nat) (va : Nat → Nat) (re : Nat → Nat) (fi : Nat → Nat) (aH : Nat → Nat) (lt : Nat → Option Nat) (tr : Nat → Nat) (sh : Nat → Nat) (cr : Nat → Nat) (ct : Nat → Nat) (cu : Nat → Nat) (ve : Nat → Nat) (ta : Nat → Nat) (ch : Nat) (r : Nat) (J : IW n cl th ki va re fi) (S : SW n cl re fi) (H9 : IHd lt tr sh cr ct cu ve ta ch) (hr9 : r ≤ 7) (hc9 : cu r ≤ ch) : CP l D (TY cI cZ cS) yX2_changesBehind cX2_changesBehind 2 .int 0 [.ref (aH 0), .int (nI r)] ((wW cI aW n cl th ki va re fi) ++ (wH cI aH (aW 0) lt tr sh cr ct cu ve ta ch)) (.int (nI (ch - cu r))) := by
  refine CP.ofI (by decide +kernel) (Nat.le_of_ble_eq_true rfl) (nar_int _) ?_
  intro p e s m args below meth c Q G K hP hret ls hl
  obtain ⟨hx, hb, hml, hown, hts⟩ := id G
  obtain ⟨hn, hcl, hth, hki, hva, hre, hfi⟩ := id J
  obtain ⟨hlt, htr, hsh, hcr, hct, hcu, hve, hta, hch⟩ := id H9
  have hl : lv_has ls 2 [(0, .ref (aH 0)), (1, .int (nI r))] := hl
  refine lv_aload_n hx hb dX2_changesBehind_0 rfl (lv_at hl 0 rfl) ?_
  refine f_get G K hP inX2 6 (ci := 2) rfl rfl 9 rfl fl_X2_36 (v := .int (nI ch)) rfl dX2_changesBehind_1 ?_
  refine lv_aload_n hx hb dX2_changesBehind_4 rfl (lv_at hl 0 rfl) ?_
  refine f_get G K hP inX2 6 (ci := 2) rfl rfl 6 rfl fl_X2_27 (v := .ref (aH 6)) rfl dX2_changesBehind_5 ?_
  refine lv_iload_n hx hb dX2_changesBehind_8 rfl (lv_at hl 1 rfl) ?_
  refine a_ldN G K hP 12 0 (a := (aH 6)) rfl rfl (by omega) (by decide) dX2_changesBehind_9 ?_
  have hb1 := hcu r
  refine t_sub G (by omega) dX2_changesBehind_10 ?_
  exact hret _ _ _ rfl dX2_changesBehind_11
set_option maxHeartbeats 4000000 in
set_option maxRecDepth 100000 in
theorem c_X2_sortOf (aW : Nat → Nat) (n : Nat) (cl : Nat) (th : Nat → Nat) (ki : Nat → Nat) (va : Nat → Nat) (re : Nat → Nat) (fi : Nat → Nat) (aH : Nat → Nat) (lt : Nat → Option Nat) (tr : Nat → Nat) (sh : Nat → Nat) (cr : Nat → Nat) (ct : Nat → Nat) (cu : Nat → Nat) (ve : Nat → Nat) (ta : Nat → Nat) (ch : Nat) (k : Nat) (z : Nat) (J : IW n cl th ki va re fi) (S : SW n cl re fi) (H9 : IHd lt tr sh cr ct cu ve ta ch) (hk9 : k < 128) (hz9 : z ≤ 7) (h1 : 1 ≤ cr k) (hA : ∀ v, lt ((cr k - 1) * 16 + ct k) = some v → v < n) (hB : ∀ v, lt (cr k * 16 + ct k) = some v → v < n) : CP l D (TY cI cZ cS) yX2_sortOf cX2_sortOf 11 .int 1 [.ref (aH 0), .int (nI k), .int (nI z)] ((wW cI aW n cl th ki va re fi) ++ (wH cI aH (aW 0) lt tr sh cr ct cu ve ta ch)) (.int (nI (srC ki va ((sh (cr k)).testBit (ct k) = true) ((tr z).testBit (ct k) = true) (tr z) (lt ((cr k - 1) * 16 + ct k)) (lt (cr k * 16 + ct k))))) := by
  refine CP.ofI (by decide +kernel) (Nat.le_of_ble_eq_true rfl) (nar_int _) ?_
  intro p e s m args below meth c Q G K hP hret ls hl
  obtain ⟨hx, hb, hml, hown, hts⟩ := id G
  obtain ⟨hn, hcl, hth, hki, hva, hre, hfi⟩ := id J
  obtain ⟨hlt, htr, hsh, hcr, hct, hcu, hve, hta, hch⟩ := id H9
  have hl : lv_has ls 11 [(0, .ref (aH 0)), (1, .int (nI k)), (2, .int (nI z))] := hl
  refine lv_aload_n hx hb dX2_sortOf_0 rfl (lv_at hl 0 rfl) ?_
  refine f_get G K hP inX2 6 (ci := 2) rfl rfl 4 rfl fl_X2_21 (v := .ref (aH 4)) rfl dX2_sortOf_1 ?_
  refine lv_iload_n hx hb dX2_sortOf_4 rfl (lv_at hl 1 rfl) ?_
  refine a_ldN G K hP 10 0 (a := (aH 4)) rfl rfl (by omega) (by decide) dX2_sortOf_5 ?_
  have hb1 := hcr k
  refine lv_istore_n (lv' := [(3, .int (nI (cr k))), (0, .ref (aH 0)), (1, .int (nI k)), (2, .int (nI z))]) hx hb dX2_sortOf_6 rfl hl (by decide) rfl (fun ls hl => ?_)
  refine lv_aload_n hx hb dX2_sortOf_7 rfl (lv_at hl 1 rfl) ?_
  refine f_get G K hP inX2 6 (ci := 2) rfl rfl 5 rfl fl_X2_24 (v := .ref (aH 5)) rfl dX2_sortOf_8 ?_
  refine lv_iload_n hx hb dX2_sortOf_11 rfl (lv_at hl 2 rfl) ?_
  refine a_ldN G K hP 11 0 (a := (aH 5)) rfl rfl (by omega) (by decide) dX2_sortOf_12 ?_
  have hb2 := hct k
  refine lv_istore (lv' := [(4, .int (nI (ct k))), (3, .int (nI (cr k))), (0, .ref (aH 0)), (1, .int (nI k)), (2, .int (nI z))]) hx hb dX2_sortOf_13 hl (by decide) rfl (fun ls hl => ?_)
  have hsk := hsh (cr k)
  have hck := hct k
  have hcx := hcr k
  refine lv_aload_n hx hb dX2_sortOf_15 rfl (lv_at hl 2 rfl) ?_
  refine f_get G K hP inX2 6 (ci := 2) rfl rfl 3 rfl fl_X2_18 (v := .ref (aH 3)) rfl dX2_sortOf_16 ?_
  refine lv_iload_n hx hb dX2_sortOf_19 rfl (lv_at hl 1 rfl) ?_
  refine a_ldN G K hP 9 0 (a := (aH 3)) rfl rfl (by omega) (by decide) dX2_sortOf_20 ?_
  have hb3 := hsh (cr k)
  refine lv_iload hx hb dX2_sortOf_21 (lv_at hl 0 rfl) ?_
  refine callPS (rest := []) G K F_X2_isIn (c_X2_isIn (sh (cr k)) (ct k) (by omega) (by omega)) (va_P_nil D s.heap) ml_X2_67 (by decide) (by decide) rfl hl.1 (Nat.le_of_ble_eq_true rfl) dX2_sortOf_23 ?_
  refine b_eq G (tgt := 31) dX2_sortOf_26 (by decide) (fun c26 => ?_) (fun c26 => ?_)
  · -- taken at 26
    refine lv_aload_n hx hb dX2_sortOf_31 rfl (lv_at hl 2 rfl) ?_
    refine lv_iload_n hx hb dX2_sortOf_32 rfl (lv_at hl 1 rfl) ?_
    refine lv_iconst (v := (nI 1)) hx hb dX2_sortOf_33 (by decide) ?_
    refine t_sub G (by omega) dX2_sortOf_34 ?_
    refine lv_iload hx hb dX2_sortOf_35 (lv_at hl 0 rfl) ?_
    refine callPV (As := [.int (nI (cr k - 1)), .int (nI (ct k))]) (rest := []) (q0 := 6) (ci := 2) G K F_X2_latestOf (c_X2_latestOf aW n cl th ki va re fi aH lt tr sh cr ct cu ve ta ch (cr k - 1) (ct k) J S H9 (by omega) (by omega)) hP ml_X2_71 rfl rfl rfl (by decide) (by decide) rfl hl.1 (Nat.le_of_ble_eq_true rfl) dX2_sortOf_37 ?_
    refine lv_istore (lv' := [(5, .int (oI (lt ((cr k - 1) * 16 + (ct k))))), (4, .int (nI (ct k))), (3, .int (nI (cr k))), (0, .ref (aH 0)), (1, .int (nI k)), (2, .int (nI z))]) hx hb dX2_sortOf_40 hl (by decide) rfl (fun ls hl => ?_)
    refine lv_aload_n hx hb dX2_sortOf_42 rfl (lv_at hl 3 rfl) ?_
    refine lv_iload_n hx hb dX2_sortOf_43 rfl (lv_at hl 2 rfl) ?_
    refine lv_iload hx hb dX2_sortOf_44 (lv_at hl 1 rfl) ?_
    refine callPV (As := [.int (nI (cr k)), .int (nI (ct k))]) (rest := []) (q0 := 6) (ci := 2) G K F_X2_latestOf (c_X2_latestOf aW n cl th ki va re fi aH lt tr sh cr ct cu ve ta ch (cr k) (ct k) J S H9 (by omega) (by omega)) hP ml_X2_71 rfl rfl rfl (by decide) (by decide) rfl hl.1 (Nat.le_of_ble_eq_true rfl) dX2_sortOf_46 ?_
    refine lv_istore (lv' := [(6, .int (oI (lt ((cr k) * 16 + (ct k))))), (5, .int (oI (lt ((cr k - 1) * 16 + (ct k))))), (4, .int (nI (ct k))), (3, .int (nI (cr k))), (0, .ref (aH 0)), (1, .int (nI k)), (2, .int (nI z))]) hx hb dX2_sortOf_49 hl (by decide) rfl (fun ls hl => ?_)
    refine lv_aload_n hx hb dX2_sortOf_51 rfl (lv_at hl 4 rfl) ?_
    refine f_get G K hP inX2 6 (ci := 2) rfl rfl 0 rfl fl_X2_40 (v := .ref (aW 0)) rfl dX2_sortOf_52 ?_
    refine lv_iload hx hb dX2_sortOf_55 (lv_at hl 1 rfl) ?_
    refine callPV (As := [.int (oI (lt ((cr k - 1) * 16 + (ct k))))]) (rest := []) (q0 := 0) (ci := 4) G K F_X4_kindOrGone (c_X4_kindOrGone aW n cl th ki va re fi (lt ((cr k - 1) * 16 + (ct k))) J hA) (hP.sub (ws' := (wW cI aW n cl th ki va re fi)) [0, 1, 2, 3, 4, 5] rfl) ml_X2_75 rfl rfl rfl (by decide) (by decide) rfl hl.1 (Nat.le_of_ble_eq_true rfl) dX2_sortOf_57 ?_
    have hf4 := kOr_le hki (lt ((cr k - 1) * 16 + (ct k)))
    refine lv_istore (lv' := [(7, .int (nI (kOr ki (lt ((cr k - 1) * 16 + (ct k)))))), (6, .int (oI (lt ((cr k) * 16 + (ct k))))), (5, .int (oI (lt ((cr k - 1) * 16 + (ct k))))), (4, .int (nI (ct k))), (3, .int (nI (cr k))), (0, .ref (aH 0)), (1, .int (nI k)), (2, .int (nI z))]) hx hb dX2_sortOf_60 hl (by decide) rfl (fun ls hl => ?_)
    refine lv_aload_n hx hb dX2_sortOf_62 rfl (lv_at hl 5 rfl) ?_
    refine f_get G K hP inX2 6 (ci := 2) rfl rfl 0 rfl fl_X2_40 (v := .ref (aW 0)) rfl dX2_sortOf_63 ?_
    refine lv_iload hx hb dX2_sortOf_66 (lv_at hl 1 rfl) ?_
    refine callPV (As := [.int (oI (lt ((cr k) * 16 + (ct k))))]) (rest := []) (q0 := 0) (ci := 4) G K F_X4_kindOrGone (c_X4_kindOrGone aW n cl th ki va re fi (lt ((cr k) * 16 + (ct k))) J hB) (hP.sub (ws' := (wW cI aW n cl th ki va re fi)) [0, 1, 2, 3, 4, 5] rfl) ml_X2_75 rfl rfl rfl (by decide) (by decide) rfl hl.1 (Nat.le_of_ble_eq_true rfl) dX2_sortOf_68 ?_
    have hf5 := kOr_le hki (lt ((cr k) * 16 + (ct k)))
    refine lv_istore (lv' := [(8, .int (nI (kOr ki (lt ((cr k) * 16 + (ct k)))))), (7, .int (nI (kOr ki (lt ((cr k - 1) * 16 + (ct k)))))), (6, .int (oI (lt ((cr k) * 16 + (ct k))))), (5, .int (oI (lt ((cr k - 1) * 16 + (ct k))))), (4, .int (nI (ct k))), (3, .int (nI (cr k))), (0, .ref (aH 0)), (1, .int (nI k)), (2, .int (nI z))]) hx hb dX2_sortOf_71 hl (by decide) rfl (fun ls hl => ?_)
    refine lv_iload hx hb dX2_sortOf_73 (lv_at hl 1 rfl) ?_
    refine lv_iload hx hb dX2_sortOf_75 (lv_at hl 0 rfl) ?_
    refine callPS (rest := []) G K F_X2_isFilling (c_X2_isFilling (kOr ki (lt ((cr k - 1) * 16 + (ct k)))) (kOr ki (lt ((cr k) * 16 + (ct k)))) (by omega) (by omega)) (va_P_nil D s.heap) ml_X2_78 (by decide) (by decide) rfl hl.1 (Nat.le_of_ble_eq_true rfl) dX2_sortOf_77 ?_
    refine b_eq G (tgt := 85) dX2_sortOf_80 (by decide) (fun c80 => ?_) (fun c80 => ?_)
    · -- taken at 80
      refine lv_aload_n hx hb dX2_sortOf_85 rfl (lv_at hl 6 rfl) ?_
      refine f_get G K hP inX2 6 (ci := 2) rfl rfl 2 rfl fl_X2_15 (v := .ref (aH 2)) rfl dX2_sortOf_86 ?_
      refine lv_iload_n hx hb dX2_sortOf_89 rfl (lv_at hl 8 rfl) ?_
      refine a_ldN G K hP 8 0 (a := (aH 2)) rfl rfl (by omega) (by decide) dX2_sortOf_90 ?_
      have hb6 := htr z
      refine lv_istore (lv' := [(9, .int (nI (tr z))), (8, .int (nI (kOr ki (lt ((cr k) * 16 + (ct k)))))), (7, .int (nI (kOr ki (lt ((cr k - 1) * 16 + (ct k)))))), (6, .int (oI (lt ((cr k) * 16 + (ct k))))), (5, .int (oI (lt ((cr k - 1) * 16 + (ct k))))), (4, .int (nI (ct k))), (3, .int (nI (cr k))), (0, .ref (aH 0)), (1, .int (nI k)), (2, .int (nI z))]) hx hb dX2_sortOf_91 hl (by decide) rfl (fun ls hl => ?_)
      have J121 : (¬ (((kOr ki (lt ((cr k - 1) * 16 + ct k)) = 2 ∨ kOr ki (lt ((cr k - 1) * 16 + ct k)) = 5) ∧ (kOr ki (lt (cr k * 16 + ct k)) = 2 ∨ kOr ki (lt (cr k * 16 + ct k)) = 5)) ∧ ¬ (tr z).testBit (ct k) = true)) → W p l e (RM 1) s m args below meth c s.heap [] 0 0 Q (F0 m 121 ls []) := by
        intro hnn
        have J170 : (¬ (kOr ki (lt ((cr k - 1) * 16 + ct k)) = 3 ∧ kOr ki (lt (cr k * 16 + ct k)) = 3)) → W p l e (RM 1) s m args below meth c s.heap [] 0 0 Q (F0 m 170 ls []) := by
          intro hl3
          refine lv_iconst (v := (nI 3)) hx hb dX2_sortOf_170 (by decide) ?_
          exact hret _ _ _ (congrArg nI (by unfold srC; rw [cif_f c26, cif_f c80, cif_f hnn, cif_f (fun h => hl3 h.1)])) dX2_sortOf_171
        refine lv_iload hx hb dX2_sortOf_121 (lv_at hl 2 rfl) ?_
        refine lv_iconst (v := (nI 3)) hx hb dX2_sortOf_123 (by decide) ?_
        refine c_ne G (tgt := 170) (by omega) (by omega) dX2_sortOf_124 (by decide) (fun c124 => ?_) (fun c124 => ?_)
        · -- taken at 124
          exact J170 (by first | exact fun h => c124 h.1 | exact fun h => c130 h.2)
        · -- not taken at 124
          refine lv_iload hx hb dX2_sortOf_127 (lv_at hl 1 rfl) ?_
          refine lv_iconst (v := (nI 3)) hx hb dX2_sortOf_129 (by decide) ?_
          refine c_ne G (tgt := 170) (by omega) (by omega) dX2_sortOf_130 (by decide) (fun c130 => ?_) (fun c130 => ?_)
          · -- taken at 130
            exact J170 (by first | exact fun h => c124 h.1 | exact fun h => c130 h.2)
          · -- not taken at 130
            obtain ⟨u9, hu9⟩ : ∃ u, lt ((cr k - 1) * 16 + ct k) = some u := by
              cases e9 : lt ((cr k - 1) * 16 + ct k) with
              | none => rw [e9] at c124; exact absurd c124 (show (5 : Nat) ≠ 3 by decide)
              | some u => exact ⟨u, rfl⟩
            obtain ⟨v9, hv9⟩ : ∃ u, lt (cr k * 16 + ct k) = some u := by
              cases e9 : lt (cr k * 16 + ct k) with
              | none => rw [e9] at c130; exact absurd c130 (show (5 : Nat) ≠ 3 by decide)
              | some u => exact ⟨u, rfl⟩
            have hua := hA u9 hu9
            have hva9 := hB v9 hv9
            have hx9 : vO va (lt ((cr k - 1) * 16 + ct k)) = va u9 := by rw [hu9]; rfl
            have hy9 : vO va (lt (cr k * 16 + ct k)) = va v9 := by rw [hv9]; rfl
            refine lv_aload_n hx hb dX2_sortOf_133 rfl (lv_at hl 7 rfl) ?_
            refine f_get G K hP inX2 6 (ci := 2) rfl rfl 0 rfl fl_X2_40 (v := .ref (aW 0)) rfl dX2_sortOf_134 ?_
            refine f_get G K hP inX4 0 (ci := 4) rfl rfl 2 rfl fl_X2_85 (v := .ref (aW 3)) rfl dX2_sortOf_137 ?_
            refine lv_iload hx hb dX2_sortOf_140 (lv_at hl 4 rfl) ?_
            refine t_i (y := (nI u9)) (by rw [hu9]; rfl) ?_
            refine a_ldN G K hP 3 0 (a := (aW 3)) rfl rfl (by omega) (by decide) dX2_sortOf_142 ?_
            have hb7 := hva u9
            refine lv_aload_n hx hb dX2_sortOf_143 rfl (lv_at hl 7 rfl) ?_
            refine f_get G K hP inX2 6 (ci := 2) rfl rfl 0 rfl fl_X2_40 (v := .ref (aW 0)) rfl dX2_sortOf_144 ?_
            refine f_get G K hP inX4 0 (ci := 4) rfl rfl 2 rfl fl_X2_85 (v := .ref (aW 3)) rfl dX2_sortOf_147 ?_
            refine lv_iload hx hb dX2_sortOf_150 (lv_at hl 3 rfl) ?_
            refine t_i (y := (nI v9)) (by rw [hv9]; rfl) ?_
            refine a_ldN G K hP 3 0 (a := (aW 3)) rfl rfl (by omega) (by decide) dX2_sortOf_152 ?_
            have hb8 := hva v9
            refine lv_ixor hx hb dX2_sortOf_153 ?_
            refine t_i (y := (nI (va u9 ^^^ va v9))) (nI_xor _ _) ?_
            refine lv_istore (lv' := [(10, .int (nI (va u9 ^^^ va v9))), (9, .int (nI (tr z))), (8, .int (nI (kOr ki (lt ((cr k) * 16 + (ct k)))))), (7, .int (nI (kOr ki (lt ((cr k - 1) * 16 + (ct k)))))), (6, .int (oI (lt ((cr k) * 16 + (ct k))))), (5, .int (oI (lt ((cr k - 1) * 16 + (ct k))))), (4, .int (nI (ct k))), (3, .int (nI (cr k))), (0, .ref (aH 0)), (1, .int (nI k)), (2, .int (nI z))]) hx hb dX2_sortOf_154 hl (by decide) rfl (fun ls hl => ?_)
            refine lv_iload hx hb dX2_sortOf_156 (lv_at hl 0 rfl) ?_
            refine lv_iload hx hb dX2_sortOf_158 (lv_at hl 1 rfl) ?_
            refine lv_iand hx hb dX2_sortOf_160 ?_
            refine t_i (y := (nI ((va u9 ^^^ va v9) &&& tr z))) (nI_and (by have := xor_lt (hva u9) (hva v9); omega) (by have := htr z; omega)) ?_
            have han : (va u9 ^^^ va v9) &&& tr z ≤ tr z := Nat.and_le_right
            have htz := htr z
            refine z_ne G (tgt := 168) (by omega) dX2_sortOf_161 (by decide) (fun c161 => ?_) (fun c161 => ?_)
            · -- taken at 161
              refine lv_iconst (v := (nI 3)) hx hb dX2_sortOf_168 (by decide) ?_
              exact hret _ _ _ (congrArg nI (by unfold srC; rw [cif_f c26, cif_f c80, cif_f hnn]; first | rw [cif_t ⟨⟨c124, c130⟩, by rw [hx9, hy9]; omega⟩] | rw [cif_f (fun h => by have h2 := h.2; rw [hx9, hy9] at h2; omega)])) dX2_sortOf_169
            · -- not taken at 161
              refine lv_iconst (v := (nI 2)) hx hb dX2_sortOf_164 (by decide) ?_
              refine lv_goto (tgt := 169) hx hb dX2_sortOf_165 (by decide) ?_
              exact hret _ _ _ (congrArg nI (by unfold srC; rw [cif_f c26, cif_f c80, cif_f hnn]; first | rw [cif_t ⟨⟨c124, c130⟩, by rw [hx9, hy9]; omega⟩] | rw [cif_f (fun h => by have h2 := h.2; rw [hx9, hy9] at h2; omega)])) dX2_sortOf_169
      refine lv_iload hx hb dX2_sortOf_93 (lv_at hl 2 rfl) ?_
      refine callPS (rest := []) G K F_X2_isNoteOrGone (c_X2_isNoteOrGone (kOr ki (lt ((cr k - 1) * 16 + (ct k)))) (by omega)) (va_P_nil D s.heap) ml_X2_81 (by decide) (by decide) rfl hl.1 (Nat.le_of_ble_eq_true rfl) dX2_sortOf_95 ?_
      refine b_eq G (tgt := 121) dX2_sortOf_98 (by decide) (fun c98 => ?_) (fun c98 => ?_)
      · -- taken at 98
        exact J121 (by first | exact fun h => c98 h.1.1 | exact fun h => c106 h.1.2 | exact fun h => h.2 c116)
      · -- not taken at 98
        refine lv_iload hx hb dX2_sortOf_101 (lv_at hl 1 rfl) ?_
        refine callPS (rest := []) G K F_X2_isNoteOrGone (c_X2_isNoteOrGone (kOr ki (lt ((cr k) * 16 + (ct k)))) (by omega)) (va_P_nil D s.heap) ml_X2_81 (by decide) (by decide) rfl hl.1 (Nat.le_of_ble_eq_true rfl) dX2_sortOf_103 ?_
        refine b_eq G (tgt := 121) dX2_sortOf_106 (by decide) (fun c106 => ?_) (fun c106 => ?_)
        · -- taken at 106
          exact J121 (by first | exact fun h => c98 h.1.1 | exact fun h => c106 h.1.2 | exact fun h => h.2 c116)
        · -- not taken at 106
          refine lv_iload hx hb dX2_sortOf_109 (lv_at hl 0 rfl) ?_
          refine lv_iload hx hb dX2_sortOf_111 (lv_at hl 5 rfl) ?_
          refine callPS (rest := []) G K F_X2_isIn (c_X2_isIn (tr z) (ct k) (by omega) (by omega)) (va_P_nil D s.heap) ml_X2_67 (by decide) (by decide) rfl hl.1 (Nat.le_of_ble_eq_true rfl) dX2_sortOf_113 ?_
          refine b_ne G (tgt := 121) dX2_sortOf_116 (by decide) (fun c116 => ?_) (fun c116 => ?_)
          · -- taken at 116
            exact J121 (by first | exact fun h => c98 h.1.1 | exact fun h => c106 h.1.2 | exact fun h => h.2 c116)
          · -- not taken at 116
            refine lv_iconst (v := (nI 2)) hx hb dX2_sortOf_119 (by decide) ?_
            exact hret _ _ _ (congrArg nI (by unfold srC; rw [cif_f c26, cif_f c80, cif_t ⟨⟨c98, c106⟩, c116⟩])) dX2_sortOf_120
    · -- not taken at 80
      refine lv_iconst (v := (nI 1)) hx hb dX2_sortOf_83 (by decide) ?_
      exact hret _ _ _ (congrArg nI (by unfold srC; rw [cif_f c26, cif_t c80])) dX2_sortOf_84
  · -- not taken at 26
    refine lv_iconst (v := (nI 3)) hx hb dX2_sortOf_29 (by decide) ?_
    exact hret _ _ _ (congrArg nI (by unfold srC; rw [cif_t c26])) dX2_sortOf_30
set_option maxHeartbeats 4000000 in
set_option maxRecDepth 100000 in
theorem c_X2_judgeBehind (aW : Nat → Nat) (n : Nat) (cl : Nat) (th : Nat → Nat) (ki : Nat → Nat) (va : Nat → Nat) (re : Nat → Nat) (fi : Nat → Nat) (aH : Nat → Nat) (lt : Nat → Option Nat) (tr : Nat → Nat) (sh : Nat → Nat) (cr : Nat → Nat) (ct : Nat → Nat) (cu : Nat → Nat) (ve : Nat → Nat) (ta : Nat → Nat) (ch : Nat) (z : Nat) (J : IW n cl th ki va re fi) (S : SW n cl re fi) (H9 : IHd lt tr sh cr ct cu ve ta ch) (hz9 : z ≤ 7) (hu9 : cu z ≤ ch) (h1 : ∀ k, k < ch → 1 ≤ cr k) (hQ1 : ∀ k, k < ch → ∀ v, lt ((cr k - 1) * 16 + ct k) = some v → v < n) (hQ2 : ∀ k, k < ch → ∀ v, lt (cr k * 16 + ct k) = some v → v < n) : CM l D (TY cI cZ cS) yX2_judgeBehind cX2_judgeBehind 4 none 2 [.ref (aH 0), .int (nI z)] ((wW cI aW n cl th ki va re fi) ++ (wH cI aH (aW 0) lt tr sh cr ct cu ve ta ch)) none ((wW cI aW n cl th ki va re fi) ++ (wH cI aH (aW 0) lt tr sh cr ct cu (va_up ve z (mxP (fun j => srC ki va ((sh (cr (cu z + j))).testBit (ct (cu z + j)) = true) ((tr z).testBit (ct (cu z + j)) = true) (tr z) (lt ((cr (cu z + j) - 1) * 16 + ct (cu z + j))) (lt (cr (cu z + j) * 16 + ct (cu z + j)))) (ch - cu z))) (va_up ta z (cntP (fun j => srC ki va ((sh (cr (cu z + j))).testBit (ct (cu z + j)) = true) ((tr z).testBit (ct (cu z + j)) = true) (tr z) (lt ((cr (cu z + j) - 1) * 16 + ct (cu z + j))) (lt (cr (cu z + j) * 16 + ct (cu z + j))) = 3) (ch - cu z))) ch)) := by
  refine CM.ofV (by decide +kernel) (Nat.le_of_ble_eq_true rfl) ?_
  intro p e s m args below meth c Q A G K hA w hret ls hl
  obtain ⟨hx, hb, hml, hown, hts⟩ := id G
  obtain ⟨hn, hcl, hth, hki, hva, hre, hfi⟩ := id J
  obtain ⟨hlt, htr, hsh, hcr, hct, hcu, hve, hta, hch⟩ := id H9
  have hl : lv_has ls 4 [(0, .ref (aH 0)), (1, .int (nI z))] := hl
  refine lv_aload_n hx hb dX2_judgeBehind_0 rfl (lv_at hl 0 rfl) ?_
  refine f_get G K w.1 inX2 6 (ci := 2) rfl rfl 7 rfl fl_X2_30 (v := .ref (aH 7)) rfl dX2_judgeBehind_1 ?_
  refine lv_iload_n hx hb dX2_judgeBehind_4 rfl (lv_at hl 1 rfl) ?_
  refine lv_iconst (v := (nI 0)) hx hb dX2_judgeBehind_5 (by decide) ?_
  refine a_stN G K w 13 0 (a := (aH 7)) rfl rfl (by omega) (by decide) dX2_judgeBehind_6 (w2 := ((wW cI aW n cl th ki va re fi) ++ (wH cI aH (aW 0) lt tr sh cr ct cu (va_up ve z 0) ta ch))) rfl (fun Hp1 lo2 w => ?_)
  refine lv_aload_n hx hb dX2_judgeBehind_7 rfl (lv_at hl 0 rfl) ?_
  refine f_get G K w.1 inX2 6 (ci := 2) rfl rfl 8 rfl fl_X2_33 (v := .ref (aH 8)) rfl dX2_judgeBehind_8 ?_
  refine lv_iload_n hx hb dX2_judgeBehind_11 rfl (lv_at hl 1 rfl) ?_
  refine lv_iconst (v := (nI 0)) hx hb dX2_judgeBehind_12 (by decide) ?_
  refine a_stN G K w 14 0 (a := (aH 8)) rfl rfl (by omega) (by decide) dX2_judgeBehind_13 (w2 := ((wW cI aW n cl th ki va re fi) ++ (wH cI aH (aW 0) lt tr sh cr ct cu (va_up ve z 0) (va_up ta z 0) ch))) rfl (fun Hp3 lo4 w => ?_)
  refine lv_aload_n hx hb dX2_judgeBehind_14 rfl (lv_at hl 0 rfl) ?_
  refine f_get G K w.1 inX2 6 (ci := 2) rfl rfl 6 rfl fl_X2_27 (v := .ref (aH 6)) rfl dX2_judgeBehind_15 ?_
  refine lv_iload_n hx hb dX2_judgeBehind_18 rfl (lv_at hl 1 rfl) ?_
  refine a_ldN G K w.1 12 0 (a := (aH 6)) rfl rfl (by omega) (by decide) dX2_judgeBehind_19 ?_
  have hb5 := hcu z
  refine t_i (y := (nI (cu z + 0))) rfl ?_
  refine lv_istore_n (lv' := [(2, .int (nI (cu z + 0))), (0, .ref (aH 0)), (1, .int (nI z))]) hx hb dX2_judgeBehind_20 rfl hl (by decide) rfl (fun ls hl => ?_)
  have L21 : ∀ (d j : Nat), 0 ≤ j → j + d = ch - cu z → ∀ (H : Heap) (locs : List Loc), WW D A s.heap ((wW cI aW n cl th ki va re fi) ++ (wH cI aH (aW 0) lt tr sh cr ct cu (va_up ve z (mxP (fun j => srC ki va ((sh (cr (cu z + j))).testBit (ct (cu z + j)) = true) ((tr z).testBit (ct (cu z + j)) = true) (tr z) (lt ((cr (cu z + j) - 1) * 16 + ct (cu z + j))) (lt (cr (cu z + j) * 16 + ct (cu z + j)))) j)) (va_up ta z (cntP (fun j => srC ki va ((sh (cr (cu z + j))).testBit (ct (cu z + j)) = true) ((tr z).testBit (ct (cu z + j)) = true) (tr z) (lt ((cr (cu z + j) - 1) * 16 + ct (cu z + j))) (lt (cr (cu z + j) * 16 + ct (cu z + j))) = 3) j)) ch)) H locs → ∀ (ls : Array Slot), lv_has ls 4 [(0, .ref (aH 0)), (1, .int (nI z)), (2, .int (nI (cu z + j)))] → W p l e (RM 2) s m args below meth c H locs 0 0 Q (F0 m 21 ls []) := by
    intro d
    induction d with
    | zero =>
      intro j hlo21 hhi21 H locs w ls hl
      have hmx : mxP (fun j => srC ki va ((sh (cr (cu z + j))).testBit (ct (cu z + j)) = true) ((tr z).testBit (ct (cu z + j)) = true) (tr z) (lt ((cr (cu z + j) - 1) * 16 + ct (cu z + j))) (lt (cr (cu z + j) * 16 + ct (cu z + j)))) j ≤ 3 := mxP_le (fun j => srC_le _ _ _ _ _ _ _) j
      have hcn := cntP_le (fun j => srC ki va ((sh (cr (cu z + j))).testBit (ct (cu z + j)) = true) ((tr z).testBit (ct (cu z + j)) = true) (tr z) (lt ((cr (cu z + j) - 1) * 16 + ct (cu z + j))) (lt (cr (cu z + j) * 16 + ct (cu z + j))) = 3) j
      have H8 : IHd lt tr sh cr ct cu (va_up ve z (mxP (fun j => srC ki va ((sh (cr (cu z + j))).testBit (ct (cu z + j)) = true) ((tr z).testBit (ct (cu z + j)) = true) (tr z) (lt ((cr (cu z + j) - 1) * 16 + ct (cu z + j))) (lt (cr (cu z + j) * 16 + ct (cu z + j)))) j)) (va_up ta z (cntP (fun j => srC ki va ((sh (cr (cu z + j))).testBit (ct (cu z + j)) = true) ((tr z).testBit (ct (cu z + j)) = true) (tr z) (lt ((cr (cu z + j) - 1) * 16 + ct (cu z + j))) (lt (cr (cu z + j) * 16 + ct (cu z + j))) = 3) j)) ch := ⟨hlt, htr, hsh, hcr, hct, hcu, up_le hve hmx, up_le hta (by omega), hch⟩
      refine lv_iload_n hx hb dX2_judgeBehind_21 rfl (lv_at hl 2 rfl) ?_
      refine lv_aload_n hx hb dX2_judgeBehind_22 rfl (lv_at hl 0 rfl) ?_
      refine f_get G K w.1 inX2 6 (ci := 2) rfl rfl 9 rfl fl_X2_36 (v := .int (nI ch)) rfl dX2_judgeBehind_23 ?_
      refine c_ge G (tgt := 73) (by omega) (by omega) dX2_judgeBehind_26 (by decide) (fun c26 => ?_) (fun c26 => ?_)
      · -- taken at 26
        exact hret _ _ _ _ _ (by rw [show j = ch - cu z by omega]) w dX2_judgeBehind_73
      · -- not taken at 26
        exact absurd c26 (by omega)
    | succ d ih =>
      intro j hlo21 hhi21 H locs w ls hl
      have hmx : mxP (fun j => srC ki va ((sh (cr (cu z + j))).testBit (ct (cu z + j)) = true) ((tr z).testBit (ct (cu z + j)) = true) (tr z) (lt ((cr (cu z + j) - 1) * 16 + ct (cu z + j))) (lt (cr (cu z + j) * 16 + ct (cu z + j)))) j ≤ 3 := mxP_le (fun j => srC_le _ _ _ _ _ _ _) j
      have hcn := cntP_le (fun j => srC ki va ((sh (cr (cu z + j))).testBit (ct (cu z + j)) = true) ((tr z).testBit (ct (cu z + j)) = true) (tr z) (lt ((cr (cu z + j) - 1) * 16 + ct (cu z + j))) (lt (cr (cu z + j) * 16 + ct (cu z + j))) = 3) j
      have H8 : IHd lt tr sh cr ct cu (va_up ve z (mxP (fun j => srC ki va ((sh (cr (cu z + j))).testBit (ct (cu z + j)) = true) ((tr z).testBit (ct (cu z + j)) = true) (tr z) (lt ((cr (cu z + j) - 1) * 16 + ct (cu z + j))) (lt (cr (cu z + j) * 16 + ct (cu z + j)))) j)) (va_up ta z (cntP (fun j => srC ki va ((sh (cr (cu z + j))).testBit (ct (cu z + j)) = true) ((tr z).testBit (ct (cu z + j)) = true) (tr z) (lt ((cr (cu z + j) - 1) * 16 + ct (cu z + j))) (lt (cr (cu z + j) * 16 + ct (cu z + j))) = 3) j)) ch := ⟨hlt, htr, hsh, hcr, hct, hcu, up_le hve hmx, up_le hta (by omega), hch⟩
      refine lv_iload_n hx hb dX2_judgeBehind_21 rfl (lv_at hl 2 rfl) ?_
      refine lv_aload_n hx hb dX2_judgeBehind_22 rfl (lv_at hl 0 rfl) ?_
      refine f_get G K w.1 inX2 6 (ci := 2) rfl rfl 9 rfl fl_X2_36 (v := .int (nI ch)) rfl dX2_judgeBehind_23 ?_
      refine c_ge G (tgt := 73) (by omega) (by omega) dX2_judgeBehind_26 (by decide) (fun c26 => ?_) (fun c26 => ?_)
      · -- taken at 26
        exact absurd c26 (by omega)
      · -- not taken at 26
        refine lv_aload_n hx hb dX2_judgeBehind_29 rfl (lv_at hl 0 rfl) ?_
        refine lv_iload_n hx hb dX2_judgeBehind_30 rfl (lv_at hl 2 rfl) ?_
        refine lv_iload_n hx hb dX2_judgeBehind_31 rfl (lv_at hl 1 rfl) ?_
        refine callPV (As := [.int (nI (cu z + j)), .int (nI z)]) (rest := []) (q0 := 6) (ci := 2) G K F_X2_sortOf (c_X2_sortOf aW n cl th ki va re fi aH lt tr sh cr ct cu (va_up ve z (mxP (fun j => srC ki va ((sh (cr (cu z + j))).testBit (ct (cu z + j)) = true) ((tr z).testBit (ct (cu z + j)) = true) (tr z) (lt ((cr (cu z + j) - 1) * 16 + ct (cu z + j))) (lt (cr (cu z + j) * 16 + ct (cu z + j)))) j)) (va_up ta z (cntP (fun j => srC ki va ((sh (cr (cu z + j))).testBit (ct (cu z + j)) = true) ((tr z).testBit (ct (cu z + j)) = true) (tr z) (lt ((cr (cu z + j) - 1) * 16 + ct (cu z + j))) (lt (cr (cu z + j) * 16 + ct (cu z + j))) = 3) j)) ch (cu z + j) z J S H8 (by omega) (by omega) (h1 _ (by omega)) (hQ1 _ (by omega)) (hQ2 _ (by omega))) w.1 ml_X2_88 rfl rfl rfl (by decide) (by decide) rfl hl.1 (Nat.le_of_ble_eq_true rfl) dX2_judgeBehind_32 ?_
        have hf6 := srC_le ki va ((sh (cr (cu z + j))).testBit (ct (cu z + j)) = true) ((tr z).testBit (ct (cu z + j)) = true) (tr z) (lt ((cr (cu z + j) - 1) * 16 + ct (cu z + j))) (lt (cr (cu z + j) * 16 + ct (cu z + j)))
        refine lv_istore_n (lv' := [(3, .int (nI (srC ki va ((sh (cr (cu z + j))).testBit (ct (cu z + j)) = true) ((tr z).testBit (ct (cu z + j)) = true) (tr z) (lt ((cr (cu z + j) - 1) * 16 + ct (cu z + j))) (lt (cr (cu z + j) * 16 + ct (cu z + j)))))), (0, .ref (aH 0)), (1, .int (nI z)), (2, .int (nI (cu z + j)))]) hx hb dX2_judgeBehind_35 rfl hl (by decide) rfl (fun ls hl => ?_)
        refine lv_aload_n hx hb dX2_judgeBehind_36 rfl (lv_at hl 1 rfl) ?_
        refine f_get G K w.1 inX2 6 (ci := 2) rfl rfl 7 rfl fl_X2_30 (v := .ref (aH 7)) rfl dX2_judgeBehind_37 ?_
        refine lv_iload_n hx hb dX2_judgeBehind_40 rfl (lv_at hl 2 rfl) ?_
        refine lv_aload_n hx hb dX2_judgeBehind_41 rfl (lv_at hl 1 rfl) ?_
        refine f_get G K w.1 inX2 6 (ci := 2) rfl rfl 7 rfl fl_X2_30 (v := .ref (aH 7)) rfl dX2_judgeBehind_42 ?_
        refine lv_iload_n hx hb dX2_judgeBehind_45 rfl (lv_at hl 2 rfl) ?_
        refine a_ldN G K w.1 13 0 (a := (aH 7)) rfl rfl (by omega) (by decide) dX2_judgeBehind_46 ?_
        have hb7 := hve z
        refine t_i (y := (nI (mxP (fun j => srC ki va ((sh (cr (cu z + j))).testBit (ct (cu z + j)) = true) ((tr z).testBit (ct (cu z + j)) = true) (tr z) (lt ((cr (cu z + j) - 1) * 16 + ct (cu z + j))) (lt (cr (cu z + j) * 16 + ct (cu z + j)))) j))) (congrArg nI (va_up_self _ _ _)) ?_
        refine lv_iload_n hx hb dX2_judgeBehind_47 rfl (lv_at hl 0 rfl) ?_
        refine va_mmax hx hb (hml.trans hl.1.symm) hown (hts _ ml_X2_91) (hts _ st_J9_max_7cf53) (hts _ in_J9) (hts _ cd_J9_max_7cf53) (Nat.le_of_ble_eq_true rfl) (Nat.le_of_ble_eq_true rfl) (Nat.le_refl 0) (Nat.le_refl 0) dX2_judgeBehind_48 ?_
        refine t_i (y := nI (max (mxP (fun j => srC ki va ((sh (cr (cu z + j))).testBit (ct (cu z + j)) = true) ((tr z).testBit (ct (cu z + j)) = true) (tr z) (lt ((cr (cu z + j) - 1) * 16 + ct (cu z + j))) (lt (cr (cu z + j) * 16 + ct (cu z + j)))) j) (srC ki va ((sh (cr (cu z + j))).testBit (ct (cu z + j)) = true) ((tr z).testBit (ct (cu z + j)) = true) (tr z) (lt ((cr (cu z + j) - 1) * 16 + ct (cu z + j))) (lt (cr (cu z + j) * 16 + ct (cu z + j)))))) (m_max (by omega) (by omega)) ?_
        refine t_i (y := (nI (mxP (fun j => srC ki va ((sh (cr (cu z + j))).testBit (ct (cu z + j)) = true) ((tr z).testBit (ct (cu z + j)) = true) (tr z) (lt ((cr (cu z + j) - 1) * 16 + ct (cu z + j))) (lt (cr (cu z + j) * 16 + ct (cu z + j)))) (j + 1)))) (congrArg nI (Nat.max_comm _ _)) ?_
        refine a_stN G K w 13 0 (a := (aH 7)) rfl rfl (by omega) (by decide) dX2_judgeBehind_51 (w2 := ((wW cI aW n cl th ki va re fi) ++ (wH cI aH (aW 0) lt tr sh cr ct cu (va_up (va_up ve z (mxP (fun j => srC ki va ((sh (cr (cu z + j))).testBit (ct (cu z + j)) = true) ((tr z).testBit (ct (cu z + j)) = true) (tr z) (lt ((cr (cu z + j) - 1) * 16 + ct (cu z + j))) (lt (cr (cu z + j) * 16 + ct (cu z + j)))) j)) z (mxP (fun j => srC ki va ((sh (cr (cu z + j))).testBit (ct (cu z + j)) = true) ((tr z).testBit (ct (cu z + j)) = true) (tr z) (lt ((cr (cu z + j) - 1) * 16 + ct (cu z + j))) (lt (cr (cu z + j) * 16 + ct (cu z + j)))) (j + 1))) (va_up ta z (cntP (fun j => srC ki va ((sh (cr (cu z + j))).testBit (ct (cu z + j)) = true) ((tr z).testBit (ct (cu z + j)) = true) (tr z) (lt ((cr (cu z + j) - 1) * 16 + ct (cu z + j))) (lt (cr (cu z + j) * 16 + ct (cu z + j))) = 3) j)) ch))) rfl (fun Hp8 lo9 w => ?_)
        have w : WW D A s.heap ((wW cI aW n cl th ki va re fi) ++ (wH cI aH (aW 0) lt tr sh cr ct cu (va_up ve z (mxP (fun j => srC ki va ((sh (cr (cu z + j))).testBit (ct (cu z + j)) = true) ((tr z).testBit (ct (cu z + j)) = true) (tr z) (lt ((cr (cu z + j) - 1) * 16 + ct (cu z + j))) (lt (cr (cu z + j) * 16 + ct (cu z + j)))) (j + 1))) (va_up ta z (cntP (fun j => srC ki va ((sh (cr (cu z + j))).testBit (ct (cu z + j)) = true) ((tr z).testBit (ct (cu z + j)) = true) (tr z) (lt ((cr (cu z + j) - 1) * 16 + ct (cu z + j))) (lt (cr (cu z + j) * 16 + ct (cu z + j))) = 3) j)) ch)) Hp8 lo9 := by
          rw [bx_uu] at w; exact w
        refine lv_iload_n hx hb dX2_judgeBehind_52 rfl (lv_at hl 0 rfl) ?_
        refine lv_iconst (v := (nI 3)) hx hb dX2_judgeBehind_53 (by decide) ?_
        refine c_ne G (tgt := 67) (by omega) (by omega) dX2_judgeBehind_54 (by decide) (fun c54 => ?_) (fun c54 => ?_)
        · -- taken at 54
          have w : WW D A s.heap ((wW cI aW n cl th ki va re fi) ++ (wH cI aH (aW 0) lt tr sh cr ct cu (va_up ve z (mxP (fun j => srC ki va ((sh (cr (cu z + j))).testBit (ct (cu z + j)) = true) ((tr z).testBit (ct (cu z + j)) = true) (tr z) (lt ((cr (cu z + j) - 1) * 16 + ct (cu z + j))) (lt (cr (cu z + j) * 16 + ct (cu z + j)))) (j + 1))) (va_up ta z (cntP (fun j => srC ki va ((sh (cr (cu z + j))).testBit (ct (cu z + j)) = true) ((tr z).testBit (ct (cu z + j)) = true) (tr z) (lt ((cr (cu z + j) - 1) * 16 + ct (cu z + j))) (lt (cr (cu z + j) * 16 + ct (cu z + j))) = 3) (j + 1))) ch)) Hp8 lo9 := by
            first | (rw [bx_uu] at w; exact w) | (rw [← cntP_f' (q := (fun j => srC ki va ((sh (cr (cu z + j))).testBit (ct (cu z + j)) = true) ((tr z).testBit (ct (cu z + j)) = true) (tr z) (lt ((cr (cu z + j) - 1) * 16 + ct (cu z + j))) (lt (cr (cu z + j) * 16 + ct (cu z + j))) = 3)) c54]; exact w)
          refine lv_iinc (v := (nI (cu z + j + 1))) (lv' := [(2, .int (nI (cu z + j + 1))), (3, .int (nI (srC ki va ((sh (cr (cu z + j))).testBit (ct (cu z + j)) = true) ((tr z).testBit (ct (cu z + j)) = true) (tr z) (lt ((cr (cu z + j) - 1) * 16 + ct (cu z + j))) (lt (cr (cu z + j) * 16 + ct (cu z + j)))))), (0, .ref (aH 0)), (1, .int (nI z))]) hx hb dX2_judgeBehind_67 hl (k := 3) rfl (nI_inc _ 1) (by decide) rfl (fun ls hl => ?_)
          refine lv_goto (tgt := 21) hx hb dX2_judgeBehind_70 (by decide) ?_
          -- slot 2: have n:cu z + j + 1, want n:cu z + (j + 1)
          exact ih (j + 1) (by omega) (by omega) Hp8 lo9 w ls (lv_sub hl [2, 3, 0] rfl)
        · -- not taken at 54
          refine lv_aload_n hx hb dX2_judgeBehind_57 rfl (lv_at hl 1 rfl) ?_
          refine f_get G K w.1 inX2 6 (ci := 2) rfl rfl 8 rfl fl_X2_33 (v := .ref (aH 8)) rfl dX2_judgeBehind_58 ?_
          refine lv_iload_n hx hb dX2_judgeBehind_61 rfl (lv_at hl 2 rfl) ?_
          refine lv_dup2_11 hx hb dX2_judgeBehind_62 rfl rfl ?_
          refine a_ldN G K w.1 14 0 (a := (aH 8)) rfl rfl (by omega) (by decide) dX2_judgeBehind_63 ?_
          have hb10 := hta z
          refine t_i (y := (nI (cntP (fun j => srC ki va ((sh (cr (cu z + j))).testBit (ct (cu z + j)) = true) ((tr z).testBit (ct (cu z + j)) = true) (tr z) (lt ((cr (cu z + j) - 1) * 16 + ct (cu z + j))) (lt (cr (cu z + j) * 16 + ct (cu z + j))) = 3) j))) (congrArg nI (va_up_self _ _ _)) ?_
          refine lv_iconst (v := (nI 1)) hx hb dX2_judgeBehind_64 (by decide) ?_
          refine t_add G dX2_judgeBehind_65 ?_
          refine t_i (y := (nI (cntP (fun j => srC ki va ((sh (cr (cu z + j))).testBit (ct (cu z + j)) = true) ((tr z).testBit (ct (cu z + j)) = true) (tr z) (lt ((cr (cu z + j) - 1) * 16 + ct (cu z + j))) (lt (cr (cu z + j) * 16 + ct (cu z + j))) = 3) (j + 1)))) (congrArg nI (cntP_t (q := (fun j => srC ki va ((sh (cr (cu z + j))).testBit (ct (cu z + j)) = true) ((tr z).testBit (ct (cu z + j)) = true) (tr z) (lt ((cr (cu z + j) - 1) * 16 + ct (cu z + j))) (lt (cr (cu z + j) * 16 + ct (cu z + j))) = 3)) c54)) ?_
          refine a_stN G K w 14 0 (a := (aH 8)) rfl rfl (by omega) (by decide) dX2_judgeBehind_66 (w2 := ((wW cI aW n cl th ki va re fi) ++ (wH cI aH (aW 0) lt tr sh cr ct cu (va_up ve z (mxP (fun j => srC ki va ((sh (cr (cu z + j))).testBit (ct (cu z + j)) = true) ((tr z).testBit (ct (cu z + j)) = true) (tr z) (lt ((cr (cu z + j) - 1) * 16 + ct (cu z + j))) (lt (cr (cu z + j) * 16 + ct (cu z + j)))) (j + 1))) (va_up (va_up ta z (cntP (fun j => srC ki va ((sh (cr (cu z + j))).testBit (ct (cu z + j)) = true) ((tr z).testBit (ct (cu z + j)) = true) (tr z) (lt ((cr (cu z + j) - 1) * 16 + ct (cu z + j))) (lt (cr (cu z + j) * 16 + ct (cu z + j))) = 3) j)) z (cntP (fun j => srC ki va ((sh (cr (cu z + j))).testBit (ct (cu z + j)) = true) ((tr z).testBit (ct (cu z + j)) = true) (tr z) (lt ((cr (cu z + j) - 1) * 16 + ct (cu z + j))) (lt (cr (cu z + j) * 16 + ct (cu z + j))) = 3) (j + 1))) ch))) rfl (fun Hp11 lo12 w => ?_)
          have w : WW D A s.heap ((wW cI aW n cl th ki va re fi) ++ (wH cI aH (aW 0) lt tr sh cr ct cu (va_up ve z (mxP (fun j => srC ki va ((sh (cr (cu z + j))).testBit (ct (cu z + j)) = true) ((tr z).testBit (ct (cu z + j)) = true) (tr z) (lt ((cr (cu z + j) - 1) * 16 + ct (cu z + j))) (lt (cr (cu z + j) * 16 + ct (cu z + j)))) (j + 1))) (va_up ta z (cntP (fun j => srC ki va ((sh (cr (cu z + j))).testBit (ct (cu z + j)) = true) ((tr z).testBit (ct (cu z + j)) = true) (tr z) (lt ((cr (cu z + j) - 1) * 16 + ct (cu z + j))) (lt (cr (cu z + j) * 16 + ct (cu z + j))) = 3) (j + 1))) ch)) Hp11 lo12 := by
            first | (rw [bx_uu] at w; exact w) | (rw [← cntP_f' (q := (fun j => srC ki va ((sh (cr (cu z + j))).testBit (ct (cu z + j)) = true) ((tr z).testBit (ct (cu z + j)) = true) (tr z) (lt ((cr (cu z + j) - 1) * 16 + ct (cu z + j))) (lt (cr (cu z + j) * 16 + ct (cu z + j))) = 3)) c54]; exact w)
          refine lv_iinc (v := (nI (cu z + j + 1))) (lv' := [(2, .int (nI (cu z + j + 1))), (3, .int (nI (srC ki va ((sh (cr (cu z + j))).testBit (ct (cu z + j)) = true) ((tr z).testBit (ct (cu z + j)) = true) (tr z) (lt ((cr (cu z + j) - 1) * 16 + ct (cu z + j))) (lt (cr (cu z + j) * 16 + ct (cu z + j)))))), (0, .ref (aH 0)), (1, .int (nI z))]) hx hb dX2_judgeBehind_67 hl (k := 3) rfl (nI_inc _ 1) (by decide) rfl (fun ls hl => ?_)
          refine lv_goto (tgt := 21) hx hb dX2_judgeBehind_70 (by decide) ?_
          -- slot 2: have n:cu z + j + 1, want n:cu z + (j + 1)
          exact ih (j + 1) (by omega) (by omega) Hp11 lo12 w ls (lv_sub hl [2, 3, 0] rfl)
  exact L21 (ch - cu z - 0) (0) (Nat.le_refl _) (by omega) Hp3 lo4 w ls (lv_sub hl [1, 2, 0] rfl)
set_option maxHeartbeats 4000000 in
set_option maxRecDepth 100000 in
theorem c_X2_startRow (aW : Nat → Nat) (n : Nat) (cl : Nat) (th : Nat → Nat) (ki : Nat → Nat) (va : Nat → Nat) (re : Nat → Nat) (fi : Nat → Nat) (aH : Nat → Nat) (lt : Nat → Option Nat) (tr : Nat → Nat) (sh : Nat → Nat) (cr : Nat → Nat) (ct : Nat → Nat) (cu : Nat → Nat) (ve : Nat → Nat) (ta : Nat → Nat) (ch : Nat) (r : Nat) (J : IW n cl th ki va re fi) (S : SW n cl re fi) (H9 : IHd lt tr sh cr ct cu ve ta ch) (hr9 : r ≤ 7) : CM l D (TY cI cZ cS) yX2_startRow cX2_startRow 3 none 2 [.ref (aH 0), .int (nI r)] ((wW cI aW n cl th ki va re fi) ++ (wH cI aH (aW 0) lt tr sh cr ct cu ve ta ch)) none ((wW cI aW n cl th ki va re fi) ++ (wH cI aH (aW 0) (srL lt r) tr (va_up sh r 0) cr ct cu ve ta ch)) := by
  refine CM.ofV (by decide +kernel) (Nat.le_of_ble_eq_true rfl) ?_
  intro p e s m args below meth c Q A G K hA w hret ls hl
  obtain ⟨hx, hb, hml, hown, hts⟩ := id G
  obtain ⟨hn, hcl, hth, hki, hva, hre, hfi⟩ := id J
  obtain ⟨hlt, htr, hsh, hcr, hct, hcu, hve, hta, hch⟩ := id H9
  have hl : lv_has ls 3 [(0, .ref (aH 0)), (1, .int (nI r))] := hl
  refine lv_iload_n hx hb dX2_startRow_0 rfl (lv_at hl 1 rfl) ?_
  refine lv_bipush (v := (nI 16)) hx hb dX2_startRow_1 (by decide) ?_
  refine t_mul G dX2_startRow_3 ?_
  refine lv_istore_n (lv' := [(2, .int (nI (r * 16))), (0, .ref (aH 0)), (1, .int (nI r))]) hx hb dX2_startRow_4 rfl hl (by decide) rfl (fun ls hl => ?_)
  refine lv_iload_n hx hb dX2_startRow_5 rfl (lv_at hl 2 rfl) ?_
  refine z_ne G (tgt := 23) (by omega) dX2_startRow_6 (by decide) (fun c6 => ?_) (fun c6 => ?_)
  · -- taken at 6
    refine lv_aload_n hx hb dX2_startRow_23 rfl (lv_at hl 1 rfl) ?_
    refine f_get G K w.1 inX2 6 (ci := 2) rfl rfl 1 rfl fl_X2_9 (v := .ref (aH 1)) rfl dX2_startRow_24 ?_
    refine lv_iload_n hx hb dX2_startRow_27 rfl (lv_at hl 0 rfl) ?_
    refine lv_bipush (v := (nI 16)) hx hb dX2_startRow_28 (by decide) ?_
    refine t_sub G (by omega) dX2_startRow_30 ?_
    refine lv_aload_n hx hb dX2_startRow_31 rfl (lv_at hl 1 rfl) ?_
    refine f_get G K w.1 inX2 6 (ci := 2) rfl rfl 1 rfl fl_X2_9 (v := .ref (aH 1)) rfl dX2_startRow_32 ?_
    refine lv_iload_n hx hb dX2_startRow_35 rfl (lv_at hl 0 rfl) ?_
    refine lv_bipush (v := (nI 16)) hx hb dX2_startRow_36 (by decide) ?_
    refine acpO (f := lt) (g := lt) (sp := r * 16 - 16) (dp := r * 16) (k := 16) G K w (hml.trans hl.1.symm) ml_X2_102 7 7 rfl rfl (by omega) (by omega) (by decide) (Nat.le_of_ble_eq_true rfl) (Nat.le_of_ble_eq_true rfl) dX2_startRow_38 (w2 := ((wW cI aW n cl th ki va re fi) ++ (wH cI aH (aW 0) (va_cpy lt lt (r * 16 - 16) (r * 16) (16)) tr sh cr ct cu ve ta ch))) rfl (fun Hp1 lo2 w => ?_)
    refine lv_aload_n hx hb dX2_startRow_41 rfl (lv_at hl 1 rfl) ?_
    refine f_get G K w.1 inX2 6 (ci := 2) rfl rfl 3 rfl fl_X2_18 (v := .ref (aH 3)) rfl dX2_startRow_42 ?_
    refine lv_iload_n hx hb dX2_startRow_45 rfl (lv_at hl 2 rfl) ?_
    refine lv_iconst (v := (nI 0)) hx hb dX2_startRow_46 (by decide) ?_
    refine a_stN G K w 9 0 (a := (aH 3)) rfl rfl (by omega) (by decide) dX2_startRow_47 (w2 := ((wW cI aW n cl th ki va re fi) ++ (wH cI aH (aW 0) (va_cpy lt lt (r * 16 - 16) (r * 16) (16)) tr (va_up sh r 0) cr ct cu ve ta ch))) rfl (fun Hp3 lo4 w => ?_)
    exact hret _ _ _ _ _ (by unfold srL; first | (rw [if_pos c6]) | (rw [if_neg (by omega)])) w dX2_startRow_48
  · -- not taken at 6
    refine lv_aload_n hx hb dX2_startRow_9 rfl (lv_at hl 1 rfl) ?_
    refine f_get G K w.1 inX2 6 (ci := 2) rfl rfl 1 rfl fl_X2_9 (v := .ref (aH 1)) rfl dX2_startRow_10 ?_
    refine lv_iconst (v := (nI 0)) hx hb dX2_startRow_13 (by decide) ?_
    refine lv_bipush (v := (nI 16)) hx hb dX2_startRow_14 (by decide) ?_
    refine lv_iconst (v := (-1)) hx hb dX2_startRow_16 (by decide) ?_
    refine callMS (vs := [.ref (aH 1), .int (nI 0), .int (nI 16), .int (oI none)]) (rest := []) (wr := ((wW cI aW n cl th ki va re fi) ++ ([(aH 0, .inr (2, [.ref (aW 0), .ref (aH 1), .ref (aH 2), .ref (aH 3), .ref (aH 4), .ref (aH 5), .ref (aH 6), .ref (aH 7), .ref (aH 8), .int (nI ch)])), (aH 2, .inl (cI, 8, .inl (fun j => nI (tr j)))), (aH 3, .inl (cI, 8, .inl (fun j => nI (sh j)))), (aH 4, .inl (cI, 128, .inl (fun j => nI (cr j)))), (aH 5, .inl (cI, 128, .inl (fun j => nI (ct j)))), (aH 6, .inl (cI, 8, .inl (fun j => nI (cu j)))), (aH 7, .inl (cI, 8, .inl (fun j => nI (ve j)))), (aH 8, .inl (cI, 8, .inl (fun j => nI (ta j))))] : va_W))) (ws2 := ((wW cI aW n cl th ki va re fi) ++ (wH cI aH (aW 0) (stG lt 0 none (16 - 0)) tr sh cr ct cu ve ta ch))) G K hA w F_J7_fill_fda19 (c_fill_o (aH 1) 128 lt 0 16 none (by omega) (by omega) (by decide)) ml_X2_96 [7] [0, 1, 2, 3, 4, 5, 6, 8, 9, 10, 11, 12, 13, 14] [0, 1, 2, 3, 4, 5, 6, 14, 7, 8, 9, 10, 11, 12, 13] rfl rfl rfl rfl rfl rfl rfl (by decide) (by decide) rfl hl.1 (Nat.le_of_ble_eq_true rfl) dX2_startRow_17 (fun Hp5 lo6 w => ?_)
    refine lv_goto (tgt := 41) hx hb dX2_startRow_20 (by decide) ?_
    refine lv_aload_n hx hb dX2_startRow_41 rfl (lv_at hl 1 rfl) ?_
    refine f_get G K w.1 inX2 6 (ci := 2) rfl rfl 3 rfl fl_X2_18 (v := .ref (aH 3)) rfl dX2_startRow_42 ?_
    refine lv_iload_n hx hb dX2_startRow_45 rfl (lv_at hl 2 rfl) ?_
    refine lv_iconst (v := (nI 0)) hx hb dX2_startRow_46 (by decide) ?_
    refine a_stN G K w 9 0 (a := (aH 3)) rfl rfl (by omega) (by decide) dX2_startRow_47 (w2 := ((wW cI aW n cl th ki va re fi) ++ (wH cI aH (aW 0) (stG lt 0 none (16 - 0)) tr (va_up sh r 0) cr ct cu ve ta ch))) rfl (fun Hp7 lo8 w => ?_)
    exact hret _ _ _ _ _ (by unfold srL; first | (rw [if_pos c6]) | (rw [if_neg (by omega)])) w dX2_startRow_48
set_option maxHeartbeats 4000000 in
set_option maxRecDepth 100000 in
theorem c_X2_takeWrites (aW : Nat → Nat) (n : Nat) (cl : Nat) (th : Nat → Nat) (ki : Nat → Nat) (va : Nat → Nat) (re : Nat → Nat) (fi : Nat → Nat) (aH : Nat → Nat) (lt : Nat → Option Nat) (tr : Nat → Nat) (sh : Nat → Nat) (cr : Nat → Nat) (ct : Nat → Nat) (cu : Nat → Nat) (ve : Nat → Nat) (ta : Nat → Nat) (ch : Nat) (r : Nat) (go : Option Nat) (J : IW n cl th ki va re fi) (S : SW n cl re fi) (H9 : IHd lt tr sh cr ct cu ve ta ch) (hr9 : r ≤ cl) (hgo : ∀ v, go = some v → v < 40) : CM l D (TY cI cZ cS) yX2_takeWrites cX2_takeWrites 6 none 1 [.ref (aH 0), .int (nI r), .int (oI go)] ((wW cI aW n cl th ki va re fi) ++ (wH cI aH (aW 0) lt tr sh cr ct cu ve ta ch)) none ((wW cI aW n cl th ki va re fi) ++ (wH cI aH (aW 0) (twL th go lt r (cntLt re r n) (cntEq re r n)) tr (twS th ki va go lt sh r (cntLt re r n) (cntEq re r n)) cr ct cu ve ta ch)) := by
  refine CM.ofV (by decide +kernel) (Nat.le_of_ble_eq_true rfl) ?_
  intro p e s m args below meth c Q A G K hA w hret ls hl
  obtain ⟨hx, hb, hml, hown, hts⟩ := id G
  obtain ⟨hn, hcl, hth, hki, hva, hre, hfi⟩ := id J
  obtain ⟨hlt, htr, hsh, hcr, hct, hcu, hve, hta, hch⟩ := id H9
  have hS1 := S.1 r hr9
  have hle := cnt_le re r n
  have hl : lv_has ls 6 [(0, .ref (aH 0)), (1, .int (nI r)), (2, .int (oI go))] := hl
  refine lv_aload_n hx hb dX2_takeWrites_0 rfl (lv_at hl 0 rfl) ?_
  refine f_get G K w.1 inX2 6 (ci := 2) rfl rfl 0 rfl fl_X2_40 (v := .ref (aW 0)) rfl dX2_takeWrites_1 ?_
  refine f_get G K w.1 inX4 0 (ci := 4) rfl rfl 4 rfl fl_X2_108 (v := .ref (aW 5)) rfl dX2_takeWrites_4 ?_
  refine lv_iload_n hx hb dX2_takeWrites_7 rfl (lv_at hl 1 rfl) ?_
  refine a_ldN G K w.1 5 0 (a := (aW 5)) rfl rfl (by omega) (by decide) dX2_takeWrites_8 ?_
  have hb1 := hfi r
  refine t_i (y := (nI (cntLt re r n + 0))) (congrArg nI hS1) ?_
  refine lv_istore_n (lv' := [(3, .int (nI (cntLt re r n + 0))), (0, .ref (aH 0)), (1, .int (nI r)), (2, .int (oI go))]) hx hb dX2_takeWrites_9 rfl hl (by decide) rfl (fun ls hl => ?_)
  have L10 : ∀ (d j : Nat), 0 ≤ j → j + d = cntEq re r n → ∀ (H : Heap) (locs : List Loc), WW D A s.heap ((wW cI aW n cl th ki va re fi) ++ (wH cI aH (aW 0) (twL th go lt r (cntLt re r n) j) tr (twS th ki va go lt sh r (cntLt re r n) j) cr ct cu ve ta ch)) H locs → ∀ (ls : Array Slot), lv_has ls 6 [(0, .ref (aH 0)), (1, .int (nI r)), (2, .int (oI go)), (3, .int (nI (cntLt re r n + j)))] → W p l e (RM 1) s m args below meth c H locs 0 0 Q (F0 m 10 ls []) := by
    intro d
    induction d with
    | zero =>
      intro j hlo10 hhi10 H locs w ls hl
      have hl8 := twL_lt (th := th) (go := go) hlt r (cntLt re r n) j (by omega)
      have hs8 := twS_le (ki := ki) (va := va) (go := go) (lt := lt) hth hsh r (cntLt re r n) j
      have H8 : IHd (twL th go lt r (cntLt re r n) j) tr (twS th ki va go lt sh r (cntLt re r n) j) cr ct cu ve ta ch := ⟨hl8, htr, hs8, hcr, hct, hcu, hve, hta, hch⟩
      refine lv_iload_n hx hb dX2_takeWrites_10 rfl (lv_at hl 3 rfl) ?_
      refine lv_aload_n hx hb dX2_takeWrites_11 rfl (lv_at hl 0 rfl) ?_
      refine f_get G K w.1 inX2 6 (ci := 2) rfl rfl 0 rfl fl_X2_40 (v := .ref (aW 0)) rfl dX2_takeWrites_12 ?_
      refine lv_iload_n hx hb dX2_takeWrites_15 rfl (lv_at hl 1 rfl) ?_
      refine callPV (As := [.int (nI r)]) (rest := [.int (nI (cntLt re r n + j))]) (q0 := 0) (ci := 4) G K F_X4_behind (c_X4_behind aW n cl th ki va re fi r J S (by omega)) (w.1.sub (ws' := (wW cI aW n cl th ki va re fi)) [0, 1, 2, 3, 4, 5] rfl) ml_X2_111 rfl rfl rfl (by decide) (by decide) rfl hl.1 (Nat.le_of_ble_eq_true rfl) dX2_takeWrites_16 ?_
      have hf2 := cnt_le re r n
      refine c_ge G (tgt := 109) (by omega) (by omega) dX2_takeWrites_19 (by decide) (fun c19 => ?_) (fun c19 => ?_)
      · -- taken at 19
        exact hret _ _ _ _ _ (by rw [show j = cntEq re r n by omega]) w dX2_takeWrites_109
      · -- not taken at 19
        exact absurd c19 (by omega)
    | succ d ih =>
      intro j hlo10 hhi10 H locs w ls hl
      have hl8 := twL_lt (th := th) (go := go) hlt r (cntLt re r n) j (by omega)
      have hs8 := twS_le (ki := ki) (va := va) (go := go) (lt := lt) hth hsh r (cntLt re r n) j
      have H8 : IHd (twL th go lt r (cntLt re r n) j) tr (twS th ki va go lt sh r (cntLt re r n) j) cr ct cu ve ta ch := ⟨hl8, htr, hs8, hcr, hct, hcu, hve, hta, hch⟩
      refine lv_iload_n hx hb dX2_takeWrites_10 rfl (lv_at hl 3 rfl) ?_
      refine lv_aload_n hx hb dX2_takeWrites_11 rfl (lv_at hl 0 rfl) ?_
      refine f_get G K w.1 inX2 6 (ci := 2) rfl rfl 0 rfl fl_X2_40 (v := .ref (aW 0)) rfl dX2_takeWrites_12 ?_
      refine lv_iload_n hx hb dX2_takeWrites_15 rfl (lv_at hl 1 rfl) ?_
      refine callPV (As := [.int (nI r)]) (rest := [.int (nI (cntLt re r n + j))]) (q0 := 0) (ci := 4) G K F_X4_behind (c_X4_behind aW n cl th ki va re fi r J S (by omega)) (w.1.sub (ws' := (wW cI aW n cl th ki va re fi)) [0, 1, 2, 3, 4, 5] rfl) ml_X2_111 rfl rfl rfl (by decide) (by decide) rfl hl.1 (Nat.le_of_ble_eq_true rfl) dX2_takeWrites_16 ?_
      have hf3 := cnt_le re r n
      refine c_ge G (tgt := 109) (by omega) (by omega) dX2_takeWrites_19 (by decide) (fun c19 => ?_) (fun c19 => ?_)
      · -- taken at 19
        exact absurd c19 (by omega)
      · -- not taken at 19
        refine lv_iload_n hx hb dX2_takeWrites_22 rfl (lv_at hl 3 rfl) ?_
        refine lv_iload_n hx hb dX2_takeWrites_23 rfl (lv_at hl 2 rfl) ?_
        refine no_ne G (tgt := 30) (by omega) (fun w h => by have := hgo w h; omega) dX2_takeWrites_24 (by decide) (fun c24 => ?_) (fun c24 => ?_)
        · -- taken at 24
          refine lv_aload_n hx hb dX2_takeWrites_30 rfl (lv_at hl 0 rfl) ?_
          refine f_get G K w.1 inX2 6 (ci := 2) rfl rfl 0 rfl fl_X2_40 (v := .ref (aW 0)) rfl dX2_takeWrites_31 ?_
          refine f_get G K w.1 inX4 0 (ci := 4) rfl rfl 0 rfl fl_X2_114 (v := .ref (aW 1)) rfl dX2_takeWrites_34 ?_
          refine lv_iload_n hx hb dX2_takeWrites_37 rfl (lv_at hl 3 rfl) ?_
          refine a_ldN G K w.1 1 0 (a := (aW 1)) rfl rfl (by omega) (by decide) dX2_takeWrites_38 ?_
          have hb4 := hth (cntLt re r n + j)
          refine lv_istore (lv' := [(4, .int (nI (th (cntLt re r n + j)))), (0, .ref (aH 0)), (1, .int (nI r)), (2, .int (oI go)), (3, .int (nI (cntLt re r n + j)))]) hx hb dX2_takeWrites_39 hl (by decide) rfl (fun ls hl => ?_)
          refine lv_aload_n hx hb dX2_takeWrites_41 rfl (lv_at hl 1 rfl) ?_
          refine lv_iload_n hx hb dX2_takeWrites_42 rfl (lv_at hl 2 rfl) ?_
          refine lv_iload hx hb dX2_takeWrites_43 (lv_at hl 0 rfl) ?_
          refine callPV (As := [.int (nI r), .int (nI (th (cntLt re r n + j)))]) (rest := []) (q0 := 6) (ci := 2) G K F_X2_latestOf (c_X2_latestOf aW n cl th ki va re fi aH (twL th go lt r (cntLt re r n) j) tr (twS th ki va go lt sh r (cntLt re r n) j) cr ct cu ve ta ch r (th (cntLt re r n + j)) J S H8 (by omega) (by omega)) w.1 ml_X2_71 rfl rfl rfl (by decide) (by decide) rfl hl.1 (Nat.le_of_ble_eq_true rfl) dX2_takeWrites_45 ?_
          refine lv_istore (lv' := [(5, .int (oI ((twL th go lt r (cntLt re r n) j) (r * 16 + (th (cntLt re r n + j)))))), (4, .int (nI (th (cntLt re r n + j)))), (0, .ref (aH 0)), (1, .int (nI r)), (2, .int (oI go)), (3, .int (nI (cntLt re r n + j)))]) hx hb dX2_takeWrites_48 hl (by decide) rfl (fun ls hl => ?_)
          refine lv_iload hx hb dX2_takeWrites_50 (lv_at hl 0 rfl) ?_
          refine lv_aload_n hx hb dX2_takeWrites_52 rfl (lv_at hl 2 rfl) ?_
          refine f_get G K w.1 inX2 6 (ci := 2) rfl rfl 0 rfl fl_X2_40 (v := .ref (aW 0)) rfl dX2_takeWrites_53 ?_
          refine f_get G K w.1 inX4 0 (ci := 4) rfl rfl 4 rfl fl_X2_108 (v := .ref (aW 5)) rfl dX2_takeWrites_56 ?_
          refine lv_iload_n hx hb dX2_takeWrites_59 rfl (lv_at hl 3 rfl) ?_
          refine a_ldN G K w.1 5 0 (a := (aW 5)) rfl rfl (by omega) (by decide) dX2_takeWrites_60 ?_
          have hb5 := hfi r
          refine t_i (y := (nI (cntLt re r n))) (congrArg nI hS1) ?_
          refine on_lt G (tgt := 90) (by omega) (fun w h => by have := hl8 _ w h; omega) dX2_takeWrites_61 (by decide) (fun c61 => ?_) (fun c61 => ?_)
          · -- taken at 61
            refine lv_aload_n hx hb dX2_takeWrites_90 rfl (lv_at hl 2 rfl) ?_
            refine f_get G K w.1 inX2 6 (ci := 2) rfl rfl 1 rfl fl_X2_9 (v := .ref (aH 1)) rfl dX2_takeWrites_91 ?_
            refine lv_iload_n hx hb dX2_takeWrites_94 rfl (lv_at hl 3 rfl) ?_
            refine lv_bipush (v := (nI 16)) hx hb dX2_takeWrites_95 (by decide) ?_
            refine t_mul G dX2_takeWrites_97 ?_
            refine lv_iload hx hb dX2_takeWrites_98 (lv_at hl 1 rfl) ?_
            refine t_add G dX2_takeWrites_100 ?_
            refine lv_iload_n hx hb dX2_takeWrites_101 rfl (lv_at hl 5 rfl) ?_
            refine a_stO G K w 7 0 (a := (aH 1)) rfl rfl (by omega) (by decide) (x := some (cntLt re r n + j)) rfl dX2_takeWrites_102 (w2 := ((wW cI aW n cl th ki va re fi) ++ (wH cI aH (aW 0) (va_up (twL th go lt r (cntLt re r n) j) (r * 16 + (th (cntLt re r n + j))) (some (cntLt re r n + j))) tr (twS th ki va go lt sh r (cntLt re r n) j) cr ct cu ve ta ch))) rfl (fun Hp6 lo7 w => ?_)
            have w : WW D A s.heap ((wW cI aW n cl th ki va re fi) ++ (wH cI aH (aW 0) (twL th go lt r (cntLt re r n) (j + 1)) tr (twS th ki va go lt sh r (cntLt re r n) (j + 1)) cr ct cu ve ta ch)) Hp6 lo7 := by
              have e1 : twL th go lt r (cntLt re r n) (j + 1) = cif (go = some (cntLt re r n + j)) (twL th go lt r (cntLt re r n) j) (va_up (twL th go lt r (cntLt re r n) j) (r * 16 + th (cntLt re r n + j)) (some (cntLt re r n + j))) := rfl
              have e2 : twS th ki va go lt sh r (cntLt re r n) (j + 1) = cif (¬ go = some (cntLt re r n + j) ∧ shc ki va (twL th go lt r (cntLt re r n) j (r * 16 + th (cntLt re r n + j))) (cntLt re r n) (cntLt re r n + j)) (va_up (twS th ki va go lt sh r (cntLt re r n) j) r (twS th ki va go lt sh r (cntLt re r n) j r ||| 2 ^ th (cntLt re r n + j))) (twS th ki va go lt sh r (cntLt re r n) j) := rfl
              rw [e1, e2]; first | (rw [cif_t c24, cif_f (fun h => h.1 c24)]; exact w) | (rw [cif_f c24, cif_t ⟨c24, u9, hu9, hfu, c74⟩]; exact w) | (rw [cif_f c24, cif_f (fun h => by obtain ⟨_, u8, e8, _, d8⟩ := h; rw [hu9] at e8; cases e8; exact c74 d8)]; exact w) | (rw [cif_f c24, cif_f (fun h => by obtain ⟨_, u8, e8, f8, _⟩ := h; exact c61 ⟨u8, e8, f8⟩)]; exact w)
            refine lv_iinc (v := (nI (cntLt re r n + j + 1))) (lv' := [(3, .int (nI (cntLt re r n + j + 1))), (5, .int (oI ((twL th go lt r (cntLt re r n) j) (r * 16 + (th (cntLt re r n + j)))))), (4, .int (nI (th (cntLt re r n + j)))), (0, .ref (aH 0)), (1, .int (nI r)), (2, .int (oI go))]) hx hb dX2_takeWrites_103 hl (k := 5) rfl (nI_inc _ 1) (by decide) rfl (fun ls hl => ?_)
            refine lv_goto (tgt := 10) hx hb dX2_takeWrites_106 (by decide) ?_
            -- slot 3: have n:cntLt re r n + j + 1, want n:cntLt re r n + (j + 1)
            exact ih (j + 1) (by omega) (by omega) Hp6 lo7 w ls (lv_sub hl [3, 4, 5, 0] rfl)
          · -- not taken at 61
            obtain ⟨u9, hu9, hfu⟩ := c61
            have hu8 := hl8 _ u9 hu9
            refine lv_aload_n hx hb dX2_takeWrites_64 rfl (lv_at hl 2 rfl) ?_
            refine f_get G K w.1 inX2 6 (ci := 2) rfl rfl 0 rfl fl_X2_40 (v := .ref (aW 0)) rfl dX2_takeWrites_65 ?_
            refine lv_iload hx hb dX2_takeWrites_68 (lv_at hl 0 rfl) ?_
            refine t_i (y := (nI u9)) (by rw [hu9]; rfl) ?_
            refine lv_iload_n hx hb dX2_takeWrites_70 rfl (lv_at hl 5 rfl) ?_
            refine callPV (As := [.int (nI u9), .int (nI (cntLt re r n + j))]) (rest := []) (q0 := 0) (ci := 4) G K F_X4_unlike (c_X4_unlike aW n cl th ki va re fi u9 (cntLt re r n + j) J (by omega) (by omega)) (w.1.sub (ws' := (wW cI aW n cl th ki va re fi)) [0, 1, 2, 3, 4, 5] rfl) ml_X2_117 rfl rfl rfl (by decide) (by decide) rfl hl.1 (Nat.le_of_ble_eq_true rfl) dX2_takeWrites_71 ?_
            refine b_eq G (tgt := 90) dX2_takeWrites_74 (by decide) (fun c74 => ?_) (fun c74 => ?_)
            · -- taken at 74
              refine lv_aload_n hx hb dX2_takeWrites_90 rfl (lv_at hl 2 rfl) ?_
              refine f_get G K w.1 inX2 6 (ci := 2) rfl rfl 1 rfl fl_X2_9 (v := .ref (aH 1)) rfl dX2_takeWrites_91 ?_
              refine lv_iload_n hx hb dX2_takeWrites_94 rfl (lv_at hl 3 rfl) ?_
              refine lv_bipush (v := (nI 16)) hx hb dX2_takeWrites_95 (by decide) ?_
              refine t_mul G dX2_takeWrites_97 ?_
              refine lv_iload hx hb dX2_takeWrites_98 (lv_at hl 1 rfl) ?_
              refine t_add G dX2_takeWrites_100 ?_
              refine lv_iload_n hx hb dX2_takeWrites_101 rfl (lv_at hl 5 rfl) ?_
              refine a_stO G K w 7 0 (a := (aH 1)) rfl rfl (by omega) (by decide) (x := some (cntLt re r n + j)) rfl dX2_takeWrites_102 (w2 := ((wW cI aW n cl th ki va re fi) ++ (wH cI aH (aW 0) (va_up (twL th go lt r (cntLt re r n) j) (r * 16 + (th (cntLt re r n + j))) (some (cntLt re r n + j))) tr (twS th ki va go lt sh r (cntLt re r n) j) cr ct cu ve ta ch))) rfl (fun Hp8 lo9 w => ?_)
              have w : WW D A s.heap ((wW cI aW n cl th ki va re fi) ++ (wH cI aH (aW 0) (twL th go lt r (cntLt re r n) (j + 1)) tr (twS th ki va go lt sh r (cntLt re r n) (j + 1)) cr ct cu ve ta ch)) Hp8 lo9 := by
                have e1 : twL th go lt r (cntLt re r n) (j + 1) = cif (go = some (cntLt re r n + j)) (twL th go lt r (cntLt re r n) j) (va_up (twL th go lt r (cntLt re r n) j) (r * 16 + th (cntLt re r n + j)) (some (cntLt re r n + j))) := rfl
                have e2 : twS th ki va go lt sh r (cntLt re r n) (j + 1) = cif (¬ go = some (cntLt re r n + j) ∧ shc ki va (twL th go lt r (cntLt re r n) j (r * 16 + th (cntLt re r n + j))) (cntLt re r n) (cntLt re r n + j)) (va_up (twS th ki va go lt sh r (cntLt re r n) j) r (twS th ki va go lt sh r (cntLt re r n) j r ||| 2 ^ th (cntLt re r n + j))) (twS th ki va go lt sh r (cntLt re r n) j) := rfl
                rw [e1, e2]; first | (rw [cif_t c24, cif_f (fun h => h.1 c24)]; exact w) | (rw [cif_f c24, cif_t ⟨c24, u9, hu9, hfu, c74⟩]; exact w) | (rw [cif_f c24, cif_f (fun h => by obtain ⟨_, u8, e8, _, d8⟩ := h; rw [hu9] at e8; cases e8; exact c74 d8)]; exact w) | (rw [cif_f c24, cif_f (fun h => by obtain ⟨_, u8, e8, f8, _⟩ := h; exact c61 ⟨u8, e8, f8⟩)]; exact w)
              refine lv_iinc (v := (nI (cntLt re r n + j + 1))) (lv' := [(3, .int (nI (cntLt re r n + j + 1))), (5, .int (oI ((twL th go lt r (cntLt re r n) j) (r * 16 + (th (cntLt re r n + j)))))), (4, .int (nI (th (cntLt re r n + j)))), (0, .ref (aH 0)), (1, .int (nI r)), (2, .int (oI go))]) hx hb dX2_takeWrites_103 hl (k := 5) rfl (nI_inc _ 1) (by decide) rfl (fun ls hl => ?_)
              refine lv_goto (tgt := 10) hx hb dX2_takeWrites_106 (by decide) ?_
              -- slot 3: have n:cntLt re r n + j + 1, want n:cntLt re r n + (j + 1)
              exact ih (j + 1) (by omega) (by omega) Hp8 lo9 w ls (lv_sub hl [3, 4, 5, 0] rfl)
            · -- not taken at 74
              refine lv_aload_n hx hb dX2_takeWrites_77 rfl (lv_at hl 2 rfl) ?_
              refine f_get G K w.1 inX2 6 (ci := 2) rfl rfl 3 rfl fl_X2_18 (v := .ref (aH 3)) rfl dX2_takeWrites_78 ?_
              refine lv_iload_n hx hb dX2_takeWrites_81 rfl (lv_at hl 3 rfl) ?_
              refine lv_dup2_11 hx hb dX2_takeWrites_82 rfl rfl ?_
              refine a_ldN G K w.1 9 0 (a := (aH 3)) rfl rfl (by omega) (by decide) dX2_takeWrites_83 ?_
              have hb10 := hsh r
              refine lv_iconst (v := (nI 1)) hx hb dX2_takeWrites_84 (by decide) ?_
              refine lv_iload hx hb dX2_takeWrites_85 (lv_at hl 1 rfl) ?_
              refine lv_ishl hx hb dX2_takeWrites_87 ?_
              refine t_i (y := (nI (2 ^ th (cntLt re r n + j)))) (one_shl (by omega)) ?_
              refine lv_ior hx hb dX2_takeWrites_88 ?_
              refine t_i (y := (nI (twS th ki va go lt sh r (cntLt re r n) j r ||| 2 ^ th (cntLt re r n + j)))) (nI_or (by have := hs8 r; omega) (by have h2 : 2 ^ th (cntLt re r n + j) < 2 ^ 16 := Nat.pow_lt_pow_right (by decide) (by omega); omega)) ?_
              refine a_stN G K w 9 0 (a := (aH 3)) rfl rfl (by omega) (by decide) dX2_takeWrites_89 (w2 := ((wW cI aW n cl th ki va re fi) ++ (wH cI aH (aW 0) (twL th go lt r (cntLt re r n) j) tr (va_up (twS th ki va go lt sh r (cntLt re r n) j) r (twS th ki va go lt sh r (cntLt re r n) j r ||| 2 ^ th (cntLt re r n + j))) cr ct cu ve ta ch))) rfl (fun Hp11 lo12 w => ?_)
              refine lv_aload_n hx hb dX2_takeWrites_90 rfl (lv_at hl 2 rfl) ?_
              refine f_get G K w.1 inX2 6 (ci := 2) rfl rfl 1 rfl fl_X2_9 (v := .ref (aH 1)) rfl dX2_takeWrites_91 ?_
              refine lv_iload_n hx hb dX2_takeWrites_94 rfl (lv_at hl 3 rfl) ?_
              refine lv_bipush (v := (nI 16)) hx hb dX2_takeWrites_95 (by decide) ?_
              refine t_mul G dX2_takeWrites_97 ?_
              refine lv_iload hx hb dX2_takeWrites_98 (lv_at hl 1 rfl) ?_
              refine t_add G dX2_takeWrites_100 ?_
              refine lv_iload_n hx hb dX2_takeWrites_101 rfl (lv_at hl 5 rfl) ?_
              refine a_stO G K w 7 0 (a := (aH 1)) rfl rfl (by omega) (by decide) (x := some (cntLt re r n + j)) rfl dX2_takeWrites_102 (w2 := ((wW cI aW n cl th ki va re fi) ++ (wH cI aH (aW 0) (va_up (twL th go lt r (cntLt re r n) j) (r * 16 + (th (cntLt re r n + j))) (some (cntLt re r n + j))) tr (va_up (twS th ki va go lt sh r (cntLt re r n) j) r (twS th ki va go lt sh r (cntLt re r n) j r ||| 2 ^ th (cntLt re r n + j))) cr ct cu ve ta ch))) rfl (fun Hp13 lo14 w => ?_)
              have w : WW D A s.heap ((wW cI aW n cl th ki va re fi) ++ (wH cI aH (aW 0) (twL th go lt r (cntLt re r n) (j + 1)) tr (twS th ki va go lt sh r (cntLt re r n) (j + 1)) cr ct cu ve ta ch)) Hp13 lo14 := by
                have e1 : twL th go lt r (cntLt re r n) (j + 1) = cif (go = some (cntLt re r n + j)) (twL th go lt r (cntLt re r n) j) (va_up (twL th go lt r (cntLt re r n) j) (r * 16 + th (cntLt re r n + j)) (some (cntLt re r n + j))) := rfl
                have e2 : twS th ki va go lt sh r (cntLt re r n) (j + 1) = cif (¬ go = some (cntLt re r n + j) ∧ shc ki va (twL th go lt r (cntLt re r n) j (r * 16 + th (cntLt re r n + j))) (cntLt re r n) (cntLt re r n + j)) (va_up (twS th ki va go lt sh r (cntLt re r n) j) r (twS th ki va go lt sh r (cntLt re r n) j r ||| 2 ^ th (cntLt re r n + j))) (twS th ki va go lt sh r (cntLt re r n) j) := rfl
                rw [e1, e2]; first | (rw [cif_t c24, cif_f (fun h => h.1 c24)]; exact w) | (rw [cif_f c24, cif_t ⟨c24, u9, hu9, hfu, c74⟩]; exact w) | (rw [cif_f c24, cif_f (fun h => by obtain ⟨_, u8, e8, _, d8⟩ := h; rw [hu9] at e8; cases e8; exact c74 d8)]; exact w) | (rw [cif_f c24, cif_f (fun h => by obtain ⟨_, u8, e8, f8, _⟩ := h; exact c61 ⟨u8, e8, f8⟩)]; exact w)
              refine lv_iinc (v := (nI (cntLt re r n + j + 1))) (lv' := [(3, .int (nI (cntLt re r n + j + 1))), (5, .int (oI ((twL th go lt r (cntLt re r n) j) (r * 16 + (th (cntLt re r n + j)))))), (4, .int (nI (th (cntLt re r n + j)))), (0, .ref (aH 0)), (1, .int (nI r)), (2, .int (oI go))]) hx hb dX2_takeWrites_103 hl (k := 5) rfl (nI_inc _ 1) (by decide) rfl (fun ls hl => ?_)
              refine lv_goto (tgt := 10) hx hb dX2_takeWrites_106 (by decide) ?_
              -- slot 3: have n:cntLt re r n + j + 1, want n:cntLt re r n + (j + 1)
              exact ih (j + 1) (by omega) (by omega) Hp13 lo14 w ls (lv_sub hl [3, 4, 5, 0] rfl)
        · -- not taken at 24
          refine lv_goto (tgt := 103) hx hb dX2_takeWrites_27 (by decide) ?_
          have w : WW D A s.heap ((wW cI aW n cl th ki va re fi) ++ (wH cI aH (aW 0) (twL th go lt r (cntLt re r n) (j + 1)) tr (twS th ki va go lt sh r (cntLt re r n) (j + 1)) cr ct cu ve ta ch)) H locs := by
            have e1 : twL th go lt r (cntLt re r n) (j + 1) = cif (go = some (cntLt re r n + j)) (twL th go lt r (cntLt re r n) j) (va_up (twL th go lt r (cntLt re r n) j) (r * 16 + th (cntLt re r n + j)) (some (cntLt re r n + j))) := rfl
            have e2 : twS th ki va go lt sh r (cntLt re r n) (j + 1) = cif (¬ go = some (cntLt re r n + j) ∧ shc ki va (twL th go lt r (cntLt re r n) j (r * 16 + th (cntLt re r n + j))) (cntLt re r n) (cntLt re r n + j)) (va_up (twS th ki va go lt sh r (cntLt re r n) j) r (twS th ki va go lt sh r (cntLt re r n) j r ||| 2 ^ th (cntLt re r n + j))) (twS th ki va go lt sh r (cntLt re r n) j) := rfl
            rw [e1, e2]; first | (rw [cif_t c24, cif_f (fun h => h.1 c24)]; exact w) | (rw [cif_f c24, cif_t ⟨c24, u9, hu9, hfu, c74⟩]; exact w) | (rw [cif_f c24, cif_f (fun h => by obtain ⟨_, u8, e8, _, d8⟩ := h; rw [hu9] at e8; cases e8; exact c74 d8)]; exact w) | (rw [cif_f c24, cif_f (fun h => by obtain ⟨_, u8, e8, f8, _⟩ := h; exact c61 ⟨u8, e8, f8⟩)]; exact w)
          refine lv_iinc (v := (nI (cntLt re r n + j + 1))) (lv' := [(3, .int (nI (cntLt re r n + j + 1))), (0, .ref (aH 0)), (1, .int (nI r)), (2, .int (oI go))]) hx hb dX2_takeWrites_103 hl (k := 3) rfl (nI_inc _ 1) (by decide) rfl (fun ls hl => ?_)
          refine lv_goto (tgt := 10) hx hb dX2_takeWrites_106 (by decide) ?_
          -- slot 3: have n:cntLt re r n + j + 1, want n:cntLt re r n + (j + 1)
          exact ih (j + 1) (by omega) (by omega) H locs w ls (lv_sub hl [1, 2, 3, 0] rfl)
  exact L10 (cntEq re r n - 0) (0) (Nat.le_refl _) (by omega) s.heap [] w ls (lv_sub hl [1, 2, 3, 0] rfl)
set_option maxHeartbeats 4000000 in
set_option maxRecDepth 100000 in
theorem c_X2_thingsThere (aW : Nat → Nat) (n : Nat) (cl : Nat) (th : Nat → Nat) (ki : Nat → Nat) (va : Nat → Nat) (re : Nat → Nat) (fi : Nat → Nat) (aH : Nat → Nat) (lt : Nat → Option Nat) (tr : Nat → Nat) (sh : Nat → Nat) (cr : Nat → Nat) (ct : Nat → Nat) (cu : Nat → Nat) (ve : Nat → Nat) (ta : Nat → Nat) (ch : Nat) (r : Nat) (J : IW n cl th ki va re fi) (S : SW n cl re fi) (H9 : IHd lt tr sh cr ct cu ve ta ch) (hr9 : r ≤ 7) (hrow : ∀ t, t < 16 → ∀ v, lt (r * 16 + t) = some v → v < n) : CP l D (TY cI cZ cS) yX2_thingsThere cX2_thingsThere 4 .int 1 [.ref (aH 0), .int (nI r)] ((wW cI aW n cl th ki va re fi) ++ (wH cI aH (aW 0) lt tr sh cr ct cu ve ta ch)) (.int (nI (bsm (fun t => kOr ki (lt (r * 16 + t)) ≠ 5) 16))) := by
  refine CP.ofI (by decide +kernel) (Nat.le_of_ble_eq_true rfl) (nar_int _) ?_
  intro p e s m args below meth c Q G K hP hret ls hl
  obtain ⟨hx, hb, hml, hown, hts⟩ := id G
  obtain ⟨hn, hcl, hth, hki, hva, hre, hfi⟩ := id J
  obtain ⟨hlt, htr, hsh, hcr, hct, hcu, hve, hta, hch⟩ := id H9
  have hl : lv_has ls 4 [(0, .ref (aH 0)), (1, .int (nI r))] := hl
  refine lv_iconst (v := (nI 0)) hx hb dX2_thingsThere_0 (by decide) ?_
  refine lv_istore_n (lv' := [(2, .int (nI 0)), (0, .ref (aH 0)), (1, .int (nI r))]) hx hb dX2_thingsThere_1 rfl hl (by decide) rfl (fun ls hl => ?_)
  refine lv_iconst (v := (nI 0)) hx hb dX2_thingsThere_2 (by decide) ?_
  refine lv_istore_n (lv' := [(3, .int (nI 0)), (2, .int (nI 0)), (0, .ref (aH 0)), (1, .int (nI r))]) hx hb dX2_thingsThere_3 rfl hl (by decide) rfl (fun ls hl => ?_)
  have L4 : ∀ (d t : Nat), 0 ≤ t → t + d = 16 → ∀ (ls : Array Slot), lv_has ls 4 [(0, .ref (aH 0)), (1, .int (nI r)), (2, .int (nI (bsm (fun t => kOr ki (lt (r * 16 + t)) ≠ 5) t))), (3, .int (nI t))] → W p l e (RM 1) s m args below meth c s.heap [] 0 0 Q (F0 m 4 ls []) := by
    intro d
    induction d with
    | zero =>
      intro t hlo4 hhi4 ls hl
      refine lv_iload_n hx hb dX2_thingsThere_4 rfl (lv_at hl 3 rfl) ?_
      refine lv_bipush (v := (nI 16)) hx hb dX2_thingsThere_5 (by decide) ?_
      refine c_ge G (tgt := 39) (by omega) (by omega) dX2_thingsThere_7 (by decide) (fun c7 => ?_) (fun c7 => ?_)
      · -- taken at 7
        refine lv_iload_n hx hb dX2_thingsThere_39 rfl (lv_at hl 2 rfl) ?_
        exact hret _ _ _ (congrArg nI (by rw [show t = 16 by omega])) dX2_thingsThere_40
      · -- not taken at 7
        exact absurd c7 (by omega)
    | succ d ih =>
      intro t hlo4 hhi4 ls hl
      refine lv_iload_n hx hb dX2_thingsThere_4 rfl (lv_at hl 3 rfl) ?_
      refine lv_bipush (v := (nI 16)) hx hb dX2_thingsThere_5 (by decide) ?_
      refine c_ge G (tgt := 39) (by omega) (by omega) dX2_thingsThere_7 (by decide) (fun c7 => ?_) (fun c7 => ?_)
      · -- taken at 7
        exact absurd c7 (by omega)
      · -- not taken at 7
        refine lv_aload_n hx hb dX2_thingsThere_10 rfl (lv_at hl 0 rfl) ?_
        refine f_get G K hP inX2 6 (ci := 2) rfl rfl 0 rfl fl_X2_40 (v := .ref (aW 0)) rfl dX2_thingsThere_11 ?_
        refine lv_aload_n hx hb dX2_thingsThere_14 rfl (lv_at hl 0 rfl) ?_
        refine lv_iload_n hx hb dX2_thingsThere_15 rfl (lv_at hl 1 rfl) ?_
        refine lv_iload_n hx hb dX2_thingsThere_16 rfl (lv_at hl 3 rfl) ?_
        refine callPV (As := [.int (nI r), .int (nI t)]) (rest := [.ref (aW 0)]) (q0 := 6) (ci := 2) G K F_X2_latestOf (c_X2_latestOf aW n cl th ki va re fi aH lt tr sh cr ct cu ve ta ch r t J S H9 (by omega) (by omega)) hP ml_X2_71 rfl rfl rfl (by decide) (by decide) rfl hl.1 (Nat.le_of_ble_eq_true rfl) dX2_thingsThere_17 ?_
        refine callPV (As := [.int (oI (lt (r * 16 + t)))]) (rest := []) (q0 := 0) (ci := 4) G K F_X4_kindOrGone (c_X4_kindOrGone aW n cl th ki va re fi (lt (r * 16 + t)) J (hrow t (by omega))) (hP.sub (ws' := (wW cI aW n cl th ki va re fi)) [0, 1, 2, 3, 4, 5] rfl) ml_X2_75 rfl rfl rfl (by decide) (by decide) rfl hl.1 (Nat.le_of_ble_eq_true rfl) dX2_thingsThere_20 ?_
        have hf1 := kOr_le hki (lt (r * 16 + t))
        refine lv_iconst (v := (nI 5)) hx hb dX2_thingsThere_23 (by decide) ?_
        refine c_eq G (tgt := 33) (by omega) (by omega) dX2_thingsThere_24 (by decide) (fun c24 => ?_) (fun c24 => ?_)
        · -- taken at 24
          have hl := lv_re (l' := [(0, .ref (aH 0)), (1, .int (nI r)), (2, .int (nI (bsm (fun t => kOr ki (lt (r * 16 + t)) ≠ 5) (t + 1)))), (3, .int (nI t))]) hl (by rw [show (nI (bsm (fun t => kOr ki (lt (r * 16 + t)) ≠ 5) t)) = (nI (bsm (fun t => kOr ki (lt (r * 16 + t)) ≠ 5) (t + 1))) from (bsm_g (q := (fun t => kOr ki (lt (r * 16 + t)) ≠ 5)) (fun h => h c24))])
          refine lv_iinc (v := (nI (t + 1))) (lv' := [(3, .int (nI (t + 1))), (0, .ref (aH 0)), (1, .int (nI r)), (2, .int (nI (bsm (fun t => kOr ki (lt (r * 16 + t)) ≠ 5) (t + 1))))]) hx hb dX2_thingsThere_33 hl (k := 3) rfl (nI_inc _ 1) (by decide) rfl (fun ls hl => ?_)
          refine lv_goto (tgt := 4) hx hb dX2_thingsThere_36 (by decide) ?_
          -- slot 2: have n:bsm (fun t => kOr ki (lt (r * 16 + t)) ≠ 5) (t + 1), want n:bsm (fun (t + 1) => kOr ki (lt (r * 16 + (t + 1))) ≠ 5) (t + 1)
          -- slot 3: have n:t + 1, want n:(t + 1)
          exact ih (t + 1) (by omega) (by omega) ls (lv_sub hl [1, 2, 3, 0] rfl)
        · -- not taken at 24
          refine lv_iload_n hx hb dX2_thingsThere_27 rfl (lv_at hl 2 rfl) ?_
          refine lv_iconst (v := (nI 1)) hx hb dX2_thingsThere_28 (by decide) ?_
          refine lv_iload_n hx hb dX2_thingsThere_29 rfl (lv_at hl 3 rfl) ?_
          refine lv_ishl hx hb dX2_thingsThere_30 ?_
          refine t_i (y := (nI (2 ^ t))) (one_shl c7) ?_
          refine lv_ior hx hb dX2_thingsThere_31 ?_
          refine t_i (y := (nI (bsm (fun t => kOr ki (lt (r * 16 + t)) ≠ 5) (t + 1)))) (bsm_t (q := (fun t => kOr ki (lt (r * 16 + t)) ≠ 5)) c7 c24) ?_
          refine lv_istore_n (lv' := [(2, .int (nI (bsm (fun t => kOr ki (lt (r * 16 + t)) ≠ 5) (t + 1)))), (0, .ref (aH 0)), (1, .int (nI r)), (3, .int (nI t))]) hx hb dX2_thingsThere_32 rfl hl (by decide) rfl (fun ls hl => ?_)
          refine lv_iinc (v := (nI (t + 1))) (lv' := [(3, .int (nI (t + 1))), (2, .int (nI (bsm (fun t => kOr ki (lt (r * 16 + t)) ≠ 5) (t + 1)))), (0, .ref (aH 0)), (1, .int (nI r))]) hx hb dX2_thingsThere_33 hl (k := 3) rfl (nI_inc _ 1) (by decide) rfl (fun ls hl => ?_)
          refine lv_goto (tgt := 4) hx hb dX2_thingsThere_36 (by decide) ?_
          -- slot 2: have n:bsm (fun t => kOr ki (lt (r * 16 + t)) ≠ 5) (t + 1), want n:bsm (fun (t + 1) => kOr ki (lt (r * 16 + (t + 1))) ≠ 5) (t + 1)
          -- slot 3: have n:t + 1, want n:(t + 1)
          exact ih (t + 1) (by omega) (by omega) ls (lv_sub hl [2, 3, 1, 0] rfl)
  exact L4 (16 - 0) (0) (Nat.le_refl _) (by omega) ls (lv_sub hl [2, 3, 1, 0] rfl)
set_option maxHeartbeats 4000000 in
set_option maxRecDepth 100000 in
theorem c_X2_isOther (aW : Nat → Nat) (n : Nat) (cl : Nat) (th : Nat → Nat) (ki : Nat → Nat) (va : Nat → Nat) (re : Nat → Nat) (fi : Nat → Nat) (aH : Nat → Nat) (lt : Nat → Option Nat) (tr : Nat → Nat) (sh : Nat → Nat) (cr : Nat → Nat) (ct : Nat → Nat) (cu : Nat → Nat) (ve : Nat → Nat) (ta : Nat → Nat) (ch : Nat) (r : Nat) (t : Nat) (J : IW n cl th ki va re fi) (S : SW n cl re fi) (H9 : IHd lt tr sh cr ct cu ve ta ch) (h1 : 1 ≤ r) (hr9 : r ≤ 7) (ht9 : t ≤ 15) (hT1 : (tr (r - 1)).testBit t = true ↔ kOr ki (lt ((r - 1) * 16 + t)) ≠ 5) (hT2 : (tr r).testBit t = true ↔ kOr ki (lt (r * 16 + t)) ≠ 5) : CP l D (TY cI cZ cS) yX2_isOther cX2_isOther 5 .boolean 1 [.ref (aH 0), .int (nI r), .int (nI t)] ((wW cI aW n cl th ki va re fi) ++ (wH cI aH (aW 0) lt tr sh cr ct cu ve ta ch)) (.int (bI (othO ki va (nonG ki (lt ((r - 1) * 16 + t))) (nonG ki (lt (r * 16 + t)))))) := by
  refine CP.ofI (by decide +kernel) (Nat.le_of_ble_eq_true rfl) (bI_nar _) ?_
  intro p e s m args below meth c Q G K hP hret ls hl
  obtain ⟨hx, hb, hml, hown, hts⟩ := id G
  obtain ⟨hn, hcl, hth, hki, hva, hre, hfi⟩ := id J
  obtain ⟨hlt, htr, hsh, hcr, hct, hcu, hve, hta, hch⟩ := id H9
  have hl : lv_has ls 5 [(0, .ref (aH 0)), (1, .int (nI r)), (2, .int (nI t))] := hl
  refine lv_aload_n hx hb dX2_isOther_0 rfl (lv_at hl 0 rfl) ?_
  refine f_get G K hP inX2 6 (ci := 2) rfl rfl 2 rfl fl_X2_15 (v := .ref (aH 2)) rfl dX2_isOther_1 ?_
  refine lv_iload_n hx hb dX2_isOther_4 rfl (lv_at hl 1 rfl) ?_
  refine lv_iconst (v := (nI 1)) hx hb dX2_isOther_5 (by decide) ?_
  refine t_sub G (by omega) dX2_isOther_6 ?_
  refine a_ldN G K hP 8 0 (a := (aH 2)) rfl rfl (by omega) (by decide) dX2_isOther_7 ?_
  have hb1 := htr (r - 1)
  refine lv_iload_n hx hb dX2_isOther_8 rfl (lv_at hl 2 rfl) ?_
  refine callPS (rest := []) G K F_X2_isIn (c_X2_isIn (tr (r - 1)) t (by omega) (by omega)) (va_P_nil D s.heap) ml_X2_67 (by decide) (by decide) rfl hl.1 (Nat.le_of_ble_eq_true rfl) dX2_isOther_9 ?_
  refine lv_istore_n (lv' := [(3, .int (bI ((tr (r - 1)).testBit t = true))), (0, .ref (aH 0)), (1, .int (nI r)), (2, .int (nI t))]) hx hb dX2_isOther_12 rfl hl (by decide) rfl (fun ls hl => ?_)
  refine lv_aload_n hx hb dX2_isOther_13 rfl (lv_at hl 1 rfl) ?_
  refine f_get G K hP inX2 6 (ci := 2) rfl rfl 2 rfl fl_X2_15 (v := .ref (aH 2)) rfl dX2_isOther_14 ?_
  refine lv_iload_n hx hb dX2_isOther_17 rfl (lv_at hl 2 rfl) ?_
  refine a_ldN G K hP 8 0 (a := (aH 2)) rfl rfl (by omega) (by decide) dX2_isOther_18 ?_
  have hb2 := htr r
  refine lv_iload_n hx hb dX2_isOther_19 rfl (lv_at hl 3 rfl) ?_
  refine callPS (rest := []) G K F_X2_isIn (c_X2_isIn (tr r) t (by omega) (by omega)) (va_P_nil D s.heap) ml_X2_67 (by decide) (by decide) rfl hl.1 (Nat.le_of_ble_eq_true rfl) dX2_isOther_20 ?_
  refine lv_istore (lv' := [(4, .int (bI ((tr r).testBit t = true))), (3, .int (bI ((tr (r - 1)).testBit t = true))), (0, .ref (aH 0)), (1, .int (nI r)), (2, .int (nI t))]) hx hb dX2_isOther_23 hl (by decide) rfl (fun ls hl => ?_)
  refine lv_iload_n hx hb dX2_isOther_25 rfl (lv_at hl 1 rfl) ?_
  refine lv_iload hx hb dX2_isOther_26 (lv_at hl 0 rfl) ?_
  refine bb_ne G (tgt := 60) dX2_isOther_28 (by decide) (fun c28 => ?_) (fun c28 => ?_)
  · -- taken at 28
    refine lv_iconst (v := (nI 1)) hx hb dX2_isOther_60 (by decide) ?_
    refine lv_goto (tgt := 65) hx hb dX2_isOther_61 (by decide) ?_
    exact hret _ _ _ (by first | exact b1 (oth_a (fun h => c28 (hT1.trans (h.trans hT2.symm)))) | exact b0 (oth_b (fun q => c33 (hT2.mpr q)) (fun q => c33 (c28.mp (hT1.mpr q)))) | exact b1 (oth_c hu9 hv9 k1 k2 c57) | exact b0 (oth_d hu9 hv9 k1 k2 c57)) dX2_isOther_65
  · -- not taken at 28
    refine lv_iload hx hb dX2_isOther_31 (lv_at hl 0 rfl) ?_
    refine b_eq G (tgt := 64) dX2_isOther_33 (by decide) (fun c33 => ?_) (fun c33 => ?_)
    · -- taken at 33
      refine lv_iconst (v := (nI 0)) hx hb dX2_isOther_64 (by decide) ?_
      exact hret _ _ _ (by first | exact b1 (oth_a (fun h => c28 (hT1.trans (h.trans hT2.symm)))) | exact b0 (oth_b (fun q => c33 (hT2.mpr q)) (fun q => c33 (c28.mp (hT1.mpr q)))) | exact b1 (oth_c hu9 hv9 k1 k2 c57) | exact b0 (oth_d hu9 hv9 k1 k2 c57)) dX2_isOther_65
    · -- not taken at 33
      have k2 := hT2.mp c33
      have k1 := hT1.mp (c28.mpr c33)
      obtain ⟨u9, hu9⟩ : ∃ u, lt ((r - 1) * 16 + t) = some u := by
        cases e9 : lt ((r - 1) * 16 + t) with
        | none => rw [e9] at k1; exact absurd rfl k1
        | some u => exact ⟨u, rfl⟩
      obtain ⟨v9, hv9⟩ : ∃ u, lt (r * 16 + t) = some u := by
        cases e9 : lt (r * 16 + t) with
        | none => rw [e9] at k2; exact absurd rfl k2
        | some u => exact ⟨u, rfl⟩
      have hua := hlt _ u9 hu9
      have hva9 := hlt _ v9 hv9
      refine lv_aload_n hx hb dX2_isOther_36 rfl (lv_at hl 2 rfl) ?_
      refine f_get G K hP inX2 6 (ci := 2) rfl rfl 0 rfl fl_X2_40 (v := .ref (aW 0)) rfl dX2_isOther_37 ?_
      refine lv_aload_n hx hb dX2_isOther_40 rfl (lv_at hl 2 rfl) ?_
      refine lv_iload_n hx hb dX2_isOther_41 rfl (lv_at hl 3 rfl) ?_
      refine lv_iconst (v := (nI 1)) hx hb dX2_isOther_42 (by decide) ?_
      refine t_sub G (by omega) dX2_isOther_43 ?_
      refine lv_iload_n hx hb dX2_isOther_44 rfl (lv_at hl 4 rfl) ?_
      refine callPV (As := [.int (nI (r - 1)), .int (nI t)]) (rest := [.ref (aW 0)]) (q0 := 6) (ci := 2) G K F_X2_latestOf (c_X2_latestOf aW n cl th ki va re fi aH lt tr sh cr ct cu ve ta ch (r - 1) t J S H9 (by omega) (by omega)) hP ml_X2_71 rfl rfl rfl (by decide) (by decide) rfl hl.1 (Nat.le_of_ble_eq_true rfl) dX2_isOther_45 ?_
      refine t_i (y := (nI u9)) (by rw [hu9]; rfl) ?_
      refine lv_aload_n hx hb dX2_isOther_48 rfl (lv_at hl 2 rfl) ?_
      refine lv_iload_n hx hb dX2_isOther_49 rfl (lv_at hl 3 rfl) ?_
      refine lv_iload_n hx hb dX2_isOther_50 rfl (lv_at hl 4 rfl) ?_
      refine callPV (As := [.int (nI r), .int (nI t)]) (rest := [.int (nI u9), .ref (aW 0)]) (q0 := 6) (ci := 2) G K F_X2_latestOf (c_X2_latestOf aW n cl th ki va re fi aH lt tr sh cr ct cu ve ta ch r t J S H9 (by omega) (by omega)) hP ml_X2_71 rfl rfl rfl (by decide) (by decide) rfl hl.1 (Nat.le_of_ble_eq_true rfl) dX2_isOther_51 ?_
      refine t_i (y := (nI v9)) (by rw [hv9]; rfl) ?_
      refine callPV (As := [.int (nI u9), .int (nI v9)]) (rest := []) (q0 := 0) (ci := 4) G K F_X4_unlike (c_X4_unlike aW n cl th ki va re fi u9 v9 J (by omega) (by omega)) (hP.sub (ws' := (wW cI aW n cl th ki va re fi)) [0, 1, 2, 3, 4, 5] rfl) ml_X2_117 rfl rfl rfl (by decide) (by decide) rfl hl.1 (Nat.le_of_ble_eq_true rfl) dX2_isOther_54 ?_
      refine b_eq G (tgt := 64) dX2_isOther_57 (by decide) (fun c57 => ?_) (fun c57 => ?_)
      · -- taken at 57
        refine lv_iconst (v := (nI 0)) hx hb dX2_isOther_64 (by decide) ?_
        exact hret _ _ _ (by first | exact b1 (oth_a (fun h => c28 (hT1.trans (h.trans hT2.symm)))) | exact b0 (oth_b (fun q => c33 (hT2.mpr q)) (fun q => c33 (c28.mp (hT1.mpr q)))) | exact b1 (oth_c hu9 hv9 k1 k2 c57) | exact b0 (oth_d hu9 hv9 k1 k2 c57)) dX2_isOther_65
      · -- not taken at 57
        refine lv_iconst (v := (nI 1)) hx hb dX2_isOther_60 (by decide) ?_
        refine lv_goto (tgt := 65) hx hb dX2_isOther_61 (by decide) ?_
        exact hret _ _ _ (by first | exact b1 (oth_a (fun h => c28 (hT1.trans (h.trans hT2.symm)))) | exact b0 (oth_b (fun q => c33 (hT2.mpr q)) (fun q => c33 (c28.mp (hT1.mpr q)))) | exact b1 (oth_c hu9 hv9 k1 k2 c57) | exact b0 (oth_d hu9 hv9 k1 k2 c57)) dX2_isOther_65
set_option maxHeartbeats 4000000 in
set_option maxRecDepth 100000 in
theorem c_X2_noteChanges_0 (aW : Nat → Nat) (n : Nat) (cl : Nat) (th : Nat → Nat) (ki : Nat → Nat) (va : Nat → Nat) (re : Nat → Nat) (fi : Nat → Nat) (aH : Nat → Nat) (lt : Nat → Option Nat) (tr : Nat → Nat) (sh : Nat → Nat) (cr : Nat → Nat) (ct : Nat → Nat) (cu : Nat → Nat) (ve : Nat → Nat) (ta : Nat → Nat) (ch : Nat) (r : Nat) (J : IW n cl th ki va re fi) (S : SW n cl re fi) (H9 : IHd lt tr sh cr ct cu ve ta ch) (h0 : r = 0) : CM l D (TY cI cZ cS) yX2_noteChanges cX2_noteChanges 3 none 2 [.ref (aH 0), .int (nI r)] ((wW cI aW n cl th ki va re fi) ++ (wH cI aH (aW 0) lt tr sh cr ct cu ve ta ch)) none ((wW cI aW n cl th ki va re fi) ++ (wH cI aH (aW 0) lt tr sh cr ct cu ve ta ch)) := by
  refine CM.ofV (by decide +kernel) (Nat.le_of_ble_eq_true rfl) ?_
  intro p e s m args below meth c Q A G K hA w hret ls hl
  obtain ⟨hx, hb, hml, hown, hts⟩ := id G
  obtain ⟨hn, hcl, hth, hki, hva, hre, hfi⟩ := id J
  obtain ⟨hlt, htr, hsh, hcr, hct, hcu, hve, hta, hch⟩ := id H9
  have hl : lv_has ls 3 [(0, .ref (aH 0)), (1, .int (nI r))] := hl
  refine lv_iconst (v := (nI 0)) hx hb dX2_noteChanges_0 (by decide) ?_
  refine lv_istore_n (lv' := [(2, .int (nI 0)), (0, .ref (aH 0)), (1, .int (nI r))]) hx hb dX2_noteChanges_1 rfl hl (by decide) rfl (fun ls hl => ?_)
  refine lv_iload_n hx hb dX2_noteChanges_2 rfl (lv_at hl 2 rfl) ?_
  refine z_le G (tgt := 70) (by omega) dX2_noteChanges_3 (by decide) (fun c3 => ?_) (fun c3 => ?_)
  · -- taken at 3
    exact hret _ _ _ _ _ rfl w dX2_noteChanges_70
  · -- not taken at 3
    exact absurd c3 (by omega)
set_option maxHeartbeats 4000000 in
set_option maxRecDepth 100000 in
theorem c_X2_noteChanges_s (aW : Nat → Nat) (n : Nat) (cl : Nat) (th : Nat → Nat) (ki : Nat → Nat) (va : Nat → Nat) (re : Nat → Nat) (fi : Nat → Nat) (aH : Nat → Nat) (lt : Nat → Option Nat) (tr : Nat → Nat) (sh : Nat → Nat) (cr : Nat → Nat) (ct : Nat → Nat) (cu : Nat → Nat) (ve : Nat → Nat) (ta : Nat → Nat) (ch : Nat) (r : Nat) (J : IW n cl th ki va re fi) (S : SW n cl re fi) (H9 : IHd lt tr sh cr ct cu ve ta ch) (h1 : 1 ≤ r) (hr9 : r ≤ 7) (hc9 : ch + 16 ≤ 128) (hT1 : ∀ t, t < 16 → ((tr (r - 1)).testBit t = true ↔ kOr ki (lt ((r - 1) * 16 + t)) ≠ 5)) (hT2 : ∀ t, t < 16 → ((tr r).testBit t = true ↔ kOr ki (lt (r * 16 + t)) ≠ 5)) : CM l D (TY cI cZ cS) yX2_noteChanges cX2_noteChanges 3 none 2 [.ref (aH 0), .int (nI r)] ((wW cI aW n cl th ki va re fi) ++ (wH cI aH (aW 0) lt tr sh cr ct cu ve ta ch)) none ((wW cI aW n cl th ki va re fi) ++ (wH cI aH (aW 0) lt tr sh (ncR (fun t => (sh r).testBit t = true ∨ othO ki va (nonG ki (lt ((r - 1) * 16 + t))) (nonG ki (lt (r * 16 + t)))) (fun _ => r) cr ch 16) (ncR (fun t => (sh r).testBit t = true ∨ othO ki va (nonG ki (lt ((r - 1) * 16 + t))) (nonG ki (lt (r * 16 + t)))) (fun t => t) ct ch 16) cu ve ta (ch + cntP (fun t => (sh r).testBit t = true ∨ othO ki va (nonG ki (lt ((r - 1) * 16 + t))) (nonG ki (lt (r * 16 + t)))) 16))) := by
  refine CM.ofV (by decide +kernel) (Nat.le_of_ble_eq_true rfl) ?_
  intro p e s m args below meth c Q A G K hA w hret ls hl
  obtain ⟨hx, hb, hml, hown, hts⟩ := id G
  obtain ⟨hn, hcl, hth, hki, hva, hre, hfi⟩ := id J
  obtain ⟨hlt, htr, hsh, hcr, hct, hcu, hve, hta, hch⟩ := id H9
  have hl : lv_has ls 3 [(0, .ref (aH 0)), (1, .int (nI r))] := hl
  refine lv_iconst (v := (nI 0)) hx hb dX2_noteChanges_0 (by decide) ?_
  refine lv_istore_n (lv' := [(2, .int (nI 0)), (0, .ref (aH 0)), (1, .int (nI r))]) hx hb dX2_noteChanges_1 rfl hl (by decide) rfl (fun ls hl => ?_)
  have L2 : ∀ (d t : Nat), 0 ≤ t → t + d = 16 → ∀ (H : Heap) (locs : List Loc), WW D A s.heap ((wW cI aW n cl th ki va re fi) ++ (wH cI aH (aW 0) lt tr sh (ncR (fun t => (sh r).testBit t = true ∨ othO ki va (nonG ki (lt ((r - 1) * 16 + t))) (nonG ki (lt (r * 16 + t)))) (fun _ => r) cr ch t) (ncR (fun t => (sh r).testBit t = true ∨ othO ki va (nonG ki (lt ((r - 1) * 16 + t))) (nonG ki (lt (r * 16 + t)))) (fun t => t) ct ch t) cu ve ta (ch + cntP (fun t => (sh r).testBit t = true ∨ othO ki va (nonG ki (lt ((r - 1) * 16 + t))) (nonG ki (lt (r * 16 + t)))) t))) H locs → ∀ (ls : Array Slot), lv_has ls 3 [(0, .ref (aH 0)), (1, .int (nI r)), (2, .int (nI t))] → W p l e (RM 2) s m args below meth c H locs 0 0 Q (F0 m 2 ls []) := by
    intro d
    induction d with
    | zero =>
      intro t hlo2 hhi2 H locs w ls hl
      have hcn := cntP_le (fun t => (sh r).testBit t = true ∨ othO ki va (nonG ki (lt ((r - 1) * 16 + t))) (nonG ki (lt (r * 16 + t)))) t
      have hsr := hsh r
      have H8 : t < 16 → IHd lt tr sh (ncR (fun t => (sh r).testBit t = true ∨ othO ki va (nonG ki (lt ((r - 1) * 16 + t))) (nonG ki (lt (r * 16 + t)))) (fun _ => r) cr ch t) (ncR (fun t => (sh r).testBit t = true ∨ othO ki va (nonG ki (lt ((r - 1) * 16 + t))) (nonG ki (lt (r * 16 + t)))) (fun t => t) ct ch t) cu ve ta (ch + cntP (fun t => (sh r).testBit t = true ∨ othO ki va (nonG ki (lt ((r - 1) * 16 + t))) (nonG ki (lt (r * 16 + t)))) t) := fun _ => ⟨hlt, htr, hsh, ncR_le hcr (fun _ _ => hr9) t (by omega), ncR_le hct (fun _ h => by omega) t (by omega), hcu, hve, hta, by omega⟩
      refine lv_iload_n hx hb dX2_noteChanges_2 rfl (lv_at hl 1 rfl) ?_
      refine z_le G (tgt := 70) (by omega) dX2_noteChanges_3 (by decide) (fun c3 => ?_) (fun c3 => ?_)
      · -- taken at 3
        exact absurd c3 (by omega)
      · -- not taken at 3
        refine lv_iload_n hx hb dX2_noteChanges_6 rfl (lv_at hl 2 rfl) ?_
        refine lv_bipush (v := (nI 16)) hx hb dX2_noteChanges_7 (by decide) ?_
        refine c_ge G (tgt := 70) (by omega) (by omega) dX2_noteChanges_9 (by decide) (fun c9 => ?_) (fun c9 => ?_)
        · -- taken at 9
          exact hret _ _ _ _ _ (by rw [show t = 16 by omega]) w dX2_noteChanges_70
        · -- not taken at 9
          exact absurd c9 (by omega)
    | succ d ih =>
      intro t hlo2 hhi2 H locs w ls hl
      have hcn := cntP_le (fun t => (sh r).testBit t = true ∨ othO ki va (nonG ki (lt ((r - 1) * 16 + t))) (nonG ki (lt (r * 16 + t)))) t
      have hsr := hsh r
      have H8 : t < 16 → IHd lt tr sh (ncR (fun t => (sh r).testBit t = true ∨ othO ki va (nonG ki (lt ((r - 1) * 16 + t))) (nonG ki (lt (r * 16 + t)))) (fun _ => r) cr ch t) (ncR (fun t => (sh r).testBit t = true ∨ othO ki va (nonG ki (lt ((r - 1) * 16 + t))) (nonG ki (lt (r * 16 + t)))) (fun t => t) ct ch t) cu ve ta (ch + cntP (fun t => (sh r).testBit t = true ∨ othO ki va (nonG ki (lt ((r - 1) * 16 + t))) (nonG ki (lt (r * 16 + t)))) t) := fun _ => ⟨hlt, htr, hsh, ncR_le hcr (fun _ _ => hr9) t (by omega), ncR_le hct (fun _ h => by omega) t (by omega), hcu, hve, hta, by omega⟩
      refine lv_iload_n hx hb dX2_noteChanges_2 rfl (lv_at hl 1 rfl) ?_
      refine z_le G (tgt := 70) (by omega) dX2_noteChanges_3 (by decide) (fun c3 => ?_) (fun c3 => ?_)
      · -- taken at 3
        exact absurd c3 (by omega)
      · -- not taken at 3
        refine lv_iload_n hx hb dX2_noteChanges_6 rfl (lv_at hl 2 rfl) ?_
        refine lv_bipush (v := (nI 16)) hx hb dX2_noteChanges_7 (by decide) ?_
        refine c_ge G (tgt := 70) (by omega) (by omega) dX2_noteChanges_9 (by decide) (fun c9 => ?_) (fun c9 => ?_)
        · -- taken at 9
          exact absurd c9 (by omega)
        · -- not taken at 9
          refine lv_aload_n hx hb dX2_noteChanges_12 rfl (lv_at hl 0 rfl) ?_
          refine f_get G K w.1 inX2 6 (ci := 2) rfl rfl 3 rfl fl_X2_18 (v := .ref (aH 3)) rfl dX2_noteChanges_13 ?_
          refine lv_iload_n hx hb dX2_noteChanges_16 rfl (lv_at hl 1 rfl) ?_
          refine a_ldN G K w.1 9 0 (a := (aH 3)) rfl rfl (by omega) (by decide) dX2_noteChanges_17 ?_
          have hb1 := hsh r
          refine lv_iload_n hx hb dX2_noteChanges_18 rfl (lv_at hl 2 rfl) ?_
          refine callPS (rest := []) G K F_X2_isIn (c_X2_isIn (sh r) t (by omega) (by omega)) (va_P_nil D H) ml_X2_67 (by decide) (by decide) rfl hl.1 (Nat.le_of_ble_eq_true rfl) dX2_noteChanges_19 ?_
          refine b_ne G (tgt := 34) dX2_noteChanges_22 (by decide) (fun c22 => ?_) (fun c22 => ?_)
          · -- taken at 22
            refine lv_aload_n hx hb dX2_noteChanges_34 rfl (lv_at hl 0 rfl) ?_
            refine f_get G K w.1 inX2 6 (ci := 2) rfl rfl 4 rfl fl_X2_21 (v := .ref (aH 4)) rfl dX2_noteChanges_35 ?_
            refine lv_aload_n hx hb dX2_noteChanges_38 rfl (lv_at hl 0 rfl) ?_
            refine f_get G K w.1 inX2 6 (ci := 2) rfl rfl 9 rfl fl_X2_36 (v := .int (nI (ch + cntP (fun t => (sh r).testBit t = true ∨ othO ki va (nonG ki (lt ((r - 1) * 16 + t))) (nonG ki (lt (r * 16 + t)))) t))) rfl dX2_noteChanges_39 ?_
            refine lv_iload_n hx hb dX2_noteChanges_42 rfl (lv_at hl 1 rfl) ?_
            refine a_stN G K w 10 0 (a := (aH 4)) rfl rfl (by omega) (by decide) dX2_noteChanges_43 (w2 := ((wW cI aW n cl th ki va re fi) ++ (wH cI aH (aW 0) lt tr sh (va_up (ncR (fun t => (sh r).testBit t = true ∨ othO ki va (nonG ki (lt ((r - 1) * 16 + t))) (nonG ki (lt (r * 16 + t)))) (fun _ => r) cr ch t) (ch + cntP (fun t => (sh r).testBit t = true ∨ othO ki va (nonG ki (lt ((r - 1) * 16 + t))) (nonG ki (lt (r * 16 + t)))) t) r) (ncR (fun t => (sh r).testBit t = true ∨ othO ki va (nonG ki (lt ((r - 1) * 16 + t))) (nonG ki (lt (r * 16 + t)))) (fun t => t) ct ch t) cu ve ta (ch + cntP (fun t => (sh r).testBit t = true ∨ othO ki va (nonG ki (lt ((r - 1) * 16 + t))) (nonG ki (lt (r * 16 + t)))) t)))) rfl (fun Hp2 lo3 w => ?_)
            refine lv_aload_n hx hb dX2_noteChanges_44 rfl (lv_at hl 0 rfl) ?_
            refine f_get G K w.1 inX2 6 (ci := 2) rfl rfl 5 rfl fl_X2_24 (v := .ref (aH 5)) rfl dX2_noteChanges_45 ?_
            refine lv_aload_n hx hb dX2_noteChanges_48 rfl (lv_at hl 0 rfl) ?_
            refine f_get G K w.1 inX2 6 (ci := 2) rfl rfl 9 rfl fl_X2_36 (v := .int (nI (ch + cntP (fun t => (sh r).testBit t = true ∨ othO ki va (nonG ki (lt ((r - 1) * 16 + t))) (nonG ki (lt (r * 16 + t)))) t))) rfl dX2_noteChanges_49 ?_
            refine lv_iload_n hx hb dX2_noteChanges_52 rfl (lv_at hl 2 rfl) ?_
            refine a_stN G K w 11 0 (a := (aH 5)) rfl rfl (by omega) (by decide) dX2_noteChanges_53 (w2 := ((wW cI aW n cl th ki va re fi) ++ (wH cI aH (aW 0) lt tr sh (va_up (ncR (fun t => (sh r).testBit t = true ∨ othO ki va (nonG ki (lt ((r - 1) * 16 + t))) (nonG ki (lt (r * 16 + t)))) (fun _ => r) cr ch t) (ch + cntP (fun t => (sh r).testBit t = true ∨ othO ki va (nonG ki (lt ((r - 1) * 16 + t))) (nonG ki (lt (r * 16 + t)))) t) r) (va_up (ncR (fun t => (sh r).testBit t = true ∨ othO ki va (nonG ki (lt ((r - 1) * 16 + t))) (nonG ki (lt (r * 16 + t)))) (fun t => t) ct ch t) (ch + cntP (fun t => (sh r).testBit t = true ∨ othO ki va (nonG ki (lt ((r - 1) * 16 + t))) (nonG ki (lt (r * 16 + t)))) t) t) cu ve ta (ch + cntP (fun t => (sh r).testBit t = true ∨ othO ki va (nonG ki (lt ((r - 1) * 16 + t))) (nonG ki (lt (r * 16 + t)))) t)))) rfl (fun Hp4 lo5 w => ?_)
            refine lv_aload_n hx hb dX2_noteChanges_54 rfl (lv_at hl 0 rfl) ?_
            refine lv_dup hx hb dX2_noteChanges_55 rfl ?_
            refine f_get G K w.1 inX2 6 (ci := 2) rfl rfl 9 rfl fl_X2_36 (v := .int (nI (ch + cntP (fun t => (sh r).testBit t = true ∨ othO ki va (nonG ki (lt ((r - 1) * 16 + t))) (nonG ki (lt (r * 16 + t)))) t))) rfl dX2_noteChanges_56 ?_
            refine lv_iconst (v := (nI 1)) hx hb dX2_noteChanges_59 (by decide) ?_
            refine t_add G dX2_noteChanges_60 ?_
            refine f_put G K w inX2 tyX2 tyX2_ok nmX2 6 (ci := 2) rfl rfl 9 rfl fl_X2_36 rfl rfl rfl rfl dX2_noteChanges_61 (w2 := ((wW cI aW n cl th ki va re fi) ++ (wH cI aH (aW 0) lt tr sh (va_up (ncR (fun t => (sh r).testBit t = true ∨ othO ki va (nonG ki (lt ((r - 1) * 16 + t))) (nonG ki (lt (r * 16 + t)))) (fun _ => r) cr ch t) (ch + cntP (fun t => (sh r).testBit t = true ∨ othO ki va (nonG ki (lt ((r - 1) * 16 + t))) (nonG ki (lt (r * 16 + t)))) t) r) (va_up (ncR (fun t => (sh r).testBit t = true ∨ othO ki va (nonG ki (lt ((r - 1) * 16 + t))) (nonG ki (lt (r * 16 + t)))) (fun t => t) ct ch t) (ch + cntP (fun t => (sh r).testBit t = true ∨ othO ki va (nonG ki (lt ((r - 1) * 16 + t))) (nonG ki (lt (r * 16 + t)))) t) t) cu ve ta (ch + cntP (fun t => (sh r).testBit t = true ∨ othO ki va (nonG ki (lt ((r - 1) * 16 + t))) (nonG ki (lt (r * 16 + t)))) t + 1)))) rfl (fun Hp6 lo7 w => ?_)
            have w : WW D A s.heap ((wW cI aW n cl th ki va re fi) ++ (wH cI aH (aW 0) lt tr sh (ncR (fun t => (sh r).testBit t = true ∨ othO ki va (nonG ki (lt ((r - 1) * 16 + t))) (nonG ki (lt (r * 16 + t)))) (fun _ => r) cr ch (t + 1)) (ncR (fun t => (sh r).testBit t = true ∨ othO ki va (nonG ki (lt ((r - 1) * 16 + t))) (nonG ki (lt (r * 16 + t)))) (fun t => t) ct ch (t + 1)) cu ve ta (ch + cntP (fun t => (sh r).testBit t = true ∨ othO ki va (nonG ki (lt ((r - 1) * 16 + t))) (nonG ki (lt (r * 16 + t)))) (t + 1)))) Hp6 lo7 := by
              have e1 : ncR (fun t => (sh r).testBit t = true ∨ othO ki va (nonG ki (lt ((r - 1) * 16 + t))) (nonG ki (lt (r * 16 + t)))) (fun _ => r) cr ch (t + 1) = cif ((fun t => (sh r).testBit t = true ∨ othO ki va (nonG ki (lt ((r - 1) * 16 + t))) (nonG ki (lt (r * 16 + t)))) t) (va_up (ncR (fun t => (sh r).testBit t = true ∨ othO ki va (nonG ki (lt ((r - 1) * 16 + t))) (nonG ki (lt (r * 16 + t)))) (fun _ => r) cr ch t) (ch + cntP (fun t => (sh r).testBit t = true ∨ othO ki va (nonG ki (lt ((r - 1) * 16 + t))) (nonG ki (lt (r * 16 + t)))) t) r) (ncR (fun t => (sh r).testBit t = true ∨ othO ki va (nonG ki (lt ((r - 1) * 16 + t))) (nonG ki (lt (r * 16 + t)))) (fun _ => r) cr ch t) := rfl
              have e2 : ncR (fun t => (sh r).testBit t = true ∨ othO ki va (nonG ki (lt ((r - 1) * 16 + t))) (nonG ki (lt (r * 16 + t)))) (fun t => t) ct ch (t + 1) = cif ((fun t => (sh r).testBit t = true ∨ othO ki va (nonG ki (lt ((r - 1) * 16 + t))) (nonG ki (lt (r * 16 + t)))) t) (va_up (ncR (fun t => (sh r).testBit t = true ∨ othO ki va (nonG ki (lt ((r - 1) * 16 + t))) (nonG ki (lt (r * 16 + t)))) (fun t => t) ct ch t) (ch + cntP (fun t => (sh r).testBit t = true ∨ othO ki va (nonG ki (lt ((r - 1) * 16 + t))) (nonG ki (lt (r * 16 + t)))) t) t) (ncR (fun t => (sh r).testBit t = true ∨ othO ki va (nonG ki (lt ((r - 1) * 16 + t))) (nonG ki (lt (r * 16 + t)))) (fun t => t) ct ch t) := rfl
              rw [e1, e2]; first | (rw [← cntP_f' (q := (fun t => (sh r).testBit t = true ∨ othO ki va (nonG ki (lt ((r - 1) * 16 + t))) (nonG ki (lt (r * 16 + t))))) (fun h => h.elim c22 c31), cif_f (q := (fun t => (sh r).testBit t = true ∨ othO ki va (nonG ki (lt ((r - 1) * 16 + t))) (nonG ki (lt (r * 16 + t)))) t) (fun h => h.elim c22 c31), cif_f (q := (fun t => (sh r).testBit t = true ∨ othO ki va (nonG ki (lt ((r - 1) * 16 + t))) (nonG ki (lt (r * 16 + t)))) t) (fun h => h.elim c22 c31)]; exact w) | (rw [← cntP_t (q := (fun t => (sh r).testBit t = true ∨ othO ki va (nonG ki (lt ((r - 1) * 16 + t))) (nonG ki (lt (r * 16 + t))))) (Or.inl c22), cif_t (q := (fun t => (sh r).testBit t = true ∨ othO ki va (nonG ki (lt ((r - 1) * 16 + t))) (nonG ki (lt (r * 16 + t)))) t) (Or.inl c22), cif_t (q := (fun t => (sh r).testBit t = true ∨ othO ki va (nonG ki (lt ((r - 1) * 16 + t))) (nonG ki (lt (r * 16 + t)))) t) (Or.inl c22)]; exact w) | (rw [← cntP_t (q := (fun t => (sh r).testBit t = true ∨ othO ki va (nonG ki (lt ((r - 1) * 16 + t))) (nonG ki (lt (r * 16 + t))))) (Or.inr c31), cif_t (q := (fun t => (sh r).testBit t = true ∨ othO ki va (nonG ki (lt ((r - 1) * 16 + t))) (nonG ki (lt (r * 16 + t)))) t) (Or.inr c31), cif_t (q := (fun t => (sh r).testBit t = true ∨ othO ki va (nonG ki (lt ((r - 1) * 16 + t))) (nonG ki (lt (r * 16 + t)))) t) (Or.inr c31)]; exact w)
            refine lv_iinc (v := (nI (t + 1))) (lv' := [(2, .int (nI (t + 1))), (0, .ref (aH 0)), (1, .int (nI r))]) hx hb dX2_noteChanges_64 hl (k := 2) rfl (nI_inc _ 1) (by decide) rfl (fun ls hl => ?_)
            refine lv_goto (tgt := 2) hx hb dX2_noteChanges_67 (by decide) ?_
            -- slot 2: have n:t + 1, want n:(t + 1)
            exact ih (t + 1) (by omega) (by omega) Hp6 lo7 w ls (lv_sub hl [1, 2, 0] rfl)
          · -- not taken at 22
            refine lv_aload_n hx hb dX2_noteChanges_25 rfl (lv_at hl 0 rfl) ?_
            refine lv_iload_n hx hb dX2_noteChanges_26 rfl (lv_at hl 1 rfl) ?_
            refine lv_iload_n hx hb dX2_noteChanges_27 rfl (lv_at hl 2 rfl) ?_
            refine callPV (As := [.int (nI r), .int (nI t)]) (rest := []) (q0 := 6) (ci := 2) G K F_X2_isOther (c_X2_isOther aW n cl th ki va re fi aH lt tr sh (ncR (fun t => (sh r).testBit t = true ∨ othO ki va (nonG ki (lt ((r - 1) * 16 + t))) (nonG ki (lt (r * 16 + t)))) (fun _ => r) cr ch t) (ncR (fun t => (sh r).testBit t = true ∨ othO ki va (nonG ki (lt ((r - 1) * 16 + t))) (nonG ki (lt (r * 16 + t)))) (fun t => t) ct ch t) cu ve ta (ch + cntP (fun t => (sh r).testBit t = true ∨ othO ki va (nonG ki (lt ((r - 1) * 16 + t))) (nonG ki (lt (r * 16 + t)))) t) r t J S (H8 c9) (by omega) (by omega) (by omega) (hT1 t c9) (hT2 t c9)) w.1 ml_X2_120 rfl rfl rfl (by decide) (by decide) rfl hl.1 (Nat.le_of_ble_eq_true rfl) dX2_noteChanges_28 ?_
            refine b_eq G (tgt := 64) dX2_noteChanges_31 (by decide) (fun c31 => ?_) (fun c31 => ?_)
            · -- taken at 31
              have w : WW D A s.heap ((wW cI aW n cl th ki va re fi) ++ (wH cI aH (aW 0) lt tr sh (ncR (fun t => (sh r).testBit t = true ∨ othO ki va (nonG ki (lt ((r - 1) * 16 + t))) (nonG ki (lt (r * 16 + t)))) (fun _ => r) cr ch (t + 1)) (ncR (fun t => (sh r).testBit t = true ∨ othO ki va (nonG ki (lt ((r - 1) * 16 + t))) (nonG ki (lt (r * 16 + t)))) (fun t => t) ct ch (t + 1)) cu ve ta (ch + cntP (fun t => (sh r).testBit t = true ∨ othO ki va (nonG ki (lt ((r - 1) * 16 + t))) (nonG ki (lt (r * 16 + t)))) (t + 1)))) H locs := by
                have e1 : ncR (fun t => (sh r).testBit t = true ∨ othO ki va (nonG ki (lt ((r - 1) * 16 + t))) (nonG ki (lt (r * 16 + t)))) (fun _ => r) cr ch (t + 1) = cif ((fun t => (sh r).testBit t = true ∨ othO ki va (nonG ki (lt ((r - 1) * 16 + t))) (nonG ki (lt (r * 16 + t)))) t) (va_up (ncR (fun t => (sh r).testBit t = true ∨ othO ki va (nonG ki (lt ((r - 1) * 16 + t))) (nonG ki (lt (r * 16 + t)))) (fun _ => r) cr ch t) (ch + cntP (fun t => (sh r).testBit t = true ∨ othO ki va (nonG ki (lt ((r - 1) * 16 + t))) (nonG ki (lt (r * 16 + t)))) t) r) (ncR (fun t => (sh r).testBit t = true ∨ othO ki va (nonG ki (lt ((r - 1) * 16 + t))) (nonG ki (lt (r * 16 + t)))) (fun _ => r) cr ch t) := rfl
                have e2 : ncR (fun t => (sh r).testBit t = true ∨ othO ki va (nonG ki (lt ((r - 1) * 16 + t))) (nonG ki (lt (r * 16 + t)))) (fun t => t) ct ch (t + 1) = cif ((fun t => (sh r).testBit t = true ∨ othO ki va (nonG ki (lt ((r - 1) * 16 + t))) (nonG ki (lt (r * 16 + t)))) t) (va_up (ncR (fun t => (sh r).testBit t = true ∨ othO ki va (nonG ki (lt ((r - 1) * 16 + t))) (nonG ki (lt (r * 16 + t)))) (fun t => t) ct ch t) (ch + cntP (fun t => (sh r).testBit t = true ∨ othO ki va (nonG ki (lt ((r - 1) * 16 + t))) (nonG ki (lt (r * 16 + t)))) t) t) (ncR (fun t => (sh r).testBit t = true ∨ othO ki va (nonG ki (lt ((r - 1) * 16 + t))) (nonG ki (lt (r * 16 + t)))) (fun t => t) ct ch t) := rfl
                rw [e1, e2]; first | (rw [← cntP_f' (q := (fun t => (sh r).testBit t = true ∨ othO ki va (nonG ki (lt ((r - 1) * 16 + t))) (nonG ki (lt (r * 16 + t))))) (fun h => h.elim c22 c31), cif_f (q := (fun t => (sh r).testBit t = true ∨ othO ki va (nonG ki (lt ((r - 1) * 16 + t))) (nonG ki (lt (r * 16 + t)))) t) (fun h => h.elim c22 c31), cif_f (q := (fun t => (sh r).testBit t = true ∨ othO ki va (nonG ki (lt ((r - 1) * 16 + t))) (nonG ki (lt (r * 16 + t)))) t) (fun h => h.elim c22 c31)]; exact w) | (rw [← cntP_t (q := (fun t => (sh r).testBit t = true ∨ othO ki va (nonG ki (lt ((r - 1) * 16 + t))) (nonG ki (lt (r * 16 + t))))) (Or.inl c22), cif_t (q := (fun t => (sh r).testBit t = true ∨ othO ki va (nonG ki (lt ((r - 1) * 16 + t))) (nonG ki (lt (r * 16 + t)))) t) (Or.inl c22), cif_t (q := (fun t => (sh r).testBit t = true ∨ othO ki va (nonG ki (lt ((r - 1) * 16 + t))) (nonG ki (lt (r * 16 + t)))) t) (Or.inl c22)]; exact w) | (rw [← cntP_t (q := (fun t => (sh r).testBit t = true ∨ othO ki va (nonG ki (lt ((r - 1) * 16 + t))) (nonG ki (lt (r * 16 + t))))) (Or.inr c31), cif_t (q := (fun t => (sh r).testBit t = true ∨ othO ki va (nonG ki (lt ((r - 1) * 16 + t))) (nonG ki (lt (r * 16 + t)))) t) (Or.inr c31), cif_t (q := (fun t => (sh r).testBit t = true ∨ othO ki va (nonG ki (lt ((r - 1) * 16 + t))) (nonG ki (lt (r * 16 + t)))) t) (Or.inr c31)]; exact w)
              refine lv_iinc (v := (nI (t + 1))) (lv' := [(2, .int (nI (t + 1))), (0, .ref (aH 0)), (1, .int (nI r))]) hx hb dX2_noteChanges_64 hl (k := 2) rfl (nI_inc _ 1) (by decide) rfl (fun ls hl => ?_)
              refine lv_goto (tgt := 2) hx hb dX2_noteChanges_67 (by decide) ?_
              -- slot 2: have n:t + 1, want n:(t + 1)
              exact ih (t + 1) (by omega) (by omega) H locs w ls (lv_sub hl [1, 2, 0] rfl)
            · -- not taken at 31
              refine lv_aload_n hx hb dX2_noteChanges_34 rfl (lv_at hl 0 rfl) ?_
              refine f_get G K w.1 inX2 6 (ci := 2) rfl rfl 4 rfl fl_X2_21 (v := .ref (aH 4)) rfl dX2_noteChanges_35 ?_
              refine lv_aload_n hx hb dX2_noteChanges_38 rfl (lv_at hl 0 rfl) ?_
              refine f_get G K w.1 inX2 6 (ci := 2) rfl rfl 9 rfl fl_X2_36 (v := .int (nI (ch + cntP (fun t => (sh r).testBit t = true ∨ othO ki va (nonG ki (lt ((r - 1) * 16 + t))) (nonG ki (lt (r * 16 + t)))) t))) rfl dX2_noteChanges_39 ?_
              refine lv_iload_n hx hb dX2_noteChanges_42 rfl (lv_at hl 1 rfl) ?_
              refine a_stN G K w 10 0 (a := (aH 4)) rfl rfl (by omega) (by decide) dX2_noteChanges_43 (w2 := ((wW cI aW n cl th ki va re fi) ++ (wH cI aH (aW 0) lt tr sh (va_up (ncR (fun t => (sh r).testBit t = true ∨ othO ki va (nonG ki (lt ((r - 1) * 16 + t))) (nonG ki (lt (r * 16 + t)))) (fun _ => r) cr ch t) (ch + cntP (fun t => (sh r).testBit t = true ∨ othO ki va (nonG ki (lt ((r - 1) * 16 + t))) (nonG ki (lt (r * 16 + t)))) t) r) (ncR (fun t => (sh r).testBit t = true ∨ othO ki va (nonG ki (lt ((r - 1) * 16 + t))) (nonG ki (lt (r * 16 + t)))) (fun t => t) ct ch t) cu ve ta (ch + cntP (fun t => (sh r).testBit t = true ∨ othO ki va (nonG ki (lt ((r - 1) * 16 + t))) (nonG ki (lt (r * 16 + t)))) t)))) rfl (fun Hp8 lo9 w => ?_)
              refine lv_aload_n hx hb dX2_noteChanges_44 rfl (lv_at hl 0 rfl) ?_
              refine f_get G K w.1 inX2 6 (ci := 2) rfl rfl 5 rfl fl_X2_24 (v := .ref (aH 5)) rfl dX2_noteChanges_45 ?_
              refine lv_aload_n hx hb dX2_noteChanges_48 rfl (lv_at hl 0 rfl) ?_
              refine f_get G K w.1 inX2 6 (ci := 2) rfl rfl 9 rfl fl_X2_36 (v := .int (nI (ch + cntP (fun t => (sh r).testBit t = true ∨ othO ki va (nonG ki (lt ((r - 1) * 16 + t))) (nonG ki (lt (r * 16 + t)))) t))) rfl dX2_noteChanges_49 ?_
              refine lv_iload_n hx hb dX2_noteChanges_52 rfl (lv_at hl 2 rfl) ?_
              refine a_stN G K w 11 0 (a := (aH 5)) rfl rfl (by omega) (by decide) dX2_noteChanges_53 (w2 := ((wW cI aW n cl th ki va re fi) ++ (wH cI aH (aW 0) lt tr sh (va_up (ncR (fun t => (sh r).testBit t = true ∨ othO ki va (nonG ki (lt ((r - 1) * 16 + t))) (nonG ki (lt (r * 16 + t)))) (fun _ => r) cr ch t) (ch + cntP (fun t => (sh r).testBit t = true ∨ othO ki va (nonG ki (lt ((r - 1) * 16 + t))) (nonG ki (lt (r * 16 + t)))) t) r) (va_up (ncR (fun t => (sh r).testBit t = true ∨ othO ki va (nonG ki (lt ((r - 1) * 16 + t))) (nonG ki (lt (r * 16 + t)))) (fun t => t) ct ch t) (ch + cntP (fun t => (sh r).testBit t = true ∨ othO ki va (nonG ki (lt ((r - 1) * 16 + t))) (nonG ki (lt (r * 16 + t)))) t) t) cu ve ta (ch + cntP (fun t => (sh r).testBit t = true ∨ othO ki va (nonG ki (lt ((r - 1) * 16 + t))) (nonG ki (lt (r * 16 + t)))) t)))) rfl (fun Hp10 lo11 w => ?_)
              refine lv_aload_n hx hb dX2_noteChanges_54 rfl (lv_at hl 0 rfl) ?_
              refine lv_dup hx hb dX2_noteChanges_55 rfl ?_
              refine f_get G K w.1 inX2 6 (ci := 2) rfl rfl 9 rfl fl_X2_36 (v := .int (nI (ch + cntP (fun t => (sh r).testBit t = true ∨ othO ki va (nonG ki (lt ((r - 1) * 16 + t))) (nonG ki (lt (r * 16 + t)))) t))) rfl dX2_noteChanges_56 ?_
              refine lv_iconst (v := (nI 1)) hx hb dX2_noteChanges_59 (by decide) ?_
              refine t_add G dX2_noteChanges_60 ?_
              refine f_put G K w inX2 tyX2 tyX2_ok nmX2 6 (ci := 2) rfl rfl 9 rfl fl_X2_36 rfl rfl rfl rfl dX2_noteChanges_61 (w2 := ((wW cI aW n cl th ki va re fi) ++ (wH cI aH (aW 0) lt tr sh (va_up (ncR (fun t => (sh r).testBit t = true ∨ othO ki va (nonG ki (lt ((r - 1) * 16 + t))) (nonG ki (lt (r * 16 + t)))) (fun _ => r) cr ch t) (ch + cntP (fun t => (sh r).testBit t = true ∨ othO ki va (nonG ki (lt ((r - 1) * 16 + t))) (nonG ki (lt (r * 16 + t)))) t) r) (va_up (ncR (fun t => (sh r).testBit t = true ∨ othO ki va (nonG ki (lt ((r - 1) * 16 + t))) (nonG ki (lt (r * 16 + t)))) (fun t => t) ct ch t) (ch + cntP (fun t => (sh r).testBit t = true ∨ othO ki va (nonG ki (lt ((r - 1) * 16 + t))) (nonG ki (lt (r * 16 + t)))) t) t) cu ve ta (ch + cntP (fun t => (sh r).testBit t = true ∨ othO ki va (nonG ki (lt ((r - 1) * 16 + t))) (nonG ki (lt (r * 16 + t)))) t + 1)))) rfl (fun Hp12 lo13 w => ?_)
              have w : WW D A s.heap ((wW cI aW n cl th ki va re fi) ++ (wH cI aH (aW 0) lt tr sh (ncR (fun t => (sh r).testBit t = true ∨ othO ki va (nonG ki (lt ((r - 1) * 16 + t))) (nonG ki (lt (r * 16 + t)))) (fun _ => r) cr ch (t + 1)) (ncR (fun t => (sh r).testBit t = true ∨ othO ki va (nonG ki (lt ((r - 1) * 16 + t))) (nonG ki (lt (r * 16 + t)))) (fun t => t) ct ch (t + 1)) cu ve ta (ch + cntP (fun t => (sh r).testBit t = true ∨ othO ki va (nonG ki (lt ((r - 1) * 16 + t))) (nonG ki (lt (r * 16 + t)))) (t + 1)))) Hp12 lo13 := by
                have e1 : ncR (fun t => (sh r).testBit t = true ∨ othO ki va (nonG ki (lt ((r - 1) * 16 + t))) (nonG ki (lt (r * 16 + t)))) (fun _ => r) cr ch (t + 1) = cif ((fun t => (sh r).testBit t = true ∨ othO ki va (nonG ki (lt ((r - 1) * 16 + t))) (nonG ki (lt (r * 16 + t)))) t) (va_up (ncR (fun t => (sh r).testBit t = true ∨ othO ki va (nonG ki (lt ((r - 1) * 16 + t))) (nonG ki (lt (r * 16 + t)))) (fun _ => r) cr ch t) (ch + cntP (fun t => (sh r).testBit t = true ∨ othO ki va (nonG ki (lt ((r - 1) * 16 + t))) (nonG ki (lt (r * 16 + t)))) t) r) (ncR (fun t => (sh r).testBit t = true ∨ othO ki va (nonG ki (lt ((r - 1) * 16 + t))) (nonG ki (lt (r * 16 + t)))) (fun _ => r) cr ch t) := rfl
                have e2 : ncR (fun t => (sh r).testBit t = true ∨ othO ki va (nonG ki (lt ((r - 1) * 16 + t))) (nonG ki (lt (r * 16 + t)))) (fun t => t) ct ch (t + 1) = cif ((fun t => (sh r).testBit t = true ∨ othO ki va (nonG ki (lt ((r - 1) * 16 + t))) (nonG ki (lt (r * 16 + t)))) t) (va_up (ncR (fun t => (sh r).testBit t = true ∨ othO ki va (nonG ki (lt ((r - 1) * 16 + t))) (nonG ki (lt (r * 16 + t)))) (fun t => t) ct ch t) (ch + cntP (fun t => (sh r).testBit t = true ∨ othO ki va (nonG ki (lt ((r - 1) * 16 + t))) (nonG ki (lt (r * 16 + t)))) t) t) (ncR (fun t => (sh r).testBit t = true ∨ othO ki va (nonG ki (lt ((r - 1) * 16 + t))) (nonG ki (lt (r * 16 + t)))) (fun t => t) ct ch t) := rfl
                rw [e1, e2]; first | (rw [← cntP_f' (q := (fun t => (sh r).testBit t = true ∨ othO ki va (nonG ki (lt ((r - 1) * 16 + t))) (nonG ki (lt (r * 16 + t))))) (fun h => h.elim c22 c31), cif_f (q := (fun t => (sh r).testBit t = true ∨ othO ki va (nonG ki (lt ((r - 1) * 16 + t))) (nonG ki (lt (r * 16 + t)))) t) (fun h => h.elim c22 c31), cif_f (q := (fun t => (sh r).testBit t = true ∨ othO ki va (nonG ki (lt ((r - 1) * 16 + t))) (nonG ki (lt (r * 16 + t)))) t) (fun h => h.elim c22 c31)]; exact w) | (rw [← cntP_t (q := (fun t => (sh r).testBit t = true ∨ othO ki va (nonG ki (lt ((r - 1) * 16 + t))) (nonG ki (lt (r * 16 + t))))) (Or.inl c22), cif_t (q := (fun t => (sh r).testBit t = true ∨ othO ki va (nonG ki (lt ((r - 1) * 16 + t))) (nonG ki (lt (r * 16 + t)))) t) (Or.inl c22), cif_t (q := (fun t => (sh r).testBit t = true ∨ othO ki va (nonG ki (lt ((r - 1) * 16 + t))) (nonG ki (lt (r * 16 + t)))) t) (Or.inl c22)]; exact w) | (rw [← cntP_t (q := (fun t => (sh r).testBit t = true ∨ othO ki va (nonG ki (lt ((r - 1) * 16 + t))) (nonG ki (lt (r * 16 + t))))) (Or.inr c31), cif_t (q := (fun t => (sh r).testBit t = true ∨ othO ki va (nonG ki (lt ((r - 1) * 16 + t))) (nonG ki (lt (r * 16 + t)))) t) (Or.inr c31), cif_t (q := (fun t => (sh r).testBit t = true ∨ othO ki va (nonG ki (lt ((r - 1) * 16 + t))) (nonG ki (lt (r * 16 + t)))) t) (Or.inr c31)]; exact w)
              refine lv_iinc (v := (nI (t + 1))) (lv' := [(2, .int (nI (t + 1))), (0, .ref (aH 0)), (1, .int (nI r))]) hx hb dX2_noteChanges_64 hl (k := 2) rfl (nI_inc _ 1) (by decide) rfl (fun ls hl => ?_)
              refine lv_goto (tgt := 2) hx hb dX2_noteChanges_67 (by decide) ?_
              -- slot 2: have n:t + 1, want n:(t + 1)
              exact ih (t + 1) (by omega) (by omega) Hp12 lo13 w ls (lv_sub hl [1, 2, 0] rfl)
  exact L2 (16 - 0) (0) (Nat.le_refl _) (by omega) s.heap [] w ls (lv_sub hl [1, 2, 0] rfl)
end
