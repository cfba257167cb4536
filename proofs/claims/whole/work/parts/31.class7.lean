section
variable {l : Launch} {D : va_G} {cI cZ cS : ClassId}

set_option maxHeartbeats 4000000 in
set_option maxRecDepth 100000 in
theorem c_X5_sheet_bad (aS : Nat → Nat) (aE : Nat → Nat) (la : Int32) (aW : Nat → Nat) (n : Nat) (cl : Nat) (th : Nat → Nat) (ki : Nat → Nat) (va : Nat → Nat) (re : Nat → Nat) (fi : Nat → Nat) (aB : Nat → Nat) (bt : Nat → Nat) (bs : Nat) (aC : Nat → Nat) (to : Nat → Prop) (co : Nat → Nat) (ke : Nat → Int32) (nu : Nat → Int32) (fw : Nat → Nat) (aH : Nat → Nat) (lt : Nat → Option Nat) (tr : Nat → Nat) (sh : Nat → Nat) (cr : Nat → Nat) (ct : Nat → Nat) (cu : Nat → Nat) (ve : Nat → Nat) (ta : Nat → Nat) (ch : Nat) (aT : Nat → Nat) (lt2 : Nat → Option Nat) (tr2 : Nat → Nat) (sh2 : Nat → Nat) (cr2 : Nat → Nat) (ct2 : Nat → Nat) (cu2 : Nat → Nat) (ve2 : Nat → Nat) (ta2 : Nat → Nat) (ch2 : Nat) (lo : Nat → Prop) (fo : Nat → Nat) (si : Nat → Nat) (it : Nat → Nat → Int32) (x : Int32) (f : Int32) (k : Int32) (J : IW n cl th ki va re fi) (S : SW n cl re fi) (B9 : (∀ j, bt j ≤ 255) ∧ bs ≤ 216) (C9 : (∀ j, co j ≤ 400) ∧ (∀ j, fw j ≤ 15)) (H9 : IHd lt tr sh cr ct cu ve ta ch) (U9 : IHd lt2 tr2 sh2 cr2 ct2 cu2 ve2 ta2 ch2) (E9 : (∀ j, fo j ≤ 2) ∧ (∀ j, si j ≤ 60)) (hbad : ¬ (okR 3 x ∧ okR 2 f ∧ k ≤ nI 60)) : CM l D (TY cI cZ cS) yX5_sheet cX5_sheet 4 (some .int) 2 [.ref (aS 0), .int x, .int f, .int k] ((wS cS aS (aW 0) (aB 0) (aC 0) (aH 0) (aT 0) aE la) ++ ((wW cI aW n cl th ki va re fi) ++ ((wB cI aB bt bs) ++ ((wC cI cZ aC (aW 0) (aB 0) to co ke nu fw) ++ ((wH cI aH (aW 0) lt tr sh cr ct cu ve ta ch) ++ ((wH cI aT (aW 0) lt2 tr2 sh2 cr2 ct2 cu2 ve2 ta2 ch2) ++ (wE cI aE lo fo si it))))))) (some (.int (-2))) ((wS cS aS (aW 0) (aB 0) (aC 0) (aH 0) (aT 0) aE la) ++ ((wW cI aW n cl th ki va re fi) ++ ((wB cI aB bt bs) ++ ((wC cI cZ aC (aW 0) (aB 0) to co ke nu fw) ++ ((wH cI aH (aW 0) lt tr sh cr ct cu ve ta ch) ++ ((wH cI aT (aW 0) lt2 tr2 sh2 cr2 ct2 cu2 ve2 ta2 ch2) ++ (wE cI aE lo fo si it))))))) := by
  refine CM.ofI (by decide +kernel) (Nat.le_of_ble_eq_true rfl) (nar_int _) ?_
  intro p e s m args below meth c Q A G K hA w hret ls hl
  obtain ⟨hx, hb, hml, hown, hts⟩ := id G
  obtain ⟨hn, hcl, hth, hki, hva, hre, hfi⟩ := id J
  obtain ⟨hbt, hbs⟩ := id B9
  obtain ⟨hco, hfw⟩ := id C9
  obtain ⟨hlt, htr, hsh, hcr, hct, hcu, hve, hta, hch⟩ := id H9
  obtain ⟨hlt2, htr2, hsh2, hcr2, hct2, hcu2, hve2, hta2, hch2⟩ := id U9
  obtain ⟨hfo, hsi⟩ := id E9
  have hl : lv_has ls 4 [(0, .ref (aS 0)), (1, .int x), (2, .int f), (3, .int k)] := hl
  refine lv_iload_n hx hb dX5_sheet_0 rfl (lv_at hl 1 rfl) ?_
  refine callPS (rest := []) G K F_X5_isSheet (c_X5_isSheet x) (va_P_nil D s.heap) ml_X5_121 (by decide) (by decide) rfl hl.1 (Nat.le_of_ble_eq_true rfl) dX5_sheet_1 ?_
  refine b_eq G (tgt := 20) dX5_sheet_4 (by decide) (fun c4 => ?_) (fun c4 => ?_)
  · -- taken at 4
    refine lv_bipush (v := (-2)) hx hb dX5_sheet_20 (by decide) ?_
    exact hret _ _ _ _ _ _ rfl rfl w dX5_sheet_22
  · -- not taken at 4
    refine lv_iload_n hx hb dX5_sheet_7 rfl (lv_at hl 2 rfl) ?_
    refine callPS (rest := []) G K F_X5_isForm (c_X5_isForm f) (va_P_nil D s.heap) ml_X5_235 (by decide) (by decide) rfl hl.1 (Nat.le_of_ble_eq_true rfl) dX5_sheet_8 ?_
    refine b_eq G (tgt := 20) dX5_sheet_11 (by decide) (fun c11 => ?_) (fun c11 => ?_)
    · -- taken at 11
      refine lv_bipush (v := (-2)) hx hb dX5_sheet_20 (by decide) ?_
      exact hret _ _ _ _ _ _ rfl rfl w dX5_sheet_22
    · -- not taken at 11
      refine lv_iload_n hx hb dX5_sheet_14 rfl (lv_at hl 3 rfl) ?_
      refine lv_bipush (v := (nI 60)) hx hb dX5_sheet_15 (by decide) ?_
      refine lv_icmp_le (tgt := 23) hx hb dX5_sheet_17 (by decide) (fun c17 => ?_) (fun c17 => ?_)
      · -- taken at 17
        exact absurd ⟨c4, c11, c17⟩ hbad
      · -- not taken at 17
        refine lv_bipush (v := (-2)) hx hb dX5_sheet_20 (by decide) ?_
        exact hret _ _ _ _ _ _ rfl rfl w dX5_sheet_22
set_option maxHeartbeats 4000000 in
set_option maxRecDepth 100000 in
theorem c_X5_sheet_neg (aS : Nat → Nat) (aE : Nat → Nat) (la : Int32) (aW : Nat → Nat) (n : Nat) (cl : Nat) (th : Nat → Nat) (ki : Nat → Nat) (va : Nat → Nat) (re : Nat → Nat) (fi : Nat → Nat) (aB : Nat → Nat) (bt : Nat → Nat) (bs : Nat) (aC : Nat → Nat) (to : Nat → Prop) (co : Nat → Nat) (ke : Nat → Int32) (nu : Nat → Int32) (fw : Nat → Nat) (aH : Nat → Nat) (lt : Nat → Option Nat) (tr : Nat → Nat) (sh : Nat → Nat) (cr : Nat → Nat) (ct : Nat → Nat) (cu : Nat → Nat) (ve : Nat → Nat) (ta : Nat → Nat) (ch : Nat) (aT : Nat → Nat) (lt2 : Nat → Option Nat) (tr2 : Nat → Nat) (sh2 : Nat → Nat) (cr2 : Nat → Nat) (ct2 : Nat → Nat) (cu2 : Nat → Nat) (ve2 : Nat → Nat) (ta2 : Nat → Nat) (ch2 : Nat) (lo : Nat → Prop) (fo : Nat → Nat) (si : Nat → Nat) (it : Nat → Nat → Int32) (k : Int32) (i : Nat) (j : Nat) (J : IW n cl th ki va re fi) (S : SW n cl re fi) (B9 : (∀ j, bt j ≤ 255) ∧ bs ≤ 216) (C9 : (∀ j, co j ≤ 400) ∧ (∀ j, fw j ≤ 15)) (H9 : IHd lt tr sh cr ct cu ve ta ch) (U9 : IHd lt2 tr2 sh2 cr2 ct2 cu2 ve2 ta2 ch2) (E9 : (∀ j, fo j ≤ 2) ∧ (∀ j, si j ≤ 60)) (hi9 : i ≤ 3) (hj9 : j ≤ 2) (hk9 : k < 0) : CM l D (TY cI cZ cS) yX5_sheet cX5_sheet 4 (some .int) 2 [.ref (aS 0), .int (nI i), .int (nI j), .int k] ((wS cS aS (aW 0) (aB 0) (aC 0) (aH 0) (aT 0) aE la) ++ ((wW cI aW n cl th ki va re fi) ++ ((wB cI aB bt bs) ++ ((wC cI cZ aC (aW 0) (aB 0) to co ke nu fw) ++ ((wH cI aH (aW 0) lt tr sh cr ct cu ve ta ch) ++ ((wH cI aT (aW 0) lt2 tr2 sh2 cr2 ct2 cu2 ve2 ta2 ch2) ++ (wE cI aE lo fo si it))))))) (some (.int ((-10) - (nI 5)))) ((wS cS aS (aW 0) (aB 0) (aC 0) (aH 0) (aT 0) aE (nI 5)) ++ ((wW cI aW n cl th ki va re fi) ++ ((wB cI aB bt bs) ++ ((wC cI cZ aC (aW 0) (aB 0) to co ke nu fw) ++ ((wH cI aH (aW 0) lt tr sh cr ct cu ve ta ch) ++ ((wH cI aT (aW 0) lt2 tr2 sh2 cr2 ct2 cu2 ve2 ta2 ch2) ++ (wE cI aE lo fo si it))))))) := by
  refine CM.ofI (by decide +kernel) (Nat.le_of_ble_eq_true rfl) (nar_int _) ?_
  intro p e s m args below meth c Q A G K hA w hret ls hl
  obtain ⟨hx, hb, hml, hown, hts⟩ := id G
  obtain ⟨hn, hcl, hth, hki, hva, hre, hfi⟩ := id J
  obtain ⟨hbt, hbs⟩ := id B9
  obtain ⟨hco, hfw⟩ := id C9
  obtain ⟨hlt, htr, hsh, hcr, hct, hcu, hve, hta, hch⟩ := id H9
  obtain ⟨hlt2, htr2, hsh2, hcr2, hct2, hcu2, hve2, hta2, hch2⟩ := id U9
  obtain ⟨hfo, hsi⟩ := id E9
  have hl : lv_has ls 4 [(0, .ref (aS 0)), (1, .int (nI i)), (2, .int (nI j)), (3, .int k)] := hl
  refine lv_iload_n hx hb dX5_sheet_0 rfl (lv_at hl 1 rfl) ?_
  refine callPS (rest := []) G K F_X5_isSheet (c_X5_isSheet (nI i)) (va_P_nil D s.heap) ml_X5_121 (by decide) (by decide) rfl hl.1 (Nat.le_of_ble_eq_true rfl) dX5_sheet_1 ?_
  refine b_eq G (tgt := 20) dX5_sheet_4 (by decide) (fun c4 => ?_) (fun c4 => ?_)
  · -- taken at 4
    exact absurd ⟨i, hi9, rfl⟩ c4
  · -- not taken at 4
    refine lv_iload_n hx hb dX5_sheet_7 rfl (lv_at hl 2 rfl) ?_
    refine callPS (rest := []) G K F_X5_isForm (c_X5_isForm (nI j)) (va_P_nil D s.heap) ml_X5_235 (by decide) (by decide) rfl hl.1 (Nat.le_of_ble_eq_true rfl) dX5_sheet_8 ?_
    refine b_eq G (tgt := 20) dX5_sheet_11 (by decide) (fun c11 => ?_) (fun c11 => ?_)
    · -- taken at 11
      exact absurd ⟨j, hj9, rfl⟩ c11
    · -- not taken at 11
      refine lv_iload_n hx hb dX5_sheet_14 rfl (lv_at hl 3 rfl) ?_
      refine lv_bipush (v := (nI 60)) hx hb dX5_sheet_15 (by decide) ?_
      refine lv_icmp_le (tgt := 23) hx hb dX5_sheet_17 (by decide) (fun c17 => ?_) (fun c17 => ?_)
      · -- taken at 17
        refine lv_iload_n hx hb dX5_sheet_23 rfl (lv_at hl 3 rfl) ?_
        refine lv_if_ge (tgt := 33) hx hb dX5_sheet_24 (by decide) (fun c24 => ?_) (fun c24 => ?_)
        · -- taken at 24
          exact absurd c24 (neg_nge hk9)
        · -- not taken at 24
          refine lv_aload_n hx hb dX5_sheet_27 rfl (lv_at hl 0 rfl) ?_
          refine lv_iconst (v := (nI 5)) hx hb dX5_sheet_28 (by decide) ?_
          refine callMF (As := [.int (nI 5)]) (rest := []) (q0 := 0) (ci := 5) (ws' := ((wS cS aS (aW 0) (aB 0) (aC 0) (aH 0) (aT 0) aE (nI 5)) ++ ((wW cI aW n cl th ki va re fi) ++ ((wB cI aB bt bs) ++ ((wC cI cZ aC (aW 0) (aB 0) to co ke nu fw) ++ ((wH cI aH (aW 0) lt tr sh cr ct cu ve ta ch) ++ ((wH cI aT (aW 0) lt2 tr2 sh2 cr2 ct2 cu2 ve2 ta2 ch2) ++ (wE cI aE lo fo si it)))))))) G K hA w F_X5_find (c_X5_find aS aE la aW n cl th ki va re fi aB bt bs aC to co ke nu fw aH lt tr sh cr ct cu ve ta ch aT lt2 tr2 sh2 cr2 ct2 cu2 ve2 ta2 ch2 lo fo si it 5 J S B9 C9 H9 U9 E9) ml_X5_128 rfl rfl rfl (by decide) (by decide) rfl hl.1 (Nat.le_of_ble_eq_true rfl) dX5_sheet_29 (fun Hp1 lo2 w => ?_)
          exact hret _ _ _ _ _ _ rfl rfl w dX5_sheet_32
      · -- not taken at 17
        exact absurd (neg_le hk9) c17
set_option maxHeartbeats 4000000 in
set_option maxRecDepth 100000 in
theorem c_X5_sheet_ok0 (aS : Nat → Nat) (aE : Nat → Nat) (la : Int32) (aW : Nat → Nat) (n : Nat) (cl : Nat) (th : Nat → Nat) (ki : Nat → Nat) (va : Nat → Nat) (re : Nat → Nat) (fi : Nat → Nat) (aB : Nat → Nat) (bt : Nat → Nat) (bs : Nat) (aC : Nat → Nat) (to : Nat → Prop) (co : Nat → Nat) (ke : Nat → Int32) (nu : Nat → Int32) (fw : Nat → Nat) (aH : Nat → Nat) (lt : Nat → Option Nat) (tr : Nat → Nat) (sh : Nat → Nat) (cr : Nat → Nat) (ct : Nat → Nat) (cu : Nat → Nat) (ve : Nat → Nat) (ta : Nat → Nat) (ch : Nat) (aT : Nat → Nat) (lt2 : Nat → Option Nat) (tr2 : Nat → Nat) (sh2 : Nat → Nat) (cr2 : Nat → Nat) (ct2 : Nat → Nat) (cu2 : Nat → Nat) (ve2 : Nat → Nat) (ta2 : Nat → Nat) (ch2 : Nat) (lo : Nat → Prop) (fo : Nat → Nat) (si : Nat → Nat) (it : Nat → Nat → Int32) (j : Nat) (k : Nat) (J : IW n cl th ki va re fi) (S : SW n cl re fi) (B9 : (∀ j, bt j ≤ 255) ∧ bs ≤ 216) (C9 : (∀ j, co j ≤ 400) ∧ (∀ j, fw j ≤ 15)) (H9 : IHd lt tr sh cr ct cu ve ta ch) (U9 : IHd lt2 tr2 sh2 cr2 ct2 cu2 ve2 ta2 ch2) (E9 : (∀ j, fo j ≤ 2) ∧ (∀ j, si j ≤ 60)) (hj9 : j ≤ 2) (hk9 : k ≤ 60) : CM l D (TY cI cZ cS) yX5_sheet cX5_sheet 4 (some .int) 2 [.ref (aS 0), .int (nI 0), .int (nI j), .int (nI k)] ((wS cS aS (aW 0) (aB 0) (aC 0) (aH 0) (aT 0) aE la) ++ ((wW cI aW n cl th ki va re fi) ++ ((wB cI aB bt bs) ++ ((wC cI cZ aC (aW 0) (aB 0) to co ke nu fw) ++ ((wH cI aH (aW 0) lt tr sh cr ct cu ve ta ch) ++ ((wH cI aT (aW 0) lt2 tr2 sh2 cr2 ct2 cu2 ve2 ta2 ch2) ++ (wE cI aE lo fo si it))))))) (some (.int (nI k))) ((wS cS aS (aW 0) (aB 0) (aC 0) (aH 0) (aT 0) aE la) ++ ((wW cI aW n cl th ki va re fi) ++ ((wB cI aB bt bs) ++ ((wC cI cZ aC (aW 0) (aB 0) to co ke nu fw) ++ ((wH cI aH (aW 0) lt tr sh cr ct cu ve ta ch) ++ ((wH cI aT (aW 0) lt2 tr2 sh2 cr2 ct2 cu2 ve2 ta2 ch2) ++ (wE cI aE (va_up lo 0 False) (va_up fo 0 j) (va_up si 0 k) (va_up it 0 (stG (it 0) 0 (nI 0) 60))))))))) := by
  refine CM.ofI (by decide +kernel) (Nat.le_of_ble_eq_true rfl) (nar_int _) ?_
  intro p e s m args below meth c Q A G K hA w hret ls hl
  obtain ⟨hx, hb, hml, hown, hts⟩ := id G
  obtain ⟨hn, hcl, hth, hki, hva, hre, hfi⟩ := id J
  obtain ⟨hbt, hbs⟩ := id B9
  obtain ⟨hco, hfw⟩ := id C9
  obtain ⟨hlt, htr, hsh, hcr, hct, hcu, hve, hta, hch⟩ := id H9
  obtain ⟨hlt2, htr2, hsh2, hcr2, hct2, hcu2, hve2, hta2, hch2⟩ := id U9
  obtain ⟨hfo, hsi⟩ := id E9
  have hl : lv_has ls 4 [(0, .ref (aS 0)), (1, .int (nI 0)), (2, .int (nI j)), (3, .int (nI k))] := hl
  refine lv_iload_n hx hb dX5_sheet_0 rfl (lv_at hl 1 rfl) ?_
  refine callPS (rest := []) G K F_X5_isSheet (c_X5_isSheet (nI 0)) (va_P_nil D s.heap) ml_X5_121 (by decide) (by decide) rfl hl.1 (Nat.le_of_ble_eq_true rfl) dX5_sheet_1 ?_
  refine b_eq G (tgt := 20) dX5_sheet_4 (by decide) (fun c4 => ?_) (fun c4 => ?_)
  · -- taken at 4
    exact absurd ⟨0, by decide, rfl⟩ c4
  · -- not taken at 4
    refine lv_iload_n hx hb dX5_sheet_7 rfl (lv_at hl 2 rfl) ?_
    refine callPS (rest := []) G K F_X5_isForm (c_X5_isForm (nI j)) (va_P_nil D s.heap) ml_X5_235 (by decide) (by decide) rfl hl.1 (Nat.le_of_ble_eq_true rfl) dX5_sheet_8 ?_
    refine b_eq G (tgt := 20) dX5_sheet_11 (by decide) (fun c11 => ?_) (fun c11 => ?_)
    · -- taken at 11
      exact absurd ⟨j, hj9, rfl⟩ c11
    · -- not taken at 11
      refine lv_iload_n hx hb dX5_sheet_14 rfl (lv_at hl 3 rfl) ?_
      refine lv_bipush (v := (nI 60)) hx hb dX5_sheet_15 (by decide) ?_
      refine c_le G (tgt := 23) (by omega) (by omega) dX5_sheet_17 (by decide) (fun c17 => ?_) (fun c17 => ?_)
      · -- taken at 17
        refine lv_iload_n hx hb dX5_sheet_23 rfl (lv_at hl 3 rfl) ?_
        refine z_ge G (tgt := 33) (by omega) dX5_sheet_24 (by decide) ?_
        refine lv_aload_n hx hb dX5_sheet_33 rfl (lv_at hl 0 rfl) ?_
        refine f_get G K w.1 inX5 0 (ci := 5) rfl rfl 5 rfl fl_X5_46 (v := .ref (aS 1)) rfl dX5_sheet_34 ?_
        refine lv_iload_n hx hb dX5_sheet_37 rfl (lv_at hl 1 rfl) ?_
        refine a_ldR G K w.1 1 2 (a := (aS 1)) rfl rfl (by omega) (by decide) dX5_sheet_38 ?_
        refine lv_iload_n hx hb dX5_sheet_39 rfl (lv_at hl 2 rfl) ?_
        refine lv_iload_n hx hb dX5_sheet_40 rfl (lv_at hl 3 rfl) ?_
        refine callMV (As := [.int (nI j), .int (nI k)]) (rest := []) (q0 := 0) (ci := 3) (wr := ((wS cS aS (aW 0) (aB 0) (aC 0) (aH 0) (aT 0) aE la) ++ ((wW cI aW n cl th ki va re fi) ++ ((wB cI aB bt bs) ++ ((wC cI cZ aC (aW 0) (aB 0) to co ke nu fw) ++ ((wH cI aH (aW 0) lt tr sh cr ct cu ve ta ch) ++ ((wH cI aT (aW 0) lt2 tr2 sh2 cr2 ct2 cu2 ve2 ta2 ch2) ++ ([(aE 1, .inr (3, [.ref (aE 5), .int (bI (lo 1)), .int (nI (fo 1)), .int (nI (si 1))])), (aE 2, .inr (3, [.ref (aE 6), .int (bI (lo 2)), .int (nI (fo 2)), .int (nI (si 2))])), (aE 3, .inr (3, [.ref (aE 7), .int (bI (lo 3)), .int (nI (fo 3)), .int (nI (si 3))])), (aE 5, .inl (cI, 60, .inl (it 1))), (aE 6, .inl (cI, 60, .inl (it 2))), (aE 7, .inl (cI, 60, .inl (it 3)))] : va_W)))))))) (ws2 := ((wS cS aS (aW 0) (aB 0) (aC 0) (aH 0) (aT 0) aE la) ++ ((wW cI aW n cl th ki va re fi) ++ ((wB cI aB bt bs) ++ ((wC cI cZ aC (aW 0) (aB 0) to co ke nu fw) ++ ((wH cI aH (aW 0) lt tr sh cr ct cu ve ta ch) ++ ((wH cI aT (aW 0) lt2 tr2 sh2 cr2 ct2 cu2 ve2 ta2 ch2) ++ (wE cI aE (va_up lo 0 False) (va_up fo 0 j) (va_up si 0 k) (va_up it 0 (stG (it 0) 0 (nI 0) 60)))))))))) G K hA w F_X3_renew (c_X3_renew (aE 0) (aE 4) (lo 0) (fo 0) (si 0) (it 0) j k ⟨hfo 0, hsi 0⟩) ml_X5_238 [34, 38] [0, 1, 2, 3, 4, 5, 6, 7, 8, 9, 10, 11, 12, 13, 14, 15, 16, 17, 18, 19, 20, 21, 22, 23, 24, 25, 26, 27, 28, 29, 30, 31, 32, 33, 35, 36, 37, 39, 40, 41] [0, 1, 2, 3, 4, 5, 6, 7, 8, 9, 10, 11, 12, 13, 14, 15, 16, 17, 18, 19, 20, 21, 22, 23, 24, 25, 26, 27, 28, 29, 30, 31, 32, 33, 40, 34, 35, 36, 41, 37, 38, 39] rfl rfl rfl rfl rfl rfl rfl rfl rfl rfl (by decide) (by decide) rfl hl.1 (Nat.le_of_ble_eq_true rfl) dX5_sheet_41 (fun Hp1 lo2 w => ?_)
        refine lv_iload_n hx hb dX5_sheet_44 rfl (lv_at hl 3 rfl) ?_
        exact hret _ _ _ _ _ _ rfl rfl w dX5_sheet_45
      · -- not taken at 17
        exact absurd c17 (by omega)
set_option maxHeartbeats 4000000 in
set_option maxRecDepth 100000 in
theorem c_X5_sheet_ok1 (aS : Nat → Nat) (aE : Nat → Nat) (la : Int32) (aW : Nat → Nat) (n : Nat) (cl : Nat) (th : Nat → Nat) (ki : Nat → Nat) (va : Nat → Nat) (re : Nat → Nat) (fi : Nat → Nat) (aB : Nat → Nat) (bt : Nat → Nat) (bs : Nat) (aC : Nat → Nat) (to : Nat → Prop) (co : Nat → Nat) (ke : Nat → Int32) (nu : Nat → Int32) (fw : Nat → Nat) (aH : Nat → Nat) (lt : Nat → Option Nat) (tr : Nat → Nat) (sh : Nat → Nat) (cr : Nat → Nat) (ct : Nat → Nat) (cu : Nat → Nat) (ve : Nat → Nat) (ta : Nat → Nat) (ch : Nat) (aT : Nat → Nat) (lt2 : Nat → Option Nat) (tr2 : Nat → Nat) (sh2 : Nat → Nat) (cr2 : Nat → Nat) (ct2 : Nat → Nat) (cu2 : Nat → Nat) (ve2 : Nat → Nat) (ta2 : Nat → Nat) (ch2 : Nat) (lo : Nat → Prop) (fo : Nat → Nat) (si : Nat → Nat) (it : Nat → Nat → Int32) (j : Nat) (k : Nat) (J : IW n cl th ki va re fi) (S : SW n cl re fi) (B9 : (∀ j, bt j ≤ 255) ∧ bs ≤ 216) (C9 : (∀ j, co j ≤ 400) ∧ (∀ j, fw j ≤ 15)) (H9 : IHd lt tr sh cr ct cu ve ta ch) (U9 : IHd lt2 tr2 sh2 cr2 ct2 cu2 ve2 ta2 ch2) (E9 : (∀ j, fo j ≤ 2) ∧ (∀ j, si j ≤ 60)) (hj9 : j ≤ 2) (hk9 : k ≤ 60) : CM l D (TY cI cZ cS) yX5_sheet cX5_sheet 4 (some .int) 2 [.ref (aS 0), .int (nI 1), .int (nI j), .int (nI k)] ((wS cS aS (aW 0) (aB 0) (aC 0) (aH 0) (aT 0) aE la) ++ ((wW cI aW n cl th ki va re fi) ++ ((wB cI aB bt bs) ++ ((wC cI cZ aC (aW 0) (aB 0) to co ke nu fw) ++ ((wH cI aH (aW 0) lt tr sh cr ct cu ve ta ch) ++ ((wH cI aT (aW 0) lt2 tr2 sh2 cr2 ct2 cu2 ve2 ta2 ch2) ++ (wE cI aE lo fo si it))))))) (some (.int (nI k))) ((wS cS aS (aW 0) (aB 0) (aC 0) (aH 0) (aT 0) aE la) ++ ((wW cI aW n cl th ki va re fi) ++ ((wB cI aB bt bs) ++ ((wC cI cZ aC (aW 0) (aB 0) to co ke nu fw) ++ ((wH cI aH (aW 0) lt tr sh cr ct cu ve ta ch) ++ ((wH cI aT (aW 0) lt2 tr2 sh2 cr2 ct2 cu2 ve2 ta2 ch2) ++ (wE cI aE (va_up lo 1 False) (va_up fo 1 j) (va_up si 1 k) (va_up it 1 (stG (it 1) 0 (nI 0) 60))))))))) := by
  refine CM.ofI (by decide +kernel) (Nat.le_of_ble_eq_true rfl) (nar_int _) ?_
  intro p e s m args below meth c Q A G K hA w hret ls hl
  obtain ⟨hx, hb, hml, hown, hts⟩ := id G
  obtain ⟨hn, hcl, hth, hki, hva, hre, hfi⟩ := id J
  obtain ⟨hbt, hbs⟩ := id B9
  obtain ⟨hco, hfw⟩ := id C9
  obtain ⟨hlt, htr, hsh, hcr, hct, hcu, hve, hta, hch⟩ := id H9
  obtain ⟨hlt2, htr2, hsh2, hcr2, hct2, hcu2, hve2, hta2, hch2⟩ := id U9
  obtain ⟨hfo, hsi⟩ := id E9
  have hl : lv_has ls 4 [(0, .ref (aS 0)), (1, .int (nI 1)), (2, .int (nI j)), (3, .int (nI k))] := hl
  refine lv_iload_n hx hb dX5_sheet_0 rfl (lv_at hl 1 rfl) ?_
  refine callPS (rest := []) G K F_X5_isSheet (c_X5_isSheet (nI 1)) (va_P_nil D s.heap) ml_X5_121 (by decide) (by decide) rfl hl.1 (Nat.le_of_ble_eq_true rfl) dX5_sheet_1 ?_
  refine b_eq G (tgt := 20) dX5_sheet_4 (by decide) (fun c4 => ?_) (fun c4 => ?_)
  · -- taken at 4
    exact absurd ⟨1, by decide, rfl⟩ c4
  · -- not taken at 4
    refine lv_iload_n hx hb dX5_sheet_7 rfl (lv_at hl 2 rfl) ?_
    refine callPS (rest := []) G K F_X5_isForm (c_X5_isForm (nI j)) (va_P_nil D s.heap) ml_X5_235 (by decide) (by decide) rfl hl.1 (Nat.le_of_ble_eq_true rfl) dX5_sheet_8 ?_
    refine b_eq G (tgt := 20) dX5_sheet_11 (by decide) (fun c11 => ?_) (fun c11 => ?_)
    · -- taken at 11
      exact absurd ⟨j, hj9, rfl⟩ c11
    · -- not taken at 11
      refine lv_iload_n hx hb dX5_sheet_14 rfl (lv_at hl 3 rfl) ?_
      refine lv_bipush (v := (nI 60)) hx hb dX5_sheet_15 (by decide) ?_
      refine c_le G (tgt := 23) (by omega) (by omega) dX5_sheet_17 (by decide) (fun c17 => ?_) (fun c17 => ?_)
      · -- taken at 17
        refine lv_iload_n hx hb dX5_sheet_23 rfl (lv_at hl 3 rfl) ?_
        refine z_ge G (tgt := 33) (by omega) dX5_sheet_24 (by decide) ?_
        refine lv_aload_n hx hb dX5_sheet_33 rfl (lv_at hl 0 rfl) ?_
        refine f_get G K w.1 inX5 0 (ci := 5) rfl rfl 5 rfl fl_X5_46 (v := .ref (aS 1)) rfl dX5_sheet_34 ?_
        refine lv_iload_n hx hb dX5_sheet_37 rfl (lv_at hl 1 rfl) ?_
        refine a_ldR G K w.1 1 2 (a := (aS 1)) rfl rfl (by omega) (by decide) dX5_sheet_38 ?_
        refine lv_iload_n hx hb dX5_sheet_39 rfl (lv_at hl 2 rfl) ?_
        refine lv_iload_n hx hb dX5_sheet_40 rfl (lv_at hl 3 rfl) ?_
        refine callMV (As := [.int (nI j), .int (nI k)]) (rest := []) (q0 := 0) (ci := 3) (wr := ((wS cS aS (aW 0) (aB 0) (aC 0) (aH 0) (aT 0) aE la) ++ ((wW cI aW n cl th ki va re fi) ++ ((wB cI aB bt bs) ++ ((wC cI cZ aC (aW 0) (aB 0) to co ke nu fw) ++ ((wH cI aH (aW 0) lt tr sh cr ct cu ve ta ch) ++ ((wH cI aT (aW 0) lt2 tr2 sh2 cr2 ct2 cu2 ve2 ta2 ch2) ++ ([(aE 0, .inr (3, [.ref (aE 4), .int (bI (lo 0)), .int (nI (fo 0)), .int (nI (si 0))])), (aE 2, .inr (3, [.ref (aE 6), .int (bI (lo 2)), .int (nI (fo 2)), .int (nI (si 2))])), (aE 3, .inr (3, [.ref (aE 7), .int (bI (lo 3)), .int (nI (fo 3)), .int (nI (si 3))])), (aE 4, .inl (cI, 60, .inl (it 0))), (aE 6, .inl (cI, 60, .inl (it 2))), (aE 7, .inl (cI, 60, .inl (it 3)))] : va_W)))))))) (ws2 := ((wS cS aS (aW 0) (aB 0) (aC 0) (aH 0) (aT 0) aE la) ++ ((wW cI aW n cl th ki va re fi) ++ ((wB cI aB bt bs) ++ ((wC cI cZ aC (aW 0) (aB 0) to co ke nu fw) ++ ((wH cI aH (aW 0) lt tr sh cr ct cu ve ta ch) ++ ((wH cI aT (aW 0) lt2 tr2 sh2 cr2 ct2 cu2 ve2 ta2 ch2) ++ (wE cI aE (va_up lo 1 False) (va_up fo 1 j) (va_up si 1 k) (va_up it 1 (stG (it 1) 0 (nI 0) 60)))))))))) G K hA w F_X3_renew (c_X3_renew (aE 1) (aE 5) (lo 1) (fo 1) (si 1) (it 1) j k ⟨hfo 1, hsi 1⟩) ml_X5_238 [35, 39] [0, 1, 2, 3, 4, 5, 6, 7, 8, 9, 10, 11, 12, 13, 14, 15, 16, 17, 18, 19, 20, 21, 22, 23, 24, 25, 26, 27, 28, 29, 30, 31, 32, 33, 34, 36, 37, 38, 40, 41] [0, 1, 2, 3, 4, 5, 6, 7, 8, 9, 10, 11, 12, 13, 14, 15, 16, 17, 18, 19, 20, 21, 22, 23, 24, 25, 26, 27, 28, 29, 30, 31, 32, 33, 34, 40, 35, 36, 37, 41, 38, 39] rfl rfl rfl rfl rfl rfl rfl rfl rfl rfl (by decide) (by decide) rfl hl.1 (Nat.le_of_ble_eq_true rfl) dX5_sheet_41 (fun Hp1 lo2 w => ?_)
        refine lv_iload_n hx hb dX5_sheet_44 rfl (lv_at hl 3 rfl) ?_
        exact hret _ _ _ _ _ _ rfl rfl w dX5_sheet_45
      · -- not taken at 17
        exact absurd c17 (by omega)
set_option maxHeartbeats 4000000 in
set_option maxRecDepth 100000 in
theorem c_X5_sheet_ok2 (aS : Nat → Nat) (aE : Nat → Nat) (la : Int32) (aW : Nat → Nat) (n : Nat) (cl : Nat) (th : Nat → Nat) (ki : Nat → Nat) (va : Nat → Nat) (re : Nat → Nat) (fi : Nat → Nat) (aB : Nat → Nat) (bt : Nat → Nat) (bs : Nat) (aC : Nat → Nat) (to : Nat → Prop) (co : Nat → Nat) (ke : Nat → Int32) (nu : Nat → Int32) (fw : Nat → Nat) (aH : Nat → Nat) (lt : Nat → Option Nat) (tr : Nat → Nat) (sh : Nat → Nat) (cr : Nat → Nat) (ct : Nat → Nat) (cu : Nat → Nat) (ve : Nat → Nat) (ta : Nat → Nat) (ch : Nat) (aT : Nat → Nat) (lt2 : Nat → Option Nat) (tr2 : Nat → Nat) (sh2 : Nat → Nat) (cr2 : Nat → Nat) (ct2 : Nat → Nat) (cu2 : Nat → Nat) (ve2 : Nat → Nat) (ta2 : Nat → Nat) (ch2 : Nat) (lo : Nat → Prop) (fo : Nat → Nat) (si : Nat → Nat) (it : Nat → Nat → Int32) (j : Nat) (k : Nat) (J : IW n cl th ki va re fi) (S : SW n cl re fi) (B9 : (∀ j, bt j ≤ 255) ∧ bs ≤ 216) (C9 : (∀ j, co j ≤ 400) ∧ (∀ j, fw j ≤ 15)) (H9 : IHd lt tr sh cr ct cu ve ta ch) (U9 : IHd lt2 tr2 sh2 cr2 ct2 cu2 ve2 ta2 ch2) (E9 : (∀ j, fo j ≤ 2) ∧ (∀ j, si j ≤ 60)) (hj9 : j ≤ 2) (hk9 : k ≤ 60) : CM l D (TY cI cZ cS) yX5_sheet cX5_sheet 4 (some .int) 2 [.ref (aS 0), .int (nI 2), .int (nI j), .int (nI k)] ((wS cS aS (aW 0) (aB 0) (aC 0) (aH 0) (aT 0) aE la) ++ ((wW cI aW n cl th ki va re fi) ++ ((wB cI aB bt bs) ++ ((wC cI cZ aC (aW 0) (aB 0) to co ke nu fw) ++ ((wH cI aH (aW 0) lt tr sh cr ct cu ve ta ch) ++ ((wH cI aT (aW 0) lt2 tr2 sh2 cr2 ct2 cu2 ve2 ta2 ch2) ++ (wE cI aE lo fo si it))))))) (some (.int (nI k))) ((wS cS aS (aW 0) (aB 0) (aC 0) (aH 0) (aT 0) aE la) ++ ((wW cI aW n cl th ki va re fi) ++ ((wB cI aB bt bs) ++ ((wC cI cZ aC (aW 0) (aB 0) to co ke nu fw) ++ ((wH cI aH (aW 0) lt tr sh cr ct cu ve ta ch) ++ ((wH cI aT (aW 0) lt2 tr2 sh2 cr2 ct2 cu2 ve2 ta2 ch2) ++ (wE cI aE (va_up lo 2 False) (va_up fo 2 j) (va_up si 2 k) (va_up it 2 (stG (it 2) 0 (nI 0) 60))))))))) := by
  refine CM.ofI (by decide +kernel) (Nat.le_of_ble_eq_true rfl) (nar_int _) ?_
  intro p e s m args below meth c Q A G K hA w hret ls hl
  obtain ⟨hx, hb, hml, hown, hts⟩ := id G
  obtain ⟨hn, hcl, hth, hki, hva, hre, hfi⟩ := id J
  obtain ⟨hbt, hbs⟩ := id B9
  obtain ⟨hco, hfw⟩ := id C9
  obtain ⟨hlt, htr, hsh, hcr, hct, hcu, hve, hta, hch⟩ := id H9
  obtain ⟨hlt2, htr2, hsh2, hcr2, hct2, hcu2, hve2, hta2, hch2⟩ := id U9
  obtain ⟨hfo, hsi⟩ := id E9
  have hl : lv_has ls 4 [(0, .ref (aS 0)), (1, .int (nI 2)), (2, .int (nI j)), (3, .int (nI k))] := hl
  refine lv_iload_n hx hb dX5_sheet_0 rfl (lv_at hl 1 rfl) ?_
  refine callPS (rest := []) G K F_X5_isSheet (c_X5_isSheet (nI 2)) (va_P_nil D s.heap) ml_X5_121 (by decide) (by decide) rfl hl.1 (Nat.le_of_ble_eq_true rfl) dX5_sheet_1 ?_
  refine b_eq G (tgt := 20) dX5_sheet_4 (by decide) (fun c4 => ?_) (fun c4 => ?_)
  · -- taken at 4
    exact absurd ⟨2, by decide, rfl⟩ c4
  · -- not taken at 4
    refine lv_iload_n hx hb dX5_sheet_7 rfl (lv_at hl 2 rfl) ?_
    refine callPS (rest := []) G K F_X5_isForm (c_X5_isForm (nI j)) (va_P_nil D s.heap) ml_X5_235 (by decide) (by decide) rfl hl.1 (Nat.le_of_ble_eq_true rfl) dX5_sheet_8 ?_
    refine b_eq G (tgt := 20) dX5_sheet_11 (by decide) (fun c11 => ?_) (fun c11 => ?_)
    · -- taken at 11
      exact absurd ⟨j, hj9, rfl⟩ c11
    · -- not taken at 11
      refine lv_iload_n hx hb dX5_sheet_14 rfl (lv_at hl 3 rfl) ?_
      refine lv_bipush (v := (nI 60)) hx hb dX5_sheet_15 (by decide) ?_
      refine c_le G (tgt := 23) (by omega) (by omega) dX5_sheet_17 (by decide) (fun c17 => ?_) (fun c17 => ?_)
      · -- taken at 17
        refine lv_iload_n hx hb dX5_sheet_23 rfl (lv_at hl 3 rfl) ?_
        refine z_ge G (tgt := 33) (by omega) dX5_sheet_24 (by decide) ?_
        refine lv_aload_n hx hb dX5_sheet_33 rfl (lv_at hl 0 rfl) ?_
        refine f_get G K w.1 inX5 0 (ci := 5) rfl rfl 5 rfl fl_X5_46 (v := .ref (aS 1)) rfl dX5_sheet_34 ?_
        refine lv_iload_n hx hb dX5_sheet_37 rfl (lv_at hl 1 rfl) ?_
        refine a_ldR G K w.1 1 2 (a := (aS 1)) rfl rfl (by omega) (by decide) dX5_sheet_38 ?_
        refine lv_iload_n hx hb dX5_sheet_39 rfl (lv_at hl 2 rfl) ?_
        refine lv_iload_n hx hb dX5_sheet_40 rfl (lv_at hl 3 rfl) ?_
        refine callMV (As := [.int (nI j), .int (nI k)]) (rest := []) (q0 := 0) (ci := 3) (wr := ((wS cS aS (aW 0) (aB 0) (aC 0) (aH 0) (aT 0) aE la) ++ ((wW cI aW n cl th ki va re fi) ++ ((wB cI aB bt bs) ++ ((wC cI cZ aC (aW 0) (aB 0) to co ke nu fw) ++ ((wH cI aH (aW 0) lt tr sh cr ct cu ve ta ch) ++ ((wH cI aT (aW 0) lt2 tr2 sh2 cr2 ct2 cu2 ve2 ta2 ch2) ++ ([(aE 0, .inr (3, [.ref (aE 4), .int (bI (lo 0)), .int (nI (fo 0)), .int (nI (si 0))])), (aE 1, .inr (3, [.ref (aE 5), .int (bI (lo 1)), .int (nI (fo 1)), .int (nI (si 1))])), (aE 3, .inr (3, [.ref (aE 7), .int (bI (lo 3)), .int (nI (fo 3)), .int (nI (si 3))])), (aE 4, .inl (cI, 60, .inl (it 0))), (aE 5, .inl (cI, 60, .inl (it 1))), (aE 7, .inl (cI, 60, .inl (it 3)))] : va_W)))))))) (ws2 := ((wS cS aS (aW 0) (aB 0) (aC 0) (aH 0) (aT 0) aE la) ++ ((wW cI aW n cl th ki va re fi) ++ ((wB cI aB bt bs) ++ ((wC cI cZ aC (aW 0) (aB 0) to co ke nu fw) ++ ((wH cI aH (aW 0) lt tr sh cr ct cu ve ta ch) ++ ((wH cI aT (aW 0) lt2 tr2 sh2 cr2 ct2 cu2 ve2 ta2 ch2) ++ (wE cI aE (va_up lo 2 False) (va_up fo 2 j) (va_up si 2 k) (va_up it 2 (stG (it 2) 0 (nI 0) 60)))))))))) G K hA w F_X3_renew (c_X3_renew (aE 2) (aE 6) (lo 2) (fo 2) (si 2) (it 2) j k ⟨hfo 2, hsi 2⟩) ml_X5_238 [36, 40] [0, 1, 2, 3, 4, 5, 6, 7, 8, 9, 10, 11, 12, 13, 14, 15, 16, 17, 18, 19, 20, 21, 22, 23, 24, 25, 26, 27, 28, 29, 30, 31, 32, 33, 34, 35, 37, 38, 39, 41] [0, 1, 2, 3, 4, 5, 6, 7, 8, 9, 10, 11, 12, 13, 14, 15, 16, 17, 18, 19, 20, 21, 22, 23, 24, 25, 26, 27, 28, 29, 30, 31, 32, 33, 34, 35, 40, 36, 37, 38, 41, 39] rfl rfl rfl rfl rfl rfl rfl rfl rfl rfl (by decide) (by decide) rfl hl.1 (Nat.le_of_ble_eq_true rfl) dX5_sheet_41 (fun Hp1 lo2 w => ?_)
        refine lv_iload_n hx hb dX5_sheet_44 rfl (lv_at hl 3 rfl) ?_
        exact hret _ _ _ _ _ _ rfl rfl w dX5_sheet_45
      · -- not taken at 17
        exact absurd c17 (by omega)
set_option maxHeartbeats 4000000 in
set_option maxRecDepth 100000 in
theorem c_X5_sheet_ok3 (aS : Nat → Nat) (aE : Nat → Nat) (la : Int32) (aW : Nat → Nat) (n : Nat) (cl : Nat) (th : Nat → Nat) (ki : Nat → Nat) (va : Nat → Nat) (re : Nat → Nat) (fi : Nat → Nat) (aB : Nat → Nat) (bt : Nat → Nat) (bs : Nat) (aC : Nat → Nat) (to : Nat → Prop) (co : Nat → Nat) (ke : Nat → Int32) (nu : Nat → Int32) (fw : Nat → Nat) (aH : Nat → Nat) (lt : Nat → Option Nat) (tr : Nat → Nat) (sh : Nat → Nat) (cr : Nat → Nat) (ct : Nat → Nat) (cu : Nat → Nat) (ve : Nat → Nat) (ta : Nat → Nat) (ch : Nat) (aT : Nat → Nat) (lt2 : Nat → Option Nat) (tr2 : Nat → Nat) (sh2 : Nat → Nat) (cr2 : Nat → Nat) (ct2 : Nat → Nat) (cu2 : Nat → Nat) (ve2 : Nat → Nat) (ta2 : Nat → Nat) (ch2 : Nat) (lo : Nat → Prop) (fo : Nat → Nat) (si : Nat → Nat) (it : Nat → Nat → Int32) (j : Nat) (k : Nat) (J : IW n cl th ki va re fi) (S : SW n cl re fi) (B9 : (∀ j, bt j ≤ 255) ∧ bs ≤ 216) (C9 : (∀ j, co j ≤ 400) ∧ (∀ j, fw j ≤ 15)) (H9 : IHd lt tr sh cr ct cu ve ta ch) (U9 : IHd lt2 tr2 sh2 cr2 ct2 cu2 ve2 ta2 ch2) (E9 : (∀ j, fo j ≤ 2) ∧ (∀ j, si j ≤ 60)) (hj9 : j ≤ 2) (hk9 : k ≤ 60) : CM l D (TY cI cZ cS) yX5_sheet cX5_sheet 4 (some .int) 2 [.ref (aS 0), .int (nI 3), .int (nI j), .int (nI k)] ((wS cS aS (aW 0) (aB 0) (aC 0) (aH 0) (aT 0) aE la) ++ ((wW cI aW n cl th ki va re fi) ++ ((wB cI aB bt bs) ++ ((wC cI cZ aC (aW 0) (aB 0) to co ke nu fw) ++ ((wH cI aH (aW 0) lt tr sh cr ct cu ve ta ch) ++ ((wH cI aT (aW 0) lt2 tr2 sh2 cr2 ct2 cu2 ve2 ta2 ch2) ++ (wE cI aE lo fo si it))))))) (some (.int (nI k))) ((wS cS aS (aW 0) (aB 0) (aC 0) (aH 0) (aT 0) aE la) ++ ((wW cI aW n cl th ki va re fi) ++ ((wB cI aB bt bs) ++ ((wC cI cZ aC (aW 0) (aB 0) to co ke nu fw) ++ ((wH cI aH (aW 0) lt tr sh cr ct cu ve ta ch) ++ ((wH cI aT (aW 0) lt2 tr2 sh2 cr2 ct2 cu2 ve2 ta2 ch2) ++ (wE cI aE (va_up lo 3 False) (va_up fo 3 j) (va_up si 3 k) (va_up it 3 (stG (it 3) 0 (nI 0) 60))))))))) := by
  refine CM.ofI (by decide +kernel) (Nat.le_of_ble_eq_true rfl) (nar_int _) ?_
  intro p e s m args below meth c Q A G K hA w hret ls hl
  obtain ⟨hx, hb, hml, hown, hts⟩ := id G
  obtain ⟨hn, hcl, hth, hki, hva, hre, hfi⟩ := id J
  obtain ⟨hbt, hbs⟩ := id B9
  obtain ⟨hco, hfw⟩ := id C9
  obtain ⟨hlt, htr, hsh, hcr, hct, hcu, hve, hta, hch⟩ := id H9
  obtain ⟨hlt2, htr2, hsh2, hcr2, hct2, hcu2, hve2, hta2, hch2⟩ := id U9
  obtain ⟨hfo, hsi⟩ := id E9
  have hl : lv_has ls 4 [(0, .ref (aS 0)), (1, .int (nI 3)), (2, .int (nI j)), (3, .int (nI k))] := hl
  refine lv_iload_n hx hb dX5_sheet_0 rfl (lv_at hl 1 rfl) ?_
  refine callPS (rest := []) G K F_X5_isSheet (c_X5_isSheet (nI 3)) (va_P_nil D s.heap) ml_X5_121 (by decide) (by decide) rfl hl.1 (Nat.le_of_ble_eq_true rfl) dX5_sheet_1 ?_
  refine b_eq G (tgt := 20) dX5_sheet_4 (by decide) (fun c4 => ?_) (fun c4 => ?_)
  · -- taken at 4
    exact absurd ⟨3, by decide, rfl⟩ c4
  · -- not taken at 4
    refine lv_iload_n hx hb dX5_sheet_7 rfl (lv_at hl 2 rfl) ?_
    refine callPS (rest := []) G K F_X5_isForm (c_X5_isForm (nI j)) (va_P_nil D s.heap) ml_X5_235 (by decide) (by decide) rfl hl.1 (Nat.le_of_ble_eq_true rfl) dX5_sheet_8 ?_
    refine b_eq G (tgt := 20) dX5_sheet_11 (by decide) (fun c11 => ?_) (fun c11 => ?_)
    · -- taken at 11
      exact absurd ⟨j, hj9, rfl⟩ c11
    · -- not taken at 11
      refine lv_iload_n hx hb dX5_sheet_14 rfl (lv_at hl 3 rfl) ?_
      refine lv_bipush (v := (nI 60)) hx hb dX5_sheet_15 (by decide) ?_
      refine c_le G (tgt := 23) (by omega) (by omega) dX5_sheet_17 (by decide) (fun c17 => ?_) (fun c17 => ?_)
      · -- taken at 17
        refine lv_iload_n hx hb dX5_sheet_23 rfl (lv_at hl 3 rfl) ?_
        refine z_ge G (tgt := 33) (by omega) dX5_sheet_24 (by decide) ?_
        refine lv_aload_n hx hb dX5_sheet_33 rfl (lv_at hl 0 rfl) ?_
        refine f_get G K w.1 inX5 0 (ci := 5) rfl rfl 5 rfl fl_X5_46 (v := .ref (aS 1)) rfl dX5_sheet_34 ?_
        refine lv_iload_n hx hb dX5_sheet_37 rfl (lv_at hl 1 rfl) ?_
        refine a_ldR G K w.1 1 2 (a := (aS 1)) rfl rfl (by omega) (by decide) dX5_sheet_38 ?_
        refine lv_iload_n hx hb dX5_sheet_39 rfl (lv_at hl 2 rfl) ?_
        refine lv_iload_n hx hb dX5_sheet_40 rfl (lv_at hl 3 rfl) ?_
        refine callMV (As := [.int (nI j), .int (nI k)]) (rest := []) (q0 := 0) (ci := 3) (wr := ((wS cS aS (aW 0) (aB 0) (aC 0) (aH 0) (aT 0) aE la) ++ ((wW cI aW n cl th ki va re fi) ++ ((wB cI aB bt bs) ++ ((wC cI cZ aC (aW 0) (aB 0) to co ke nu fw) ++ ((wH cI aH (aW 0) lt tr sh cr ct cu ve ta ch) ++ ((wH cI aT (aW 0) lt2 tr2 sh2 cr2 ct2 cu2 ve2 ta2 ch2) ++ ([(aE 0, .inr (3, [.ref (aE 4), .int (bI (lo 0)), .int (nI (fo 0)), .int (nI (si 0))])), (aE 1, .inr (3, [.ref (aE 5), .int (bI (lo 1)), .int (nI (fo 1)), .int (nI (si 1))])), (aE 2, .inr (3, [.ref (aE 6), .int (bI (lo 2)), .int (nI (fo 2)), .int (nI (si 2))])), (aE 4, .inl (cI, 60, .inl (it 0))), (aE 5, .inl (cI, 60, .inl (it 1))), (aE 6, .inl (cI, 60, .inl (it 2)))] : va_W)))))))) (ws2 := ((wS cS aS (aW 0) (aB 0) (aC 0) (aH 0) (aT 0) aE la) ++ ((wW cI aW n cl th ki va re fi) ++ ((wB cI aB bt bs) ++ ((wC cI cZ aC (aW 0) (aB 0) to co ke nu fw) ++ ((wH cI aH (aW 0) lt tr sh cr ct cu ve ta ch) ++ ((wH cI aT (aW 0) lt2 tr2 sh2 cr2 ct2 cu2 ve2 ta2 ch2) ++ (wE cI aE (va_up lo 3 False) (va_up fo 3 j) (va_up si 3 k) (va_up it 3 (stG (it 3) 0 (nI 0) 60)))))))))) G K hA w F_X3_renew (c_X3_renew (aE 3) (aE 7) (lo 3) (fo 3) (si 3) (it 3) j k ⟨hfo 3, hsi 3⟩) ml_X5_238 [37, 41] [0, 1, 2, 3, 4, 5, 6, 7, 8, 9, 10, 11, 12, 13, 14, 15, 16, 17, 18, 19, 20, 21, 22, 23, 24, 25, 26, 27, 28, 29, 30, 31, 32, 33, 34, 35, 36, 38, 39, 40] [0, 1, 2, 3, 4, 5, 6, 7, 8, 9, 10, 11, 12, 13, 14, 15, 16, 17, 18, 19, 20, 21, 22, 23, 24, 25, 26, 27, 28, 29, 30, 31, 32, 33, 34, 35, 36, 40, 37, 38, 39, 41] rfl rfl rfl rfl rfl rfl rfl rfl rfl rfl (by decide) (by decide) rfl hl.1 (Nat.le_of_ble_eq_true rfl) dX5_sheet_41 (fun Hp1 lo2 w => ?_)
        refine lv_iload_n hx hb dX5_sheet_44 rfl (lv_at hl 3 rfl) ?_
        exact hret _ _ _ _ _ _ rfl rfl w dX5_sheet_45
      · -- not taken at 17
        exact absurd c17 (by omega)
set_option maxHeartbeats 4000000 in
set_option maxRecDepth 100000 in
theorem c_X5_lose_bad (aS : Nat → Nat) (aE : Nat → Nat) (la : Int32) (aW : Nat → Nat) (n : Nat) (cl : Nat) (th : Nat → Nat) (ki : Nat → Nat) (va : Nat → Nat) (re : Nat → Nat) (fi : Nat → Nat) (aB : Nat → Nat) (bt : Nat → Nat) (bs : Nat) (aC : Nat → Nat) (to : Nat → Prop) (co : Nat → Nat) (ke : Nat → Int32) (nu : Nat → Int32) (fw : Nat → Nat) (aH : Nat → Nat) (lt : Nat → Option Nat) (tr : Nat → Nat) (sh : Nat → Nat) (cr : Nat → Nat) (ct : Nat → Nat) (cu : Nat → Nat) (ve : Nat → Nat) (ta : Nat → Nat) (ch : Nat) (aT : Nat → Nat) (lt2 : Nat → Option Nat) (tr2 : Nat → Nat) (sh2 : Nat → Nat) (cr2 : Nat → Nat) (ct2 : Nat → Nat) (cu2 : Nat → Nat) (ve2 : Nat → Nat) (ta2 : Nat → Nat) (ch2 : Nat) (lo : Nat → Prop) (fo : Nat → Nat) (si : Nat → Nat) (it : Nat → Nat → Int32) (x : Int32) (J : IW n cl th ki va re fi) (S : SW n cl re fi) (B9 : (∀ j, bt j ≤ 255) ∧ bs ≤ 216) (C9 : (∀ j, co j ≤ 400) ∧ (∀ j, fw j ≤ 15)) (H9 : IHd lt tr sh cr ct cu ve ta ch) (U9 : IHd lt2 tr2 sh2 cr2 ct2 cu2 ve2 ta2 ch2) (E9 : (∀ j, fo j ≤ 2) ∧ (∀ j, si j ≤ 60)) (hbad : ¬ okR 3 x) : CM l D (TY cI cZ cS) yX5_lose cX5_lose 2 (some .int) 1 [.ref (aS 0), .int x] ((wS cS aS (aW 0) (aB 0) (aC 0) (aH 0) (aT 0) aE la) ++ ((wW cI aW n cl th ki va re fi) ++ ((wB cI aB bt bs) ++ ((wC cI cZ aC (aW 0) (aB 0) to co ke nu fw) ++ ((wH cI aH (aW 0) lt tr sh cr ct cu ve ta ch) ++ ((wH cI aT (aW 0) lt2 tr2 sh2 cr2 ct2 cu2 ve2 ta2 ch2) ++ (wE cI aE lo fo si it))))))) (some (.int (-2))) ((wS cS aS (aW 0) (aB 0) (aC 0) (aH 0) (aT 0) aE la) ++ ((wW cI aW n cl th ki va re fi) ++ ((wB cI aB bt bs) ++ ((wC cI cZ aC (aW 0) (aB 0) to co ke nu fw) ++ ((wH cI aH (aW 0) lt tr sh cr ct cu ve ta ch) ++ ((wH cI aT (aW 0) lt2 tr2 sh2 cr2 ct2 cu2 ve2 ta2 ch2) ++ (wE cI aE lo fo si it))))))) := by
  refine CM.ofI (by decide +kernel) (Nat.le_of_ble_eq_true rfl) (nar_int _) ?_
  intro p e s m args below meth c Q A G K hA w hret ls hl
  obtain ⟨hx, hb, hml, hown, hts⟩ := id G
  obtain ⟨hn, hcl, hth, hki, hva, hre, hfi⟩ := id J
  obtain ⟨hbt, hbs⟩ := id B9
  obtain ⟨hco, hfw⟩ := id C9
  obtain ⟨hlt, htr, hsh, hcr, hct, hcu, hve, hta, hch⟩ := id H9
  obtain ⟨hlt2, htr2, hsh2, hcr2, hct2, hcu2, hve2, hta2, hch2⟩ := id U9
  obtain ⟨hfo, hsi⟩ := id E9
  have hl : lv_has ls 2 [(0, .ref (aS 0)), (1, .int x)] := hl
  refine lv_iload_n hx hb dX5_lose_0 rfl (lv_at hl 1 rfl) ?_
  refine callPS (rest := []) G K F_X5_isSheet (c_X5_isSheet x) (va_P_nil D s.heap) ml_X5_121 (by decide) (by decide) rfl hl.1 (Nat.le_of_ble_eq_true rfl) dX5_lose_1 ?_
  refine b_ne G (tgt := 10) dX5_lose_4 (by decide) (fun c4 => ?_) (fun c4 => ?_)
  · -- taken at 4
    exact absurd c4 hbad
  · -- not taken at 4
    refine lv_bipush (v := (-2)) hx hb dX5_lose_7 (by decide) ?_
    exact hret _ _ _ _ _ _ rfl rfl w dX5_lose_9
set_option maxHeartbeats 4000000 in
set_option maxRecDepth 100000 in
theorem c_X5_lose_nul0 (aS : Nat → Nat) (aE : Nat → Nat) (la : Int32) (aW : Nat → Nat) (n : Nat) (cl : Nat) (th : Nat → Nat) (ki : Nat → Nat) (va : Nat → Nat) (re : Nat → Nat) (fi : Nat → Nat) (aB : Nat → Nat) (bt : Nat → Nat) (bs : Nat) (aC : Nat → Nat) (to : Nat → Prop) (co : Nat → Nat) (ke : Nat → Int32) (nu : Nat → Int32) (fw : Nat → Nat) (aH : Nat → Nat) (lt : Nat → Option Nat) (tr : Nat → Nat) (sh : Nat → Nat) (cr : Nat → Nat) (ct : Nat → Nat) (cu : Nat → Nat) (ve : Nat → Nat) (ta : Nat → Nat) (ch : Nat) (aT : Nat → Nat) (lt2 : Nat → Option Nat) (tr2 : Nat → Nat) (sh2 : Nat → Nat) (cr2 : Nat → Nat) (ct2 : Nat → Nat) (cu2 : Nat → Nat) (ve2 : Nat → Nat) (ta2 : Nat → Nat) (ch2 : Nat) (lo : Nat → Prop) (fo : Nat → Nat) (si : Nat → Nat) (it : Nat → Nat → Int32) (J : IW n cl th ki va re fi) (S : SW n cl re fi) (B9 : (∀ j, bt j ≤ 255) ∧ bs ≤ 216) (C9 : (∀ j, co j ≤ 400) ∧ (∀ j, fw j ≤ 15)) (H9 : IHd lt tr sh cr ct cu ve ta ch) (U9 : IHd lt2 tr2 sh2 cr2 ct2 cu2 ve2 ta2 ch2) (E9 : (∀ j, fo j ≤ 2) ∧ (∀ j, si j ≤ 60)) (hf9 : lo 0) : CM l D (TY cI cZ cS) yX5_lose cX5_lose 2 (some .int) 1 [.ref (aS 0), .int (nI 0)] ((wS cS aS (aW 0) (aB 0) (aC 0) (aH 0) (aT 0) aE la) ++ ((wW cI aW n cl th ki va re fi) ++ ((wB cI aB bt bs) ++ ((wC cI cZ aC (aW 0) (aB 0) to co ke nu fw) ++ ((wH cI aH (aW 0) lt tr sh cr ct cu ve ta ch) ++ ((wH cI aT (aW 0) lt2 tr2 sh2 cr2 ct2 cu2 ve2 ta2 ch2) ++ (wE cI aE lo fo si it))))))) (some (.int ((-10) - (nI 1)))) ((wS cS aS (aW 0) (aB 0) (aC 0) (aH 0) (aT 0) aE (nI 1)) ++ ((wW cI aW n cl th ki va re fi) ++ ((wB cI aB bt bs) ++ ((wC cI cZ aC (aW 0) (aB 0) to co ke nu fw) ++ ((wH cI aH (aW 0) lt tr sh cr ct cu ve ta ch) ++ ((wH cI aT (aW 0) lt2 tr2 sh2 cr2 ct2 cu2 ve2 ta2 ch2) ++ (wE cI aE lo fo si it))))))) := by
  refine CM.ofI (by decide +kernel) (Nat.le_of_ble_eq_true rfl) (nar_int _) ?_
  intro p e s m args below meth c Q A G K hA w hret ls hl
  obtain ⟨hx, hb, hml, hown, hts⟩ := id G
  obtain ⟨hn, hcl, hth, hki, hva, hre, hfi⟩ := id J
  obtain ⟨hbt, hbs⟩ := id B9
  obtain ⟨hco, hfw⟩ := id C9
  obtain ⟨hlt, htr, hsh, hcr, hct, hcu, hve, hta, hch⟩ := id H9
  obtain ⟨hlt2, htr2, hsh2, hcr2, hct2, hcu2, hve2, hta2, hch2⟩ := id U9
  obtain ⟨hfo, hsi⟩ := id E9
  have hl : lv_has ls 2 [(0, .ref (aS 0)), (1, .int (nI 0))] := hl
  refine lv_iload_n hx hb dX5_lose_0 rfl (lv_at hl 1 rfl) ?_
  refine callPS (rest := []) G K F_X5_isSheet (c_X5_isSheet (nI 0)) (va_P_nil D s.heap) ml_X5_121 (by decide) (by decide) rfl hl.1 (Nat.le_of_ble_eq_true rfl) dX5_lose_1 ?_
  refine b_ne G (tgt := 10) dX5_lose_4 (by decide) (fun c4 => ?_) (fun c4 => ?_)
  · -- taken at 4
    refine lv_aload_n hx hb dX5_lose_10 rfl (lv_at hl 0 rfl) ?_
    refine f_get G K w.1 inX5 0 (ci := 5) rfl rfl 5 rfl fl_X5_46 (v := .ref (aS 1)) rfl dX5_lose_11 ?_
    refine lv_iload_n hx hb dX5_lose_14 rfl (lv_at hl 1 rfl) ?_
    refine a_ldR G K w.1 1 2 (a := (aS 1)) rfl rfl (by omega) (by decide) dX5_lose_15 ?_
    refine f_get G K w.1 inX3 34 (ci := 3) rfl rfl 1 rfl fl_X5_124 (v := .int (bI (lo 0))) rfl dX5_lose_16 ?_
    refine b_eq G (tgt := 28) dX5_lose_19 (by decide) (fun c19 => ?_) (fun c19 => ?_)
    · -- taken at 19
      exact absurd hf9 c19
    · -- not taken at 19
      refine lv_aload_n hx hb dX5_lose_22 rfl (lv_at hl 0 rfl) ?_
      refine lv_iconst (v := (nI 1)) hx hb dX5_lose_23 (by decide) ?_
      refine callMF (As := [.int (nI 1)]) (rest := []) (q0 := 0) (ci := 5) (ws' := ((wS cS aS (aW 0) (aB 0) (aC 0) (aH 0) (aT 0) aE (nI 1)) ++ ((wW cI aW n cl th ki va re fi) ++ ((wB cI aB bt bs) ++ ((wC cI cZ aC (aW 0) (aB 0) to co ke nu fw) ++ ((wH cI aH (aW 0) lt tr sh cr ct cu ve ta ch) ++ ((wH cI aT (aW 0) lt2 tr2 sh2 cr2 ct2 cu2 ve2 ta2 ch2) ++ (wE cI aE lo fo si it)))))))) G K hA w F_X5_find (c_X5_find aS aE la aW n cl th ki va re fi aB bt bs aC to co ke nu fw aH lt tr sh cr ct cu ve ta ch aT lt2 tr2 sh2 cr2 ct2 cu2 ve2 ta2 ch2 lo fo si it 1 J S B9 C9 H9 U9 E9) ml_X5_128 rfl rfl rfl (by decide) (by decide) rfl hl.1 (Nat.le_of_ble_eq_true rfl) dX5_lose_24 (fun Hp1 lo2 w => ?_)
      exact hret _ _ _ _ _ _ rfl rfl w dX5_lose_27
  · -- not taken at 4
    exact absurd ⟨0, by decide, rfl⟩ c4
set_option maxHeartbeats 4000000 in
set_option maxRecDepth 100000 in
theorem c_X5_lose_ok0 (aS : Nat → Nat) (aE : Nat → Nat) (la : Int32) (aW : Nat → Nat) (n : Nat) (cl : Nat) (th : Nat → Nat) (ki : Nat → Nat) (va : Nat → Nat) (re : Nat → Nat) (fi : Nat → Nat) (aB : Nat → Nat) (bt : Nat → Nat) (bs : Nat) (aC : Nat → Nat) (to : Nat → Prop) (co : Nat → Nat) (ke : Nat → Int32) (nu : Nat → Int32) (fw : Nat → Nat) (aH : Nat → Nat) (lt : Nat → Option Nat) (tr : Nat → Nat) (sh : Nat → Nat) (cr : Nat → Nat) (ct : Nat → Nat) (cu : Nat → Nat) (ve : Nat → Nat) (ta : Nat → Nat) (ch : Nat) (aT : Nat → Nat) (lt2 : Nat → Option Nat) (tr2 : Nat → Nat) (sh2 : Nat → Nat) (cr2 : Nat → Nat) (ct2 : Nat → Nat) (cu2 : Nat → Nat) (ve2 : Nat → Nat) (ta2 : Nat → Nat) (ch2 : Nat) (lo : Nat → Prop) (fo : Nat → Nat) (si : Nat → Nat) (it : Nat → Nat → Int32) (J : IW n cl th ki va re fi) (S : SW n cl re fi) (B9 : (∀ j, bt j ≤ 255) ∧ bs ≤ 216) (C9 : (∀ j, co j ≤ 400) ∧ (∀ j, fw j ≤ 15)) (H9 : IHd lt tr sh cr ct cu ve ta ch) (U9 : IHd lt2 tr2 sh2 cr2 ct2 cu2 ve2 ta2 ch2) (E9 : (∀ j, fo j ≤ 2) ∧ (∀ j, si j ≤ 60)) (hf9 : ¬ lo 0) : CM l D (TY cI cZ cS) yX5_lose cX5_lose 2 (some .int) 1 [.ref (aS 0), .int (nI 0)] ((wS cS aS (aW 0) (aB 0) (aC 0) (aH 0) (aT 0) aE la) ++ ((wW cI aW n cl th ki va re fi) ++ ((wB cI aB bt bs) ++ ((wC cI cZ aC (aW 0) (aB 0) to co ke nu fw) ++ ((wH cI aH (aW 0) lt tr sh cr ct cu ve ta ch) ++ ((wH cI aT (aW 0) lt2 tr2 sh2 cr2 ct2 cu2 ve2 ta2 ch2) ++ (wE cI aE lo fo si it))))))) (some (.int (nI (si 0)))) ((wS cS aS (aW 0) (aB 0) (aC 0) (aH 0) (aT 0) aE la) ++ ((wW cI aW n cl th ki va re fi) ++ ((wB cI aB bt bs) ++ ((wC cI cZ aC (aW 0) (aB 0) to co ke nu fw) ++ ((wH cI aH (aW 0) lt tr sh cr ct cu ve ta ch) ++ ((wH cI aT (aW 0) lt2 tr2 sh2 cr2 ct2 cu2 ve2 ta2 ch2) ++ (wE cI aE (va_up lo 0 True) fo si it))))))) := by
  refine CM.ofI (by decide +kernel) (Nat.le_of_ble_eq_true rfl) (nar_int _) ?_
  intro p e s m args below meth c Q A G K hA w hret ls hl
  obtain ⟨hx, hb, hml, hown, hts⟩ := id G
  obtain ⟨hn, hcl, hth, hki, hva, hre, hfi⟩ := id J
  obtain ⟨hbt, hbs⟩ := id B9
  obtain ⟨hco, hfw⟩ := id C9
  obtain ⟨hlt, htr, hsh, hcr, hct, hcu, hve, hta, hch⟩ := id H9
  obtain ⟨hlt2, htr2, hsh2, hcr2, hct2, hcu2, hve2, hta2, hch2⟩ := id U9
  obtain ⟨hfo, hsi⟩ := id E9
  have hl : lv_has ls 2 [(0, .ref (aS 0)), (1, .int (nI 0))] := hl
  refine lv_iload_n hx hb dX5_lose_0 rfl (lv_at hl 1 rfl) ?_
  refine callPS (rest := []) G K F_X5_isSheet (c_X5_isSheet (nI 0)) (va_P_nil D s.heap) ml_X5_121 (by decide) (by decide) rfl hl.1 (Nat.le_of_ble_eq_true rfl) dX5_lose_1 ?_
  refine b_ne G (tgt := 10) dX5_lose_4 (by decide) (fun c4 => ?_) (fun c4 => ?_)
  · -- taken at 4
    refine lv_aload_n hx hb dX5_lose_10 rfl (lv_at hl 0 rfl) ?_
    refine f_get G K w.1 inX5 0 (ci := 5) rfl rfl 5 rfl fl_X5_46 (v := .ref (aS 1)) rfl dX5_lose_11 ?_
    refine lv_iload_n hx hb dX5_lose_14 rfl (lv_at hl 1 rfl) ?_
    refine a_ldR G K w.1 1 2 (a := (aS 1)) rfl rfl (by omega) (by decide) dX5_lose_15 ?_
    refine f_get G K w.1 inX3 34 (ci := 3) rfl rfl 1 rfl fl_X5_124 (v := .int (bI (lo 0))) rfl dX5_lose_16 ?_
    refine b_eq G (tgt := 28) dX5_lose_19 (by decide) (fun c19 => ?_) (fun c19 => ?_)
    · -- taken at 19
      refine lv_aload_n hx hb dX5_lose_28 rfl (lv_at hl 0 rfl) ?_
      refine f_get G K w.1 inX5 0 (ci := 5) rfl rfl 5 rfl fl_X5_46 (v := .ref (aS 1)) rfl dX5_lose_29 ?_
      refine lv_iload_n hx hb dX5_lose_32 rfl (lv_at hl 1 rfl) ?_
      refine a_ldR G K w.1 1 2 (a := (aS 1)) rfl rfl (by omega) (by decide) dX5_lose_33 ?_
      refine lv_iconst (v := (nI 1)) hx hb dX5_lose_34 (by decide) ?_
      refine t_i (y := (bI True)) (b1 trivial) ?_
      refine f_put G K w inX3 tyX3 tyX3_ok nmX3 34 (ci := 3) rfl rfl 1 rfl fl_X5_124 rfl (bI_nar _) (bI_fit _) rfl dX5_lose_35 (w2 := ((wS cS aS (aW 0) (aB 0) (aC 0) (aH 0) (aT 0) aE la) ++ ((wW cI aW n cl th ki va re fi) ++ ((wB cI aB bt bs) ++ ((wC cI cZ aC (aW 0) (aB 0) to co ke nu fw) ++ ((wH cI aH (aW 0) lt tr sh cr ct cu ve ta ch) ++ ((wH cI aT (aW 0) lt2 tr2 sh2 cr2 ct2 cu2 ve2 ta2 ch2) ++ (wE cI aE (va_up lo 0 True) fo si it)))))))) rfl (fun Hp1 lo2 w => ?_)
      refine lv_aload_n hx hb dX5_lose_38 rfl (lv_at hl 0 rfl) ?_
      refine f_get G K w.1 inX5 0 (ci := 5) rfl rfl 5 rfl fl_X5_46 (v := .ref (aS 1)) rfl dX5_lose_39 ?_
      refine lv_iload_n hx hb dX5_lose_42 rfl (lv_at hl 1 rfl) ?_
      refine a_ldR G K w.1 1 2 (a := (aS 1)) rfl rfl (by omega) (by decide) dX5_lose_43 ?_
      refine f_get G K w.1 inX3 34 (ci := 3) rfl rfl 3 rfl fl_X5_131 (v := .int (nI (si 0))) rfl dX5_lose_44 ?_
      exact hret _ _ _ _ _ _ rfl rfl w dX5_lose_47
    · -- not taken at 19
      exact absurd c19 hf9
  · -- not taken at 4
    exact absurd ⟨0, by decide, rfl⟩ c4
set_option maxHeartbeats 4000000 in
set_option maxRecDepth 100000 in
theorem c_X5_lose_nul1 (aS : Nat → Nat) (aE : Nat → Nat) (la : Int32) (aW : Nat → Nat) (n : Nat) (cl : Nat) (th : Nat → Nat) (ki : Nat → Nat) (va : Nat → Nat) (re : Nat → Nat) (fi : Nat → Nat) (aB : Nat → Nat) (bt : Nat → Nat) (bs : Nat) (aC : Nat → Nat) (to : Nat → Prop) (co : Nat → Nat) (ke : Nat → Int32) (nu : Nat → Int32) (fw : Nat → Nat) (aH : Nat → Nat) (lt : Nat → Option Nat) (tr : Nat → Nat) (sh : Nat → Nat) (cr : Nat → Nat) (ct : Nat → Nat) (cu : Nat → Nat) (ve : Nat → Nat) (ta : Nat → Nat) (ch : Nat) (aT : Nat → Nat) (lt2 : Nat → Option Nat) (tr2 : Nat → Nat) (sh2 : Nat → Nat) (cr2 : Nat → Nat) (ct2 : Nat → Nat) (cu2 : Nat → Nat) (ve2 : Nat → Nat) (ta2 : Nat → Nat) (ch2 : Nat) (lo : Nat → Prop) (fo : Nat → Nat) (si : Nat → Nat) (it : Nat → Nat → Int32) (J : IW n cl th ki va re fi) (S : SW n cl re fi) (B9 : (∀ j, bt j ≤ 255) ∧ bs ≤ 216) (C9 : (∀ j, co j ≤ 400) ∧ (∀ j, fw j ≤ 15)) (H9 : IHd lt tr sh cr ct cu ve ta ch) (U9 : IHd lt2 tr2 sh2 cr2 ct2 cu2 ve2 ta2 ch2) (E9 : (∀ j, fo j ≤ 2) ∧ (∀ j, si j ≤ 60)) (hf9 : lo 1) : CM l D (TY cI cZ cS) yX5_lose cX5_lose 2 (some .int) 1 [.ref (aS 0), .int (nI 1)] ((wS cS aS (aW 0) (aB 0) (aC 0) (aH 0) (aT 0) aE la) ++ ((wW cI aW n cl th ki va re fi) ++ ((wB cI aB bt bs) ++ ((wC cI cZ aC (aW 0) (aB 0) to co ke nu fw) ++ ((wH cI aH (aW 0) lt tr sh cr ct cu ve ta ch) ++ ((wH cI aT (aW 0) lt2 tr2 sh2 cr2 ct2 cu2 ve2 ta2 ch2) ++ (wE cI aE lo fo si it))))))) (some (.int ((-10) - (nI 1)))) ((wS cS aS (aW 0) (aB 0) (aC 0) (aH 0) (aT 0) aE (nI 1)) ++ ((wW cI aW n cl th ki va re fi) ++ ((wB cI aB bt bs) ++ ((wC cI cZ aC (aW 0) (aB 0) to co ke nu fw) ++ ((wH cI aH (aW 0) lt tr sh cr ct cu ve ta ch) ++ ((wH cI aT (aW 0) lt2 tr2 sh2 cr2 ct2 cu2 ve2 ta2 ch2) ++ (wE cI aE lo fo si it))))))) := by
  refine CM.ofI (by decide +kernel) (Nat.le_of_ble_eq_true rfl) (nar_int _) ?_
  intro p e s m args below meth c Q A G K hA w hret ls hl
  obtain ⟨hx, hb, hml, hown, hts⟩ := id G
  obtain ⟨hn, hcl, hth, hki, hva, hre, hfi⟩ := id J
  obtain ⟨hbt, hbs⟩ := id B9
  obtain ⟨hco, hfw⟩ := id C9
  obtain ⟨hlt, htr, hsh, hcr, hct, hcu, hve, hta, hch⟩ := id H9
  obtain ⟨hlt2, htr2, hsh2, hcr2, hct2, hcu2, hve2, hta2, hch2⟩ := id U9
  obtain ⟨hfo, hsi⟩ := id E9
  have hl : lv_has ls 2 [(0, .ref (aS 0)), (1, .int (nI 1))] := hl
  refine lv_iload_n hx hb dX5_lose_0 rfl (lv_at hl 1 rfl) ?_
  refine callPS (rest := []) G K F_X5_isSheet (c_X5_isSheet (nI 1)) (va_P_nil D s.heap) ml_X5_121 (by decide) (by decide) rfl hl.1 (Nat.le_of_ble_eq_true rfl) dX5_lose_1 ?_
  refine b_ne G (tgt := 10) dX5_lose_4 (by decide) (fun c4 => ?_) (fun c4 => ?_)
  · -- taken at 4
    refine lv_aload_n hx hb dX5_lose_10 rfl (lv_at hl 0 rfl) ?_
    refine f_get G K w.1 inX5 0 (ci := 5) rfl rfl 5 rfl fl_X5_46 (v := .ref (aS 1)) rfl dX5_lose_11 ?_
    refine lv_iload_n hx hb dX5_lose_14 rfl (lv_at hl 1 rfl) ?_
    refine a_ldR G K w.1 1 2 (a := (aS 1)) rfl rfl (by omega) (by decide) dX5_lose_15 ?_
    refine f_get G K w.1 inX3 35 (ci := 3) rfl rfl 1 rfl fl_X5_124 (v := .int (bI (lo 1))) rfl dX5_lose_16 ?_
    refine b_eq G (tgt := 28) dX5_lose_19 (by decide) (fun c19 => ?_) (fun c19 => ?_)
    · -- taken at 19
      exact absurd hf9 c19
    · -- not taken at 19
      refine lv_aload_n hx hb dX5_lose_22 rfl (lv_at hl 0 rfl) ?_
      refine lv_iconst (v := (nI 1)) hx hb dX5_lose_23 (by decide) ?_
      refine callMF (As := [.int (nI 1)]) (rest := []) (q0 := 0) (ci := 5) (ws' := ((wS cS aS (aW 0) (aB 0) (aC 0) (aH 0) (aT 0) aE (nI 1)) ++ ((wW cI aW n cl th ki va re fi) ++ ((wB cI aB bt bs) ++ ((wC cI cZ aC (aW 0) (aB 0) to co ke nu fw) ++ ((wH cI aH (aW 0) lt tr sh cr ct cu ve ta ch) ++ ((wH cI aT (aW 0) lt2 tr2 sh2 cr2 ct2 cu2 ve2 ta2 ch2) ++ (wE cI aE lo fo si it)))))))) G K hA w F_X5_find (c_X5_find aS aE la aW n cl th ki va re fi aB bt bs aC to co ke nu fw aH lt tr sh cr ct cu ve ta ch aT lt2 tr2 sh2 cr2 ct2 cu2 ve2 ta2 ch2 lo fo si it 1 J S B9 C9 H9 U9 E9) ml_X5_128 rfl rfl rfl (by decide) (by decide) rfl hl.1 (Nat.le_of_ble_eq_true rfl) dX5_lose_24 (fun Hp1 lo2 w => ?_)
      exact hret _ _ _ _ _ _ rfl rfl w dX5_lose_27
  · -- not taken at 4
    exact absurd ⟨1, by decide, rfl⟩ c4
set_option maxHeartbeats 4000000 in
set_option maxRecDepth 100000 in
theorem c_X5_lose_ok1 (aS : Nat → Nat) (aE : Nat → Nat) (la : Int32) (aW : Nat → Nat) (n : Nat) (cl : Nat) (th : Nat → Nat) (ki : Nat → Nat) (va : Nat → Nat) (re : Nat → Nat) (fi : Nat → Nat) (aB : Nat → Nat) (bt : Nat → Nat) (bs : Nat) (aC : Nat → Nat) (to : Nat → Prop) (co : Nat → Nat) (ke : Nat → Int32) (nu : Nat → Int32) (fw : Nat → Nat) (aH : Nat → Nat) (lt : Nat → Option Nat) (tr : Nat → Nat) (sh : Nat → Nat) (cr : Nat → Nat) (ct : Nat → Nat) (cu : Nat → Nat) (ve : Nat → Nat) (ta : Nat → Nat) (ch : Nat) (aT : Nat → Nat) (lt2 : Nat → Option Nat) (tr2 : Nat → Nat) (sh2 : Nat → Nat) (cr2 : Nat → Nat) (ct2 : Nat → Nat) (cu2 : Nat → Nat) (ve2 : Nat → Nat) (ta2 : Nat → Nat) (ch2 : Nat) (lo : Nat → Prop) (fo : Nat → Nat) (si : Nat → Nat) (it : Nat → Nat → Int32) (J : IW n cl th ki va re fi) (S : SW n cl re fi) (B9 : (∀ j, bt j ≤ 255) ∧ bs ≤ 216) (C9 : (∀ j, co j ≤ 400) ∧ (∀ j, fw j ≤ 15)) (H9 : IHd lt tr sh cr ct cu ve ta ch) (U9 : IHd lt2 tr2 sh2 cr2 ct2 cu2 ve2 ta2 ch2) (E9 : (∀ j, fo j ≤ 2) ∧ (∀ j, si j ≤ 60)) (hf9 : ¬ lo 1) : CM l D (TY cI cZ cS) yX5_lose cX5_lose 2 (some .int) 1 [.ref (aS 0), .int (nI 1)] ((wS cS aS (aW 0) (aB 0) (aC 0) (aH 0) (aT 0) aE la) ++ ((wW cI aW n cl th ki va re fi) ++ ((wB cI aB bt bs) ++ ((wC cI cZ aC (aW 0) (aB 0) to co ke nu fw) ++ ((wH cI aH (aW 0) lt tr sh cr ct cu ve ta ch) ++ ((wH cI aT (aW 0) lt2 tr2 sh2 cr2 ct2 cu2 ve2 ta2 ch2) ++ (wE cI aE lo fo si it))))))) (some (.int (nI (si 1)))) ((wS cS aS (aW 0) (aB 0) (aC 0) (aH 0) (aT 0) aE la) ++ ((wW cI aW n cl th ki va re fi) ++ ((wB cI aB bt bs) ++ ((wC cI cZ aC (aW 0) (aB 0) to co ke nu fw) ++ ((wH cI aH (aW 0) lt tr sh cr ct cu ve ta ch) ++ ((wH cI aT (aW 0) lt2 tr2 sh2 cr2 ct2 cu2 ve2 ta2 ch2) ++ (wE cI aE (va_up lo 1 True) fo si it))))))) := by
  refine CM.ofI (by decide +kernel) (Nat.le_of_ble_eq_true rfl) (nar_int _) ?_
  intro p e s m args below meth c Q A G K hA w hret ls hl
  obtain ⟨hx, hb, hml, hown, hts⟩ := id G
  obtain ⟨hn, hcl, hth, hki, hva, hre, hfi⟩ := id J
  obtain ⟨hbt, hbs⟩ := id B9
  obtain ⟨hco, hfw⟩ := id C9
  obtain ⟨hlt, htr, hsh, hcr, hct, hcu, hve, hta, hch⟩ := id H9
  obtain ⟨hlt2, htr2, hsh2, hcr2, hct2, hcu2, hve2, hta2, hch2⟩ := id U9
  obtain ⟨hfo, hsi⟩ := id E9
  have hl : lv_has ls 2 [(0, .ref (aS 0)), (1, .int (nI 1))] := hl
  refine lv_iload_n hx hb dX5_lose_0 rfl (lv_at hl 1 rfl) ?_
  refine callPS (rest := []) G K F_X5_isSheet (c_X5_isSheet (nI 1)) (va_P_nil D s.heap) ml_X5_121 (by decide) (by decide) rfl hl.1 (Nat.le_of_ble_eq_true rfl) dX5_lose_1 ?_
  refine b_ne G (tgt := 10) dX5_lose_4 (by decide) (fun c4 => ?_) (fun c4 => ?_)
  · -- taken at 4
    refine lv_aload_n hx hb dX5_lose_10 rfl (lv_at hl 0 rfl) ?_
    refine f_get G K w.1 inX5 0 (ci := 5) rfl rfl 5 rfl fl_X5_46 (v := .ref (aS 1)) rfl dX5_lose_11 ?_
    refine lv_iload_n hx hb dX5_lose_14 rfl (lv_at hl 1 rfl) ?_
    refine a_ldR G K w.1 1 2 (a := (aS 1)) rfl rfl (by omega) (by decide) dX5_lose_15 ?_
    refine f_get G K w.1 inX3 35 (ci := 3) rfl rfl 1 rfl fl_X5_124 (v := .int (bI (lo 1))) rfl dX5_lose_16 ?_
    refine b_eq G (tgt := 28) dX5_lose_19 (by decide) (fun c19 => ?_) (fun c19 => ?_)
    · -- taken at 19
      refine lv_aload_n hx hb dX5_lose_28 rfl (lv_at hl 0 rfl) ?_
      refine f_get G K w.1 inX5 0 (ci := 5) rfl rfl 5 rfl fl_X5_46 (v := .ref (aS 1)) rfl dX5_lose_29 ?_
      refine lv_iload_n hx hb dX5_lose_32 rfl (lv_at hl 1 rfl) ?_
      refine a_ldR G K w.1 1 2 (a := (aS 1)) rfl rfl (by omega) (by decide) dX5_lose_33 ?_
      refine lv_iconst (v := (nI 1)) hx hb dX5_lose_34 (by decide) ?_
      refine t_i (y := (bI True)) (b1 trivial) ?_
      refine f_put G K w inX3 tyX3 tyX3_ok nmX3 35 (ci := 3) rfl rfl 1 rfl fl_X5_124 rfl (bI_nar _) (bI_fit _) rfl dX5_lose_35 (w2 := ((wS cS aS (aW 0) (aB 0) (aC 0) (aH 0) (aT 0) aE la) ++ ((wW cI aW n cl th ki va re fi) ++ ((wB cI aB bt bs) ++ ((wC cI cZ aC (aW 0) (aB 0) to co ke nu fw) ++ ((wH cI aH (aW 0) lt tr sh cr ct cu ve ta ch) ++ ((wH cI aT (aW 0) lt2 tr2 sh2 cr2 ct2 cu2 ve2 ta2 ch2) ++ (wE cI aE (va_up lo 1 True) fo si it)))))))) rfl (fun Hp1 lo2 w => ?_)
      refine lv_aload_n hx hb dX5_lose_38 rfl (lv_at hl 0 rfl) ?_
      refine f_get G K w.1 inX5 0 (ci := 5) rfl rfl 5 rfl fl_X5_46 (v := .ref (aS 1)) rfl dX5_lose_39 ?_
      refine lv_iload_n hx hb dX5_lose_42 rfl (lv_at hl 1 rfl) ?_
      refine a_ldR G K w.1 1 2 (a := (aS 1)) rfl rfl (by omega) (by decide) dX5_lose_43 ?_
      refine f_get G K w.1 inX3 35 (ci := 3) rfl rfl 3 rfl fl_X5_131 (v := .int (nI (si 1))) rfl dX5_lose_44 ?_
      exact hret _ _ _ _ _ _ rfl rfl w dX5_lose_47
    · -- not taken at 19
      exact absurd c19 hf9
  · -- not taken at 4
    exact absurd ⟨1, by decide, rfl⟩ c4
set_option maxHeartbeats 4000000 in
set_option maxRecDepth 100000 in
theorem c_X5_lose_nul2 (aS : Nat → Nat) (aE : Nat → Nat) (la : Int32) (aW : Nat → Nat) (n : Nat) (cl : Nat) (th : Nat → Nat) (ki : Nat → Nat) (va : Nat → Nat) (re : Nat → Nat) (fi : Nat → Nat) (aB : Nat → Nat) (bt : Nat → Nat) (bs : Nat) (aC : Nat → Nat) (to : Nat → Prop) (co : Nat → Nat) (ke : Nat → Int32) (nu : Nat → Int32) (fw : Nat → Nat) (aH : Nat → Nat) (lt : Nat → Option Nat) (tr : Nat → Nat) (sh : Nat → Nat) (cr : Nat → Nat) (ct : Nat → Nat) (cu : Nat → Nat) (ve : Nat → Nat) (ta : Nat → Nat) (ch : Nat) (aT : Nat → Nat) (lt2 : Nat → Option Nat) (tr2 : Nat → Nat) (sh2 : Nat → Nat) (cr2 : Nat → Nat) (ct2 : Nat → Nat) (cu2 : Nat → Nat) (ve2 : Nat → Nat) (ta2 : Nat → Nat) (ch2 : Nat) (lo : Nat → Prop) (fo : Nat → Nat) (si : Nat → Nat) (it : Nat → Nat → Int32) (J : IW n cl th ki va re fi) (S : SW n cl re fi) (B9 : (∀ j, bt j ≤ 255) ∧ bs ≤ 216) (C9 : (∀ j, co j ≤ 400) ∧ (∀ j, fw j ≤ 15)) (H9 : IHd lt tr sh cr ct cu ve ta ch) (U9 : IHd lt2 tr2 sh2 cr2 ct2 cu2 ve2 ta2 ch2) (E9 : (∀ j, fo j ≤ 2) ∧ (∀ j, si j ≤ 60)) (hf9 : lo 2) : CM l D (TY cI cZ cS) yX5_lose cX5_lose 2 (some .int) 1 [.ref (aS 0), .int (nI 2)] ((wS cS aS (aW 0) (aB 0) (aC 0) (aH 0) (aT 0) aE la) ++ ((wW cI aW n cl th ki va re fi) ++ ((wB cI aB bt bs) ++ ((wC cI cZ aC (aW 0) (aB 0) to co ke nu fw) ++ ((wH cI aH (aW 0) lt tr sh cr ct cu ve ta ch) ++ ((wH cI aT (aW 0) lt2 tr2 sh2 cr2 ct2 cu2 ve2 ta2 ch2) ++ (wE cI aE lo fo si it))))))) (some (.int ((-10) - (nI 1)))) ((wS cS aS (aW 0) (aB 0) (aC 0) (aH 0) (aT 0) aE (nI 1)) ++ ((wW cI aW n cl th ki va re fi) ++ ((wB cI aB bt bs) ++ ((wC cI cZ aC (aW 0) (aB 0) to co ke nu fw) ++ ((wH cI aH (aW 0) lt tr sh cr ct cu ve ta ch) ++ ((wH cI aT (aW 0) lt2 tr2 sh2 cr2 ct2 cu2 ve2 ta2 ch2) ++ (wE cI aE lo fo si it))))))) := by
  refine CM.ofI (by decide +kernel) (Nat.le_of_ble_eq_true rfl) (nar_int _) ?_
  intro p e s m args below meth c Q A G K hA w hret ls hl
  obtain ⟨hx, hb, hml, hown, hts⟩ := id G
  obtain ⟨hn, hcl, hth, hki, hva, hre, hfi⟩ := id J
  obtain ⟨hbt, hbs⟩ := id B9
  obtain ⟨hco, hfw⟩ := id C9
  obtain ⟨hlt, htr, hsh, hcr, hct, hcu, hve, hta, hch⟩ := id H9
  obtain ⟨hlt2, htr2, hsh2, hcr2, hct2, hcu2, hve2, hta2, hch2⟩ := id U9
  obtain ⟨hfo, hsi⟩ := id E9
  have hl : lv_has ls 2 [(0, .ref (aS 0)), (1, .int (nI 2))] := hl
  refine lv_iload_n hx hb dX5_lose_0 rfl (lv_at hl 1 rfl) ?_
  refine callPS (rest := []) G K F_X5_isSheet (c_X5_isSheet (nI 2)) (va_P_nil D s.heap) ml_X5_121 (by decide) (by decide) rfl hl.1 (Nat.le_of_ble_eq_true rfl) dX5_lose_1 ?_
  refine b_ne G (tgt := 10) dX5_lose_4 (by decide) (fun c4 => ?_) (fun c4 => ?_)
  · -- taken at 4
    refine lv_aload_n hx hb dX5_lose_10 rfl (lv_at hl 0 rfl) ?_
    refine f_get G K w.1 inX5 0 (ci := 5) rfl rfl 5 rfl fl_X5_46 (v := .ref (aS 1)) rfl dX5_lose_11 ?_
    refine lv_iload_n hx hb dX5_lose_14 rfl (lv_at hl 1 rfl) ?_
    refine a_ldR G K w.1 1 2 (a := (aS 1)) rfl rfl (by omega) (by decide) dX5_lose_15 ?_
    refine f_get G K w.1 inX3 36 (ci := 3) rfl rfl 1 rfl fl_X5_124 (v := .int (bI (lo 2))) rfl dX5_lose_16 ?_
    refine b_eq G (tgt := 28) dX5_lose_19 (by decide) (fun c19 => ?_) (fun c19 => ?_)
    · -- taken at 19
      exact absurd hf9 c19
    · -- not taken at 19
      refine lv_aload_n hx hb dX5_lose_22 rfl (lv_at hl 0 rfl) ?_
      refine lv_iconst (v := (nI 1)) hx hb dX5_lose_23 (by decide) ?_
      refine callMF (As := [.int (nI 1)]) (rest := []) (q0 := 0) (ci := 5) (ws' := ((wS cS aS (aW 0) (aB 0) (aC 0) (aH 0) (aT 0) aE (nI 1)) ++ ((wW cI aW n cl th ki va re fi) ++ ((wB cI aB bt bs) ++ ((wC cI cZ aC (aW 0) (aB 0) to co ke nu fw) ++ ((wH cI aH (aW 0) lt tr sh cr ct cu ve ta ch) ++ ((wH cI aT (aW 0) lt2 tr2 sh2 cr2 ct2 cu2 ve2 ta2 ch2) ++ (wE cI aE lo fo si it)))))))) G K hA w F_X5_find (c_X5_find aS aE la aW n cl th ki va re fi aB bt bs aC to co ke nu fw aH lt tr sh cr ct cu ve ta ch aT lt2 tr2 sh2 cr2 ct2 cu2 ve2 ta2 ch2 lo fo si it 1 J S B9 C9 H9 U9 E9) ml_X5_128 rfl rfl rfl (by decide) (by decide) rfl hl.1 (Nat.le_of_ble_eq_true rfl) dX5_lose_24 (fun Hp1 lo2 w => ?_)
      exact hret _ _ _ _ _ _ rfl rfl w dX5_lose_27
  · -- not taken at 4
    exact absurd ⟨2, by decide, rfl⟩ c4
set_option maxHeartbeats 4000000 in
set_option maxRecDepth 100000 in
theorem c_X5_lose_ok2 (aS : Nat → Nat) (aE : Nat → Nat) (la : Int32) (aW : Nat → Nat) (n : Nat) (cl : Nat) (th : Nat → Nat) (ki : Nat → Nat) (va : Nat → Nat) (re : Nat → Nat) (fi : Nat → Nat) (aB : Nat → Nat) (bt : Nat → Nat) (bs : Nat) (aC : Nat → Nat) (to : Nat → Prop) (co : Nat → Nat) (ke : Nat → Int32) (nu : Nat → Int32) (fw : Nat → Nat) (aH : Nat → Nat) (lt : Nat → Option Nat) (tr : Nat → Nat) (sh : Nat → Nat) (cr : Nat → Nat) (ct : Nat → Nat) (cu : Nat → Nat) (ve : Nat → Nat) (ta : Nat → Nat) (ch : Nat) (aT : Nat → Nat) (lt2 : Nat → Option Nat) (tr2 : Nat → Nat) (sh2 : Nat → Nat) (cr2 : Nat → Nat) (ct2 : Nat → Nat) (cu2 : Nat → Nat) (ve2 : Nat → Nat) (ta2 : Nat → Nat) (ch2 : Nat) (lo : Nat → Prop) (fo : Nat → Nat) (si : Nat → Nat) (it : Nat → Nat → Int32) (J : IW n cl th ki va re fi) (S : SW n cl re fi) (B9 : (∀ j, bt j ≤ 255) ∧ bs ≤ 216) (C9 : (∀ j, co j ≤ 400) ∧ (∀ j, fw j ≤ 15)) (H9 : IHd lt tr sh cr ct cu ve ta ch) (U9 : IHd lt2 tr2 sh2 cr2 ct2 cu2 ve2 ta2 ch2) (E9 : (∀ j, fo j ≤ 2) ∧ (∀ j, si j ≤ 60)) (hf9 : ¬ lo 2) : CM l D (TY cI cZ cS) yX5_lose cX5_lose 2 (some .int) 1 [.ref (aS 0), .int (nI 2)] ((wS cS aS (aW 0) (aB 0) (aC 0) (aH 0) (aT 0) aE la) ++ ((wW cI aW n cl th ki va re fi) ++ ((wB cI aB bt bs) ++ ((wC cI cZ aC (aW 0) (aB 0) to co ke nu fw) ++ ((wH cI aH (aW 0) lt tr sh cr ct cu ve ta ch) ++ ((wH cI aT (aW 0) lt2 tr2 sh2 cr2 ct2 cu2 ve2 ta2 ch2) ++ (wE cI aE lo fo si it))))))) (some (.int (nI (si 2)))) ((wS cS aS (aW 0) (aB 0) (aC 0) (aH 0) (aT 0) aE la) ++ ((wW cI aW n cl th ki va re fi) ++ ((wB cI aB bt bs) ++ ((wC cI cZ aC (aW 0) (aB 0) to co ke nu fw) ++ ((wH cI aH (aW 0) lt tr sh cr ct cu ve ta ch) ++ ((wH cI aT (aW 0) lt2 tr2 sh2 cr2 ct2 cu2 ve2 ta2 ch2) ++ (wE cI aE (va_up lo 2 True) fo si it))))))) := by
  refine CM.ofI (by decide +kernel) (Nat.le_of_ble_eq_true rfl) (nar_int _) ?_
  intro p e s m args below meth c Q A G K hA w hret ls hl
  obtain ⟨hx, hb, hml, hown, hts⟩ := id G
  obtain ⟨hn, hcl, hth, hki, hva, hre, hfi⟩ := id J
  obtain ⟨hbt, hbs⟩ := id B9
  obtain ⟨hco, hfw⟩ := id C9
  obtain ⟨hlt, htr, hsh, hcr, hct, hcu, hve, hta, hch⟩ := id H9
  obtain ⟨hlt2, htr2, hsh2, hcr2, hct2, hcu2, hve2, hta2, hch2⟩ := id U9
  obtain ⟨hfo, hsi⟩ := id E9
  have hl : lv_has ls 2 [(0, .ref (aS 0)), (1, .int (nI 2))] := hl
  refine lv_iload_n hx hb dX5_lose_0 rfl (lv_at hl 1 rfl) ?_
  refine callPS (rest := []) G K F_X5_isSheet (c_X5_isSheet (nI 2)) (va_P_nil D s.heap) ml_X5_121 (by decide) (by decide) rfl hl.1 (Nat.le_of_ble_eq_true rfl) dX5_lose_1 ?_
  refine b_ne G (tgt := 10) dX5_lose_4 (by decide) (fun c4 => ?_) (fun c4 => ?_)
  · -- taken at 4
    refine lv_aload_n hx hb dX5_lose_10 rfl (lv_at hl 0 rfl) ?_
    refine f_get G K w.1 inX5 0 (ci := 5) rfl rfl 5 rfl fl_X5_46 (v := .ref (aS 1)) rfl dX5_lose_11 ?_
    refine lv_iload_n hx hb dX5_lose_14 rfl (lv_at hl 1 rfl) ?_
    refine a_ldR G K w.1 1 2 (a := (aS 1)) rfl rfl (by omega) (by decide) dX5_lose_15 ?_
    refine f_get G K w.1 inX3 36 (ci := 3) rfl rfl 1 rfl fl_X5_124 (v := .int (bI (lo 2))) rfl dX5_lose_16 ?_
    refine b_eq G (tgt := 28) dX5_lose_19 (by decide) (fun c19 => ?_) (fun c19 => ?_)
    · -- taken at 19
      refine lv_aload_n hx hb dX5_lose_28 rfl (lv_at hl 0 rfl) ?_
      refine f_get G K w.1 inX5 0 (ci := 5) rfl rfl 5 rfl fl_X5_46 (v := .ref (aS 1)) rfl dX5_lose_29 ?_
      refine lv_iload_n hx hb dX5_lose_32 rfl (lv_at hl 1 rfl) ?_
      refine a_ldR G K w.1 1 2 (a := (aS 1)) rfl rfl (by omega) (by decide) dX5_lose_33 ?_
      refine lv_iconst (v := (nI 1)) hx hb dX5_lose_34 (by decide) ?_
      refine t_i (y := (bI True)) (b1 trivial) ?_
      refine f_put G K w inX3 tyX3 tyX3_ok nmX3 36 (ci := 3) rfl rfl 1 rfl fl_X5_124 rfl (bI_nar _) (bI_fit _) rfl dX5_lose_35 (w2 := ((wS cS aS (aW 0) (aB 0) (aC 0) (aH 0) (aT 0) aE la) ++ ((wW cI aW n cl th ki va re fi) ++ ((wB cI aB bt bs) ++ ((wC cI cZ aC (aW 0) (aB 0) to co ke nu fw) ++ ((wH cI aH (aW 0) lt tr sh cr ct cu ve ta ch) ++ ((wH cI aT (aW 0) lt2 tr2 sh2 cr2 ct2 cu2 ve2 ta2 ch2) ++ (wE cI aE (va_up lo 2 True) fo si it)))))))) rfl (fun Hp1 lo2 w => ?_)
      refine lv_aload_n hx hb dX5_lose_38 rfl (lv_at hl 0 rfl) ?_
      refine f_get G K w.1 inX5 0 (ci := 5) rfl rfl 5 rfl fl_X5_46 (v := .ref (aS 1)) rfl dX5_lose_39 ?_
      refine lv_iload_n hx hb dX5_lose_42 rfl (lv_at hl 1 rfl) ?_
      refine a_ldR G K w.1 1 2 (a := (aS 1)) rfl rfl (by omega) (by decide) dX5_lose_43 ?_
      refine f_get G K w.1 inX3 36 (ci := 3) rfl rfl 3 rfl fl_X5_131 (v := .int (nI (si 2))) rfl dX5_lose_44 ?_
      exact hret _ _ _ _ _ _ rfl rfl w dX5_lose_47
    · -- not taken at 19
      exact absurd c19 hf9
  · -- not taken at 4
    exact absurd ⟨2, by decide, rfl⟩ c4
set_option maxHeartbeats 4000000 in
set_option maxRecDepth 100000 in
theorem c_X5_lose_nul3 (aS : Nat → Nat) (aE : Nat → Nat) (la : Int32) (aW : Nat → Nat) (n : Nat) (cl : Nat) (th : Nat → Nat) (ki : Nat → Nat) (va : Nat → Nat) (re : Nat → Nat) (fi : Nat → Nat) (aB : Nat → Nat) (bt : Nat → Nat) (bs : Nat) (aC : Nat → Nat) (to : Nat → Prop) (co : Nat → Nat) (ke : Nat → Int32) (nu : Nat → Int32) (fw : Nat → Nat) (aH : Nat → Nat) (lt : Nat → Option Nat) (tr : Nat → Nat) (sh : Nat → Nat) (cr : Nat → Nat) (ct : Nat → Nat) (cu : Nat → Nat) (ve : Nat → Nat) (ta : Nat → Nat) (ch : Nat) (aT : Nat → Nat) (lt2 : Nat → Option Nat) (tr2 : Nat → Nat) (sh2 : Nat → Nat) (cr2 : Nat → Nat) (ct2 : Nat → Nat) (cu2 : Nat → Nat) (ve2 : Nat → Nat) (ta2 : Nat → Nat) (ch2 : Nat) (lo : Nat → Prop) (fo : Nat → Nat) (si : Nat → Nat) (it : Nat → Nat → Int32) (J : IW n cl th ki va re fi) (S : SW n cl re fi) (B9 : (∀ j, bt j ≤ 255) ∧ bs ≤ 216) (C9 : (∀ j, co j ≤ 400) ∧ (∀ j, fw j ≤ 15)) (H9 : IHd lt tr sh cr ct cu ve ta ch) (U9 : IHd lt2 tr2 sh2 cr2 ct2 cu2 ve2 ta2 ch2) (E9 : (∀ j, fo j ≤ 2) ∧ (∀ j, si j ≤ 60)) (hf9 : lo 3) : CM l D (TY cI cZ cS) yX5_lose cX5_lose 2 (some .int) 1 [.ref (aS 0), .int (nI 3)] ((wS cS aS (aW 0) (aB 0) (aC 0) (aH 0) (aT 0) aE la) ++ ((wW cI aW n cl th ki va re fi) ++ ((wB cI aB bt bs) ++ ((wC cI cZ aC (aW 0) (aB 0) to co ke nu fw) ++ ((wH cI aH (aW 0) lt tr sh cr ct cu ve ta ch) ++ ((wH cI aT (aW 0) lt2 tr2 sh2 cr2 ct2 cu2 ve2 ta2 ch2) ++ (wE cI aE lo fo si it))))))) (some (.int ((-10) - (nI 1)))) ((wS cS aS (aW 0) (aB 0) (aC 0) (aH 0) (aT 0) aE (nI 1)) ++ ((wW cI aW n cl th ki va re fi) ++ ((wB cI aB bt bs) ++ ((wC cI cZ aC (aW 0) (aB 0) to co ke nu fw) ++ ((wH cI aH (aW 0) lt tr sh cr ct cu ve ta ch) ++ ((wH cI aT (aW 0) lt2 tr2 sh2 cr2 ct2 cu2 ve2 ta2 ch2) ++ (wE cI aE lo fo si it))))))) := by
  refine CM.ofI (by decide +kernel) (Nat.le_of_ble_eq_true rfl) (nar_int _) ?_
  intro p e s m args below meth c Q A G K hA w hret ls hl
  obtain ⟨hx, hb, hml, hown, hts⟩ := id G
  obtain ⟨hn, hcl, hth, hki, hva, hre, hfi⟩ := id J
  obtain ⟨hbt, hbs⟩ := id B9
  obtain ⟨hco, hfw⟩ := id C9
  obtain ⟨hlt, htr, hsh, hcr, hct, hcu, hve, hta, hch⟩ := id H9
  obtain ⟨hlt2, htr2, hsh2, hcr2, hct2, hcu2, hve2, hta2, hch2⟩ := id U9
  obtain ⟨hfo, hsi⟩ := id E9
  have hl : lv_has ls 2 [(0, .ref (aS 0)), (1, .int (nI 3))] := hl
  refine lv_iload_n hx hb dX5_lose_0 rfl (lv_at hl 1 rfl) ?_
  refine callPS (rest := []) G K F_X5_isSheet (c_X5_isSheet (nI 3)) (va_P_nil D s.heap) ml_X5_121 (by decide) (by decide) rfl hl.1 (Nat.le_of_ble_eq_true rfl) dX5_lose_1 ?_
  refine b_ne G (tgt := 10) dX5_lose_4 (by decide) (fun c4 => ?_) (fun c4 => ?_)
  · -- taken at 4
    refine lv_aload_n hx hb dX5_lose_10 rfl (lv_at hl 0 rfl) ?_
    refine f_get G K w.1 inX5 0 (ci := 5) rfl rfl 5 rfl fl_X5_46 (v := .ref (aS 1)) rfl dX5_lose_11 ?_
    refine lv_iload_n hx hb dX5_lose_14 rfl (lv_at hl 1 rfl) ?_
    refine a_ldR G K w.1 1 2 (a := (aS 1)) rfl rfl (by omega) (by decide) dX5_lose_15 ?_
    refine f_get G K w.1 inX3 37 (ci := 3) rfl rfl 1 rfl fl_X5_124 (v := .int (bI (lo 3))) rfl dX5_lose_16 ?_
    refine b_eq G (tgt := 28) dX5_lose_19 (by decide) (fun c19 => ?_) (fun c19 => ?_)
    · -- taken at 19
      exact absurd hf9 c19
    · -- not taken at 19
      refine lv_aload_n hx hb dX5_lose_22 rfl (lv_at hl 0 rfl) ?_
      refine lv_iconst (v := (nI 1)) hx hb dX5_lose_23 (by decide) ?_
      refine callMF (As := [.int (nI 1)]) (rest := []) (q0 := 0) (ci := 5) (ws' := ((wS cS aS (aW 0) (aB 0) (aC 0) (aH 0) (aT 0) aE (nI 1)) ++ ((wW cI aW n cl th ki va re fi) ++ ((wB cI aB bt bs) ++ ((wC cI cZ aC (aW 0) (aB 0) to co ke nu fw) ++ ((wH cI aH (aW 0) lt tr sh cr ct cu ve ta ch) ++ ((wH cI aT (aW 0) lt2 tr2 sh2 cr2 ct2 cu2 ve2 ta2 ch2) ++ (wE cI aE lo fo si it)))))))) G K hA w F_X5_find (c_X5_find aS aE la aW n cl th ki va re fi aB bt bs aC to co ke nu fw aH lt tr sh cr ct cu ve ta ch aT lt2 tr2 sh2 cr2 ct2 cu2 ve2 ta2 ch2 lo fo si it 1 J S B9 C9 H9 U9 E9) ml_X5_128 rfl rfl rfl (by decide) (by decide) rfl hl.1 (Nat.le_of_ble_eq_true rfl) dX5_lose_24 (fun Hp1 lo2 w => ?_)
      exact hret _ _ _ _ _ _ rfl rfl w dX5_lose_27
  · -- not taken at 4
    exact absurd ⟨3, by decide, rfl⟩ c4
set_option maxHeartbeats 4000000 in
set_option maxRecDepth 100000 in
theorem c_X5_lose_ok3 (aS : Nat → Nat) (aE : Nat → Nat) (la : Int32) (aW : Nat → Nat) (n : Nat) (cl : Nat) (th : Nat → Nat) (ki : Nat → Nat) (va : Nat → Nat) (re : Nat → Nat) (fi : Nat → Nat) (aB : Nat → Nat) (bt : Nat → Nat) (bs : Nat) (aC : Nat → Nat) (to : Nat → Prop) (co : Nat → Nat) (ke : Nat → Int32) (nu : Nat → Int32) (fw : Nat → Nat) (aH : Nat → Nat) (lt : Nat → Option Nat) (tr : Nat → Nat) (sh : Nat → Nat) (cr : Nat → Nat) (ct : Nat → Nat) (cu : Nat → Nat) (ve : Nat → Nat) (ta : Nat → Nat) (ch : Nat) (aT : Nat → Nat) (lt2 : Nat → Option Nat) (tr2 : Nat → Nat) (sh2 : Nat → Nat) (cr2 : Nat → Nat) (ct2 : Nat → Nat) (cu2 : Nat → Nat) (ve2 : Nat → Nat) (ta2 : Nat → Nat) (ch2 : Nat) (lo : Nat → Prop) (fo : Nat → Nat) (si : Nat → Nat) (it : Nat → Nat → Int32) (J : IW n cl th ki va re fi) (S : SW n cl re fi) (B9 : (∀ j, bt j ≤ 255) ∧ bs ≤ 216) (C9 : (∀ j, co j ≤ 400) ∧ (∀ j, fw j ≤ 15)) (H9 : IHd lt tr sh cr ct cu ve ta ch) (U9 : IHd lt2 tr2 sh2 cr2 ct2 cu2 ve2 ta2 ch2) (E9 : (∀ j, fo j ≤ 2) ∧ (∀ j, si j ≤ 60)) (hf9 : ¬ lo 3) : CM l D (TY cI cZ cS) yX5_lose cX5_lose 2 (some .int) 1 [.ref (aS 0), .int (nI 3)] ((wS cS aS (aW 0) (aB 0) (aC 0) (aH 0) (aT 0) aE la) ++ ((wW cI aW n cl th ki va re fi) ++ ((wB cI aB bt bs) ++ ((wC cI cZ aC (aW 0) (aB 0) to co ke nu fw) ++ ((wH cI aH (aW 0) lt tr sh cr ct cu ve ta ch) ++ ((wH cI aT (aW 0) lt2 tr2 sh2 cr2 ct2 cu2 ve2 ta2 ch2) ++ (wE cI aE lo fo si it))))))) (some (.int (nI (si 3)))) ((wS cS aS (aW 0) (aB 0) (aC 0) (aH 0) (aT 0) aE la) ++ ((wW cI aW n cl th ki va re fi) ++ ((wB cI aB bt bs) ++ ((wC cI cZ aC (aW 0) (aB 0) to co ke nu fw) ++ ((wH cI aH (aW 0) lt tr sh cr ct cu ve ta ch) ++ ((wH cI aT (aW 0) lt2 tr2 sh2 cr2 ct2 cu2 ve2 ta2 ch2) ++ (wE cI aE (va_up lo 3 True) fo si it))))))) := by
  refine CM.ofI (by decide +kernel) (Nat.le_of_ble_eq_true rfl) (nar_int _) ?_
  intro p e s m args below meth c Q A G K hA w hret ls hl
  obtain ⟨hx, hb, hml, hown, hts⟩ := id G
  obtain ⟨hn, hcl, hth, hki, hva, hre, hfi⟩ := id J
  obtain ⟨hbt, hbs⟩ := id B9
  obtain ⟨hco, hfw⟩ := id C9
  obtain ⟨hlt, htr, hsh, hcr, hct, hcu, hve, hta, hch⟩ := id H9
  obtain ⟨hlt2, htr2, hsh2, hcr2, hct2, hcu2, hve2, hta2, hch2⟩ := id U9
  obtain ⟨hfo, hsi⟩ := id E9
  have hl : lv_has ls 2 [(0, .ref (aS 0)), (1, .int (nI 3))] := hl
  refine lv_iload_n hx hb dX5_lose_0 rfl (lv_at hl 1 rfl) ?_
  refine callPS (rest := []) G K F_X5_isSheet (c_X5_isSheet (nI 3)) (va_P_nil D s.heap) ml_X5_121 (by decide) (by decide) rfl hl.1 (Nat.le_of_ble_eq_true rfl) dX5_lose_1 ?_
  refine b_ne G (tgt := 10) dX5_lose_4 (by decide) (fun c4 => ?_) (fun c4 => ?_)
  · -- taken at 4
    refine lv_aload_n hx hb dX5_lose_10 rfl (lv_at hl 0 rfl) ?_
    refine f_get G K w.1 inX5 0 (ci := 5) rfl rfl 5 rfl fl_X5_46 (v := .ref (aS 1)) rfl dX5_lose_11 ?_
    refine lv_iload_n hx hb dX5_lose_14 rfl (lv_at hl 1 rfl) ?_
    refine a_ldR G K w.1 1 2 (a := (aS 1)) rfl rfl (by omega) (by decide) dX5_lose_15 ?_
    refine f_get G K w.1 inX3 37 (ci := 3) rfl rfl 1 rfl fl_X5_124 (v := .int (bI (lo 3))) rfl dX5_lose_16 ?_
    refine b_eq G (tgt := 28) dX5_lose_19 (by decide) (fun c19 => ?_) (fun c19 => ?_)
    · -- taken at 19
      refine lv_aload_n hx hb dX5_lose_28 rfl (lv_at hl 0 rfl) ?_
      refine f_get G K w.1 inX5 0 (ci := 5) rfl rfl 5 rfl fl_X5_46 (v := .ref (aS 1)) rfl dX5_lose_29 ?_
      refine lv_iload_n hx hb dX5_lose_32 rfl (lv_at hl 1 rfl) ?_
      refine a_ldR G K w.1 1 2 (a := (aS 1)) rfl rfl (by omega) (by decide) dX5_lose_33 ?_
      refine lv_iconst (v := (nI 1)) hx hb dX5_lose_34 (by decide) ?_
      refine t_i (y := (bI True)) (b1 trivial) ?_
      refine f_put G K w inX3 tyX3 tyX3_ok nmX3 37 (ci := 3) rfl rfl 1 rfl fl_X5_124 rfl (bI_nar _) (bI_fit _) rfl dX5_lose_35 (w2 := ((wS cS aS (aW 0) (aB 0) (aC 0) (aH 0) (aT 0) aE la) ++ ((wW cI aW n cl th ki va re fi) ++ ((wB cI aB bt bs) ++ ((wC cI cZ aC (aW 0) (aB 0) to co ke nu fw) ++ ((wH cI aH (aW 0) lt tr sh cr ct cu ve ta ch) ++ ((wH cI aT (aW 0) lt2 tr2 sh2 cr2 ct2 cu2 ve2 ta2 ch2) ++ (wE cI aE (va_up lo 3 True) fo si it)))))))) rfl (fun Hp1 lo2 w => ?_)
      refine lv_aload_n hx hb dX5_lose_38 rfl (lv_at hl 0 rfl) ?_
      refine f_get G K w.1 inX5 0 (ci := 5) rfl rfl 5 rfl fl_X5_46 (v := .ref (aS 1)) rfl dX5_lose_39 ?_
      refine lv_iload_n hx hb dX5_lose_42 rfl (lv_at hl 1 rfl) ?_
      refine a_ldR G K w.1 1 2 (a := (aS 1)) rfl rfl (by omega) (by decide) dX5_lose_43 ?_
      refine f_get G K w.1 inX3 37 (ci := 3) rfl rfl 3 rfl fl_X5_131 (v := .int (nI (si 3))) rfl dX5_lose_44 ?_
      exact hret _ _ _ _ _ _ rfl rfl w dX5_lose_47
    · -- not taken at 19
      exact absurd c19 hf9
  · -- not taken at 4
    exact absurd ⟨3, by decide, rfl⟩ c4
set_option maxHeartbeats 4000000 in
set_option maxRecDepth 100000 in
theorem c_X5_lay_bad (aS : Nat → Nat) (aE : Nat → Nat) (la : Int32) (aW : Nat → Nat) (n : Nat) (cl : Nat) (th : Nat → Nat) (ki : Nat → Nat) (va : Nat → Nat) (re : Nat → Nat) (fi : Nat → Nat) (aB : Nat → Nat) (bt : Nat → Nat) (bs : Nat) (aC : Nat → Nat) (to : Nat → Prop) (co : Nat → Nat) (ke : Nat → Int32) (nu : Nat → Int32) (fw : Nat → Nat) (aH : Nat → Nat) (lt : Nat → Option Nat) (tr : Nat → Nat) (sh : Nat → Nat) (cr : Nat → Nat) (ct : Nat → Nat) (cu : Nat → Nat) (ve : Nat → Nat) (ta : Nat → Nat) (ch : Nat) (aT : Nat → Nat) (lt2 : Nat → Option Nat) (tr2 : Nat → Nat) (sh2 : Nat → Nat) (cr2 : Nat → Nat) (ct2 : Nat → Nat) (cu2 : Nat → Nat) (ve2 : Nat → Nat) (ta2 : Nat → Nat) (ch2 : Nat) (lo : Nat → Prop) (fo : Nat → Nat) (si : Nat → Nat) (it : Nat → Nat → Int32) (x : Int32) (f : Int32) (y : Int32) (v : Int32) (J : IW n cl th ki va re fi) (S : SW n cl re fi) (B9 : (∀ j, bt j ≤ 255) ∧ bs ≤ 216) (C9 : (∀ j, co j ≤ 400) ∧ (∀ j, fw j ≤ 15)) (H9 : IHd lt tr sh cr ct cu ve ta ch) (U9 : IHd lt2 tr2 sh2 cr2 ct2 cu2 ve2 ta2 ch2) (E9 : (∀ j, fo j ≤ 2) ∧ (∀ j, si j ≤ 60)) (hbad : ¬ (okR 3 x ∧ okR 2 f)) : CM l D (TY cI cZ cS) yX5_lay cX5_lay 6 (some .int) 1 [.ref (aS 0), .int x, .int f, .int y, .int v] ((wS cS aS (aW 0) (aB 0) (aC 0) (aH 0) (aT 0) aE la) ++ ((wW cI aW n cl th ki va re fi) ++ ((wB cI aB bt bs) ++ ((wC cI cZ aC (aW 0) (aB 0) to co ke nu fw) ++ ((wH cI aH (aW 0) lt tr sh cr ct cu ve ta ch) ++ ((wH cI aT (aW 0) lt2 tr2 sh2 cr2 ct2 cu2 ve2 ta2 ch2) ++ (wE cI aE lo fo si it))))))) (some (.int (-2))) ((wS cS aS (aW 0) (aB 0) (aC 0) (aH 0) (aT 0) aE la) ++ ((wW cI aW n cl th ki va re fi) ++ ((wB cI aB bt bs) ++ ((wC cI cZ aC (aW 0) (aB 0) to co ke nu fw) ++ ((wH cI aH (aW 0) lt tr sh cr ct cu ve ta ch) ++ ((wH cI aT (aW 0) lt2 tr2 sh2 cr2 ct2 cu2 ve2 ta2 ch2) ++ (wE cI aE lo fo si it))))))) := by
  refine CM.ofI (by decide +kernel) (Nat.le_of_ble_eq_true rfl) (nar_int _) ?_
  intro p e s m args below meth c Q A G K hA w hret ls hl
  obtain ⟨hx, hb, hml, hown, hts⟩ := id G
  obtain ⟨hn, hcl, hth, hki, hva, hre, hfi⟩ := id J
  obtain ⟨hbt, hbs⟩ := id B9
  obtain ⟨hco, hfw⟩ := id C9
  obtain ⟨hlt, htr, hsh, hcr, hct, hcu, hve, hta, hch⟩ := id H9
  obtain ⟨hlt2, htr2, hsh2, hcr2, hct2, hcu2, hve2, hta2, hch2⟩ := id U9
  obtain ⟨hfo, hsi⟩ := id E9
  have hl : lv_has ls 6 [(0, .ref (aS 0)), (1, .int x), (2, .int f), (3, .int y), (4, .int v)] := hl
  refine lv_iload_n hx hb dX5_lay_0 rfl (lv_at hl 1 rfl) ?_
  refine callPS (rest := []) G K F_X5_isSheet (c_X5_isSheet x) (va_P_nil D s.heap) ml_X5_121 (by decide) (by decide) rfl hl.1 (Nat.le_of_ble_eq_true rfl) dX5_lay_1 ?_
  refine b_eq G (tgt := 14) dX5_lay_4 (by decide) (fun c4 => ?_) (fun c4 => ?_)
  · -- taken at 4
    refine lv_bipush (v := (-2)) hx hb dX5_lay_14 (by decide) ?_
    exact hret _ _ _ _ _ _ rfl rfl w dX5_lay_16
  · -- not taken at 4
    refine lv_iload_n hx hb dX5_lay_7 rfl (lv_at hl 2 rfl) ?_
    refine callPS (rest := []) G K F_X5_isForm (c_X5_isForm f) (va_P_nil D s.heap) ml_X5_235 (by decide) (by decide) rfl hl.1 (Nat.le_of_ble_eq_true rfl) dX5_lay_8 ?_
    refine b_ne G (tgt := 17) dX5_lay_11 (by decide) (fun c11 => ?_) (fun c11 => ?_)
    · -- taken at 11
      exact absurd ⟨c4, c11⟩ hbad
    · -- not taken at 11
      refine lv_bipush (v := (-2)) hx hb dX5_lay_14 (by decide) ?_
      exact hret _ _ _ _ _ _ rfl rfl w dX5_lay_16
set_option maxHeartbeats 4000000 in
set_option maxRecDepth 100000 in
theorem c_X5_lay_nul0 (aS : Nat → Nat) (aE : Nat → Nat) (la : Int32) (aW : Nat → Nat) (n : Nat) (cl : Nat) (th : Nat → Nat) (ki : Nat → Nat) (va : Nat → Nat) (re : Nat → Nat) (fi : Nat → Nat) (aB : Nat → Nat) (bt : Nat → Nat) (bs : Nat) (aC : Nat → Nat) (to : Nat → Prop) (co : Nat → Nat) (ke : Nat → Int32) (nu : Nat → Int32) (fw : Nat → Nat) (aH : Nat → Nat) (lt : Nat → Option Nat) (tr : Nat → Nat) (sh : Nat → Nat) (cr : Nat → Nat) (ct : Nat → Nat) (cu : Nat → Nat) (ve : Nat → Nat) (ta : Nat → Nat) (ch : Nat) (aT : Nat → Nat) (lt2 : Nat → Option Nat) (tr2 : Nat → Nat) (sh2 : Nat → Nat) (cr2 : Nat → Nat) (ct2 : Nat → Nat) (cu2 : Nat → Nat) (ve2 : Nat → Nat) (ta2 : Nat → Nat) (ch2 : Nat) (lo : Nat → Prop) (fo : Nat → Nat) (si : Nat → Nat) (it : Nat → Nat → Int32) (j : Nat) (y : Int32) (v : Int32) (J : IW n cl th ki va re fi) (S : SW n cl re fi) (B9 : (∀ j, bt j ≤ 255) ∧ bs ≤ 216) (C9 : (∀ j, co j ≤ 400) ∧ (∀ j, fw j ≤ 15)) (H9 : IHd lt tr sh cr ct cu ve ta ch) (U9 : IHd lt2 tr2 sh2 cr2 ct2 cu2 ve2 ta2 ch2) (E9 : (∀ j, fo j ≤ 2) ∧ (∀ j, si j ≤ 60)) (hj9 : j ≤ 2) (hf9 : lo 0) : CM l D (TY cI cZ cS) yX5_lay cX5_lay 6 (some .int) 1 [.ref (aS 0), .int (nI 0), .int (nI j), .int y, .int v] ((wS cS aS (aW 0) (aB 0) (aC 0) (aH 0) (aT 0) aE la) ++ ((wW cI aW n cl th ki va re fi) ++ ((wB cI aB bt bs) ++ ((wC cI cZ aC (aW 0) (aB 0) to co ke nu fw) ++ ((wH cI aH (aW 0) lt tr sh cr ct cu ve ta ch) ++ ((wH cI aT (aW 0) lt2 tr2 sh2 cr2 ct2 cu2 ve2 ta2 ch2) ++ (wE cI aE lo fo si it))))))) (some (.int ((-10) - (nI 1)))) ((wS cS aS (aW 0) (aB 0) (aC 0) (aH 0) (aT 0) aE (nI 1)) ++ ((wW cI aW n cl th ki va re fi) ++ ((wB cI aB bt bs) ++ ((wC cI cZ aC (aW 0) (aB 0) to co ke nu fw) ++ ((wH cI aH (aW 0) lt tr sh cr ct cu ve ta ch) ++ ((wH cI aT (aW 0) lt2 tr2 sh2 cr2 ct2 cu2 ve2 ta2 ch2) ++ (wE cI aE lo fo si it))))))) := by
  refine CM.ofI (by decide +kernel) (Nat.le_of_ble_eq_true rfl) (nar_int _) ?_
  intro p e s m args below meth c Q A G K hA w hret ls hl
  obtain ⟨hx, hb, hml, hown, hts⟩ := id G
  obtain ⟨hn, hcl, hth, hki, hva, hre, hfi⟩ := id J
  obtain ⟨hbt, hbs⟩ := id B9
  obtain ⟨hco, hfw⟩ := id C9
  obtain ⟨hlt, htr, hsh, hcr, hct, hcu, hve, hta, hch⟩ := id H9
  obtain ⟨hlt2, htr2, hsh2, hcr2, hct2, hcu2, hve2, hta2, hch2⟩ := id U9
  obtain ⟨hfo, hsi⟩ := id E9
  have hl : lv_has ls 6 [(0, .ref (aS 0)), (1, .int (nI 0)), (2, .int (nI j)), (3, .int y), (4, .int v)] := hl
  refine lv_iload_n hx hb dX5_lay_0 rfl (lv_at hl 1 rfl) ?_
  refine callPS (rest := []) G K F_X5_isSheet (c_X5_isSheet (nI 0)) (va_P_nil D s.heap) ml_X5_121 (by decide) (by decide) rfl hl.1 (Nat.le_of_ble_eq_true rfl) dX5_lay_1 ?_
  refine b_eq G (tgt := 14) dX5_lay_4 (by decide) (fun c4 => ?_) (fun c4 => ?_)
  · -- taken at 4
    exact absurd ⟨0, by decide, rfl⟩ c4
  · -- not taken at 4
    refine lv_iload_n hx hb dX5_lay_7 rfl (lv_at hl 2 rfl) ?_
    refine callPS (rest := []) G K F_X5_isForm (c_X5_isForm (nI j)) (va_P_nil D s.heap) ml_X5_235 (by decide) (by decide) rfl hl.1 (Nat.le_of_ble_eq_true rfl) dX5_lay_8 ?_
    refine b_ne G (tgt := 17) dX5_lay_11 (by decide) (fun c11 => ?_) (fun c11 => ?_)
    · -- taken at 11
      refine lv_aload_n hx hb dX5_lay_17 rfl (lv_at hl 0 rfl) ?_
      refine f_get G K w.1 inX5 0 (ci := 5) rfl rfl 5 rfl fl_X5_46 (v := .ref (aS 1)) rfl dX5_lay_18 ?_
      refine lv_iload_n hx hb dX5_lay_21 rfl (lv_at hl 1 rfl) ?_
      refine a_ldR G K w.1 1 2 (a := (aS 1)) rfl rfl (by omega) (by decide) dX5_lay_22 ?_
      refine lv_iload_n hx hb dX5_lay_23 rfl (lv_at hl 2 rfl) ?_
      refine lv_iload_n hx hb dX5_lay_24 rfl (lv_at hl 3 rfl) ?_
      refine callPV (As := [.int (nI j), .int y]) (rest := []) (q0 := 0) (ci := 3) G K F_X3_findingAt (c_X3_findingAt (aE 0) (aE 4) (lo 0) (fo 0) (si 0) (it 0) j y ⟨hfo 0, hsi 0⟩ (by omega)) (w.1.sub (ws' := (wT cI (aE 0) (aE 4) (lo 0) (fo 0) (si 0) (it 0))) [34, 38] rfl) ml_X5_241 rfl rfl rfl (by decide) (by decide) rfl hl.1 (Nat.le_of_ble_eq_true rfl) dX5_lay_25 ?_
      refine t_i (y := (nI 1)) (congrArg nI (by unfold fdA; rw [cif_t hf9])) ?_
      refine lv_istore (lv' := [(5, .int (nI 1)), (0, .ref (aS 0)), (1, .int (nI 0)), (2, .int (nI j)), (3, .int y), (4, .int v)]) hx hb dX5_lay_28 hl (by decide) rfl (fun ls hl => ?_)
      refine lv_iload hx hb dX5_lay_30 (lv_at hl 0 rfl) ?_
      refine z_eq G (tgt := 42) (by omega) dX5_lay_32 (by decide) (fun c32 => ?_) (fun c32 => ?_)
      · -- taken at 32
        exact absurd c32 (by decide)
      · -- not taken at 32
        refine lv_aload_n hx hb dX5_lay_35 rfl (lv_at hl 1 rfl) ?_
        refine lv_iload hx hb dX5_lay_36 (lv_at hl 0 rfl) ?_
        refine callMF (As := [.int (nI 1)]) (rest := []) (q0 := 0) (ci := 5) (ws' := ((wS cS aS (aW 0) (aB 0) (aC 0) (aH 0) (aT 0) aE (nI 1)) ++ ((wW cI aW n cl th ki va re fi) ++ ((wB cI aB bt bs) ++ ((wC cI cZ aC (aW 0) (aB 0) to co ke nu fw) ++ ((wH cI aH (aW 0) lt tr sh cr ct cu ve ta ch) ++ ((wH cI aT (aW 0) lt2 tr2 sh2 cr2 ct2 cu2 ve2 ta2 ch2) ++ (wE cI aE lo fo si it)))))))) G K hA w F_X5_find (c_X5_find aS aE la aW n cl th ki va re fi aB bt bs aC to co ke nu fw aH lt tr sh cr ct cu ve ta ch aT lt2 tr2 sh2 cr2 ct2 cu2 ve2 ta2 ch2 lo fo si it 1 J S B9 C9 H9 U9 E9) ml_X5_128 rfl rfl rfl (by decide) (by decide) rfl hl.1 (Nat.le_of_ble_eq_true rfl) dX5_lay_38 (fun Hp1 lo2 w => ?_)
        exact hret _ _ _ _ _ _ rfl rfl w dX5_lay_41
    · -- not taken at 11
      exact absurd ⟨j, hj9, rfl⟩ c11
set_option maxHeartbeats 4000000 in
set_option maxRecDepth 100000 in
theorem c_X5_lay_cast0 (aS : Nat → Nat) (aE : Nat → Nat) (la : Int32) (aW : Nat → Nat) (n : Nat) (cl : Nat) (th : Nat → Nat) (ki : Nat → Nat) (va : Nat → Nat) (re : Nat → Nat) (fi : Nat → Nat) (aB : Nat → Nat) (bt : Nat → Nat) (bs : Nat) (aC : Nat → Nat) (to : Nat → Prop) (co : Nat → Nat) (ke : Nat → Int32) (nu : Nat → Int32) (fw : Nat → Nat) (aH : Nat → Nat) (lt : Nat → Option Nat) (tr : Nat → Nat) (sh : Nat → Nat) (cr : Nat → Nat) (ct : Nat → Nat) (cu : Nat → Nat) (ve : Nat → Nat) (ta : Nat → Nat) (ch : Nat) (aT : Nat → Nat) (lt2 : Nat → Option Nat) (tr2 : Nat → Nat) (sh2 : Nat → Nat) (cr2 : Nat → Nat) (ct2 : Nat → Nat) (cu2 : Nat → Nat) (ve2 : Nat → Nat) (ta2 : Nat → Nat) (ch2 : Nat) (lo : Nat → Prop) (fo : Nat → Nat) (si : Nat → Nat) (it : Nat → Nat → Int32) (j : Nat) (y : Int32) (v : Int32) (J : IW n cl th ki va re fi) (S : SW n cl re fi) (B9 : (∀ j, bt j ≤ 255) ∧ bs ≤ 216) (C9 : (∀ j, co j ≤ 400) ∧ (∀ j, fw j ≤ 15)) (H9 : IHd lt tr sh cr ct cu ve ta ch) (U9 : IHd lt2 tr2 sh2 cr2 ct2 cu2 ve2 ta2 ch2) (E9 : (∀ j, fo j ≤ 2) ∧ (∀ j, si j ≤ 60)) (hj9 : j ≤ 2) (hf9 : ¬ lo 0) (hc9 : fo 0 ≠ j) : CM l D (TY cI cZ cS) yX5_lay cX5_lay 6 (some .int) 1 [.ref (aS 0), .int (nI 0), .int (nI j), .int y, .int v] ((wS cS aS (aW 0) (aB 0) (aC 0) (aH 0) (aT 0) aE la) ++ ((wW cI aW n cl th ki va re fi) ++ ((wB cI aB bt bs) ++ ((wC cI cZ aC (aW 0) (aB 0) to co ke nu fw) ++ ((wH cI aH (aW 0) lt tr sh cr ct cu ve ta ch) ++ ((wH cI aT (aW 0) lt2 tr2 sh2 cr2 ct2 cu2 ve2 ta2 ch2) ++ (wE cI aE lo fo si it))))))) (some (.int ((-10) - (nI 3)))) ((wS cS aS (aW 0) (aB 0) (aC 0) (aH 0) (aT 0) aE (nI 3)) ++ ((wW cI aW n cl th ki va re fi) ++ ((wB cI aB bt bs) ++ ((wC cI cZ aC (aW 0) (aB 0) to co ke nu fw) ++ ((wH cI aH (aW 0) lt tr sh cr ct cu ve ta ch) ++ ((wH cI aT (aW 0) lt2 tr2 sh2 cr2 ct2 cu2 ve2 ta2 ch2) ++ (wE cI aE lo fo si it))))))) := by
  refine CM.ofI (by decide +kernel) (Nat.le_of_ble_eq_true rfl) (nar_int _) ?_
  intro p e s m args below meth c Q A G K hA w hret ls hl
  obtain ⟨hx, hb, hml, hown, hts⟩ := id G
  obtain ⟨hn, hcl, hth, hki, hva, hre, hfi⟩ := id J
  obtain ⟨hbt, hbs⟩ := id B9
  obtain ⟨hco, hfw⟩ := id C9
  obtain ⟨hlt, htr, hsh, hcr, hct, hcu, hve, hta, hch⟩ := id H9
  obtain ⟨hlt2, htr2, hsh2, hcr2, hct2, hcu2, hve2, hta2, hch2⟩ := id U9
  obtain ⟨hfo, hsi⟩ := id E9
  have hl : lv_has ls 6 [(0, .ref (aS 0)), (1, .int (nI 0)), (2, .int (nI j)), (3, .int y), (4, .int v)] := hl
  refine lv_iload_n hx hb dX5_lay_0 rfl (lv_at hl 1 rfl) ?_
  refine callPS (rest := []) G K F_X5_isSheet (c_X5_isSheet (nI 0)) (va_P_nil D s.heap) ml_X5_121 (by decide) (by decide) rfl hl.1 (Nat.le_of_ble_eq_true rfl) dX5_lay_1 ?_
  refine b_eq G (tgt := 14) dX5_lay_4 (by decide) (fun c4 => ?_) (fun c4 => ?_)
  · -- taken at 4
    exact absurd ⟨0, by decide, rfl⟩ c4
  · -- not taken at 4
    refine lv_iload_n hx hb dX5_lay_7 rfl (lv_at hl 2 rfl) ?_
    refine callPS (rest := []) G K F_X5_isForm (c_X5_isForm (nI j)) (va_P_nil D s.heap) ml_X5_235 (by decide) (by decide) rfl hl.1 (Nat.le_of_ble_eq_true rfl) dX5_lay_8 ?_
    refine b_ne G (tgt := 17) dX5_lay_11 (by decide) (fun c11 => ?_) (fun c11 => ?_)
    · -- taken at 11
      refine lv_aload_n hx hb dX5_lay_17 rfl (lv_at hl 0 rfl) ?_
      refine f_get G K w.1 inX5 0 (ci := 5) rfl rfl 5 rfl fl_X5_46 (v := .ref (aS 1)) rfl dX5_lay_18 ?_
      refine lv_iload_n hx hb dX5_lay_21 rfl (lv_at hl 1 rfl) ?_
      refine a_ldR G K w.1 1 2 (a := (aS 1)) rfl rfl (by omega) (by decide) dX5_lay_22 ?_
      refine lv_iload_n hx hb dX5_lay_23 rfl (lv_at hl 2 rfl) ?_
      refine lv_iload_n hx hb dX5_lay_24 rfl (lv_at hl 3 rfl) ?_
      refine callPV (As := [.int (nI j), .int y]) (rest := []) (q0 := 0) (ci := 3) G K F_X3_findingAt (c_X3_findingAt (aE 0) (aE 4) (lo 0) (fo 0) (si 0) (it 0) j y ⟨hfo 0, hsi 0⟩ (by omega)) (w.1.sub (ws' := (wT cI (aE 0) (aE 4) (lo 0) (fo 0) (si 0) (it 0))) [34, 38] rfl) ml_X5_241 rfl rfl rfl (by decide) (by decide) rfl hl.1 (Nat.le_of_ble_eq_true rfl) dX5_lay_25 ?_
      refine t_i (y := (nI 3)) (congrArg nI (by unfold fdA; rw [cif_f hf9, cif_f hc9])) ?_
      refine lv_istore (lv' := [(5, .int (nI 3)), (0, .ref (aS 0)), (1, .int (nI 0)), (2, .int (nI j)), (3, .int y), (4, .int v)]) hx hb dX5_lay_28 hl (by decide) rfl (fun ls hl => ?_)
      refine lv_iload hx hb dX5_lay_30 (lv_at hl 0 rfl) ?_
      refine z_eq G (tgt := 42) (by omega) dX5_lay_32 (by decide) (fun c32 => ?_) (fun c32 => ?_)
      · -- taken at 32
        exact absurd c32 (by decide)
      · -- not taken at 32
        refine lv_aload_n hx hb dX5_lay_35 rfl (lv_at hl 1 rfl) ?_
        refine lv_iload hx hb dX5_lay_36 (lv_at hl 0 rfl) ?_
        refine callMF (As := [.int (nI 3)]) (rest := []) (q0 := 0) (ci := 5) (ws' := ((wS cS aS (aW 0) (aB 0) (aC 0) (aH 0) (aT 0) aE (nI 3)) ++ ((wW cI aW n cl th ki va re fi) ++ ((wB cI aB bt bs) ++ ((wC cI cZ aC (aW 0) (aB 0) to co ke nu fw) ++ ((wH cI aH (aW 0) lt tr sh cr ct cu ve ta ch) ++ ((wH cI aT (aW 0) lt2 tr2 sh2 cr2 ct2 cu2 ve2 ta2 ch2) ++ (wE cI aE lo fo si it)))))))) G K hA w F_X5_find (c_X5_find aS aE la aW n cl th ki va re fi aB bt bs aC to co ke nu fw aH lt tr sh cr ct cu ve ta ch aT lt2 tr2 sh2 cr2 ct2 cu2 ve2 ta2 ch2 lo fo si it 3 J S B9 C9 H9 U9 E9) ml_X5_128 rfl rfl rfl (by decide) (by decide) rfl hl.1 (Nat.le_of_ble_eq_true rfl) dX5_lay_38 (fun Hp1 lo2 w => ?_)
        exact hret _ _ _ _ _ _ rfl rfl w dX5_lay_41
    · -- not taken at 11
      exact absurd ⟨j, hj9, rfl⟩ c11
set_option maxHeartbeats 4000000 in
set_option maxRecDepth 100000 in
theorem c_X5_lay_idx0 (aS : Nat → Nat) (aE : Nat → Nat) (la : Int32) (aW : Nat → Nat) (n : Nat) (cl : Nat) (th : Nat → Nat) (ki : Nat → Nat) (va : Nat → Nat) (re : Nat → Nat) (fi : Nat → Nat) (aB : Nat → Nat) (bt : Nat → Nat) (bs : Nat) (aC : Nat → Nat) (to : Nat → Prop) (co : Nat → Nat) (ke : Nat → Int32) (nu : Nat → Int32) (fw : Nat → Nat) (aH : Nat → Nat) (lt : Nat → Option Nat) (tr : Nat → Nat) (sh : Nat → Nat) (cr : Nat → Nat) (ct : Nat → Nat) (cu : Nat → Nat) (ve : Nat → Nat) (ta : Nat → Nat) (ch : Nat) (aT : Nat → Nat) (lt2 : Nat → Option Nat) (tr2 : Nat → Nat) (sh2 : Nat → Nat) (cr2 : Nat → Nat) (ct2 : Nat → Nat) (cu2 : Nat → Nat) (ve2 : Nat → Nat) (ta2 : Nat → Nat) (ch2 : Nat) (lo : Nat → Prop) (fo : Nat → Nat) (si : Nat → Nat) (it : Nat → Nat → Int32) (j : Nat) (y : Int32) (v : Int32) (J : IW n cl th ki va re fi) (S : SW n cl re fi) (B9 : (∀ j, bt j ≤ 255) ∧ bs ≤ 216) (C9 : (∀ j, co j ≤ 400) ∧ (∀ j, fw j ≤ 15)) (H9 : IHd lt tr sh cr ct cu ve ta ch) (U9 : IHd lt2 tr2 sh2 cr2 ct2 cu2 ve2 ta2 ch2) (E9 : (∀ j, fo j ≤ 2) ∧ (∀ j, si j ≤ 60)) (hj9 : j ≤ 2) (hf9 : ¬ lo 0) (hc9 : fo 0 = j) (hx9 : ¬ okW (si 0) y) : CM l D (TY cI cZ cS) yX5_lay cX5_lay 6 (some .int) 1 [.ref (aS 0), .int (nI 0), .int (nI j), .int y, .int v] ((wS cS aS (aW 0) (aB 0) (aC 0) (aH 0) (aT 0) aE la) ++ ((wW cI aW n cl th ki va re fi) ++ ((wB cI aB bt bs) ++ ((wC cI cZ aC (aW 0) (aB 0) to co ke nu fw) ++ ((wH cI aH (aW 0) lt tr sh cr ct cu ve ta ch) ++ ((wH cI aT (aW 0) lt2 tr2 sh2 cr2 ct2 cu2 ve2 ta2 ch2) ++ (wE cI aE lo fo si it))))))) (some (.int ((-10) - (nI 2)))) ((wS cS aS (aW 0) (aB 0) (aC 0) (aH 0) (aT 0) aE (nI 2)) ++ ((wW cI aW n cl th ki va re fi) ++ ((wB cI aB bt bs) ++ ((wC cI cZ aC (aW 0) (aB 0) to co ke nu fw) ++ ((wH cI aH (aW 0) lt tr sh cr ct cu ve ta ch) ++ ((wH cI aT (aW 0) lt2 tr2 sh2 cr2 ct2 cu2 ve2 ta2 ch2) ++ (wE cI aE lo fo si it))))))) := by
  refine CM.ofI (by decide +kernel) (Nat.le_of_ble_eq_true rfl) (nar_int _) ?_
  intro p e s m args below meth c Q A G K hA w hret ls hl
  obtain ⟨hx, hb, hml, hown, hts⟩ := id G
  obtain ⟨hn, hcl, hth, hki, hva, hre, hfi⟩ := id J
  obtain ⟨hbt, hbs⟩ := id B9
  obtain ⟨hco, hfw⟩ := id C9
  obtain ⟨hlt, htr, hsh, hcr, hct, hcu, hve, hta, hch⟩ := id H9
  obtain ⟨hlt2, htr2, hsh2, hcr2, hct2, hcu2, hve2, hta2, hch2⟩ := id U9
  obtain ⟨hfo, hsi⟩ := id E9
  have hl : lv_has ls 6 [(0, .ref (aS 0)), (1, .int (nI 0)), (2, .int (nI j)), (3, .int y), (4, .int v)] := hl
  refine lv_iload_n hx hb dX5_lay_0 rfl (lv_at hl 1 rfl) ?_
  refine callPS (rest := []) G K F_X5_isSheet (c_X5_isSheet (nI 0)) (va_P_nil D s.heap) ml_X5_121 (by decide) (by decide) rfl hl.1 (Nat.le_of_ble_eq_true rfl) dX5_lay_1 ?_
  refine b_eq G (tgt := 14) dX5_lay_4 (by decide) (fun c4 => ?_) (fun c4 => ?_)
  · -- taken at 4
    exact absurd ⟨0, by decide, rfl⟩ c4
  · -- not taken at 4
    refine lv_iload_n hx hb dX5_lay_7 rfl (lv_at hl 2 rfl) ?_
    refine callPS (rest := []) G K F_X5_isForm (c_X5_isForm (nI j)) (va_P_nil D s.heap) ml_X5_235 (by decide) (by decide) rfl hl.1 (Nat.le_of_ble_eq_true rfl) dX5_lay_8 ?_
    refine b_ne G (tgt := 17) dX5_lay_11 (by decide) (fun c11 => ?_) (fun c11 => ?_)
    · -- taken at 11
      refine lv_aload_n hx hb dX5_lay_17 rfl (lv_at hl 0 rfl) ?_
      refine f_get G K w.1 inX5 0 (ci := 5) rfl rfl 5 rfl fl_X5_46 (v := .ref (aS 1)) rfl dX5_lay_18 ?_
      refine lv_iload_n hx hb dX5_lay_21 rfl (lv_at hl 1 rfl) ?_
      refine a_ldR G K w.1 1 2 (a := (aS 1)) rfl rfl (by omega) (by decide) dX5_lay_22 ?_
      refine lv_iload_n hx hb dX5_lay_23 rfl (lv_at hl 2 rfl) ?_
      refine lv_iload_n hx hb dX5_lay_24 rfl (lv_at hl 3 rfl) ?_
      refine callPV (As := [.int (nI j), .int y]) (rest := []) (q0 := 0) (ci := 3) G K F_X3_findingAt (c_X3_findingAt (aE 0) (aE 4) (lo 0) (fo 0) (si 0) (it 0) j y ⟨hfo 0, hsi 0⟩ (by omega)) (w.1.sub (ws' := (wT cI (aE 0) (aE 4) (lo 0) (fo 0) (si 0) (it 0))) [34, 38] rfl) ml_X5_241 rfl rfl rfl (by decide) (by decide) rfl hl.1 (Nat.le_of_ble_eq_true rfl) dX5_lay_25 ?_
      refine t_i (y := (nI 2)) (congrArg nI (by unfold fdA; rw [cif_f hf9, cif_t hc9, cif_f hx9])) ?_
      refine lv_istore (lv' := [(5, .int (nI 2)), (0, .ref (aS 0)), (1, .int (nI 0)), (2, .int (nI j)), (3, .int y), (4, .int v)]) hx hb dX5_lay_28 hl (by decide) rfl (fun ls hl => ?_)
      refine lv_iload hx hb dX5_lay_30 (lv_at hl 0 rfl) ?_
      refine z_eq G (tgt := 42) (by omega) dX5_lay_32 (by decide) (fun c32 => ?_) (fun c32 => ?_)
      · -- taken at 32
        exact absurd c32 (by decide)
      · -- not taken at 32
        refine lv_aload_n hx hb dX5_lay_35 rfl (lv_at hl 1 rfl) ?_
        refine lv_iload hx hb dX5_lay_36 (lv_at hl 0 rfl) ?_
        refine callMF (As := [.int (nI 2)]) (rest := []) (q0 := 0) (ci := 5) (ws' := ((wS cS aS (aW 0) (aB 0) (aC 0) (aH 0) (aT 0) aE (nI 2)) ++ ((wW cI aW n cl th ki va re fi) ++ ((wB cI aB bt bs) ++ ((wC cI cZ aC (aW 0) (aB 0) to co ke nu fw) ++ ((wH cI aH (aW 0) lt tr sh cr ct cu ve ta ch) ++ ((wH cI aT (aW 0) lt2 tr2 sh2 cr2 ct2 cu2 ve2 ta2 ch2) ++ (wE cI aE lo fo si it)))))))) G K hA w F_X5_find (c_X5_find aS aE la aW n cl th ki va re fi aB bt bs aC to co ke nu fw aH lt tr sh cr ct cu ve ta ch aT lt2 tr2 sh2 cr2 ct2 cu2 ve2 ta2 ch2 lo fo si it 2 J S B9 C9 H9 U9 E9) ml_X5_128 rfl rfl rfl (by decide) (by decide) rfl hl.1 (Nat.le_of_ble_eq_true rfl) dX5_lay_38 (fun Hp1 lo2 w => ?_)
        exact hret _ _ _ _ _ _ rfl rfl w dX5_lay_41
    · -- not taken at 11
      exact absurd ⟨j, hj9, rfl⟩ c11
set_option maxHeartbeats 4000000 in
set_option maxRecDepth 100000 in
theorem c_X5_lay_ok0 (aS : Nat → Nat) (aE : Nat → Nat) (la : Int32) (aW : Nat → Nat) (n : Nat) (cl : Nat) (th : Nat → Nat) (ki : Nat → Nat) (va : Nat → Nat) (re : Nat → Nat) (fi : Nat → Nat) (aB : Nat → Nat) (bt : Nat → Nat) (bs : Nat) (aC : Nat → Nat) (to : Nat → Prop) (co : Nat → Nat) (ke : Nat → Int32) (nu : Nat → Int32) (fw : Nat → Nat) (aH : Nat → Nat) (lt : Nat → Option Nat) (tr : Nat → Nat) (sh : Nat → Nat) (cr : Nat → Nat) (ct : Nat → Nat) (cu : Nat → Nat) (ve : Nat → Nat) (ta : Nat → Nat) (ch : Nat) (aT : Nat → Nat) (lt2 : Nat → Option Nat) (tr2 : Nat → Nat) (sh2 : Nat → Nat) (cr2 : Nat → Nat) (ct2 : Nat → Nat) (cu2 : Nat → Nat) (ve2 : Nat → Nat) (ta2 : Nat → Nat) (ch2 : Nat) (lo : Nat → Prop) (fo : Nat → Nat) (si : Nat → Nat) (it : Nat → Nat → Int32) (j : Nat) (k : Nat) (v : Int32) (J : IW n cl th ki va re fi) (S : SW n cl re fi) (B9 : (∀ j, bt j ≤ 255) ∧ bs ≤ 216) (C9 : (∀ j, co j ≤ 400) ∧ (∀ j, fw j ≤ 15)) (H9 : IHd lt tr sh cr ct cu ve ta ch) (U9 : IHd lt2 tr2 sh2 cr2 ct2 cu2 ve2 ta2 ch2) (E9 : (∀ j, fo j ≤ 2) ∧ (∀ j, si j ≤ 60)) (hj9 : j ≤ 2) (hf9 : ¬ lo 0) (hc9 : fo 0 = j) (hx9 : k < si 0) : CM l D (TY cI cZ cS) yX5_lay cX5_lay 6 (some .int) 1 [.ref (aS 0), .int (nI 0), .int (nI j), .int (nI k), .int v] ((wS cS aS (aW 0) (aB 0) (aC 0) (aH 0) (aT 0) aE la) ++ ((wW cI aW n cl th ki va re fi) ++ ((wB cI aB bt bs) ++ ((wC cI cZ aC (aW 0) (aB 0) to co ke nu fw) ++ ((wH cI aH (aW 0) lt tr sh cr ct cu ve ta ch) ++ ((wH cI aT (aW 0) lt2 tr2 sh2 cr2 ct2 cu2 ve2 ta2 ch2) ++ (wE cI aE lo fo si it))))))) (some (.int (nI 1))) ((wS cS aS (aW 0) (aB 0) (aC 0) (aH 0) (aT 0) aE la) ++ ((wW cI aW n cl th ki va re fi) ++ ((wB cI aB bt bs) ++ ((wC cI cZ aC (aW 0) (aB 0) to co ke nu fw) ++ ((wH cI aH (aW 0) lt tr sh cr ct cu ve ta ch) ++ ((wH cI aT (aW 0) lt2 tr2 sh2 cr2 ct2 cu2 ve2 ta2 ch2) ++ (wE cI aE lo fo si (va_up it 0 (va_up (it 0) k (cutV (nI (fo 0)) v)))))))))) := by
  refine CM.ofI (by decide +kernel) (Nat.le_of_ble_eq_true rfl) (nar_int _) ?_
  intro p e s m args below meth c Q A G K hA w hret ls hl
  obtain ⟨hx, hb, hml, hown, hts⟩ := id G
  obtain ⟨hn, hcl, hth, hki, hva, hre, hfi⟩ := id J
  obtain ⟨hbt, hbs⟩ := id B9
  obtain ⟨hco, hfw⟩ := id C9
  obtain ⟨hlt, htr, hsh, hcr, hct, hcu, hve, hta, hch⟩ := id H9
  obtain ⟨hlt2, htr2, hsh2, hcr2, hct2, hcu2, hve2, hta2, hch2⟩ := id U9
  obtain ⟨hfo, hsi⟩ := id E9
  have hs9 := hsi 0
  have hl : lv_has ls 6 [(0, .ref (aS 0)), (1, .int (nI 0)), (2, .int (nI j)), (3, .int (nI k)), (4, .int v)] := hl
  refine lv_iload_n hx hb dX5_lay_0 rfl (lv_at hl 1 rfl) ?_
  refine callPS (rest := []) G K F_X5_isSheet (c_X5_isSheet (nI 0)) (va_P_nil D s.heap) ml_X5_121 (by decide) (by decide) rfl hl.1 (Nat.le_of_ble_eq_true rfl) dX5_lay_1 ?_
  refine b_eq G (tgt := 14) dX5_lay_4 (by decide) (fun c4 => ?_) (fun c4 => ?_)
  · -- taken at 4
    exact absurd ⟨0, by decide, rfl⟩ c4
  · -- not taken at 4
    refine lv_iload_n hx hb dX5_lay_7 rfl (lv_at hl 2 rfl) ?_
    refine callPS (rest := []) G K F_X5_isForm (c_X5_isForm (nI j)) (va_P_nil D s.heap) ml_X5_235 (by decide) (by decide) rfl hl.1 (Nat.le_of_ble_eq_true rfl) dX5_lay_8 ?_
    refine b_ne G (tgt := 17) dX5_lay_11 (by decide) (fun c11 => ?_) (fun c11 => ?_)
    · -- taken at 11
      refine lv_aload_n hx hb dX5_lay_17 rfl (lv_at hl 0 rfl) ?_
      refine f_get G K w.1 inX5 0 (ci := 5) rfl rfl 5 rfl fl_X5_46 (v := .ref (aS 1)) rfl dX5_lay_18 ?_
      refine lv_iload_n hx hb dX5_lay_21 rfl (lv_at hl 1 rfl) ?_
      refine a_ldR G K w.1 1 2 (a := (aS 1)) rfl rfl (by omega) (by decide) dX5_lay_22 ?_
      refine lv_iload_n hx hb dX5_lay_23 rfl (lv_at hl 2 rfl) ?_
      refine lv_iload_n hx hb dX5_lay_24 rfl (lv_at hl 3 rfl) ?_
      refine callPV (As := [.int (nI j), .int (nI k)]) (rest := []) (q0 := 0) (ci := 3) G K F_X3_findingAt (c_X3_findingAt (aE 0) (aE 4) (lo 0) (fo 0) (si 0) (it 0) j (nI k) ⟨hfo 0, hsi 0⟩ (by omega)) (w.1.sub (ws' := (wT cI (aE 0) (aE 4) (lo 0) (fo 0) (si 0) (it 0))) [34, 38] rfl) ml_X5_241 rfl rfl rfl (by decide) (by decide) rfl hl.1 (Nat.le_of_ble_eq_true rfl) dX5_lay_25 ?_
      refine t_i (y := (nI 0)) (congrArg nI (by unfold fdA; rw [cif_f hf9, cif_t hc9, cif_t ⟨k, hx9, rfl⟩])) ?_
      refine lv_istore (lv' := [(5, .int (nI 0)), (0, .ref (aS 0)), (1, .int (nI 0)), (2, .int (nI j)), (3, .int (nI k)), (4, .int v)]) hx hb dX5_lay_28 hl (by decide) rfl (fun ls hl => ?_)
      refine lv_iload hx hb dX5_lay_30 (lv_at hl 0 rfl) ?_
      refine z_eq G (tgt := 42) (by omega) dX5_lay_32 (by decide) (fun c32 => ?_) (fun c32 => ?_)
      · -- taken at 32
        refine lv_aload_n hx hb dX5_lay_42 rfl (lv_at hl 1 rfl) ?_
        refine f_get G K w.1 inX5 0 (ci := 5) rfl rfl 5 rfl fl_X5_46 (v := .ref (aS 1)) rfl dX5_lay_43 ?_
        refine lv_iload_n hx hb dX5_lay_46 rfl (lv_at hl 2 rfl) ?_
        refine a_ldR G K w.1 1 2 (a := (aS 1)) rfl rfl (by omega) (by decide) dX5_lay_47 ?_
        refine lv_iload_n hx hb dX5_lay_48 rfl (lv_at hl 4 rfl) ?_
        refine lv_iload hx hb dX5_lay_49 (lv_at hl 5 rfl) ?_
        refine callMV (As := [.int (nI k), .int v]) (rest := []) (q0 := 0) (ci := 3) (wr := ((wS cS aS (aW 0) (aB 0) (aC 0) (aH 0) (aT 0) aE la) ++ ((wW cI aW n cl th ki va re fi) ++ ((wB cI aB bt bs) ++ ((wC cI cZ aC (aW 0) (aB 0) to co ke nu fw) ++ ((wH cI aH (aW 0) lt tr sh cr ct cu ve ta ch) ++ ((wH cI aT (aW 0) lt2 tr2 sh2 cr2 ct2 cu2 ve2 ta2 ch2) ++ ([(aE 1, .inr (3, [.ref (aE 5), .int (bI (lo 1)), .int (nI (fo 1)), .int (nI (si 1))])), (aE 2, .inr (3, [.ref (aE 6), .int (bI (lo 2)), .int (nI (fo 2)), .int (nI (si 2))])), (aE 3, .inr (3, [.ref (aE 7), .int (bI (lo 3)), .int (nI (fo 3)), .int (nI (si 3))])), (aE 5, .inl (cI, 60, .inl (it 1))), (aE 6, .inl (cI, 60, .inl (it 2))), (aE 7, .inl (cI, 60, .inl (it 3)))] : va_W)))))))) (ws2 := ((wS cS aS (aW 0) (aB 0) (aC 0) (aH 0) (aT 0) aE la) ++ ((wW cI aW n cl th ki va re fi) ++ ((wB cI aB bt bs) ++ ((wC cI cZ aC (aW 0) (aB 0) to co ke nu fw) ++ ((wH cI aH (aW 0) lt tr sh cr ct cu ve ta ch) ++ ((wH cI aT (aW 0) lt2 tr2 sh2 cr2 ct2 cu2 ve2 ta2 ch2) ++ (wE cI aE lo fo si (va_up it 0 (va_up (it 0) k (cutV (nI (fo 0)) v))))))))))) G K hA w F_X3_layItem (c_X3_layItem (aE 0) (aE 4) (lo 0) (fo 0) (si 0) (it 0) k v ⟨hfo 0, hsi 0⟩ (by omega)) ml_X5_244 [34, 38] [0, 1, 2, 3, 4, 5, 6, 7, 8, 9, 10, 11, 12, 13, 14, 15, 16, 17, 18, 19, 20, 21, 22, 23, 24, 25, 26, 27, 28, 29, 30, 31, 32, 33, 35, 36, 37, 39, 40, 41] [0, 1, 2, 3, 4, 5, 6, 7, 8, 9, 10, 11, 12, 13, 14, 15, 16, 17, 18, 19, 20, 21, 22, 23, 24, 25, 26, 27, 28, 29, 30, 31, 32, 33, 40, 34, 35, 36, 41, 37, 38, 39] rfl rfl rfl rfl rfl rfl rfl rfl rfl rfl (by decide) (by decide) rfl hl.1 (Nat.le_of_ble_eq_true rfl) dX5_lay_51 (fun Hp1 lo2 w => ?_)
        refine lv_iconst (v := (nI 1)) hx hb dX5_lay_54 (by decide) ?_
        exact hret _ _ _ _ _ _ rfl rfl w dX5_lay_55
      · -- not taken at 32
        exact absurd c32 (by decide)
    · -- not taken at 11
      exact absurd ⟨j, hj9, rfl⟩ c11
set_option maxHeartbeats 4000000 in
set_option maxRecDepth 100000 in
theorem c_X5_lay_nul1 (aS : Nat → Nat) (aE : Nat → Nat) (la : Int32) (aW : Nat → Nat) (n : Nat) (cl : Nat) (th : Nat → Nat) (ki : Nat → Nat) (va : Nat → Nat) (re : Nat → Nat) (fi : Nat → Nat) (aB : Nat → Nat) (bt : Nat → Nat) (bs : Nat) (aC : Nat → Nat) (to : Nat → Prop) (co : Nat → Nat) (ke : Nat → Int32) (nu : Nat → Int32) (fw : Nat → Nat) (aH : Nat → Nat) (lt : Nat → Option Nat) (tr : Nat → Nat) (sh : Nat → Nat) (cr : Nat → Nat) (ct : Nat → Nat) (cu : Nat → Nat) (ve : Nat → Nat) (ta : Nat → Nat) (ch : Nat) (aT : Nat → Nat) (lt2 : Nat → Option Nat) (tr2 : Nat → Nat) (sh2 : Nat → Nat) (cr2 : Nat → Nat) (ct2 : Nat → Nat) (cu2 : Nat → Nat) (ve2 : Nat → Nat) (ta2 : Nat → Nat) (ch2 : Nat) (lo : Nat → Prop) (fo : Nat → Nat) (si : Nat → Nat) (it : Nat → Nat → Int32) (j : Nat) (y : Int32) (v : Int32) (J : IW n cl th ki va re fi) (S : SW n cl re fi) (B9 : (∀ j, bt j ≤ 255) ∧ bs ≤ 216) (C9 : (∀ j, co j ≤ 400) ∧ (∀ j, fw j ≤ 15)) (H9 : IHd lt tr sh cr ct cu ve ta ch) (U9 : IHd lt2 tr2 sh2 cr2 ct2 cu2 ve2 ta2 ch2) (E9 : (∀ j, fo j ≤ 2) ∧ (∀ j, si j ≤ 60)) (hj9 : j ≤ 2) (hf9 : lo 1) : CM l D (TY cI cZ cS) yX5_lay cX5_lay 6 (some .int) 1 [.ref (aS 0), .int (nI 1), .int (nI j), .int y, .int v] ((wS cS aS (aW 0) (aB 0) (aC 0) (aH 0) (aT 0) aE la) ++ ((wW cI aW n cl th ki va re fi) ++ ((wB cI aB bt bs) ++ ((wC cI cZ aC (aW 0) (aB 0) to co ke nu fw) ++ ((wH cI aH (aW 0) lt tr sh cr ct cu ve ta ch) ++ ((wH cI aT (aW 0) lt2 tr2 sh2 cr2 ct2 cu2 ve2 ta2 ch2) ++ (wE cI aE lo fo si it))))))) (some (.int ((-10) - (nI 1)))) ((wS cS aS (aW 0) (aB 0) (aC 0) (aH 0) (aT 0) aE (nI 1)) ++ ((wW cI aW n cl th ki va re fi) ++ ((wB cI aB bt bs) ++ ((wC cI cZ aC (aW 0) (aB 0) to co ke nu fw) ++ ((wH cI aH (aW 0) lt tr sh cr ct cu ve ta ch) ++ ((wH cI aT (aW 0) lt2 tr2 sh2 cr2 ct2 cu2 ve2 ta2 ch2) ++ (wE cI aE lo fo si it))))))) := by
  refine CM.ofI (by decide +kernel) (Nat.le_of_ble_eq_true rfl) (nar_int _) ?_
  intro p e s m args below meth c Q A G K hA w hret ls hl
  obtain ⟨hx, hb, hml, hown, hts⟩ := id G
  obtain ⟨hn, hcl, hth, hki, hva, hre, hfi⟩ := id J
  obtain ⟨hbt, hbs⟩ := id B9
  obtain ⟨hco, hfw⟩ := id C9
  obtain ⟨hlt, htr, hsh, hcr, hct, hcu, hve, hta, hch⟩ := id H9
  obtain ⟨hlt2, htr2, hsh2, hcr2, hct2, hcu2, hve2, hta2, hch2⟩ := id U9
  obtain ⟨hfo, hsi⟩ := id E9
  have hl : lv_has ls 6 [(0, .ref (aS 0)), (1, .int (nI 1)), (2, .int (nI j)), (3, .int y), (4, .int v)] := hl
  refine lv_iload_n hx hb dX5_lay_0 rfl (lv_at hl 1 rfl) ?_
  refine callPS (rest := []) G K F_X5_isSheet (c_X5_isSheet (nI 1)) (va_P_nil D s.heap) ml_X5_121 (by decide) (by decide) rfl hl.1 (Nat.le_of_ble_eq_true rfl) dX5_lay_1 ?_
  refine b_eq G (tgt := 14) dX5_lay_4 (by decide) (fun c4 => ?_) (fun c4 => ?_)
  · -- taken at 4
    exact absurd ⟨1, by decide, rfl⟩ c4
  · -- not taken at 4
    refine lv_iload_n hx hb dX5_lay_7 rfl (lv_at hl 2 rfl) ?_
    refine callPS (rest := []) G K F_X5_isForm (c_X5_isForm (nI j)) (va_P_nil D s.heap) ml_X5_235 (by decide) (by decide) rfl hl.1 (Nat.le_of_ble_eq_true rfl) dX5_lay_8 ?_
    refine b_ne G (tgt := 17) dX5_lay_11 (by decide) (fun c11 => ?_) (fun c11 => ?_)
    · -- taken at 11
      refine lv_aload_n hx hb dX5_lay_17 rfl (lv_at hl 0 rfl) ?_
      refine f_get G K w.1 inX5 0 (ci := 5) rfl rfl 5 rfl fl_X5_46 (v := .ref (aS 1)) rfl dX5_lay_18 ?_
      refine lv_iload_n hx hb dX5_lay_21 rfl (lv_at hl 1 rfl) ?_
      refine a_ldR G K w.1 1 2 (a := (aS 1)) rfl rfl (by omega) (by decide) dX5_lay_22 ?_
      refine lv_iload_n hx hb dX5_lay_23 rfl (lv_at hl 2 rfl) ?_
      refine lv_iload_n hx hb dX5_lay_24 rfl (lv_at hl 3 rfl) ?_
      refine callPV (As := [.int (nI j), .int y]) (rest := []) (q0 := 0) (ci := 3) G K F_X3_findingAt (c_X3_findingAt (aE 1) (aE 5) (lo 1) (fo 1) (si 1) (it 1) j y ⟨hfo 1, hsi 1⟩ (by omega)) (w.1.sub (ws' := (wT cI (aE 1) (aE 5) (lo 1) (fo 1) (si 1) (it 1))) [35, 39] rfl) ml_X5_241 rfl rfl rfl (by decide) (by decide) rfl hl.1 (Nat.le_of_ble_eq_true rfl) dX5_lay_25 ?_
      refine t_i (y := (nI 1)) (congrArg nI (by unfold fdA; rw [cif_t hf9])) ?_
      refine lv_istore (lv' := [(5, .int (nI 1)), (0, .ref (aS 0)), (1, .int (nI 1)), (2, .int (nI j)), (3, .int y), (4, .int v)]) hx hb dX5_lay_28 hl (by decide) rfl (fun ls hl => ?_)
      refine lv_iload hx hb dX5_lay_30 (lv_at hl 0 rfl) ?_
      refine z_eq G (tgt := 42) (by omega) dX5_lay_32 (by decide) (fun c32 => ?_) (fun c32 => ?_)
      · -- taken at 32
        exact absurd c32 (by decide)
      · -- not taken at 32
        refine lv_aload_n hx hb dX5_lay_35 rfl (lv_at hl 1 rfl) ?_
        refine lv_iload hx hb dX5_lay_36 (lv_at hl 0 rfl) ?_
        refine callMF (As := [.int (nI 1)]) (rest := []) (q0 := 0) (ci := 5) (ws' := ((wS cS aS (aW 0) (aB 0) (aC 0) (aH 0) (aT 0) aE (nI 1)) ++ ((wW cI aW n cl th ki va re fi) ++ ((wB cI aB bt bs) ++ ((wC cI cZ aC (aW 0) (aB 0) to co ke nu fw) ++ ((wH cI aH (aW 0) lt tr sh cr ct cu ve ta ch) ++ ((wH cI aT (aW 0) lt2 tr2 sh2 cr2 ct2 cu2 ve2 ta2 ch2) ++ (wE cI aE lo fo si it)))))))) G K hA w F_X5_find (c_X5_find aS aE la aW n cl th ki va re fi aB bt bs aC to co ke nu fw aH lt tr sh cr ct cu ve ta ch aT lt2 tr2 sh2 cr2 ct2 cu2 ve2 ta2 ch2 lo fo si it 1 J S B9 C9 H9 U9 E9) ml_X5_128 rfl rfl rfl (by decide) (by decide) rfl hl.1 (Nat.le_of_ble_eq_true rfl) dX5_lay_38 (fun Hp1 lo2 w => ?_)
        exact hret _ _ _ _ _ _ rfl rfl w dX5_lay_41
    · -- not taken at 11
      exact absurd ⟨j, hj9, rfl⟩ c11
set_option maxHeartbeats 4000000 in
set_option maxRecDepth 100000 in
theorem c_X5_lay_cast1 (aS : Nat → Nat) (aE : Nat → Nat) (la : Int32) (aW : Nat → Nat) (n : Nat) (cl : Nat) (th : Nat → Nat) (ki : Nat → Nat) (va : Nat → Nat) (re : Nat → Nat) (fi : Nat → Nat) (aB : Nat → Nat) (bt : Nat → Nat) (bs : Nat) (aC : Nat → Nat) (to : Nat → Prop) (co : Nat → Nat) (ke : Nat → Int32) (nu : Nat → Int32) (fw : Nat → Nat) (aH : Nat → Nat) (lt : Nat → Option Nat) (tr : Nat → Nat) (sh : Nat → Nat) (cr : Nat → Nat) (ct : Nat → Nat) (cu : Nat → Nat) (ve : Nat → Nat) (ta : Nat → Nat) (ch : Nat) (aT : Nat → Nat) (lt2 : Nat → Option Nat) (tr2 : Nat → Nat) (sh2 : Nat → Nat) (cr2 : Nat → Nat) (ct2 : Nat → Nat) (cu2 : Nat → Nat) (ve2 : Nat → Nat) (ta2 : Nat → Nat) (ch2 : Nat) (lo : Nat → Prop) (fo : Nat → Nat) (si : Nat → Nat) (it : Nat → Nat → Int32) (j : Nat) (y : Int32) (v : Int32) (J : IW n cl th ki va re fi) (S : SW n cl re fi) (B9 : (∀ j, bt j ≤ 255) ∧ bs ≤ 216) (C9 : (∀ j, co j ≤ 400) ∧ (∀ j, fw j ≤ 15)) (H9 : IHd lt tr sh cr ct cu ve ta ch) (U9 : IHd lt2 tr2 sh2 cr2 ct2 cu2 ve2 ta2 ch2) (E9 : (∀ j, fo j ≤ 2) ∧ (∀ j, si j ≤ 60)) (hj9 : j ≤ 2) (hf9 : ¬ lo 1) (hc9 : fo 1 ≠ j) : CM l D (TY cI cZ cS) yX5_lay cX5_lay 6 (some .int) 1 [.ref (aS 0), .int (nI 1), .int (nI j), .int y, .int v] ((wS cS aS (aW 0) (aB 0) (aC 0) (aH 0) (aT 0) aE la) ++ ((wW cI aW n cl th ki va re fi) ++ ((wB cI aB bt bs) ++ ((wC cI cZ aC (aW 0) (aB 0) to co ke nu fw) ++ ((wH cI aH (aW 0) lt tr sh cr ct cu ve ta ch) ++ ((wH cI aT (aW 0) lt2 tr2 sh2 cr2 ct2 cu2 ve2 ta2 ch2) ++ (wE cI aE lo fo si it))))))) (some (.int ((-10) - (nI 3)))) ((wS cS aS (aW 0) (aB 0) (aC 0) (aH 0) (aT 0) aE (nI 3)) ++ ((wW cI aW n cl th ki va re fi) ++ ((wB cI aB bt bs) ++ ((wC cI cZ aC (aW 0) (aB 0) to co ke nu fw) ++ ((wH cI aH (aW 0) lt tr sh cr ct cu ve ta ch) ++ ((wH cI aT (aW 0) lt2 tr2 sh2 cr2 ct2 cu2 ve2 ta2 ch2) ++ (wE cI aE lo fo si it))))))) := by
  refine CM.ofI (by decide +kernel) (Nat.le_of_ble_eq_true rfl) (nar_int _) ?_
  intro p e s m args below meth c Q A G K hA w hret ls hl
  obtain ⟨hx, hb, hml, hown, hts⟩ := id G
  obtain ⟨hn, hcl, hth, hki, hva, hre, hfi⟩ := id J
  obtain ⟨hbt, hbs⟩ := id B9
  obtain ⟨hco, hfw⟩ := id C9
  obtain ⟨hlt, htr, hsh, hcr, hct, hcu, hve, hta, hch⟩ := id H9
  obtain ⟨hlt2, htr2, hsh2, hcr2, hct2, hcu2, hve2, hta2, hch2⟩ := id U9
  obtain ⟨hfo, hsi⟩ := id E9
  have hl : lv_has ls 6 [(0, .ref (aS 0)), (1, .int (nI 1)), (2, .int (nI j)), (3, .int y), (4, .int v)] := hl
  refine lv_iload_n hx hb dX5_lay_0 rfl (lv_at hl 1 rfl) ?_
  refine callPS (rest := []) G K F_X5_isSheet (c_X5_isSheet (nI 1)) (va_P_nil D s.heap) ml_X5_121 (by decide) (by decide) rfl hl.1 (Nat.le_of_ble_eq_true rfl) dX5_lay_1 ?_
  refine b_eq G (tgt := 14) dX5_lay_4 (by decide) (fun c4 => ?_) (fun c4 => ?_)
  · -- taken at 4
    exact absurd ⟨1, by decide, rfl⟩ c4
  · -- not taken at 4
    refine lv_iload_n hx hb dX5_lay_7 rfl (lv_at hl 2 rfl) ?_
    refine callPS (rest := []) G K F_X5_isForm (c_X5_isForm (nI j)) (va_P_nil D s.heap) ml_X5_235 (by decide) (by decide) rfl hl.1 (Nat.le_of_ble_eq_true rfl) dX5_lay_8 ?_
    refine b_ne G (tgt := 17) dX5_lay_11 (by decide) (fun c11 => ?_) (fun c11 => ?_)
    · -- taken at 11
      refine lv_aload_n hx hb dX5_lay_17 rfl (lv_at hl 0 rfl) ?_
      refine f_get G K w.1 inX5 0 (ci := 5) rfl rfl 5 rfl fl_X5_46 (v := .ref (aS 1)) rfl dX5_lay_18 ?_
      refine lv_iload_n hx hb dX5_lay_21 rfl (lv_at hl 1 rfl) ?_
      refine a_ldR G K w.1 1 2 (a := (aS 1)) rfl rfl (by omega) (by decide) dX5_lay_22 ?_
      refine lv_iload_n hx hb dX5_lay_23 rfl (lv_at hl 2 rfl) ?_
      refine lv_iload_n hx hb dX5_lay_24 rfl (lv_at hl 3 rfl) ?_
      refine callPV (As := [.int (nI j), .int y]) (rest := []) (q0 := 0) (ci := 3) G K F_X3_findingAt (c_X3_findingAt (aE 1) (aE 5) (lo 1) (fo 1) (si 1) (it 1) j y ⟨hfo 1, hsi 1⟩ (by omega)) (w.1.sub (ws' := (wT cI (aE 1) (aE 5) (lo 1) (fo 1) (si 1) (it 1))) [35, 39] rfl) ml_X5_241 rfl rfl rfl (by decide) (by decide) rfl hl.1 (Nat.le_of_ble_eq_true rfl) dX5_lay_25 ?_
      refine t_i (y := (nI 3)) (congrArg nI (by unfold fdA; rw [cif_f hf9, cif_f hc9])) ?_
      refine lv_istore (lv' := [(5, .int (nI 3)), (0, .ref (aS 0)), (1, .int (nI 1)), (2, .int (nI j)), (3, .int y), (4, .int v)]) hx hb dX5_lay_28 hl (by decide) rfl (fun ls hl => ?_)
      refine lv_iload hx hb dX5_lay_30 (lv_at hl 0 rfl) ?_
      refine z_eq G (tgt := 42) (by omega) dX5_lay_32 (by decide) (fun c32 => ?_) (fun c32 => ?_)
      · -- taken at 32
        exact absurd c32 (by decide)
      · -- not taken at 32
        refine lv_aload_n hx hb dX5_lay_35 rfl (lv_at hl 1 rfl) ?_
        refine lv_iload hx hb dX5_lay_36 (lv_at hl 0 rfl) ?_
        refine callMF (As := [.int (nI 3)]) (rest := []) (q0 := 0) (ci := 5) (ws' := ((wS cS aS (aW 0) (aB 0) (aC 0) (aH 0) (aT 0) aE (nI 3)) ++ ((wW cI aW n cl th ki va re fi) ++ ((wB cI aB bt bs) ++ ((wC cI cZ aC (aW 0) (aB 0) to co ke nu fw) ++ ((wH cI aH (aW 0) lt tr sh cr ct cu ve ta ch) ++ ((wH cI aT (aW 0) lt2 tr2 sh2 cr2 ct2 cu2 ve2 ta2 ch2) ++ (wE cI aE lo fo si it)))))))) G K hA w F_X5_find (c_X5_find aS aE la aW n cl th ki va re fi aB bt bs aC to co ke nu fw aH lt tr sh cr ct cu ve ta ch aT lt2 tr2 sh2 cr2 ct2 cu2 ve2 ta2 ch2 lo fo si it 3 J S B9 C9 H9 U9 E9) ml_X5_128 rfl rfl rfl (by decide) (by decide) rfl hl.1 (Nat.le_of_ble_eq_true rfl) dX5_lay_38 (fun Hp1 lo2 w => ?_)
        exact hret _ _ _ _ _ _ rfl rfl w dX5_lay_41
    · -- not taken at 11
      exact absurd ⟨j, hj9, rfl⟩ c11
set_option maxHeartbeats 4000000 in
set_option maxRecDepth 100000 in
theorem c_X5_lay_idx1 (aS : Nat → Nat) (aE : Nat → Nat) (la : Int32) (aW : Nat → Nat) (n : Nat) (cl : Nat) (th : Nat → Nat) (ki : Nat → Nat) (va : Nat → Nat) (re : Nat → Nat) (fi : Nat → Nat) (aB : Nat → Nat) (bt : Nat → Nat) (bs : Nat) (aC : Nat → Nat) (to : Nat → Prop) (co : Nat → Nat) (ke : Nat → Int32) (nu : Nat → Int32) (fw : Nat → Nat) (aH : Nat → Nat) (lt : Nat → Option Nat) (tr : Nat → Nat) (sh : Nat → Nat) (cr : Nat → Nat) (ct : Nat → Nat) (cu : Nat → Nat) (ve : Nat → Nat) (ta : Nat → Nat) (ch : Nat) (aT : Nat → Nat) (lt2 : Nat → Option Nat) (tr2 : Nat → Nat) (sh2 : Nat → Nat) (cr2 : Nat → Nat) (ct2 : Nat → Nat) (cu2 : Nat → Nat) (ve2 : Nat → Nat) (ta2 : Nat → Nat) (ch2 : Nat) (lo : Nat → Prop) (fo : Nat → Nat) (si : Nat → Nat) (it : Nat → Nat → Int32) (j : Nat) (y : Int32) (v : Int32) (J : IW n cl th ki va re fi) (S : SW n cl re fi) (B9 : (∀ j, bt j ≤ 255) ∧ bs ≤ 216) (C9 : (∀ j, co j ≤ 400) ∧ (∀ j, fw j ≤ 15)) (H9 : IHd lt tr sh cr ct cu ve ta ch) (U9 : IHd lt2 tr2 sh2 cr2 ct2 cu2 ve2 ta2 ch2) (E9 : (∀ j, fo j ≤ 2) ∧ (∀ j, si j ≤ 60)) (hj9 : j ≤ 2) (hf9 : ¬ lo 1) (hc9 : fo 1 = j) (hx9 : ¬ okW (si 1) y) : CM l D (TY cI cZ cS) yX5_lay cX5_lay 6 (some .int) 1 [.ref (aS 0), .int (nI 1), .int (nI j), .int y, .int v] ((wS cS aS (aW 0) (aB 0) (aC 0) (aH 0) (aT 0) aE la) ++ ((wW cI aW n cl th ki va re fi) ++ ((wB cI aB bt bs) ++ ((wC cI cZ aC (aW 0) (aB 0) to co ke nu fw) ++ ((wH cI aH (aW 0) lt tr sh cr ct cu ve ta ch) ++ ((wH cI aT (aW 0) lt2 tr2 sh2 cr2 ct2 cu2 ve2 ta2 ch2) ++ (wE cI aE lo fo si it))))))) (some (.int ((-10) - (nI 2)))) ((wS cS aS (aW 0) (aB 0) (aC 0) (aH 0) (aT 0) aE (nI 2)) ++ ((wW cI aW n cl th ki va re fi) ++ ((wB cI aB bt bs) ++ ((wC cI cZ aC (aW 0) (aB 0) to co ke nu fw) ++ ((wH cI aH (aW 0) lt tr sh cr ct cu ve ta ch) ++ ((wH cI aT (aW 0) lt2 tr2 sh2 cr2 ct2 cu2 ve2 ta2 ch2) ++ (wE cI aE lo fo si it))))))) := by
  refine CM.ofI (by decide +kernel) (Nat.le_of_ble_eq_true rfl) (nar_int _) ?_
  intro p e s m args below meth c Q A G K hA w hret ls hl
  obtain ⟨hx, hb, hml, hown, hts⟩ := id G
  obtain ⟨hn, hcl, hth, hki, hva, hre, hfi⟩ := id J
  obtain ⟨hbt, hbs⟩ := id B9
  obtain ⟨hco, hfw⟩ := id C9
  obtain ⟨hlt, htr, hsh, hcr, hct, hcu, hve, hta, hch⟩ := id H9
  obtain ⟨hlt2, htr2, hsh2, hcr2, hct2, hcu2, hve2, hta2, hch2⟩ := id U9
  obtain ⟨hfo, hsi⟩ := id E9
  have hl : lv_has ls 6 [(0, .ref (aS 0)), (1, .int (nI 1)), (2, .int (nI j)), (3, .int y), (4, .int v)] := hl
  refine lv_iload_n hx hb dX5_lay_0 rfl (lv_at hl 1 rfl) ?_
  refine callPS (rest := []) G K F_X5_isSheet (c_X5_isSheet (nI 1)) (va_P_nil D s.heap) ml_X5_121 (by decide) (by decide) rfl hl.1 (Nat.le_of_ble_eq_true rfl) dX5_lay_1 ?_
  refine b_eq G (tgt := 14) dX5_lay_4 (by decide) (fun c4 => ?_) (fun c4 => ?_)
  · -- taken at 4
    exact absurd ⟨1, by decide, rfl⟩ c4
  · -- not taken at 4
    refine lv_iload_n hx hb dX5_lay_7 rfl (lv_at hl 2 rfl) ?_
    refine callPS (rest := []) G K F_X5_isForm (c_X5_isForm (nI j)) (va_P_nil D s.heap) ml_X5_235 (by decide) (by decide) rfl hl.1 (Nat.le_of_ble_eq_true rfl) dX5_lay_8 ?_
    refine b_ne G (tgt := 17) dX5_lay_11 (by decide) (fun c11 => ?_) (fun c11 => ?_)
    · -- taken at 11
      refine lv_aload_n hx hb dX5_lay_17 rfl (lv_at hl 0 rfl) ?_
      refine f_get G K w.1 inX5 0 (ci := 5) rfl rfl 5 rfl fl_X5_46 (v := .ref (aS 1)) rfl dX5_lay_18 ?_
      refine lv_iload_n hx hb dX5_lay_21 rfl (lv_at hl 1 rfl) ?_
      refine a_ldR G K w.1 1 2 (a := (aS 1)) rfl rfl (by omega) (by decide) dX5_lay_22 ?_
      refine lv_iload_n hx hb dX5_lay_23 rfl (lv_at hl 2 rfl) ?_
      refine lv_iload_n hx hb dX5_lay_24 rfl (lv_at hl 3 rfl) ?_
      refine callPV (As := [.int (nI j), .int y]) (rest := []) (q0 := 0) (ci := 3) G K F_X3_findingAt (c_X3_findingAt (aE 1) (aE 5) (lo 1) (fo 1) (si 1) (it 1) j y ⟨hfo 1, hsi 1⟩ (by omega)) (w.1.sub (ws' := (wT cI (aE 1) (aE 5) (lo 1) (fo 1) (si 1) (it 1))) [35, 39] rfl) ml_X5_241 rfl rfl rfl (by decide) (by decide) rfl hl.1 (Nat.le_of_ble_eq_true rfl) dX5_lay_25 ?_
      refine t_i (y := (nI 2)) (congrArg nI (by unfold fdA; rw [cif_f hf9, cif_t hc9, cif_f hx9])) ?_
      refine lv_istore (lv' := [(5, .int (nI 2)), (0, .ref (aS 0)), (1, .int (nI 1)), (2, .int (nI j)), (3, .int y), (4, .int v)]) hx hb dX5_lay_28 hl (by decide) rfl (fun ls hl => ?_)
      refine lv_iload hx hb dX5_lay_30 (lv_at hl 0 rfl) ?_
      refine z_eq G (tgt := 42) (by omega) dX5_lay_32 (by decide) (fun c32 => ?_) (fun c32 => ?_)
      · -- taken at 32
        exact absurd c32 (by decide)
      · -- not taken at 32
        refine lv_aload_n hx hb dX5_lay_35 rfl (lv_at hl 1 rfl) ?_
        refine lv_iload hx hb dX5_lay_36 (lv_at hl 0 rfl) ?_
        refine callMF (As := [.int (nI 2)]) (rest := []) (q0 := 0) (ci := 5) (ws' := ((wS cS aS (aW 0) (aB 0) (aC 0) (aH 0) (aT 0) aE (nI 2)) ++ ((wW cI aW n cl th ki va re fi) ++ ((wB cI aB bt bs) ++ ((wC cI cZ aC (aW 0) (aB 0) to co ke nu fw) ++ ((wH cI aH (aW 0) lt tr sh cr ct cu ve ta ch) ++ ((wH cI aT (aW 0) lt2 tr2 sh2 cr2 ct2 cu2 ve2 ta2 ch2) ++ (wE cI aE lo fo si it)))))))) G K hA w F_X5_find (c_X5_find aS aE la aW n cl th ki va re fi aB bt bs aC to co ke nu fw aH lt tr sh cr ct cu ve ta ch aT lt2 tr2 sh2 cr2 ct2 cu2 ve2 ta2 ch2 lo fo si it 2 J S B9 C9 H9 U9 E9) ml_X5_128 rfl rfl rfl (by decide) (by decide) rfl hl.1 (Nat.le_of_ble_eq_true rfl) dX5_lay_38 (fun Hp1 lo2 w => ?_)
        exact hret _ _ _ _ _ _ rfl rfl w dX5_lay_41
    · -- not taken at 11
      exact absurd ⟨j, hj9, rfl⟩ c11
set_option maxHeartbeats 4000000 in
set_option maxRecDepth 100000 in
theorem c_X5_lay_ok1 (aS : Nat → Nat) (aE : Nat → Nat) (la : Int32) (aW : Nat → Nat) (n : Nat) (cl : Nat) (th : Nat → Nat) (ki : Nat → Nat) (va : Nat → Nat) (re : Nat → Nat) (fi : Nat → Nat) (aB : Nat → Nat) (bt : Nat → Nat) (bs : Nat) (aC : Nat → Nat) (to : Nat → Prop) (co : Nat → Nat) (ke : Nat → Int32) (nu : Nat → Int32) (fw : Nat → Nat) (aH : Nat → Nat) (lt : Nat → Option Nat) (tr : Nat → Nat) (sh : Nat → Nat) (cr : Nat → Nat) (ct : Nat → Nat) (cu : Nat → Nat) (ve : Nat → Nat) (ta : Nat → Nat) (ch : Nat) (aT : Nat → Nat) (lt2 : Nat → Option Nat) (tr2 : Nat → Nat) (sh2 : Nat → Nat) (cr2 : Nat → Nat) (ct2 : Nat → Nat) (cu2 : Nat → Nat) (ve2 : Nat → Nat) (ta2 : Nat → Nat) (ch2 : Nat) (lo : Nat → Prop) (fo : Nat → Nat) (si : Nat → Nat) (it : Nat → Nat → Int32) (j : Nat) (k : Nat) (v : Int32) (J : IW n cl th ki va re fi) (S : SW n cl re fi) (B9 : (∀ j, bt j ≤ 255) ∧ bs ≤ 216) (C9 : (∀ j, co j ≤ 400) ∧ (∀ j, fw j ≤ 15)) (H9 : IHd lt tr sh cr ct cu ve ta ch) (U9 : IHd lt2 tr2 sh2 cr2 ct2 cu2 ve2 ta2 ch2) (E9 : (∀ j, fo j ≤ 2) ∧ (∀ j, si j ≤ 60)) (hj9 : j ≤ 2) (hf9 : ¬ lo 1) (hc9 : fo 1 = j) (hx9 : k < si 1) : CM l D (TY cI cZ cS) yX5_lay cX5_lay 6 (some .int) 1 [.ref (aS 0), .int (nI 1), .int (nI j), .int (nI k), .int v] ((wS cS aS (aW 0) (aB 0) (aC 0) (aH 0) (aT 0) aE la) ++ ((wW cI aW n cl th ki va re fi) ++ ((wB cI aB bt bs) ++ ((wC cI cZ aC (aW 0) (aB 0) to co ke nu fw) ++ ((wH cI aH (aW 0) lt tr sh cr ct cu ve ta ch) ++ ((wH cI aT (aW 0) lt2 tr2 sh2 cr2 ct2 cu2 ve2 ta2 ch2) ++ (wE cI aE lo fo si it))))))) (some (.int (nI 1))) ((wS cS aS (aW 0) (aB 0) (aC 0) (aH 0) (aT 0) aE la) ++ ((wW cI aW n cl th ki va re fi) ++ ((wB cI aB bt bs) ++ ((wC cI cZ aC (aW 0) (aB 0) to co ke nu fw) ++ ((wH cI aH (aW 0) lt tr sh cr ct cu ve ta ch) ++ ((wH cI aT (aW 0) lt2 tr2 sh2 cr2 ct2 cu2 ve2 ta2 ch2) ++ (wE cI aE lo fo si (va_up it 1 (va_up (it 1) k (cutV (nI (fo 1)) v)))))))))) := by
  refine CM.ofI (by decide +kernel) (Nat.le_of_ble_eq_true rfl) (nar_int _) ?_
  intro p e s m args below meth c Q A G K hA w hret ls hl
  obtain ⟨hx, hb, hml, hown, hts⟩ := id G
  obtain ⟨hn, hcl, hth, hki, hva, hre, hfi⟩ := id J
  obtain ⟨hbt, hbs⟩ := id B9
  obtain ⟨hco, hfw⟩ := id C9
  obtain ⟨hlt, htr, hsh, hcr, hct, hcu, hve, hta, hch⟩ := id H9
  obtain ⟨hlt2, htr2, hsh2, hcr2, hct2, hcu2, hve2, hta2, hch2⟩ := id U9
  obtain ⟨hfo, hsi⟩ := id E9
  have hs9 := hsi 1
  have hl : lv_has ls 6 [(0, .ref (aS 0)), (1, .int (nI 1)), (2, .int (nI j)), (3, .int (nI k)), (4, .int v)] := hl
  refine lv_iload_n hx hb dX5_lay_0 rfl (lv_at hl 1 rfl) ?_
  refine callPS (rest := []) G K F_X5_isSheet (c_X5_isSheet (nI 1)) (va_P_nil D s.heap) ml_X5_121 (by decide) (by decide) rfl hl.1 (Nat.le_of_ble_eq_true rfl) dX5_lay_1 ?_
  refine b_eq G (tgt := 14) dX5_lay_4 (by decide) (fun c4 => ?_) (fun c4 => ?_)
  · -- taken at 4
    exact absurd ⟨1, by decide, rfl⟩ c4
  · -- not taken at 4
    refine lv_iload_n hx hb dX5_lay_7 rfl (lv_at hl 2 rfl) ?_
    refine callPS (rest := []) G K F_X5_isForm (c_X5_isForm (nI j)) (va_P_nil D s.heap) ml_X5_235 (by decide) (by decide) rfl hl.1 (Nat.le_of_ble_eq_true rfl) dX5_lay_8 ?_
    refine b_ne G (tgt := 17) dX5_lay_11 (by decide) (fun c11 => ?_) (fun c11 => ?_)
    · -- taken at 11
      refine lv_aload_n hx hb dX5_lay_17 rfl (lv_at hl 0 rfl) ?_
      refine f_get G K w.1 inX5 0 (ci := 5) rfl rfl 5 rfl fl_X5_46 (v := .ref (aS 1)) rfl dX5_lay_18 ?_
      refine lv_iload_n hx hb dX5_lay_21 rfl (lv_at hl 1 rfl) ?_
      refine a_ldR G K w.1 1 2 (a := (aS 1)) rfl rfl (by omega) (by decide) dX5_lay_22 ?_
      refine lv_iload_n hx hb dX5_lay_23 rfl (lv_at hl 2 rfl) ?_
      refine lv_iload_n hx hb dX5_lay_24 rfl (lv_at hl 3 rfl) ?_
      refine callPV (As := [.int (nI j), .int (nI k)]) (rest := []) (q0 := 0) (ci := 3) G K F_X3_findingAt (c_X3_findingAt (aE 1) (aE 5) (lo 1) (fo 1) (si 1) (it 1) j (nI k) ⟨hfo 1, hsi 1⟩ (by omega)) (w.1.sub (ws' := (wT cI (aE 1) (aE 5) (lo 1) (fo 1) (si 1) (it 1))) [35, 39] rfl) ml_X5_241 rfl rfl rfl (by decide) (by decide) rfl hl.1 (Nat.le_of_ble_eq_true rfl) dX5_lay_25 ?_
      refine t_i (y := (nI 0)) (congrArg nI (by unfold fdA; rw [cif_f hf9, cif_t hc9, cif_t ⟨k, hx9, rfl⟩])) ?_
      refine lv_istore (lv' := [(5, .int (nI 0)), (0, .ref (aS 0)), (1, .int (nI 1)), (2, .int (nI j)), (3, .int (nI k)), (4, .int v)]) hx hb dX5_lay_28 hl (by decide) rfl (fun ls hl => ?_)
      refine lv_iload hx hb dX5_lay_30 (lv_at hl 0 rfl) ?_
      refine z_eq G (tgt := 42) (by omega) dX5_lay_32 (by decide) (fun c32 => ?_) (fun c32 => ?_)
      · -- taken at 32
        refine lv_aload_n hx hb dX5_lay_42 rfl (lv_at hl 1 rfl) ?_
        refine f_get G K w.1 inX5 0 (ci := 5) rfl rfl 5 rfl fl_X5_46 (v := .ref (aS 1)) rfl dX5_lay_43 ?_
        refine lv_iload_n hx hb dX5_lay_46 rfl (lv_at hl 2 rfl) ?_
        refine a_ldR G K w.1 1 2 (a := (aS 1)) rfl rfl (by omega) (by decide) dX5_lay_47 ?_
        refine lv_iload_n hx hb dX5_lay_48 rfl (lv_at hl 4 rfl) ?_
        refine lv_iload hx hb dX5_lay_49 (lv_at hl 5 rfl) ?_
        refine callMV (As := [.int (nI k), .int v]) (rest := []) (q0 := 0) (ci := 3) (wr := ((wS cS aS (aW 0) (aB 0) (aC 0) (aH 0) (aT 0) aE la) ++ ((wW cI aW n cl th ki va re fi) ++ ((wB cI aB bt bs) ++ ((wC cI cZ aC (aW 0) (aB 0) to co ke nu fw) ++ ((wH cI aH (aW 0) lt tr sh cr ct cu ve ta ch) ++ ((wH cI aT (aW 0) lt2 tr2 sh2 cr2 ct2 cu2 ve2 ta2 ch2) ++ ([(aE 0, .inr (3, [.ref (aE 4), .int (bI (lo 0)), .int (nI (fo 0)), .int (nI (si 0))])), (aE 2, .inr (3, [.ref (aE 6), .int (bI (lo 2)), .int (nI (fo 2)), .int (nI (si 2))])), (aE 3, .inr (3, [.ref (aE 7), .int (bI (lo 3)), .int (nI (fo 3)), .int (nI (si 3))])), (aE 4, .inl (cI, 60, .inl (it 0))), (aE 6, .inl (cI, 60, .inl (it 2))), (aE 7, .inl (cI, 60, .inl (it 3)))] : va_W)))))))) (ws2 := ((wS cS aS (aW 0) (aB 0) (aC 0) (aH 0) (aT 0) aE la) ++ ((wW cI aW n cl th ki va re fi) ++ ((wB cI aB bt bs) ++ ((wC cI cZ aC (aW 0) (aB 0) to co ke nu fw) ++ ((wH cI aH (aW 0) lt tr sh cr ct cu ve ta ch) ++ ((wH cI aT (aW 0) lt2 tr2 sh2 cr2 ct2 cu2 ve2 ta2 ch2) ++ (wE cI aE lo fo si (va_up it 1 (va_up (it 1) k (cutV (nI (fo 1)) v))))))))))) G K hA w F_X3_layItem (c_X3_layItem (aE 1) (aE 5) (lo 1) (fo 1) (si 1) (it 1) k v ⟨hfo 1, hsi 1⟩ (by omega)) ml_X5_244 [35, 39] [0, 1, 2, 3, 4, 5, 6, 7, 8, 9, 10, 11, 12, 13, 14, 15, 16, 17, 18, 19, 20, 21, 22, 23, 24, 25, 26, 27, 28, 29, 30, 31, 32, 33, 34, 36, 37, 38, 40, 41] [0, 1, 2, 3, 4, 5, 6, 7, 8, 9, 10, 11, 12, 13, 14, 15, 16, 17, 18, 19, 20, 21, 22, 23, 24, 25, 26, 27, 28, 29, 30, 31, 32, 33, 34, 40, 35, 36, 37, 41, 38, 39] rfl rfl rfl rfl rfl rfl rfl rfl rfl rfl (by decide) (by decide) rfl hl.1 (Nat.le_of_ble_eq_true rfl) dX5_lay_51 (fun Hp1 lo2 w => ?_)
        refine lv_iconst (v := (nI 1)) hx hb dX5_lay_54 (by decide) ?_
        exact hret _ _ _ _ _ _ rfl rfl w dX5_lay_55
      · -- not taken at 32
        exact absurd c32 (by decide)
    · -- not taken at 11
      exact absurd ⟨j, hj9, rfl⟩ c11
set_option maxHeartbeats 4000000 in
set_option maxRecDepth 100000 in
theorem c_X5_lay_nul2 (aS : Nat → Nat) (aE : Nat → Nat) (la : Int32) (aW : Nat → Nat) (n : Nat) (cl : Nat) (th : Nat → Nat) (ki : Nat → Nat) (va : Nat → Nat) (re : Nat → Nat) (fi : Nat → Nat) (aB : Nat → Nat) (bt : Nat → Nat) (bs : Nat) (aC : Nat → Nat) (to : Nat → Prop) (co : Nat → Nat) (ke : Nat → Int32) (nu : Nat → Int32) (fw : Nat → Nat) (aH : Nat → Nat) (lt : Nat → Option Nat) (tr : Nat → Nat) (sh : Nat → Nat) (cr : Nat → Nat) (ct : Nat → Nat) (cu : Nat → Nat) (ve : Nat → Nat) (ta : Nat → Nat) (ch : Nat) (aT : Nat → Nat) (lt2 : Nat → Option Nat) (tr2 : Nat → Nat) (sh2 : Nat → Nat) (cr2 : Nat → Nat) (ct2 : Nat → Nat) (cu2 : Nat → Nat) (ve2 : Nat → Nat) (ta2 : Nat → Nat) (ch2 : Nat) (lo : Nat → Prop) (fo : Nat → Nat) (si : Nat → Nat) (it : Nat → Nat → Int32) (j : Nat) (y : Int32) (v : Int32) (J : IW n cl th ki va re fi) (S : SW n cl re fi) (B9 : (∀ j, bt j ≤ 255) ∧ bs ≤ 216) (C9 : (∀ j, co j ≤ 400) ∧ (∀ j, fw j ≤ 15)) (H9 : IHd lt tr sh cr ct cu ve ta ch) (U9 : IHd lt2 tr2 sh2 cr2 ct2 cu2 ve2 ta2 ch2) (E9 : (∀ j, fo j ≤ 2) ∧ (∀ j, si j ≤ 60)) (hj9 : j ≤ 2) (hf9 : lo 2) : CM l D (TY cI cZ cS) yX5_lay cX5_lay 6 (some .int) 1 [.ref (aS 0), .int (nI 2), .int (nI j), .int y, .int v] ((wS cS aS (aW 0) (aB 0) (aC 0) (aH 0) (aT 0) aE la) ++ ((wW cI aW n cl th ki va re fi) ++ ((wB cI aB bt bs) ++ ((wC cI cZ aC (aW 0) (aB 0) to co ke nu fw) ++ ((wH cI aH (aW 0) lt tr sh cr ct cu ve ta ch) ++ ((wH cI aT (aW 0) lt2 tr2 sh2 cr2 ct2 cu2 ve2 ta2 ch2) ++ (wE cI aE lo fo si it))))))) (some (.int ((-10) - (nI 1)))) ((wS cS aS (aW 0) (aB 0) (aC 0) (aH 0) (aT 0) aE (nI 1)) ++ ((wW cI aW n cl th ki va re fi) ++ ((wB cI aB bt bs) ++ ((wC cI cZ aC (aW 0) (aB 0) to co ke nu fw) ++ ((wH cI aH (aW 0) lt tr sh cr ct cu ve ta ch) ++ ((wH cI aT (aW 0) lt2 tr2 sh2 cr2 ct2 cu2 ve2 ta2 ch2) ++ (wE cI aE lo fo si it))))))) := by
  refine CM.ofI (by decide +kernel) (Nat.le_of_ble_eq_true rfl) (nar_int _) ?_
  intro p e s m args below meth c Q A G K hA w hret ls hl
  obtain ⟨hx, hb, hml, hown, hts⟩ := id G
  obtain ⟨hn, hcl, hth, hki, hva, hre, hfi⟩ := id J
  obtain ⟨hbt, hbs⟩ := id B9
  obtain ⟨hco, hfw⟩ := id C9
  obtain ⟨hlt, htr, hsh, hcr, hct, hcu, hve, hta, hch⟩ := id H9
  obtain ⟨hlt2, htr2, hsh2, hcr2, hct2, hcu2, hve2, hta2, hch2⟩ := id U9
  obtain ⟨hfo, hsi⟩ := id E9
  have hl : lv_has ls 6 [(0, .ref (aS 0)), (1, .int (nI 2)), (2, .int (nI j)), (3, .int y), (4, .int v)] := hl
  refine lv_iload_n hx hb dX5_lay_0 rfl (lv_at hl 1 rfl) ?_
  refine callPS (rest := []) G K F_X5_isSheet (c_X5_isSheet (nI 2)) (va_P_nil D s.heap) ml_X5_121 (by decide) (by decide) rfl hl.1 (Nat.le_of_ble_eq_true rfl) dX5_lay_1 ?_
  refine b_eq G (tgt := 14) dX5_lay_4 (by decide) (fun c4 => ?_) (fun c4 => ?_)
  · -- taken at 4
    exact absurd ⟨2, by decide, rfl⟩ c4
  · -- not taken at 4
    refine lv_iload_n hx hb dX5_lay_7 rfl (lv_at hl 2 rfl) ?_
    refine callPS (rest := []) G K F_X5_isForm (c_X5_isForm (nI j)) (va_P_nil D s.heap) ml_X5_235 (by decide) (by decide) rfl hl.1 (Nat.le_of_ble_eq_true rfl) dX5_lay_8 ?_
    refine b_ne G (tgt := 17) dX5_lay_11 (by decide) (fun c11 => ?_) (fun c11 => ?_)
    · -- taken at 11
      refine lv_aload_n hx hb dX5_lay_17 rfl (lv_at hl 0 rfl) ?_
      refine f_get G K w.1 inX5 0 (ci := 5) rfl rfl 5 rfl fl_X5_46 (v := .ref (aS 1)) rfl dX5_lay_18 ?_
      refine lv_iload_n hx hb dX5_lay_21 rfl (lv_at hl 1 rfl) ?_
      refine a_ldR G K w.1 1 2 (a := (aS 1)) rfl rfl (by omega) (by decide) dX5_lay_22 ?_
      refine lv_iload_n hx hb dX5_lay_23 rfl (lv_at hl 2 rfl) ?_
      refine lv_iload_n hx hb dX5_lay_24 rfl (lv_at hl 3 rfl) ?_
      refine callPV (As := [.int (nI j), .int y]) (rest := []) (q0 := 0) (ci := 3) G K F_X3_findingAt (c_X3_findingAt (aE 2) (aE 6) (lo 2) (fo 2) (si 2) (it 2) j y ⟨hfo 2, hsi 2⟩ (by omega)) (w.1.sub (ws' := (wT cI (aE 2) (aE 6) (lo 2) (fo 2) (si 2) (it 2))) [36, 40] rfl) ml_X5_241 rfl rfl rfl (by decide) (by decide) rfl hl.1 (Nat.le_of_ble_eq_true rfl) dX5_lay_25 ?_
      refine t_i (y := (nI 1)) (congrArg nI (by unfold fdA; rw [cif_t hf9])) ?_
      refine lv_istore (lv' := [(5, .int (nI 1)), (0, .ref (aS 0)), (1, .int (nI 2)), (2, .int (nI j)), (3, .int y), (4, .int v)]) hx hb dX5_lay_28 hl (by decide) rfl (fun ls hl => ?_)
      refine lv_iload hx hb dX5_lay_30 (lv_at hl 0 rfl) ?_
      refine z_eq G (tgt := 42) (by omega) dX5_lay_32 (by decide) (fun c32 => ?_) (fun c32 => ?_)
      · -- taken at 32
        exact absurd c32 (by decide)
      · -- not taken at 32
        refine lv_aload_n hx hb dX5_lay_35 rfl (lv_at hl 1 rfl) ?_
        refine lv_iload hx hb dX5_lay_36 (lv_at hl 0 rfl) ?_
        refine callMF (As := [.int (nI 1)]) (rest := []) (q0 := 0) (ci := 5) (ws' := ((wS cS aS (aW 0) (aB 0) (aC 0) (aH 0) (aT 0) aE (nI 1)) ++ ((wW cI aW n cl th ki va re fi) ++ ((wB cI aB bt bs) ++ ((wC cI cZ aC (aW 0) (aB 0) to co ke nu fw) ++ ((wH cI aH (aW 0) lt tr sh cr ct cu ve ta ch) ++ ((wH cI aT (aW 0) lt2 tr2 sh2 cr2 ct2 cu2 ve2 ta2 ch2) ++ (wE cI aE lo fo si it)))))))) G K hA w F_X5_find (c_X5_find aS aE la aW n cl th ki va re fi aB bt bs aC to co ke nu fw aH lt tr sh cr ct cu ve ta ch aT lt2 tr2 sh2 cr2 ct2 cu2 ve2 ta2 ch2 lo fo si it 1 J S B9 C9 H9 U9 E9) ml_X5_128 rfl rfl rfl (by decide) (by decide) rfl hl.1 (Nat.le_of_ble_eq_true rfl) dX5_lay_38 (fun Hp1 lo2 w => ?_)
        exact hret _ _ _ _ _ _ rfl rfl w dX5_lay_41
    · -- not taken at 11
      exact absurd ⟨j, hj9, rfl⟩ c11
set_option maxHeartbeats 4000000 in
set_option maxRecDepth 100000 in
theorem c_X5_lay_cast2 (aS : Nat → Nat) (aE : Nat → Nat) (la : Int32) (aW : Nat → Nat) (n : Nat) (cl : Nat) (th : Nat → Nat) (ki : Nat → Nat) (va : Nat → Nat) (re : Nat → Nat) (fi : Nat → Nat) (aB : Nat → Nat) (bt : Nat → Nat) (bs : Nat) (aC : Nat → Nat) (to : Nat → Prop) (co : Nat → Nat) (ke : Nat → Int32) (nu : Nat → Int32) (fw : Nat → Nat) (aH : Nat → Nat) (lt : Nat → Option Nat) (tr : Nat → Nat) (sh : Nat → Nat) (cr : Nat → Nat) (ct : Nat → Nat) (cu : Nat → Nat) (ve : Nat → Nat) (ta : Nat → Nat) (ch : Nat) (aT : Nat → Nat) (lt2 : Nat → Option Nat) (tr2 : Nat → Nat) (sh2 : Nat → Nat) (cr2 : Nat → Nat) (ct2 : Nat → Nat) (cu2 : Nat → Nat) (ve2 : Nat → Nat) (ta2 : Nat → Nat) (ch2 : Nat) (lo : Nat → Prop) (fo : Nat → Nat) (si : Nat → Nat) (it : Nat → Nat → Int32) (j : Nat) (y : Int32) (v : Int32) (J : IW n cl th ki va re fi) (S : SW n cl re fi) (B9 : (∀ j, bt j ≤ 255) ∧ bs ≤ 216) (C9 : (∀ j, co j ≤ 400) ∧ (∀ j, fw j ≤ 15)) (H9 : IHd lt tr sh cr ct cu ve ta ch) (U9 : IHd lt2 tr2 sh2 cr2 ct2 cu2 ve2 ta2 ch2) (E9 : (∀ j, fo j ≤ 2) ∧ (∀ j, si j ≤ 60)) (hj9 : j ≤ 2) (hf9 : ¬ lo 2) (hc9 : fo 2 ≠ j) : CM l D (TY cI cZ cS) yX5_lay cX5_lay 6 (some .int) 1 [.ref (aS 0), .int (nI 2), .int (nI j), .int y, .int v] ((wS cS aS (aW 0) (aB 0) (aC 0) (aH 0) (aT 0) aE la) ++ ((wW cI aW n cl th ki va re fi) ++ ((wB cI aB bt bs) ++ ((wC cI cZ aC (aW 0) (aB 0) to co ke nu fw) ++ ((wH cI aH (aW 0) lt tr sh cr ct cu ve ta ch) ++ ((wH cI aT (aW 0) lt2 tr2 sh2 cr2 ct2 cu2 ve2 ta2 ch2) ++ (wE cI aE lo fo si it))))))) (some (.int ((-10) - (nI 3)))) ((wS cS aS (aW 0) (aB 0) (aC 0) (aH 0) (aT 0) aE (nI 3)) ++ ((wW cI aW n cl th ki va re fi) ++ ((wB cI aB bt bs) ++ ((wC cI cZ aC (aW 0) (aB 0) to co ke nu fw) ++ ((wH cI aH (aW 0) lt tr sh cr ct cu ve ta ch) ++ ((wH cI aT (aW 0) lt2 tr2 sh2 cr2 ct2 cu2 ve2 ta2 ch2) ++ (wE cI aE lo fo si it))))))) := by
  refine CM.ofI (by decide +kernel) (Nat.le_of_ble_eq_true rfl) (nar_int _) ?_
  intro p e s m args below meth c Q A G K hA w hret ls hl
  obtain ⟨hx, hb, hml, hown, hts⟩ := id G
  obtain ⟨hn, hcl, hth, hki, hva, hre, hfi⟩ := id J
  obtain ⟨hbt, hbs⟩ := id B9
  obtain ⟨hco, hfw⟩ := id C9
  obtain ⟨hlt, htr, hsh, hcr, hct, hcu, hve, hta, hch⟩ := id H9
  obtain ⟨hlt2, htr2, hsh2, hcr2, hct2, hcu2, hve2, hta2, hch2⟩ := id U9
  obtain ⟨hfo, hsi⟩ := id E9
  have hl : lv_has ls 6 [(0, .ref (aS 0)), (1, .int (nI 2)), (2, .int (nI j)), (3, .int y), (4, .int v)] := hl
  refine lv_iload_n hx hb dX5_lay_0 rfl (lv_at hl 1 rfl) ?_
  refine callPS (rest := []) G K F_X5_isSheet (c_X5_isSheet (nI 2)) (va_P_nil D s.heap) ml_X5_121 (by decide) (by decide) rfl hl.1 (Nat.le_of_ble_eq_true rfl) dX5_lay_1 ?_
  refine b_eq G (tgt := 14) dX5_lay_4 (by decide) (fun c4 => ?_) (fun c4 => ?_)
  · -- taken at 4
    exact absurd ⟨2, by decide, rfl⟩ c4
  · -- not taken at 4
    refine lv_iload_n hx hb dX5_lay_7 rfl (lv_at hl 2 rfl) ?_
    refine callPS (rest := []) G K F_X5_isForm (c_X5_isForm (nI j)) (va_P_nil D s.heap) ml_X5_235 (by decide) (by decide) rfl hl.1 (Nat.le_of_ble_eq_true rfl) dX5_lay_8 ?_
    refine b_ne G (tgt := 17) dX5_lay_11 (by decide) (fun c11 => ?_) (fun c11 => ?_)
    · -- taken at 11
      refine lv_aload_n hx hb dX5_lay_17 rfl (lv_at hl 0 rfl) ?_
      refine f_get G K w.1 inX5 0 (ci := 5) rfl rfl 5 rfl fl_X5_46 (v := .ref (aS 1)) rfl dX5_lay_18 ?_
      refine lv_iload_n hx hb dX5_lay_21 rfl (lv_at hl 1 rfl) ?_
      refine a_ldR G K w.1 1 2 (a := (aS 1)) rfl rfl (by omega) (by decide) dX5_lay_22 ?_
      refine lv_iload_n hx hb dX5_lay_23 rfl (lv_at hl 2 rfl) ?_
      refine lv_iload_n hx hb dX5_lay_24 rfl (lv_at hl 3 rfl) ?_
      refine callPV (As := [.int (nI j), .int y]) (rest := []) (q0 := 0) (ci := 3) G K F_X3_findingAt (c_X3_findingAt (aE 2) (aE 6) (lo 2) (fo 2) (si 2) (it 2) j y ⟨hfo 2, hsi 2⟩ (by omega)) (w.1.sub (ws' := (wT cI (aE 2) (aE 6) (lo 2) (fo 2) (si 2) (it 2))) [36, 40] rfl) ml_X5_241 rfl rfl rfl (by decide) (by decide) rfl hl.1 (Nat.le_of_ble_eq_true rfl) dX5_lay_25 ?_
      refine t_i (y := (nI 3)) (congrArg nI (by unfold fdA; rw [cif_f hf9, cif_f hc9])) ?_
      refine lv_istore (lv' := [(5, .int (nI 3)), (0, .ref (aS 0)), (1, .int (nI 2)), (2, .int (nI j)), (3, .int y), (4, .int v)]) hx hb dX5_lay_28 hl (by decide) rfl (fun ls hl => ?_)
      refine lv_iload hx hb dX5_lay_30 (lv_at hl 0 rfl) ?_
      refine z_eq G (tgt := 42) (by omega) dX5_lay_32 (by decide) (fun c32 => ?_) (fun c32 => ?_)
      · -- taken at 32
        exact absurd c32 (by decide)
      · -- not taken at 32
        refine lv_aload_n hx hb dX5_lay_35 rfl (lv_at hl 1 rfl) ?_
        refine lv_iload hx hb dX5_lay_36 (lv_at hl 0 rfl) ?_
        refine callMF (As := [.int (nI 3)]) (rest := []) (q0 := 0) (ci := 5) (ws' := ((wS cS aS (aW 0) (aB 0) (aC 0) (aH 0) (aT 0) aE (nI 3)) ++ ((wW cI aW n cl th ki va re fi) ++ ((wB cI aB bt bs) ++ ((wC cI cZ aC (aW 0) (aB 0) to co ke nu fw) ++ ((wH cI aH (aW 0) lt tr sh cr ct cu ve ta ch) ++ ((wH cI aT (aW 0) lt2 tr2 sh2 cr2 ct2 cu2 ve2 ta2 ch2) ++ (wE cI aE lo fo si it)))))))) G K hA w F_X5_find (c_X5_find aS aE la aW n cl th ki va re fi aB bt bs aC to co ke nu fw aH lt tr sh cr ct cu ve ta ch aT lt2 tr2 sh2 cr2 ct2 cu2 ve2 ta2 ch2 lo fo si it 3 J S B9 C9 H9 U9 E9) ml_X5_128 rfl rfl rfl (by decide) (by decide) rfl hl.1 (Nat.le_of_ble_eq_true rfl) dX5_lay_38 (fun Hp1 lo2 w => ?_)
        exact hret _ _ _ _ _ _ rfl rfl w dX5_lay_41
    · -- not taken at 11
      exact absurd ⟨j, hj9, rfl⟩ c11
set_option maxHeartbeats 4000000 in
set_option maxRecDepth 100000 in
theorem c_X5_lay_idx2 (aS : Nat → Nat) (aE : Nat → Nat) (la : Int32) (aW : Nat → Nat) (n : Nat) (cl : Nat) (th : Nat → Nat) (ki : Nat → Nat) (va : Nat → Nat) (re : Nat → Nat) (fi : Nat → Nat) (aB : Nat → Nat) (bt : Nat → Nat) (bs : Nat) (aC : Nat → Nat) (to : Nat → Prop) (co : Nat → Nat) (ke : Nat → Int32) (nu : Nat → Int32) (fw : Nat → Nat) (aH : Nat → Nat) (lt : Nat → Option Nat) (tr : Nat → Nat) (sh : Nat → Nat) (cr : Nat → Nat) (ct : Nat → Nat) (cu : Nat → Nat) (ve : Nat → Nat) (ta : Nat → Nat) (ch : Nat) (aT : Nat → Nat) (lt2 : Nat → Option Nat) (tr2 : Nat → Nat) (sh2 : Nat → Nat) (cr2 : Nat → Nat) (ct2 : Nat → Nat) (cu2 : Nat → Nat) (ve2 : Nat → Nat) (ta2 : Nat → Nat) (ch2 : Nat) (lo : Nat → Prop) (fo : Nat → Nat) (si : Nat → Nat) (it : Nat → Nat → Int32) (j : Nat) (y : Int32) (v : Int32) (J : IW n cl th ki va re fi) (S : SW n cl re fi) (B9 : (∀ j, bt j ≤ 255) ∧ bs ≤ 216) (C9 : (∀ j, co j ≤ 400) ∧ (∀ j, fw j ≤ 15)) (H9 : IHd lt tr sh cr ct cu ve ta ch) (U9 : IHd lt2 tr2 sh2 cr2 ct2 cu2 ve2 ta2 ch2) (E9 : (∀ j, fo j ≤ 2) ∧ (∀ j, si j ≤ 60)) (hj9 : j ≤ 2) (hf9 : ¬ lo 2) (hc9 : fo 2 = j) (hx9 : ¬ okW (si 2) y) : CM l D (TY cI cZ cS) yX5_lay cX5_lay 6 (some .int) 1 [.ref (aS 0), .int (nI 2), .int (nI j), .int y, .int v] ((wS cS aS (aW 0) (aB 0) (aC 0) (aH 0) (aT 0) aE la) ++ ((wW cI aW n cl th ki va re fi) ++ ((wB cI aB bt bs) ++ ((wC cI cZ aC (aW 0) (aB 0) to co ke nu fw) ++ ((wH cI aH (aW 0) lt tr sh cr ct cu ve ta ch) ++ ((wH cI aT (aW 0) lt2 tr2 sh2 cr2 ct2 cu2 ve2 ta2 ch2) ++ (wE cI aE lo fo si it))))))) (some (.int ((-10) - (nI 2)))) ((wS cS aS (aW 0) (aB 0) (aC 0) (aH 0) (aT 0) aE (nI 2)) ++ ((wW cI aW n cl th ki va re fi) ++ ((wB cI aB bt bs) ++ ((wC cI cZ aC (aW 0) (aB 0) to co ke nu fw) ++ ((wH cI aH (aW 0) lt tr sh cr ct cu ve ta ch) ++ ((wH cI aT (aW 0) lt2 tr2 sh2 cr2 ct2 cu2 ve2 ta2 ch2) ++ (wE cI aE lo fo si it))))))) := by
  refine CM.ofI (by decide +kernel) (Nat.le_of_ble_eq_true rfl) (nar_int _) ?_
  intro p e s m args below meth c Q A G K hA w hret ls hl
  obtain ⟨hx, hb, hml, hown, hts⟩ := id G
  obtain ⟨hn, hcl, hth, hki, hva, hre, hfi⟩ := id J
  obtain ⟨hbt, hbs⟩ := id B9
  obtain ⟨hco, hfw⟩ := id C9
  obtain ⟨hlt, htr, hsh, hcr, hct, hcu, hve, hta, hch⟩ := id H9
  obtain ⟨hlt2, htr2, hsh2, hcr2, hct2, hcu2, hve2, hta2, hch2⟩ := id U9
  obtain ⟨hfo, hsi⟩ := id E9
  have hl : lv_has ls 6 [(0, .ref (aS 0)), (1, .int (nI 2)), (2, .int (nI j)), (3, .int y), (4, .int v)] := hl
  refine lv_iload_n hx hb dX5_lay_0 rfl (lv_at hl 1 rfl) ?_
  refine callPS (rest := []) G K F_X5_isSheet (c_X5_isSheet (nI 2)) (va_P_nil D s.heap) ml_X5_121 (by decide) (by decide) rfl hl.1 (Nat.le_of_ble_eq_true rfl) dX5_lay_1 ?_
  refine b_eq G (tgt := 14) dX5_lay_4 (by decide) (fun c4 => ?_) (fun c4 => ?_)
  · -- taken at 4
    exact absurd ⟨2, by decide, rfl⟩ c4
  · -- not taken at 4
    refine lv_iload_n hx hb dX5_lay_7 rfl (lv_at hl 2 rfl) ?_
    refine callPS (rest := []) G K F_X5_isForm (c_X5_isForm (nI j)) (va_P_nil D s.heap) ml_X5_235 (by decide) (by decide) rfl hl.1 (Nat.le_of_ble_eq_true rfl) dX5_lay_8 ?_
    refine b_ne G (tgt := 17) dX5_lay_11 (by decide) (fun c11 => ?_) (fun c11 => ?_)
    · -- taken at 11
      refine lv_aload_n hx hb dX5_lay_17 rfl (lv_at hl 0 rfl) ?_
      refine f_get G K w.1 inX5 0 (ci := 5) rfl rfl 5 rfl fl_X5_46 (v := .ref (aS 1)) rfl dX5_lay_18 ?_
      refine lv_iload_n hx hb dX5_lay_21 rfl (lv_at hl 1 rfl) ?_
      refine a_ldR G K w.1 1 2 (a := (aS 1)) rfl rfl (by omega) (by decide) dX5_lay_22 ?_
      refine lv_iload_n hx hb dX5_lay_23 rfl (lv_at hl 2 rfl) ?_
      refine lv_iload_n hx hb dX5_lay_24 rfl (lv_at hl 3 rfl) ?_
      refine callPV (As := [.int (nI j), .int y]) (rest := []) (q0 := 0) (ci := 3) G K F_X3_findingAt (c_X3_findingAt (aE 2) (aE 6) (lo 2) (fo 2) (si 2) (it 2) j y ⟨hfo 2, hsi 2⟩ (by omega)) (w.1.sub (ws' := (wT cI (aE 2) (aE 6) (lo 2) (fo 2) (si 2) (it 2))) [36, 40] rfl) ml_X5_241 rfl rfl rfl (by decide) (by decide) rfl hl.1 (Nat.le_of_ble_eq_true rfl) dX5_lay_25 ?_
      refine t_i (y := (nI 2)) (congrArg nI (by unfold fdA; rw [cif_f hf9, cif_t hc9, cif_f hx9])) ?_
      refine lv_istore (lv' := [(5, .int (nI 2)), (0, .ref (aS 0)), (1, .int (nI 2)), (2, .int (nI j)), (3, .int y), (4, .int v)]) hx hb dX5_lay_28 hl (by decide) rfl (fun ls hl => ?_)
      refine lv_iload hx hb dX5_lay_30 (lv_at hl 0 rfl) ?_
      refine z_eq G (tgt := 42) (by omega) dX5_lay_32 (by decide) (fun c32 => ?_) (fun c32 => ?_)
      · -- taken at 32
        exact absurd c32 (by decide)
      · -- not taken at 32
        refine lv_aload_n hx hb dX5_lay_35 rfl (lv_at hl 1 rfl) ?_
        refine lv_iload hx hb dX5_lay_36 (lv_at hl 0 rfl) ?_
        refine callMF (As := [.int (nI 2)]) (rest := []) (q0 := 0) (ci := 5) (ws' := ((wS cS aS (aW 0) (aB 0) (aC 0) (aH 0) (aT 0) aE (nI 2)) ++ ((wW cI aW n cl th ki va re fi) ++ ((wB cI aB bt bs) ++ ((wC cI cZ aC (aW 0) (aB 0) to co ke nu fw) ++ ((wH cI aH (aW 0) lt tr sh cr ct cu ve ta ch) ++ ((wH cI aT (aW 0) lt2 tr2 sh2 cr2 ct2 cu2 ve2 ta2 ch2) ++ (wE cI aE lo fo si it)))))))) G K hA w F_X5_find (c_X5_find aS aE la aW n cl th ki va re fi aB bt bs aC to co ke nu fw aH lt tr sh cr ct cu ve ta ch aT lt2 tr2 sh2 cr2 ct2 cu2 ve2 ta2 ch2 lo fo si it 2 J S B9 C9 H9 U9 E9) ml_X5_128 rfl rfl rfl (by decide) (by decide) rfl hl.1 (Nat.le_of_ble_eq_true rfl) dX5_lay_38 (fun Hp1 lo2 w => ?_)
        exact hret _ _ _ _ _ _ rfl rfl w dX5_lay_41
    · -- not taken at 11
      exact absurd ⟨j, hj9, rfl⟩ c11
set_option maxHeartbeats 4000000 in
set_option maxRecDepth 100000 in
theorem c_X5_lay_ok2 (aS : Nat → Nat) (aE : Nat → Nat) (la : Int32) (aW : Nat → Nat) (n : Nat) (cl : Nat) (th : Nat → Nat) (ki : Nat → Nat) (va : Nat → Nat) (re : Nat → Nat) (fi : Nat → Nat) (aB : Nat → Nat) (bt : Nat → Nat) (bs : Nat) (aC : Nat → Nat) (to : Nat → Prop) (co : Nat → Nat) (ke : Nat → Int32) (nu : Nat → Int32) (fw : Nat → Nat) (aH : Nat → Nat) (lt : Nat → Option Nat) (tr : Nat → Nat) (sh : Nat → Nat) (cr : Nat → Nat) (ct : Nat → Nat) (cu : Nat → Nat) (ve : Nat → Nat) (ta : Nat → Nat) (ch : Nat) (aT : Nat → Nat) (lt2 : Nat → Option Nat) (tr2 : Nat → Nat) (sh2 : Nat → Nat) (cr2 : Nat → Nat) (ct2 : Nat → Nat) (cu2 : Nat → Nat) (ve2 : Nat → Nat) (ta2 : Nat → Nat) (ch2 : Nat) (lo : Nat → Prop) (fo : Nat → Nat) (si : Nat → Nat) (it : Nat → Nat → Int32) (j : Nat) (k : Nat) (v : Int32) (J : IW n cl th ki va re fi) (S : SW n cl re fi) (B9 : (∀ j, bt j ≤ 255) ∧ bs ≤ 216) (C9 : (∀ j, co j ≤ 400) ∧ (∀ j, fw j ≤ 15)) (H9 : IHd lt tr sh cr ct cu ve ta ch) (U9 : IHd lt2 tr2 sh2 cr2 ct2 cu2 ve2 ta2 ch2) (E9 : (∀ j, fo j ≤ 2) ∧ (∀ j, si j ≤ 60)) (hj9 : j ≤ 2) (hf9 : ¬ lo 2) (hc9 : fo 2 = j) (hx9 : k < si 2) : CM l D (TY cI cZ cS) yX5_lay cX5_lay 6 (some .int) 1 [.ref (aS 0), .int (nI 2), .int (nI j), .int (nI k), .int v] ((wS cS aS (aW 0) (aB 0) (aC 0) (aH 0) (aT 0) aE la) ++ ((wW cI aW n cl th ki va re fi) ++ ((wB cI aB bt bs) ++ ((wC cI cZ aC (aW 0) (aB 0) to co ke nu fw) ++ ((wH cI aH (aW 0) lt tr sh cr ct cu ve ta ch) ++ ((wH cI aT (aW 0) lt2 tr2 sh2 cr2 ct2 cu2 ve2 ta2 ch2) ++ (wE cI aE lo fo si it))))))) (some (.int (nI 1))) ((wS cS aS (aW 0) (aB 0) (aC 0) (aH 0) (aT 0) aE la) ++ ((wW cI aW n cl th ki va re fi) ++ ((wB cI aB bt bs) ++ ((wC cI cZ aC (aW 0) (aB 0) to co ke nu fw) ++ ((wH cI aH (aW 0) lt tr sh cr ct cu ve ta ch) ++ ((wH cI aT (aW 0) lt2 tr2 sh2 cr2 ct2 cu2 ve2 ta2 ch2) ++ (wE cI aE lo fo si (va_up it 2 (va_up (it 2) k (cutV (nI (fo 2)) v)))))))))) := by
  refine CM.ofI (by decide +kernel) (Nat.le_of_ble_eq_true rfl) (nar_int _) ?_
  intro p e s m args below meth c Q A G K hA w hret ls hl
  obtain ⟨hx, hb, hml, hown, hts⟩ := id G
  obtain ⟨hn, hcl, hth, hki, hva, hre, hfi⟩ := id J
  obtain ⟨hbt, hbs⟩ := id B9
  obtain ⟨hco, hfw⟩ := id C9
  obtain ⟨hlt, htr, hsh, hcr, hct, hcu, hve, hta, hch⟩ := id H9
  obtain ⟨hlt2, htr2, hsh2, hcr2, hct2, hcu2, hve2, hta2, hch2⟩ := id U9
  obtain ⟨hfo, hsi⟩ := id E9
  have hs9 := hsi 2
  have hl : lv_has ls 6 [(0, .ref (aS 0)), (1, .int (nI 2)), (2, .int (nI j)), (3, .int (nI k)), (4, .int v)] := hl
  refine lv_iload_n hx hb dX5_lay_0 rfl (lv_at hl 1 rfl) ?_
  refine callPS (rest := []) G K F_X5_isSheet (c_X5_isSheet (nI 2)) (va_P_nil D s.heap) ml_X5_121 (by decide) (by decide) rfl hl.1 (Nat.le_of_ble_eq_true rfl) dX5_lay_1 ?_
  refine b_eq G (tgt := 14) dX5_lay_4 (by decide) (fun c4 => ?_) (fun c4 => ?_)
  · -- taken at 4
    exact absurd ⟨2, by decide, rfl⟩ c4
  · -- not taken at 4
    refine lv_iload_n hx hb dX5_lay_7 rfl (lv_at hl 2 rfl) ?_
    refine callPS (rest := []) G K F_X5_isForm (c_X5_isForm (nI j)) (va_P_nil D s.heap) ml_X5_235 (by decide) (by decide) rfl hl.1 (Nat.le_of_ble_eq_true rfl) dX5_lay_8 ?_
    refine b_ne G (tgt := 17) dX5_lay_11 (by decide) (fun c11 => ?_) (fun c11 => ?_)
    · -- taken at 11
      refine lv_aload_n hx hb dX5_lay_17 rfl (lv_at hl 0 rfl) ?_
      refine f_get G K w.1 inX5 0 (ci := 5) rfl rfl 5 rfl fl_X5_46 (v := .ref (aS 1)) rfl dX5_lay_18 ?_
      refine lv_iload_n hx hb dX5_lay_21 rfl (lv_at hl 1 rfl) ?_
      refine a_ldR G K w.1 1 2 (a := (aS 1)) rfl rfl (by omega) (by decide) dX5_lay_22 ?_
      refine lv_iload_n hx hb dX5_lay_23 rfl (lv_at hl 2 rfl) ?_
      refine lv_iload_n hx hb dX5_lay_24 rfl (lv_at hl 3 rfl) ?_
      refine callPV (As := [.int (nI j), .int (nI k)]) (rest := []) (q0 := 0) (ci := 3) G K F_X3_findingAt (c_X3_findingAt (aE 2) (aE 6) (lo 2) (fo 2) (si 2) (it 2) j (nI k) ⟨hfo 2, hsi 2⟩ (by omega)) (w.1.sub (ws' := (wT cI (aE 2) (aE 6) (lo 2) (fo 2) (si 2) (it 2))) [36, 40] rfl) ml_X5_241 rfl rfl rfl (by decide) (by decide) rfl hl.1 (Nat.le_of_ble_eq_true rfl) dX5_lay_25 ?_
      refine t_i (y := (nI 0)) (congrArg nI (by unfold fdA; rw [cif_f hf9, cif_t hc9, cif_t ⟨k, hx9, rfl⟩])) ?_
      refine lv_istore (lv' := [(5, .int (nI 0)), (0, .ref (aS 0)), (1, .int (nI 2)), (2, .int (nI j)), (3, .int (nI k)), (4, .int v)]) hx hb dX5_lay_28 hl (by decide) rfl (fun ls hl => ?_)
      refine lv_iload hx hb dX5_lay_30 (lv_at hl 0 rfl) ?_
      refine z_eq G (tgt := 42) (by omega) dX5_lay_32 (by decide) (fun c32 => ?_) (fun c32 => ?_)
      · -- taken at 32
        refine lv_aload_n hx hb dX5_lay_42 rfl (lv_at hl 1 rfl) ?_
        refine f_get G K w.1 inX5 0 (ci := 5) rfl rfl 5 rfl fl_X5_46 (v := .ref (aS 1)) rfl dX5_lay_43 ?_
        refine lv_iload_n hx hb dX5_lay_46 rfl (lv_at hl 2 rfl) ?_
        refine a_ldR G K w.1 1 2 (a := (aS 1)) rfl rfl (by omega) (by decide) dX5_lay_47 ?_
        refine lv_iload_n hx hb dX5_lay_48 rfl (lv_at hl 4 rfl) ?_
        refine lv_iload hx hb dX5_lay_49 (lv_at hl 5 rfl) ?_
        refine callMV (As := [.int (nI k), .int v]) (rest := []) (q0 := 0) (ci := 3) (wr := ((wS cS aS (aW 0) (aB 0) (aC 0) (aH 0) (aT 0) aE la) ++ ((wW cI aW n cl th ki va re fi) ++ ((wB cI aB bt bs) ++ ((wC cI cZ aC (aW 0) (aB 0) to co ke nu fw) ++ ((wH cI aH (aW 0) lt tr sh cr ct cu ve ta ch) ++ ((wH cI aT (aW 0) lt2 tr2 sh2 cr2 ct2 cu2 ve2 ta2 ch2) ++ ([(aE 0, .inr (3, [.ref (aE 4), .int (bI (lo 0)), .int (nI (fo 0)), .int (nI (si 0))])), (aE 1, .inr (3, [.ref (aE 5), .int (bI (lo 1)), .int (nI (fo 1)), .int (nI (si 1))])), (aE 3, .inr (3, [.ref (aE 7), .int (bI (lo 3)), .int (nI (fo 3)), .int (nI (si 3))])), (aE 4, .inl (cI, 60, .inl (it 0))), (aE 5, .inl (cI, 60, .inl (it 1))), (aE 7, .inl (cI, 60, .inl (it 3)))] : va_W)))))))) (ws2 := ((wS cS aS (aW 0) (aB 0) (aC 0) (aH 0) (aT 0) aE la) ++ ((wW cI aW n cl th ki va re fi) ++ ((wB cI aB bt bs) ++ ((wC cI cZ aC (aW 0) (aB 0) to co ke nu fw) ++ ((wH cI aH (aW 0) lt tr sh cr ct cu ve ta ch) ++ ((wH cI aT (aW 0) lt2 tr2 sh2 cr2 ct2 cu2 ve2 ta2 ch2) ++ (wE cI aE lo fo si (va_up it 2 (va_up (it 2) k (cutV (nI (fo 2)) v))))))))))) G K hA w F_X3_layItem (c_X3_layItem (aE 2) (aE 6) (lo 2) (fo 2) (si 2) (it 2) k v ⟨hfo 2, hsi 2⟩ (by omega)) ml_X5_244 [36, 40] [0, 1, 2, 3, 4, 5, 6, 7, 8, 9, 10, 11, 12, 13, 14, 15, 16, 17, 18, 19, 20, 21, 22, 23, 24, 25, 26, 27, 28, 29, 30, 31, 32, 33, 34, 35, 37, 38, 39, 41] [0, 1, 2, 3, 4, 5, 6, 7, 8, 9, 10, 11, 12, 13, 14, 15, 16, 17, 18, 19, 20, 21, 22, 23, 24, 25, 26, 27, 28, 29, 30, 31, 32, 33, 34, 35, 40, 36, 37, 38, 41, 39] rfl rfl rfl rfl rfl rfl rfl rfl rfl rfl (by decide) (by decide) rfl hl.1 (Nat.le_of_ble_eq_true rfl) dX5_lay_51 (fun Hp1 lo2 w => ?_)
        refine lv_iconst (v := (nI 1)) hx hb dX5_lay_54 (by decide) ?_
        exact hret _ _ _ _ _ _ rfl rfl w dX5_lay_55
      · -- not taken at 32
        exact absurd c32 (by decide)
    · -- not taken at 11
      exact absurd ⟨j, hj9, rfl⟩ c11
set_option maxHeartbeats 4000000 in
set_option maxRecDepth 100000 in
theorem c_X5_lay_nul3 (aS : Nat → Nat) (aE : Nat → Nat) (la : Int32) (aW : Nat → Nat) (n : Nat) (cl : Nat) (th : Nat → Nat) (ki : Nat → Nat) (va : Nat → Nat) (re : Nat → Nat) (fi : Nat → Nat) (aB : Nat → Nat) (bt : Nat → Nat) (bs : Nat) (aC : Nat → Nat) (to : Nat → Prop) (co : Nat → Nat) (ke : Nat → Int32) (nu : Nat → Int32) (fw : Nat → Nat) (aH : Nat → Nat) (lt : Nat → Option Nat) (tr : Nat → Nat) (sh : Nat → Nat) (cr : Nat → Nat) (ct : Nat → Nat) (cu : Nat → Nat) (ve : Nat → Nat) (ta : Nat → Nat) (ch : Nat) (aT : Nat → Nat) (lt2 : Nat → Option Nat) (tr2 : Nat → Nat) (sh2 : Nat → Nat) (cr2 : Nat → Nat) (ct2 : Nat → Nat) (cu2 : Nat → Nat) (ve2 : Nat → Nat) (ta2 : Nat → Nat) (ch2 : Nat) (lo : Nat → Prop) (fo : Nat → Nat) (si : Nat → Nat) (it : Nat → Nat → Int32) (j : Nat) (y : Int32) (v : Int32) (J : IW n cl th ki va re fi) (S : SW n cl re fi) (B9 : (∀ j, bt j ≤ 255) ∧ bs ≤ 216) (C9 : (∀ j, co j ≤ 400) ∧ (∀ j, fw j ≤ 15)) (H9 : IHd lt tr sh cr ct cu ve ta ch) (U9 : IHd lt2 tr2 sh2 cr2 ct2 cu2 ve2 ta2 ch2) (E9 : (∀ j, fo j ≤ 2) ∧ (∀ j, si j ≤ 60)) (hj9 : j ≤ 2) (hf9 : lo 3) : CM l D (TY cI cZ cS) yX5_lay cX5_lay 6 (some .int) 1 [.ref (aS 0), .int (nI 3), .int (nI j), .int y, .int v] ((wS cS aS (aW 0) (aB 0) (aC 0) (aH 0) (aT 0) aE la) ++ ((wW cI aW n cl th ki va re fi) ++ ((wB cI aB bt bs) ++ ((wC cI cZ aC (aW 0) (aB 0) to co ke nu fw) ++ ((wH cI aH (aW 0) lt tr sh cr ct cu ve ta ch) ++ ((wH cI aT (aW 0) lt2 tr2 sh2 cr2 ct2 cu2 ve2 ta2 ch2) ++ (wE cI aE lo fo si it))))))) (some (.int ((-10) - (nI 1)))) ((wS cS aS (aW 0) (aB 0) (aC 0) (aH 0) (aT 0) aE (nI 1)) ++ ((wW cI aW n cl th ki va re fi) ++ ((wB cI aB bt bs) ++ ((wC cI cZ aC (aW 0) (aB 0) to co ke nu fw) ++ ((wH cI aH (aW 0) lt tr sh cr ct cu ve ta ch) ++ ((wH cI aT (aW 0) lt2 tr2 sh2 cr2 ct2 cu2 ve2 ta2 ch2) ++ (wE cI aE lo fo si it))))))) := by
  refine CM.ofI (by decide +kernel) (Nat.le_of_ble_eq_true rfl) (nar_int _) ?_
  intro p e s m args below meth c Q A G K hA w hret ls hl
  obtain ⟨hx, hb, hml, hown, hts⟩ := id G
  obtain ⟨hn, hcl, hth, hki, hva, hre, hfi⟩ := id J
  obtain ⟨hbt, hbs⟩ := id B9
  obtain ⟨hco, hfw⟩ := id C9
  obtain ⟨hlt, htr, hsh, hcr, hct, hcu, hve, hta, hch⟩ := id H9
  obtain ⟨hlt2, htr2, hsh2, hcr2, hct2, hcu2, hve2, hta2, hch2⟩ := id U9
  obtain ⟨hfo, hsi⟩ := id E9
  have hl : lv_has ls 6 [(0, .ref (aS 0)), (1, .int (nI 3)), (2, .int (nI j)), (3, .int y), (4, .int v)] := hl
  refine lv_iload_n hx hb dX5_lay_0 rfl (lv_at hl 1 rfl) ?_
  refine callPS (rest := []) G K F_X5_isSheet (c_X5_isSheet (nI 3)) (va_P_nil D s.heap) ml_X5_121 (by decide) (by decide) rfl hl.1 (Nat.le_of_ble_eq_true rfl) dX5_lay_1 ?_
  refine b_eq G (tgt := 14) dX5_lay_4 (by decide) (fun c4 => ?_) (fun c4 => ?_)
  · -- taken at 4
    exact absurd ⟨3, by decide, rfl⟩ c4
  · -- not taken at 4
    refine lv_iload_n hx hb dX5_lay_7 rfl (lv_at hl 2 rfl) ?_
    refine callPS (rest := []) G K F_X5_isForm (c_X5_isForm (nI j)) (va_P_nil D s.heap) ml_X5_235 (by decide) (by decide) rfl hl.1 (Nat.le_of_ble_eq_true rfl) dX5_lay_8 ?_
    refine b_ne G (tgt := 17) dX5_lay_11 (by decide) (fun c11 => ?_) (fun c11 => ?_)
    · -- taken at 11
      refine lv_aload_n hx hb dX5_lay_17 rfl (lv_at hl 0 rfl) ?_
      refine f_get G K w.1 inX5 0 (ci := 5) rfl rfl 5 rfl fl_X5_46 (v := .ref (aS 1)) rfl dX5_lay_18 ?_
      refine lv_iload_n hx hb dX5_lay_21 rfl (lv_at hl 1 rfl) ?_
      refine a_ldR G K w.1 1 2 (a := (aS 1)) rfl rfl (by omega) (by decide) dX5_lay_22 ?_
      refine lv_iload_n hx hb dX5_lay_23 rfl (lv_at hl 2 rfl) ?_
      refine lv_iload_n hx hb dX5_lay_24 rfl (lv_at hl 3 rfl) ?_
      refine callPV (As := [.int (nI j), .int y]) (rest := []) (q0 := 0) (ci := 3) G K F_X3_findingAt (c_X3_findingAt (aE 3) (aE 7) (lo 3) (fo 3) (si 3) (it 3) j y ⟨hfo 3, hsi 3⟩ (by omega)) (w.1.sub (ws' := (wT cI (aE 3) (aE 7) (lo 3) (fo 3) (si 3) (it 3))) [37, 41] rfl) ml_X5_241 rfl rfl rfl (by decide) (by decide) rfl hl.1 (Nat.le_of_ble_eq_true rfl) dX5_lay_25 ?_
      refine t_i (y := (nI 1)) (congrArg nI (by unfold fdA; rw [cif_t hf9])) ?_
      refine lv_istore (lv' := [(5, .int (nI 1)), (0, .ref (aS 0)), (1, .int (nI 3)), (2, .int (nI j)), (3, .int y), (4, .int v)]) hx hb dX5_lay_28 hl (by decide) rfl (fun ls hl => ?_)
      refine lv_iload hx hb dX5_lay_30 (lv_at hl 0 rfl) ?_
      refine z_eq G (tgt := 42) (by omega) dX5_lay_32 (by decide) (fun c32 => ?_) (fun c32 => ?_)
      · -- taken at 32
        exact absurd c32 (by decide)
      · -- not taken at 32
        refine lv_aload_n hx hb dX5_lay_35 rfl (lv_at hl 1 rfl) ?_
        refine lv_iload hx hb dX5_lay_36 (lv_at hl 0 rfl) ?_
        refine callMF (As := [.int (nI 1)]) (rest := []) (q0 := 0) (ci := 5) (ws' := ((wS cS aS (aW 0) (aB 0) (aC 0) (aH 0) (aT 0) aE (nI 1)) ++ ((wW cI aW n cl th ki va re fi) ++ ((wB cI aB bt bs) ++ ((wC cI cZ aC (aW 0) (aB 0) to co ke nu fw) ++ ((wH cI aH (aW 0) lt tr sh cr ct cu ve ta ch) ++ ((wH cI aT (aW 0) lt2 tr2 sh2 cr2 ct2 cu2 ve2 ta2 ch2) ++ (wE cI aE lo fo si it)))))))) G K hA w F_X5_find (c_X5_find aS aE la aW n cl th ki va re fi aB bt bs aC to co ke nu fw aH lt tr sh cr ct cu ve ta ch aT lt2 tr2 sh2 cr2 ct2 cu2 ve2 ta2 ch2 lo fo si it 1 J S B9 C9 H9 U9 E9) ml_X5_128 rfl rfl rfl (by decide) (by decide) rfl hl.1 (Nat.le_of_ble_eq_true rfl) dX5_lay_38 (fun Hp1 lo2 w => ?_)
        exact hret _ _ _ _ _ _ rfl rfl w dX5_lay_41
    · -- not taken at 11
      exact absurd ⟨j, hj9, rfl⟩ c11
set_option maxHeartbeats 4000000 in
set_option maxRecDepth 100000 in
theorem c_X5_lay_cast3 (aS : Nat → Nat) (aE : Nat → Nat) (la : Int32) (aW : Nat → Nat) (n : Nat) (cl : Nat) (th : Nat → Nat) (ki : Nat → Nat) (va : Nat → Nat) (re : Nat → Nat) (fi : Nat → Nat) (aB : Nat → Nat) (bt : Nat → Nat) (bs : Nat) (aC : Nat → Nat) (to : Nat → Prop) (co : Nat → Nat) (ke : Nat → Int32) (nu : Nat → Int32) (fw : Nat → Nat) (aH : Nat → Nat) (lt : Nat → Option Nat) (tr : Nat → Nat) (sh : Nat → Nat) (cr : Nat → Nat) (ct : Nat → Nat) (cu : Nat → Nat) (ve : Nat → Nat) (ta : Nat → Nat) (ch : Nat) (aT : Nat → Nat) (lt2 : Nat → Option Nat) (tr2 : Nat → Nat) (sh2 : Nat → Nat) (cr2 : Nat → Nat) (ct2 : Nat → Nat) (cu2 : Nat → Nat) (ve2 : Nat → Nat) (ta2 : Nat → Nat) (ch2 : Nat) (lo : Nat → Prop) (fo : Nat → Nat) (si : Nat → Nat) (it : Nat → Nat → Int32) (j : Nat) (y : Int32) (v : Int32) (J : IW n cl th ki va re fi) (S : SW n cl re fi) (B9 : (∀ j, bt j ≤ 255) ∧ bs ≤ 216) (C9 : (∀ j, co j ≤ 400) ∧ (∀ j, fw j ≤ 15)) (H9 : IHd lt tr sh cr ct cu ve ta ch) (U9 : IHd lt2 tr2 sh2 cr2 ct2 cu2 ve2 ta2 ch2) (E9 : (∀ j, fo j ≤ 2) ∧ (∀ j, si j ≤ 60)) (hj9 : j ≤ 2) (hf9 : ¬ lo 3) (hc9 : fo 3 ≠ j) : CM l D (TY cI cZ cS) yX5_lay cX5_lay 6 (some .int) 1 [.ref (aS 0), .int (nI 3), .int (nI j), .int y, .int v] ((wS cS aS (aW 0) (aB 0) (aC 0) (aH 0) (aT 0) aE la) ++ ((wW cI aW n cl th ki va re fi) ++ ((wB cI aB bt bs) ++ ((wC cI cZ aC (aW 0) (aB 0) to co ke nu fw) ++ ((wH cI aH (aW 0) lt tr sh cr ct cu ve ta ch) ++ ((wH cI aT (aW 0) lt2 tr2 sh2 cr2 ct2 cu2 ve2 ta2 ch2) ++ (wE cI aE lo fo si it))))))) (some (.int ((-10) - (nI 3)))) ((wS cS aS (aW 0) (aB 0) (aC 0) (aH 0) (aT 0) aE (nI 3)) ++ ((wW cI aW n cl th ki va re fi) ++ ((wB cI aB bt bs) ++ ((wC cI cZ aC (aW 0) (aB 0) to co ke nu fw) ++ ((wH cI aH (aW 0) lt tr sh cr ct cu ve ta ch) ++ ((wH cI aT (aW 0) lt2 tr2 sh2 cr2 ct2 cu2 ve2 ta2 ch2) ++ (wE cI aE lo fo si it))))))) := by
  refine CM.ofI (by decide +kernel) (Nat.le_of_ble_eq_true rfl) (nar_int _) ?_
  intro p e s m args below meth c Q A G K hA w hret ls hl
  obtain ⟨hx, hb, hml, hown, hts⟩ := id G
  obtain ⟨hn, hcl, hth, hki, hva, hre, hfi⟩ := id J
  obtain ⟨hbt, hbs⟩ := id B9
  obtain ⟨hco, hfw⟩ := id C9
  obtain ⟨hlt, htr, hsh, hcr, hct, hcu, hve, hta, hch⟩ := id H9
  obtain ⟨hlt2, htr2, hsh2, hcr2, hct2, hcu2, hve2, hta2, hch2⟩ := id U9
  obtain ⟨hfo, hsi⟩ := id E9
  have hl : lv_has ls 6 [(0, .ref (aS 0)), (1, .int (nI 3)), (2, .int (nI j)), (3, .int y), (4, .int v)] := hl
  refine lv_iload_n hx hb dX5_lay_0 rfl (lv_at hl 1 rfl) ?_
  refine callPS (rest := []) G K F_X5_isSheet (c_X5_isSheet (nI 3)) (va_P_nil D s.heap) ml_X5_121 (by decide) (by decide) rfl hl.1 (Nat.le_of_ble_eq_true rfl) dX5_lay_1 ?_
  refine b_eq G (tgt := 14) dX5_lay_4 (by decide) (fun c4 => ?_) (fun c4 => ?_)
  · -- taken at 4
    exact absurd ⟨3, by decide, rfl⟩ c4
  · -- not taken at 4
    refine lv_iload_n hx hb dX5_lay_7 rfl (lv_at hl 2 rfl) ?_
    refine callPS (rest := []) G K F_X5_isForm (c_X5_isForm (nI j)) (va_P_nil D s.heap) ml_X5_235 (by decide) (by decide) rfl hl.1 (Nat.le_of_ble_eq_true rfl) dX5_lay_8 ?_
    refine b_ne G (tgt := 17) dX5_lay_11 (by decide) (fun c11 => ?_) (fun c11 => ?_)
    · -- taken at 11
      refine lv_aload_n hx hb dX5_lay_17 rfl (lv_at hl 0 rfl) ?_
      refine f_get G K w.1 inX5 0 (ci := 5) rfl rfl 5 rfl fl_X5_46 (v := .ref (aS 1)) rfl dX5_lay_18 ?_
      refine lv_iload_n hx hb dX5_lay_21 rfl (lv_at hl 1 rfl) ?_
      refine a_ldR G K w.1 1 2 (a := (aS 1)) rfl rfl (by omega) (by decide) dX5_lay_22 ?_
      refine lv_iload_n hx hb dX5_lay_23 rfl (lv_at hl 2 rfl) ?_
      refine lv_iload_n hx hb dX5_lay_24 rfl (lv_at hl 3 rfl) ?_
      refine callPV (As := [.int (nI j), .int y]) (rest := []) (q0 := 0) (ci := 3) G K F_X3_findingAt (c_X3_findingAt (aE 3) (aE 7) (lo 3) (fo 3) (si 3) (it 3) j y ⟨hfo 3, hsi 3⟩ (by omega)) (w.1.sub (ws' := (wT cI (aE 3) (aE 7) (lo 3) (fo 3) (si 3) (it 3))) [37, 41] rfl) ml_X5_241 rfl rfl rfl (by decide) (by decide) rfl hl.1 (Nat.le_of_ble_eq_true rfl) dX5_lay_25 ?_
      refine t_i (y := (nI 3)) (congrArg nI (by unfold fdA; rw [cif_f hf9, cif_f hc9])) ?_
      refine lv_istore (lv' := [(5, .int (nI 3)), (0, .ref (aS 0)), (1, .int (nI 3)), (2, .int (nI j)), (3, .int y), (4, .int v)]) hx hb dX5_lay_28 hl (by decide) rfl (fun ls hl => ?_)
      refine lv_iload hx hb dX5_lay_30 (lv_at hl 0 rfl) ?_
      refine z_eq G (tgt := 42) (by omega) dX5_lay_32 (by decide) (fun c32 => ?_) (fun c32 => ?_)
      · -- taken at 32
        exact absurd c32 (by decide)
      · -- not taken at 32
        refine lv_aload_n hx hb dX5_lay_35 rfl (lv_at hl 1 rfl) ?_
        refine lv_iload hx hb dX5_lay_36 (lv_at hl 0 rfl) ?_
        refine callMF (As := [.int (nI 3)]) (rest := []) (q0 := 0) (ci := 5) (ws' := ((wS cS aS (aW 0) (aB 0) (aC 0) (aH 0) (aT 0) aE (nI 3)) ++ ((wW cI aW n cl th ki va re fi) ++ ((wB cI aB bt bs) ++ ((wC cI cZ aC (aW 0) (aB 0) to co ke nu fw) ++ ((wH cI aH (aW 0) lt tr sh cr ct cu ve ta ch) ++ ((wH cI aT (aW 0) lt2 tr2 sh2 cr2 ct2 cu2 ve2 ta2 ch2) ++ (wE cI aE lo fo si it)))))))) G K hA w F_X5_find (c_X5_find aS aE la aW n cl th ki va re fi aB bt bs aC to co ke nu fw aH lt tr sh cr ct cu ve ta ch aT lt2 tr2 sh2 cr2 ct2 cu2 ve2 ta2 ch2 lo fo si it 3 J S B9 C9 H9 U9 E9) ml_X5_128 rfl rfl rfl (by decide) (by decide) rfl hl.1 (Nat.le_of_ble_eq_true rfl) dX5_lay_38 (fun Hp1 lo2 w => ?_)
        exact hret _ _ _ _ _ _ rfl rfl w dX5_lay_41
    · -- not taken at 11
      exact absurd ⟨j, hj9, rfl⟩ c11
set_option maxHeartbeats 4000000 in
set_option maxRecDepth 100000 in
theorem c_X5_lay_idx3 (aS : Nat → Nat) (aE : Nat → Nat) (la : Int32) (aW : Nat → Nat) (n : Nat) (cl : Nat) (th : Nat → Nat) (ki : Nat → Nat) (va : Nat → Nat) (re : Nat → Nat) (fi : Nat → Nat) (aB : Nat → Nat) (bt : Nat → Nat) (bs : Nat) (aC : Nat → Nat) (to : Nat → Prop) (co : Nat → Nat) (ke : Nat → Int32) (nu : Nat → Int32) (fw : Nat → Nat) (aH : Nat → Nat) (lt : Nat → Option Nat) (tr : Nat → Nat) (sh : Nat → Nat) (cr : Nat → Nat) (ct : Nat → Nat) (cu : Nat → Nat) (ve : Nat → Nat) (ta : Nat → Nat) (ch : Nat) (aT : Nat → Nat) (lt2 : Nat → Option Nat) (tr2 : Nat → Nat) (sh2 : Nat → Nat) (cr2 : Nat → Nat) (ct2 : Nat → Nat) (cu2 : Nat → Nat) (ve2 : Nat → Nat) (ta2 : Nat → Nat) (ch2 : Nat) (lo : Nat → Prop) (fo : Nat → Nat) (si : Nat → Nat) (it : Nat → Nat → Int32) (j : Nat) (y : Int32) (v : Int32) (J : IW n cl th ki va re fi) (S : SW n cl re fi) (B9 : (∀ j, bt j ≤ 255) ∧ bs ≤ 216) (C9 : (∀ j, co j ≤ 400) ∧ (∀ j, fw j ≤ 15)) (H9 : IHd lt tr sh cr ct cu ve ta ch) (U9 : IHd lt2 tr2 sh2 cr2 ct2 cu2 ve2 ta2 ch2) (E9 : (∀ j, fo j ≤ 2) ∧ (∀ j, si j ≤ 60)) (hj9 : j ≤ 2) (hf9 : ¬ lo 3) (hc9 : fo 3 = j) (hx9 : ¬ okW (si 3) y) : CM l D (TY cI cZ cS) yX5_lay cX5_lay 6 (some .int) 1 [.ref (aS 0), .int (nI 3), .int (nI j), .int y, .int v] ((wS cS aS (aW 0) (aB 0) (aC 0) (aH 0) (aT 0) aE la) ++ ((wW cI aW n cl th ki va re fi) ++ ((wB cI aB bt bs) ++ ((wC cI cZ aC (aW 0) (aB 0) to co ke nu fw) ++ ((wH cI aH (aW 0) lt tr sh cr ct cu ve ta ch) ++ ((wH cI aT (aW 0) lt2 tr2 sh2 cr2 ct2 cu2 ve2 ta2 ch2) ++ (wE cI aE lo fo si it))))))) (some (.int ((-10) - (nI 2)))) ((wS cS aS (aW 0) (aB 0) (aC 0) (aH 0) (aT 0) aE (nI 2)) ++ ((wW cI aW n cl th ki va re fi) ++ ((wB cI aB bt bs) ++ ((wC cI cZ aC (aW 0) (aB 0) to co ke nu fw) ++ ((wH cI aH (aW 0) lt tr sh cr ct cu ve ta ch) ++ ((wH cI aT (aW 0) lt2 tr2 sh2 cr2 ct2 cu2 ve2 ta2 ch2) ++ (wE cI aE lo fo si it))))))) := by
  refine CM.ofI (by decide +kernel) (Nat.le_of_ble_eq_true rfl) (nar_int _) ?_
  intro p e s m args below meth c Q A G K hA w hret ls hl
  obtain ⟨hx, hb, hml, hown, hts⟩ := id G
  obtain ⟨hn, hcl, hth, hki, hva, hre, hfi⟩ := id J
  obtain ⟨hbt, hbs⟩ := id B9
  obtain ⟨hco, hfw⟩ := id C9
  obtain ⟨hlt, htr, hsh, hcr, hct, hcu, hve, hta, hch⟩ := id H9
  obtain ⟨hlt2, htr2, hsh2, hcr2, hct2, hcu2, hve2, hta2, hch2⟩ := id U9
  obtain ⟨hfo, hsi⟩ := id E9
  have hl : lv_has ls 6 [(0, .ref (aS 0)), (1, .int (nI 3)), (2, .int (nI j)), (3, .int y), (4, .int v)] := hl
  refine lv_iload_n hx hb dX5_lay_0 rfl (lv_at hl 1 rfl) ?_
  refine callPS (rest := []) G K F_X5_isSheet (c_X5_isSheet (nI 3)) (va_P_nil D s.heap) ml_X5_121 (by decide) (by decide) rfl hl.1 (Nat.le_of_ble_eq_true rfl) dX5_lay_1 ?_
  refine b_eq G (tgt := 14) dX5_lay_4 (by decide) (fun c4 => ?_) (fun c4 => ?_)
  · -- taken at 4
    exact absurd ⟨3, by decide, rfl⟩ c4
  · -- not taken at 4
    refine lv_iload_n hx hb dX5_lay_7 rfl (lv_at hl 2 rfl) ?_
    refine callPS (rest := []) G K F_X5_isForm (c_X5_isForm (nI j)) (va_P_nil D s.heap) ml_X5_235 (by decide) (by decide) rfl hl.1 (Nat.le_of_ble_eq_true rfl) dX5_lay_8 ?_
    refine b_ne G (tgt := 17) dX5_lay_11 (by decide) (fun c11 => ?_) (fun c11 => ?_)
    · -- taken at 11
      refine lv_aload_n hx hb dX5_lay_17 rfl (lv_at hl 0 rfl) ?_
      refine f_get G K w.1 inX5 0 (ci := 5) rfl rfl 5 rfl fl_X5_46 (v := .ref (aS 1)) rfl dX5_lay_18 ?_
      refine lv_iload_n hx hb dX5_lay_21 rfl (lv_at hl 1 rfl) ?_
      refine a_ldR G K w.1 1 2 (a := (aS 1)) rfl rfl (by omega) (by decide) dX5_lay_22 ?_
      refine lv_iload_n hx hb dX5_lay_23 rfl (lv_at hl 2 rfl) ?_
      refine lv_iload_n hx hb dX5_lay_24 rfl (lv_at hl 3 rfl) ?_
      refine callPV (As := [.int (nI j), .int y]) (rest := []) (q0 := 0) (ci := 3) G K F_X3_findingAt (c_X3_findingAt (aE 3) (aE 7) (lo 3) (fo 3) (si 3) (it 3) j y ⟨hfo 3, hsi 3⟩ (by omega)) (w.1.sub (ws' := (wT cI (aE 3) (aE 7) (lo 3) (fo 3) (si 3) (it 3))) [37, 41] rfl) ml_X5_241 rfl rfl rfl (by decide) (by decide) rfl hl.1 (Nat.le_of_ble_eq_true rfl) dX5_lay_25 ?_
      refine t_i (y := (nI 2)) (congrArg nI (by unfold fdA; rw [cif_f hf9, cif_t hc9, cif_f hx9])) ?_
      refine lv_istore (lv' := [(5, .int (nI 2)), (0, .ref (aS 0)), (1, .int (nI 3)), (2, .int (nI j)), (3, .int y), (4, .int v)]) hx hb dX5_lay_28 hl (by decide) rfl (fun ls hl => ?_)
      refine lv_iload hx hb dX5_lay_30 (lv_at hl 0 rfl) ?_
      refine z_eq G (tgt := 42) (by omega) dX5_lay_32 (by decide) (fun c32 => ?_) (fun c32 => ?_)
      · -- taken at 32
        exact absurd c32 (by decide)
      · -- not taken at 32
        refine lv_aload_n hx hb dX5_lay_35 rfl (lv_at hl 1 rfl) ?_
        refine lv_iload hx hb dX5_lay_36 (lv_at hl 0 rfl) ?_
        refine callMF (As := [.int (nI 2)]) (rest := []) (q0 := 0) (ci := 5) (ws' := ((wS cS aS (aW 0) (aB 0) (aC 0) (aH 0) (aT 0) aE (nI 2)) ++ ((wW cI aW n cl th ki va re fi) ++ ((wB cI aB bt bs) ++ ((wC cI cZ aC (aW 0) (aB 0) to co ke nu fw) ++ ((wH cI aH (aW 0) lt tr sh cr ct cu ve ta ch) ++ ((wH cI aT (aW 0) lt2 tr2 sh2 cr2 ct2 cu2 ve2 ta2 ch2) ++ (wE cI aE lo fo si it)))))))) G K hA w F_X5_find (c_X5_find aS aE la aW n cl th ki va re fi aB bt bs aC to co ke nu fw aH lt tr sh cr ct cu ve ta ch aT lt2 tr2 sh2 cr2 ct2 cu2 ve2 ta2 ch2 lo fo si it 2 J S B9 C9 H9 U9 E9) ml_X5_128 rfl rfl rfl (by decide) (by decide) rfl hl.1 (Nat.le_of_ble_eq_true rfl) dX5_lay_38 (fun Hp1 lo2 w => ?_)
        exact hret _ _ _ _ _ _ rfl rfl w dX5_lay_41
    · -- not taken at 11
      exact absurd ⟨j, hj9, rfl⟩ c11
set_option maxHeartbeats 4000000 in
set_option maxRecDepth 100000 in
theorem c_X5_lay_ok3 (aS : Nat → Nat) (aE : Nat → Nat) (la : Int32) (aW : Nat → Nat) (n : Nat) (cl : Nat) (th : Nat → Nat) (ki : Nat → Nat) (va : Nat → Nat) (re : Nat → Nat) (fi : Nat → Nat) (aB : Nat → Nat) (bt : Nat → Nat) (bs : Nat) (aC : Nat → Nat) (to : Nat → Prop) (co : Nat → Nat) (ke : Nat → Int32) (nu : Nat → Int32) (fw : Nat → Nat) (aH : Nat → Nat) (lt : Nat → Option Nat) (tr : Nat → Nat) (sh : Nat → Nat) (cr : Nat → Nat) (ct : Nat → Nat) (cu : Nat → Nat) (ve : Nat → Nat) (ta : Nat → Nat) (ch : Nat) (aT : Nat → Nat) (lt2 : Nat → Option Nat) (tr2 : Nat → Nat) (sh2 : Nat → Nat) (cr2 : Nat → Nat) (ct2 : Nat → Nat) (cu2 : Nat → Nat) (ve2 : Nat → Nat) (ta2 : Nat → Nat) (ch2 : Nat) (lo : Nat → Prop) (fo : Nat → Nat) (si : Nat → Nat) (it : Nat → Nat → Int32) (j : Nat) (k : Nat) (v : Int32) (J : IW n cl th ki va re fi) (S : SW n cl re fi) (B9 : (∀ j, bt j ≤ 255) ∧ bs ≤ 216) (C9 : (∀ j, co j ≤ 400) ∧ (∀ j, fw j ≤ 15)) (H9 : IHd lt tr sh cr ct cu ve ta ch) (U9 : IHd lt2 tr2 sh2 cr2 ct2 cu2 ve2 ta2 ch2) (E9 : (∀ j, fo j ≤ 2) ∧ (∀ j, si j ≤ 60)) (hj9 : j ≤ 2) (hf9 : ¬ lo 3) (hc9 : fo 3 = j) (hx9 : k < si 3) : CM l D (TY cI cZ cS) yX5_lay cX5_lay 6 (some .int) 1 [.ref (aS 0), .int (nI 3), .int (nI j), .int (nI k), .int v] ((wS cS aS (aW 0) (aB 0) (aC 0) (aH 0) (aT 0) aE la) ++ ((wW cI aW n cl th ki va re fi) ++ ((wB cI aB bt bs) ++ ((wC cI cZ aC (aW 0) (aB 0) to co ke nu fw) ++ ((wH cI aH (aW 0) lt tr sh cr ct cu ve ta ch) ++ ((wH cI aT (aW 0) lt2 tr2 sh2 cr2 ct2 cu2 ve2 ta2 ch2) ++ (wE cI aE lo fo si it))))))) (some (.int (nI 1))) ((wS cS aS (aW 0) (aB 0) (aC 0) (aH 0) (aT 0) aE la) ++ ((wW cI aW n cl th ki va re fi) ++ ((wB cI aB bt bs) ++ ((wC cI cZ aC (aW 0) (aB 0) to co ke nu fw) ++ ((wH cI aH (aW 0) lt tr sh cr ct cu ve ta ch) ++ ((wH cI aT (aW 0) lt2 tr2 sh2 cr2 ct2 cu2 ve2 ta2 ch2) ++ (wE cI aE lo fo si (va_up it 3 (va_up (it 3) k (cutV (nI (fo 3)) v)))))))))) := by
  refine CM.ofI (by decide +kernel) (Nat.le_of_ble_eq_true rfl) (nar_int _) ?_
  intro p e s m args below meth c Q A G K hA w hret ls hl
  obtain ⟨hx, hb, hml, hown, hts⟩ := id G
  obtain ⟨hn, hcl, hth, hki, hva, hre, hfi⟩ := id J
  obtain ⟨hbt, hbs⟩ := id B9
  obtain ⟨hco, hfw⟩ := id C9
  obtain ⟨hlt, htr, hsh, hcr, hct, hcu, hve, hta, hch⟩ := id H9
  obtain ⟨hlt2, htr2, hsh2, hcr2, hct2, hcu2, hve2, hta2, hch2⟩ := id U9
  obtain ⟨hfo, hsi⟩ := id E9
  have hs9 := hsi 3
  have hl : lv_has ls 6 [(0, .ref (aS 0)), (1, .int (nI 3)), (2, .int (nI j)), (3, .int (nI k)), (4, .int v)] := hl
  refine lv_iload_n hx hb dX5_lay_0 rfl (lv_at hl 1 rfl) ?_
  refine callPS (rest := []) G K F_X5_isSheet (c_X5_isSheet (nI 3)) (va_P_nil D s.heap) ml_X5_121 (by decide) (by decide) rfl hl.1 (Nat.le_of_ble_eq_true rfl) dX5_lay_1 ?_
  refine b_eq G (tgt := 14) dX5_lay_4 (by decide) (fun c4 => ?_) (fun c4 => ?_)
  · -- taken at 4
    exact absurd ⟨3, by decide, rfl⟩ c4
  · -- not taken at 4
    refine lv_iload_n hx hb dX5_lay_7 rfl (lv_at hl 2 rfl) ?_
    refine callPS (rest := []) G K F_X5_isForm (c_X5_isForm (nI j)) (va_P_nil D s.heap) ml_X5_235 (by decide) (by decide) rfl hl.1 (Nat.le_of_ble_eq_true rfl) dX5_lay_8 ?_
    refine b_ne G (tgt := 17) dX5_lay_11 (by decide) (fun c11 => ?_) (fun c11 => ?_)
    · -- taken at 11
      refine lv_aload_n hx hb dX5_lay_17 rfl (lv_at hl 0 rfl) ?_
      refine f_get G K w.1 inX5 0 (ci := 5) rfl rfl 5 rfl fl_X5_46 (v := .ref (aS 1)) rfl dX5_lay_18 ?_
      refine lv_iload_n hx hb dX5_lay_21 rfl (lv_at hl 1 rfl) ?_
      refine a_ldR G K w.1 1 2 (a := (aS 1)) rfl rfl (by omega) (by decide) dX5_lay_22 ?_
      refine lv_iload_n hx hb dX5_lay_23 rfl (lv_at hl 2 rfl) ?_
      refine lv_iload_n hx hb dX5_lay_24 rfl (lv_at hl 3 rfl) ?_
      refine callPV (As := [.int (nI j), .int (nI k)]) (rest := []) (q0 := 0) (ci := 3) G K F_X3_findingAt (c_X3_findingAt (aE 3) (aE 7) (lo 3) (fo 3) (si 3) (it 3) j (nI k) ⟨hfo 3, hsi 3⟩ (by omega)) (w.1.sub (ws' := (wT cI (aE 3) (aE 7) (lo 3) (fo 3) (si 3) (it 3))) [37, 41] rfl) ml_X5_241 rfl rfl rfl (by decide) (by decide) rfl hl.1 (Nat.le_of_ble_eq_true rfl) dX5_lay_25 ?_
      refine t_i (y := (nI 0)) (congrArg nI (by unfold fdA; rw [cif_f hf9, cif_t hc9, cif_t ⟨k, hx9, rfl⟩])) ?_
      refine lv_istore (lv' := [(5, .int (nI 0)), (0, .ref (aS 0)), (1, .int (nI 3)), (2, .int (nI j)), (3, .int (nI k)), (4, .int v)]) hx hb dX5_lay_28 hl (by decide) rfl (fun ls hl => ?_)
      refine lv_iload hx hb dX5_lay_30 (lv_at hl 0 rfl) ?_
      refine z_eq G (tgt := 42) (by omega) dX5_lay_32 (by decide) (fun c32 => ?_) (fun c32 => ?_)
      · -- taken at 32
        refine lv_aload_n hx hb dX5_lay_42 rfl (lv_at hl 1 rfl) ?_
        refine f_get G K w.1 inX5 0 (ci := 5) rfl rfl 5 rfl fl_X5_46 (v := .ref (aS 1)) rfl dX5_lay_43 ?_
        refine lv_iload_n hx hb dX5_lay_46 rfl (lv_at hl 2 rfl) ?_
        refine a_ldR G K w.1 1 2 (a := (aS 1)) rfl rfl (by omega) (by decide) dX5_lay_47 ?_
        refine lv_iload_n hx hb dX5_lay_48 rfl (lv_at hl 4 rfl) ?_
        refine lv_iload hx hb dX5_lay_49 (lv_at hl 5 rfl) ?_
        refine callMV (As := [.int (nI k), .int v]) (rest := []) (q0 := 0) (ci := 3) (wr := ((wS cS aS (aW 0) (aB 0) (aC 0) (aH 0) (aT 0) aE la) ++ ((wW cI aW n cl th ki va re fi) ++ ((wB cI aB bt bs) ++ ((wC cI cZ aC (aW 0) (aB 0) to co ke nu fw) ++ ((wH cI aH (aW 0) lt tr sh cr ct cu ve ta ch) ++ ((wH cI aT (aW 0) lt2 tr2 sh2 cr2 ct2 cu2 ve2 ta2 ch2) ++ ([(aE 0, .inr (3, [.ref (aE 4), .int (bI (lo 0)), .int (nI (fo 0)), .int (nI (si 0))])), (aE 1, .inr (3, [.ref (aE 5), .int (bI (lo 1)), .int (nI (fo 1)), .int (nI (si 1))])), (aE 2, .inr (3, [.ref (aE 6), .int (bI (lo 2)), .int (nI (fo 2)), .int (nI (si 2))])), (aE 4, .inl (cI, 60, .inl (it 0))), (aE 5, .inl (cI, 60, .inl (it 1))), (aE 6, .inl (cI, 60, .inl (it 2)))] : va_W)))))))) (ws2 := ((wS cS aS (aW 0) (aB 0) (aC 0) (aH 0) (aT 0) aE la) ++ ((wW cI aW n cl th ki va re fi) ++ ((wB cI aB bt bs) ++ ((wC cI cZ aC (aW 0) (aB 0) to co ke nu fw) ++ ((wH cI aH (aW 0) lt tr sh cr ct cu ve ta ch) ++ ((wH cI aT (aW 0) lt2 tr2 sh2 cr2 ct2 cu2 ve2 ta2 ch2) ++ (wE cI aE lo fo si (va_up it 3 (va_up (it 3) k (cutV (nI (fo 3)) v))))))))))) G K hA w F_X3_layItem (c_X3_layItem (aE 3) (aE 7) (lo 3) (fo 3) (si 3) (it 3) k v ⟨hfo 3, hsi 3⟩ (by omega)) ml_X5_244 [37, 41] [0, 1, 2, 3, 4, 5, 6, 7, 8, 9, 10, 11, 12, 13, 14, 15, 16, 17, 18, 19, 20, 21, 22, 23, 24, 25, 26, 27, 28, 29, 30, 31, 32, 33, 34, 35, 36, 38, 39, 40] [0, 1, 2, 3, 4, 5, 6, 7, 8, 9, 10, 11, 12, 13, 14, 15, 16, 17, 18, 19, 20, 21, 22, 23, 24, 25, 26, 27, 28, 29, 30, 31, 32, 33, 34, 35, 36, 40, 37, 38, 39, 41] rfl rfl rfl rfl rfl rfl rfl rfl rfl rfl (by decide) (by decide) rfl hl.1 (Nat.le_of_ble_eq_true rfl) dX5_lay_51 (fun Hp1 lo2 w => ?_)
        refine lv_iconst (v := (nI 1)) hx hb dX5_lay_54 (by decide) ?_
        exact hret _ _ _ _ _ _ rfl rfl w dX5_lay_55
      · -- not taken at 32
        exact absurd c32 (by decide)
    · -- not taken at 11
      exact absurd ⟨j, hj9, rfl⟩ c11
set_option maxHeartbeats 4000000 in
set_option maxRecDepth 100000 in
theorem c_X5_get_bad (aS : Nat → Nat) (aE : Nat → Nat) (la : Int32) (aW : Nat → Nat) (n : Nat) (cl : Nat) (th : Nat → Nat) (ki : Nat → Nat) (va : Nat → Nat) (re : Nat → Nat) (fi : Nat → Nat) (aB : Nat → Nat) (bt : Nat → Nat) (bs : Nat) (aC : Nat → Nat) (to : Nat → Prop) (co : Nat → Nat) (ke : Nat → Int32) (nu : Nat → Int32) (fw : Nat → Nat) (aH : Nat → Nat) (lt : Nat → Option Nat) (tr : Nat → Nat) (sh : Nat → Nat) (cr : Nat → Nat) (ct : Nat → Nat) (cu : Nat → Nat) (ve : Nat → Nat) (ta : Nat → Nat) (ch : Nat) (aT : Nat → Nat) (lt2 : Nat → Option Nat) (tr2 : Nat → Nat) (sh2 : Nat → Nat) (cr2 : Nat → Nat) (ct2 : Nat → Nat) (cu2 : Nat → Nat) (ve2 : Nat → Nat) (ta2 : Nat → Nat) (ch2 : Nat) (lo : Nat → Prop) (fo : Nat → Nat) (si : Nat → Nat) (it : Nat → Nat → Int32) (x : Int32) (f : Int32) (y : Int32) (J : IW n cl th ki va re fi) (S : SW n cl re fi) (B9 : (∀ j, bt j ≤ 255) ∧ bs ≤ 216) (C9 : (∀ j, co j ≤ 400) ∧ (∀ j, fw j ≤ 15)) (H9 : IHd lt tr sh cr ct cu ve ta ch) (U9 : IHd lt2 tr2 sh2 cr2 ct2 cu2 ve2 ta2 ch2) (E9 : (∀ j, fo j ≤ 2) ∧ (∀ j, si j ≤ 60)) (hbad : ¬ (okR 3 x ∧ okR 2 f)) : CM l D (TY cI cZ cS) yX5_get cX5_get 5 (some .int) 1 [.ref (aS 0), .int x, .int f, .int y] ((wS cS aS (aW 0) (aB 0) (aC 0) (aH 0) (aT 0) aE la) ++ ((wW cI aW n cl th ki va re fi) ++ ((wB cI aB bt bs) ++ ((wC cI cZ aC (aW 0) (aB 0) to co ke nu fw) ++ ((wH cI aH (aW 0) lt tr sh cr ct cu ve ta ch) ++ ((wH cI aT (aW 0) lt2 tr2 sh2 cr2 ct2 cu2 ve2 ta2 ch2) ++ (wE cI aE lo fo si it))))))) (some (.int (-2147483648))) ((wS cS aS (aW 0) (aB 0) (aC 0) (aH 0) (aT 0) aE la) ++ ((wW cI aW n cl th ki va re fi) ++ ((wB cI aB bt bs) ++ ((wC cI cZ aC (aW 0) (aB 0) to co ke nu fw) ++ ((wH cI aH (aW 0) lt tr sh cr ct cu ve ta ch) ++ ((wH cI aT (aW 0) lt2 tr2 sh2 cr2 ct2 cu2 ve2 ta2 ch2) ++ (wE cI aE lo fo si it))))))) := by
  refine CM.ofI (by decide +kernel) (Nat.le_of_ble_eq_true rfl) (nar_int _) ?_
  intro p e s m args below meth c Q A G K hA w hret ls hl
  obtain ⟨hx, hb, hml, hown, hts⟩ := id G
  obtain ⟨hn, hcl, hth, hki, hva, hre, hfi⟩ := id J
  obtain ⟨hbt, hbs⟩ := id B9
  obtain ⟨hco, hfw⟩ := id C9
  obtain ⟨hlt, htr, hsh, hcr, hct, hcu, hve, hta, hch⟩ := id H9
  obtain ⟨hlt2, htr2, hsh2, hcr2, hct2, hcu2, hve2, hta2, hch2⟩ := id U9
  obtain ⟨hfo, hsi⟩ := id E9
  have hl : lv_has ls 5 [(0, .ref (aS 0)), (1, .int x), (2, .int f), (3, .int y)] := hl
  refine lv_iload_n hx hb dX5_get_0 rfl (lv_at hl 1 rfl) ?_
  refine callPS (rest := []) G K F_X5_isSheet (c_X5_isSheet x) (va_P_nil D s.heap) ml_X5_121 (by decide) (by decide) rfl hl.1 (Nat.le_of_ble_eq_true rfl) dX5_get_1 ?_
  refine b_eq G (tgt := 14) dX5_get_4 (by decide) (fun c4 => ?_) (fun c4 => ?_)
  · -- taken at 4
    refine lv_ldc hx hb hown (hts _ kc_X5_181) dX5_get_14 ?_
    exact hret _ _ _ _ _ _ rfl rfl w dX5_get_16
  · -- not taken at 4
    refine lv_iload_n hx hb dX5_get_7 rfl (lv_at hl 2 rfl) ?_
    refine callPS (rest := []) G K F_X5_isForm (c_X5_isForm f) (va_P_nil D s.heap) ml_X5_235 (by decide) (by decide) rfl hl.1 (Nat.le_of_ble_eq_true rfl) dX5_get_8 ?_
    refine b_ne G (tgt := 17) dX5_get_11 (by decide) (fun c11 => ?_) (fun c11 => ?_)
    · -- taken at 11
      exact absurd ⟨c4, c11⟩ hbad
    · -- not taken at 11
      refine lv_ldc hx hb hown (hts _ kc_X5_181) dX5_get_14 ?_
      exact hret _ _ _ _ _ _ rfl rfl w dX5_get_16
set_option maxHeartbeats 4000000 in
set_option maxRecDepth 100000 in
theorem c_X5_get_nul0 (aS : Nat → Nat) (aE : Nat → Nat) (la : Int32) (aW : Nat → Nat) (n : Nat) (cl : Nat) (th : Nat → Nat) (ki : Nat → Nat) (va : Nat → Nat) (re : Nat → Nat) (fi : Nat → Nat) (aB : Nat → Nat) (bt : Nat → Nat) (bs : Nat) (aC : Nat → Nat) (to : Nat → Prop) (co : Nat → Nat) (ke : Nat → Int32) (nu : Nat → Int32) (fw : Nat → Nat) (aH : Nat → Nat) (lt : Nat → Option Nat) (tr : Nat → Nat) (sh : Nat → Nat) (cr : Nat → Nat) (ct : Nat → Nat) (cu : Nat → Nat) (ve : Nat → Nat) (ta : Nat → Nat) (ch : Nat) (aT : Nat → Nat) (lt2 : Nat → Option Nat) (tr2 : Nat → Nat) (sh2 : Nat → Nat) (cr2 : Nat → Nat) (ct2 : Nat → Nat) (cu2 : Nat → Nat) (ve2 : Nat → Nat) (ta2 : Nat → Nat) (ch2 : Nat) (lo : Nat → Prop) (fo : Nat → Nat) (si : Nat → Nat) (it : Nat → Nat → Int32) (j : Nat) (y : Int32) (J : IW n cl th ki va re fi) (S : SW n cl re fi) (B9 : (∀ j, bt j ≤ 255) ∧ bs ≤ 216) (C9 : (∀ j, co j ≤ 400) ∧ (∀ j, fw j ≤ 15)) (H9 : IHd lt tr sh cr ct cu ve ta ch) (U9 : IHd lt2 tr2 sh2 cr2 ct2 cu2 ve2 ta2 ch2) (E9 : (∀ j, fo j ≤ 2) ∧ (∀ j, si j ≤ 60)) (hj9 : j ≤ 2) (hf9 : lo 0) : CM l D (TY cI cZ cS) yX5_get cX5_get 5 (some .int) 1 [.ref (aS 0), .int (nI 0), .int (nI j), .int y] ((wS cS aS (aW 0) (aB 0) (aC 0) (aH 0) (aT 0) aE la) ++ ((wW cI aW n cl th ki va re fi) ++ ((wB cI aB bt bs) ++ ((wC cI cZ aC (aW 0) (aB 0) to co ke nu fw) ++ ((wH cI aH (aW 0) lt tr sh cr ct cu ve ta ch) ++ ((wH cI aT (aW 0) lt2 tr2 sh2 cr2 ct2 cu2 ve2 ta2 ch2) ++ (wE cI aE lo fo si it))))))) (some (.int (-2147483648))) ((wS cS aS (aW 0) (aB 0) (aC 0) (aH 0) (aT 0) aE (nI 1)) ++ ((wW cI aW n cl th ki va re fi) ++ ((wB cI aB bt bs) ++ ((wC cI cZ aC (aW 0) (aB 0) to co ke nu fw) ++ ((wH cI aH (aW 0) lt tr sh cr ct cu ve ta ch) ++ ((wH cI aT (aW 0) lt2 tr2 sh2 cr2 ct2 cu2 ve2 ta2 ch2) ++ (wE cI aE lo fo si it))))))) := by
  refine CM.ofI (by decide +kernel) (Nat.le_of_ble_eq_true rfl) (nar_int _) ?_
  intro p e s m args below meth c Q A G K hA w hret ls hl
  obtain ⟨hx, hb, hml, hown, hts⟩ := id G
  obtain ⟨hn, hcl, hth, hki, hva, hre, hfi⟩ := id J
  obtain ⟨hbt, hbs⟩ := id B9
  obtain ⟨hco, hfw⟩ := id C9
  obtain ⟨hlt, htr, hsh, hcr, hct, hcu, hve, hta, hch⟩ := id H9
  obtain ⟨hlt2, htr2, hsh2, hcr2, hct2, hcu2, hve2, hta2, hch2⟩ := id U9
  obtain ⟨hfo, hsi⟩ := id E9
  have hl : lv_has ls 5 [(0, .ref (aS 0)), (1, .int (nI 0)), (2, .int (nI j)), (3, .int y)] := hl
  refine lv_iload_n hx hb dX5_get_0 rfl (lv_at hl 1 rfl) ?_
  refine callPS (rest := []) G K F_X5_isSheet (c_X5_isSheet (nI 0)) (va_P_nil D s.heap) ml_X5_121 (by decide) (by decide) rfl hl.1 (Nat.le_of_ble_eq_true rfl) dX5_get_1 ?_
  refine b_eq G (tgt := 14) dX5_get_4 (by decide) (fun c4 => ?_) (fun c4 => ?_)
  · -- taken at 4
    exact absurd ⟨0, by decide, rfl⟩ c4
  · -- not taken at 4
    refine lv_iload_n hx hb dX5_get_7 rfl (lv_at hl 2 rfl) ?_
    refine callPS (rest := []) G K F_X5_isForm (c_X5_isForm (nI j)) (va_P_nil D s.heap) ml_X5_235 (by decide) (by decide) rfl hl.1 (Nat.le_of_ble_eq_true rfl) dX5_get_8 ?_
    refine b_ne G (tgt := 17) dX5_get_11 (by decide) (fun c11 => ?_) (fun c11 => ?_)
    · -- taken at 11
      refine lv_aload_n hx hb dX5_get_17 rfl (lv_at hl 0 rfl) ?_
      refine f_get G K w.1 inX5 0 (ci := 5) rfl rfl 5 rfl fl_X5_46 (v := .ref (aS 1)) rfl dX5_get_18 ?_
      refine lv_iload_n hx hb dX5_get_21 rfl (lv_at hl 1 rfl) ?_
      refine a_ldR G K w.1 1 2 (a := (aS 1)) rfl rfl (by omega) (by decide) dX5_get_22 ?_
      refine lv_iload_n hx hb dX5_get_23 rfl (lv_at hl 2 rfl) ?_
      refine lv_iload_n hx hb dX5_get_24 rfl (lv_at hl 3 rfl) ?_
      refine callPV (As := [.int (nI j), .int y]) (rest := []) (q0 := 0) (ci := 3) G K F_X3_findingAt (c_X3_findingAt (aE 0) (aE 4) (lo 0) (fo 0) (si 0) (it 0) j y ⟨hfo 0, hsi 0⟩ (by omega)) (w.1.sub (ws' := (wT cI (aE 0) (aE 4) (lo 0) (fo 0) (si 0) (it 0))) [34, 38] rfl) ml_X5_241 rfl rfl rfl (by decide) (by decide) rfl hl.1 (Nat.le_of_ble_eq_true rfl) dX5_get_25 ?_
      refine t_i (y := (nI 1)) (congrArg nI (by unfold fdA; rw [cif_t hf9])) ?_
      refine lv_istore (lv' := [(4, .int (nI 1)), (0, .ref (aS 0)), (1, .int (nI 0)), (2, .int (nI j)), (3, .int y)]) hx hb dX5_get_28 hl (by decide) rfl (fun ls hl => ?_)
      refine lv_iload hx hb dX5_get_30 (lv_at hl 0 rfl) ?_
      refine z_eq G (tgt := 45) (by omega) dX5_get_32 (by decide) (fun c32 => ?_) (fun c32 => ?_)
      · -- taken at 32
        exact absurd c32 (by decide)
      · -- not taken at 32
        refine lv_aload_n hx hb dX5_get_35 rfl (lv_at hl 1 rfl) ?_
        refine lv_iload hx hb dX5_get_36 (lv_at hl 0 rfl) ?_
        refine callMF (As := [.int (nI 1)]) (rest := []) (q0 := 0) (ci := 5) (ws' := ((wS cS aS (aW 0) (aB 0) (aC 0) (aH 0) (aT 0) aE (nI 1)) ++ ((wW cI aW n cl th ki va re fi) ++ ((wB cI aB bt bs) ++ ((wC cI cZ aC (aW 0) (aB 0) to co ke nu fw) ++ ((wH cI aH (aW 0) lt tr sh cr ct cu ve ta ch) ++ ((wH cI aT (aW 0) lt2 tr2 sh2 cr2 ct2 cu2 ve2 ta2 ch2) ++ (wE cI aE lo fo si it)))))))) G K hA w F_X5_find (c_X5_find aS aE la aW n cl th ki va re fi aB bt bs aC to co ke nu fw aH lt tr sh cr ct cu ve ta ch aT lt2 tr2 sh2 cr2 ct2 cu2 ve2 ta2 ch2 lo fo si it 1 J S B9 C9 H9 U9 E9) ml_X5_128 rfl rfl rfl (by decide) (by decide) rfl hl.1 (Nat.le_of_ble_eq_true rfl) dX5_get_38 (fun Hp1 lo2 w => ?_)
        refine lv_pop hx hb dX5_get_41 rfl ?_
        refine lv_ldc hx hb hown (hts _ kc_X5_181) dX5_get_42 ?_
        exact hret _ _ _ _ _ _ rfl rfl w dX5_get_44
    · -- not taken at 11
      exact absurd ⟨j, hj9, rfl⟩ c11
set_option maxHeartbeats 4000000 in
set_option maxRecDepth 100000 in
theorem c_X5_get_cast0 (aS : Nat → Nat) (aE : Nat → Nat) (la : Int32) (aW : Nat → Nat) (n : Nat) (cl : Nat) (th : Nat → Nat) (ki : Nat → Nat) (va : Nat → Nat) (re : Nat → Nat) (fi : Nat → Nat) (aB : Nat → Nat) (bt : Nat → Nat) (bs : Nat) (aC : Nat → Nat) (to : Nat → Prop) (co : Nat → Nat) (ke : Nat → Int32) (nu : Nat → Int32) (fw : Nat → Nat) (aH : Nat → Nat) (lt : Nat → Option Nat) (tr : Nat → Nat) (sh : Nat → Nat) (cr : Nat → Nat) (ct : Nat → Nat) (cu : Nat → Nat) (ve : Nat → Nat) (ta : Nat → Nat) (ch : Nat) (aT : Nat → Nat) (lt2 : Nat → Option Nat) (tr2 : Nat → Nat) (sh2 : Nat → Nat) (cr2 : Nat → Nat) (ct2 : Nat → Nat) (cu2 : Nat → Nat) (ve2 : Nat → Nat) (ta2 : Nat → Nat) (ch2 : Nat) (lo : Nat → Prop) (fo : Nat → Nat) (si : Nat → Nat) (it : Nat → Nat → Int32) (j : Nat) (y : Int32) (J : IW n cl th ki va re fi) (S : SW n cl re fi) (B9 : (∀ j, bt j ≤ 255) ∧ bs ≤ 216) (C9 : (∀ j, co j ≤ 400) ∧ (∀ j, fw j ≤ 15)) (H9 : IHd lt tr sh cr ct cu ve ta ch) (U9 : IHd lt2 tr2 sh2 cr2 ct2 cu2 ve2 ta2 ch2) (E9 : (∀ j, fo j ≤ 2) ∧ (∀ j, si j ≤ 60)) (hj9 : j ≤ 2) (hf9 : ¬ lo 0) (hc9 : fo 0 ≠ j) : CM l D (TY cI cZ cS) yX5_get cX5_get 5 (some .int) 1 [.ref (aS 0), .int (nI 0), .int (nI j), .int y] ((wS cS aS (aW 0) (aB 0) (aC 0) (aH 0) (aT 0) aE la) ++ ((wW cI aW n cl th ki va re fi) ++ ((wB cI aB bt bs) ++ ((wC cI cZ aC (aW 0) (aB 0) to co ke nu fw) ++ ((wH cI aH (aW 0) lt tr sh cr ct cu ve ta ch) ++ ((wH cI aT (aW 0) lt2 tr2 sh2 cr2 ct2 cu2 ve2 ta2 ch2) ++ (wE cI aE lo fo si it))))))) (some (.int (-2147483648))) ((wS cS aS (aW 0) (aB 0) (aC 0) (aH 0) (aT 0) aE (nI 3)) ++ ((wW cI aW n cl th ki va re fi) ++ ((wB cI aB bt bs) ++ ((wC cI cZ aC (aW 0) (aB 0) to co ke nu fw) ++ ((wH cI aH (aW 0) lt tr sh cr ct cu ve ta ch) ++ ((wH cI aT (aW 0) lt2 tr2 sh2 cr2 ct2 cu2 ve2 ta2 ch2) ++ (wE cI aE lo fo si it))))))) := by
  refine CM.ofI (by decide +kernel) (Nat.le_of_ble_eq_true rfl) (nar_int _) ?_
  intro p e s m args below meth c Q A G K hA w hret ls hl
  obtain ⟨hx, hb, hml, hown, hts⟩ := id G
  obtain ⟨hn, hcl, hth, hki, hva, hre, hfi⟩ := id J
  obtain ⟨hbt, hbs⟩ := id B9
  obtain ⟨hco, hfw⟩ := id C9
  obtain ⟨hlt, htr, hsh, hcr, hct, hcu, hve, hta, hch⟩ := id H9
  obtain ⟨hlt2, htr2, hsh2, hcr2, hct2, hcu2, hve2, hta2, hch2⟩ := id U9
  obtain ⟨hfo, hsi⟩ := id E9
  have hl : lv_has ls 5 [(0, .ref (aS 0)), (1, .int (nI 0)), (2, .int (nI j)), (3, .int y)] := hl
  refine lv_iload_n hx hb dX5_get_0 rfl (lv_at hl 1 rfl) ?_
  refine callPS (rest := []) G K F_X5_isSheet (c_X5_isSheet (nI 0)) (va_P_nil D s.heap) ml_X5_121 (by decide) (by decide) rfl hl.1 (Nat.le_of_ble_eq_true rfl) dX5_get_1 ?_
  refine b_eq G (tgt := 14) dX5_get_4 (by decide) (fun c4 => ?_) (fun c4 => ?_)
  · -- taken at 4
    exact absurd ⟨0, by decide, rfl⟩ c4
  · -- not taken at 4
    refine lv_iload_n hx hb dX5_get_7 rfl (lv_at hl 2 rfl) ?_
    refine callPS (rest := []) G K F_X5_isForm (c_X5_isForm (nI j)) (va_P_nil D s.heap) ml_X5_235 (by decide) (by decide) rfl hl.1 (Nat.le_of_ble_eq_true rfl) dX5_get_8 ?_
    refine b_ne G (tgt := 17) dX5_get_11 (by decide) (fun c11 => ?_) (fun c11 => ?_)
    · -- taken at 11
      refine lv_aload_n hx hb dX5_get_17 rfl (lv_at hl 0 rfl) ?_
      refine f_get G K w.1 inX5 0 (ci := 5) rfl rfl 5 rfl fl_X5_46 (v := .ref (aS 1)) rfl dX5_get_18 ?_
      refine lv_iload_n hx hb dX5_get_21 rfl (lv_at hl 1 rfl) ?_
      refine a_ldR G K w.1 1 2 (a := (aS 1)) rfl rfl (by omega) (by decide) dX5_get_22 ?_
      refine lv_iload_n hx hb dX5_get_23 rfl (lv_at hl 2 rfl) ?_
      refine lv_iload_n hx hb dX5_get_24 rfl (lv_at hl 3 rfl) ?_
      refine callPV (As := [.int (nI j), .int y]) (rest := []) (q0 := 0) (ci := 3) G K F_X3_findingAt (c_X3_findingAt (aE 0) (aE 4) (lo 0) (fo 0) (si 0) (it 0) j y ⟨hfo 0, hsi 0⟩ (by omega)) (w.1.sub (ws' := (wT cI (aE 0) (aE 4) (lo 0) (fo 0) (si 0) (it 0))) [34, 38] rfl) ml_X5_241 rfl rfl rfl (by decide) (by decide) rfl hl.1 (Nat.le_of_ble_eq_true rfl) dX5_get_25 ?_
      refine t_i (y := (nI 3)) (congrArg nI (by unfold fdA; rw [cif_f hf9, cif_f hc9])) ?_
      refine lv_istore (lv' := [(4, .int (nI 3)), (0, .ref (aS 0)), (1, .int (nI 0)), (2, .int (nI j)), (3, .int y)]) hx hb dX5_get_28 hl (by decide) rfl (fun ls hl => ?_)
      refine lv_iload hx hb dX5_get_30 (lv_at hl 0 rfl) ?_
      refine z_eq G (tgt := 45) (by omega) dX5_get_32 (by decide) (fun c32 => ?_) (fun c32 => ?_)
      · -- taken at 32
        exact absurd c32 (by decide)
      · -- not taken at 32
        refine lv_aload_n hx hb dX5_get_35 rfl (lv_at hl 1 rfl) ?_
        refine lv_iload hx hb dX5_get_36 (lv_at hl 0 rfl) ?_
        refine callMF (As := [.int (nI 3)]) (rest := []) (q0 := 0) (ci := 5) (ws' := ((wS cS aS (aW 0) (aB 0) (aC 0) (aH 0) (aT 0) aE (nI 3)) ++ ((wW cI aW n cl th ki va re fi) ++ ((wB cI aB bt bs) ++ ((wC cI cZ aC (aW 0) (aB 0) to co ke nu fw) ++ ((wH cI aH (aW 0) lt tr sh cr ct cu ve ta ch) ++ ((wH cI aT (aW 0) lt2 tr2 sh2 cr2 ct2 cu2 ve2 ta2 ch2) ++ (wE cI aE lo fo si it)))))))) G K hA w F_X5_find (c_X5_find aS aE la aW n cl th ki va re fi aB bt bs aC to co ke nu fw aH lt tr sh cr ct cu ve ta ch aT lt2 tr2 sh2 cr2 ct2 cu2 ve2 ta2 ch2 lo fo si it 3 J S B9 C9 H9 U9 E9) ml_X5_128 rfl rfl rfl (by decide) (by decide) rfl hl.1 (Nat.le_of_ble_eq_true rfl) dX5_get_38 (fun Hp1 lo2 w => ?_)
        refine lv_pop hx hb dX5_get_41 rfl ?_
        refine lv_ldc hx hb hown (hts _ kc_X5_181) dX5_get_42 ?_
        exact hret _ _ _ _ _ _ rfl rfl w dX5_get_44
    · -- not taken at 11
      exact absurd ⟨j, hj9, rfl⟩ c11
set_option maxHeartbeats 4000000 in
set_option maxRecDepth 100000 in
theorem c_X5_get_idx0 (aS : Nat → Nat) (aE : Nat → Nat) (la : Int32) (aW : Nat → Nat) (n : Nat) (cl : Nat) (th : Nat → Nat) (ki : Nat → Nat) (va : Nat → Nat) (re : Nat → Nat) (fi : Nat → Nat) (aB : Nat → Nat) (bt : Nat → Nat) (bs : Nat) (aC : Nat → Nat) (to : Nat → Prop) (co : Nat → Nat) (ke : Nat → Int32) (nu : Nat → Int32) (fw : Nat → Nat) (aH : Nat → Nat) (lt : Nat → Option Nat) (tr : Nat → Nat) (sh : Nat → Nat) (cr : Nat → Nat) (ct : Nat → Nat) (cu : Nat → Nat) (ve : Nat → Nat) (ta : Nat → Nat) (ch : Nat) (aT : Nat → Nat) (lt2 : Nat → Option Nat) (tr2 : Nat → Nat) (sh2 : Nat → Nat) (cr2 : Nat → Nat) (ct2 : Nat → Nat) (cu2 : Nat → Nat) (ve2 : Nat → Nat) (ta2 : Nat → Nat) (ch2 : Nat) (lo : Nat → Prop) (fo : Nat → Nat) (si : Nat → Nat) (it : Nat → Nat → Int32) (j : Nat) (y : Int32) (J : IW n cl th ki va re fi) (S : SW n cl re fi) (B9 : (∀ j, bt j ≤ 255) ∧ bs ≤ 216) (C9 : (∀ j, co j ≤ 400) ∧ (∀ j, fw j ≤ 15)) (H9 : IHd lt tr sh cr ct cu ve ta ch) (U9 : IHd lt2 tr2 sh2 cr2 ct2 cu2 ve2 ta2 ch2) (E9 : (∀ j, fo j ≤ 2) ∧ (∀ j, si j ≤ 60)) (hj9 : j ≤ 2) (hf9 : ¬ lo 0) (hc9 : fo 0 = j) (hx9 : ¬ okW (si 0) y) : CM l D (TY cI cZ cS) yX5_get cX5_get 5 (some .int) 1 [.ref (aS 0), .int (nI 0), .int (nI j), .int y] ((wS cS aS (aW 0) (aB 0) (aC 0) (aH 0) (aT 0) aE la) ++ ((wW cI aW n cl th ki va re fi) ++ ((wB cI aB bt bs) ++ ((wC cI cZ aC (aW 0) (aB 0) to co ke nu fw) ++ ((wH cI aH (aW 0) lt tr sh cr ct cu ve ta ch) ++ ((wH cI aT (aW 0) lt2 tr2 sh2 cr2 ct2 cu2 ve2 ta2 ch2) ++ (wE cI aE lo fo si it))))))) (some (.int (-2147483648))) ((wS cS aS (aW 0) (aB 0) (aC 0) (aH 0) (aT 0) aE (nI 2)) ++ ((wW cI aW n cl th ki va re fi) ++ ((wB cI aB bt bs) ++ ((wC cI cZ aC (aW 0) (aB 0) to co ke nu fw) ++ ((wH cI aH (aW 0) lt tr sh cr ct cu ve ta ch) ++ ((wH cI aT (aW 0) lt2 tr2 sh2 cr2 ct2 cu2 ve2 ta2 ch2) ++ (wE cI aE lo fo si it))))))) := by
  refine CM.ofI (by decide +kernel) (Nat.le_of_ble_eq_true rfl) (nar_int _) ?_
  intro p e s m args below meth c Q A G K hA w hret ls hl
  obtain ⟨hx, hb, hml, hown, hts⟩ := id G
  obtain ⟨hn, hcl, hth, hki, hva, hre, hfi⟩ := id J
  obtain ⟨hbt, hbs⟩ := id B9
  obtain ⟨hco, hfw⟩ := id C9
  obtain ⟨hlt, htr, hsh, hcr, hct, hcu, hve, hta, hch⟩ := id H9
  obtain ⟨hlt2, htr2, hsh2, hcr2, hct2, hcu2, hve2, hta2, hch2⟩ := id U9
  obtain ⟨hfo, hsi⟩ := id E9
  have hl : lv_has ls 5 [(0, .ref (aS 0)), (1, .int (nI 0)), (2, .int (nI j)), (3, .int y)] := hl
  refine lv_iload_n hx hb dX5_get_0 rfl (lv_at hl 1 rfl) ?_
  refine callPS (rest := []) G K F_X5_isSheet (c_X5_isSheet (nI 0)) (va_P_nil D s.heap) ml_X5_121 (by decide) (by decide) rfl hl.1 (Nat.le_of_ble_eq_true rfl) dX5_get_1 ?_
  refine b_eq G (tgt := 14) dX5_get_4 (by decide) (fun c4 => ?_) (fun c4 => ?_)
  · -- taken at 4
    exact absurd ⟨0, by decide, rfl⟩ c4
  · -- not taken at 4
    refine lv_iload_n hx hb dX5_get_7 rfl (lv_at hl 2 rfl) ?_
    refine callPS (rest := []) G K F_X5_isForm (c_X5_isForm (nI j)) (va_P_nil D s.heap) ml_X5_235 (by decide) (by decide) rfl hl.1 (Nat.le_of_ble_eq_true rfl) dX5_get_8 ?_
    refine b_ne G (tgt := 17) dX5_get_11 (by decide) (fun c11 => ?_) (fun c11 => ?_)
    · -- taken at 11
      refine lv_aload_n hx hb dX5_get_17 rfl (lv_at hl 0 rfl) ?_
      refine f_get G K w.1 inX5 0 (ci := 5) rfl rfl 5 rfl fl_X5_46 (v := .ref (aS 1)) rfl dX5_get_18 ?_
      refine lv_iload_n hx hb dX5_get_21 rfl (lv_at hl 1 rfl) ?_
      refine a_ldR G K w.1 1 2 (a := (aS 1)) rfl rfl (by omega) (by decide) dX5_get_22 ?_
      refine lv_iload_n hx hb dX5_get_23 rfl (lv_at hl 2 rfl) ?_
      refine lv_iload_n hx hb dX5_get_24 rfl (lv_at hl 3 rfl) ?_
      refine callPV (As := [.int (nI j), .int y]) (rest := []) (q0 := 0) (ci := 3) G K F_X3_findingAt (c_X3_findingAt (aE 0) (aE 4) (lo 0) (fo 0) (si 0) (it 0) j y ⟨hfo 0, hsi 0⟩ (by omega)) (w.1.sub (ws' := (wT cI (aE 0) (aE 4) (lo 0) (fo 0) (si 0) (it 0))) [34, 38] rfl) ml_X5_241 rfl rfl rfl (by decide) (by decide) rfl hl.1 (Nat.le_of_ble_eq_true rfl) dX5_get_25 ?_
      refine t_i (y := (nI 2)) (congrArg nI (by unfold fdA; rw [cif_f hf9, cif_t hc9, cif_f hx9])) ?_
      refine lv_istore (lv' := [(4, .int (nI 2)), (0, .ref (aS 0)), (1, .int (nI 0)), (2, .int (nI j)), (3, .int y)]) hx hb dX5_get_28 hl (by decide) rfl (fun ls hl => ?_)
      refine lv_iload hx hb dX5_get_30 (lv_at hl 0 rfl) ?_
      refine z_eq G (tgt := 45) (by omega) dX5_get_32 (by decide) (fun c32 => ?_) (fun c32 => ?_)
      · -- taken at 32
        exact absurd c32 (by decide)
      · -- not taken at 32
        refine lv_aload_n hx hb dX5_get_35 rfl (lv_at hl 1 rfl) ?_
        refine lv_iload hx hb dX5_get_36 (lv_at hl 0 rfl) ?_
        refine callMF (As := [.int (nI 2)]) (rest := []) (q0 := 0) (ci := 5) (ws' := ((wS cS aS (aW 0) (aB 0) (aC 0) (aH 0) (aT 0) aE (nI 2)) ++ ((wW cI aW n cl th ki va re fi) ++ ((wB cI aB bt bs) ++ ((wC cI cZ aC (aW 0) (aB 0) to co ke nu fw) ++ ((wH cI aH (aW 0) lt tr sh cr ct cu ve ta ch) ++ ((wH cI aT (aW 0) lt2 tr2 sh2 cr2 ct2 cu2 ve2 ta2 ch2) ++ (wE cI aE lo fo si it)))))))) G K hA w F_X5_find (c_X5_find aS aE la aW n cl th ki va re fi aB bt bs aC to co ke nu fw aH lt tr sh cr ct cu ve ta ch aT lt2 tr2 sh2 cr2 ct2 cu2 ve2 ta2 ch2 lo fo si it 2 J S B9 C9 H9 U9 E9) ml_X5_128 rfl rfl rfl (by decide) (by decide) rfl hl.1 (Nat.le_of_ble_eq_true rfl) dX5_get_38 (fun Hp1 lo2 w => ?_)
        refine lv_pop hx hb dX5_get_41 rfl ?_
        refine lv_ldc hx hb hown (hts _ kc_X5_181) dX5_get_42 ?_
        exact hret _ _ _ _ _ _ rfl rfl w dX5_get_44
    · -- not taken at 11
      exact absurd ⟨j, hj9, rfl⟩ c11
set_option maxHeartbeats 4000000 in
set_option maxRecDepth 100000 in
theorem c_X5_get_ok0 (aS : Nat → Nat) (aE : Nat → Nat) (la : Int32) (aW : Nat → Nat) (n : Nat) (cl : Nat) (th : Nat → Nat) (ki : Nat → Nat) (va : Nat → Nat) (re : Nat → Nat) (fi : Nat → Nat) (aB : Nat → Nat) (bt : Nat → Nat) (bs : Nat) (aC : Nat → Nat) (to : Nat → Prop) (co : Nat → Nat) (ke : Nat → Int32) (nu : Nat → Int32) (fw : Nat → Nat) (aH : Nat → Nat) (lt : Nat → Option Nat) (tr : Nat → Nat) (sh : Nat → Nat) (cr : Nat → Nat) (ct : Nat → Nat) (cu : Nat → Nat) (ve : Nat → Nat) (ta : Nat → Nat) (ch : Nat) (aT : Nat → Nat) (lt2 : Nat → Option Nat) (tr2 : Nat → Nat) (sh2 : Nat → Nat) (cr2 : Nat → Nat) (ct2 : Nat → Nat) (cu2 : Nat → Nat) (ve2 : Nat → Nat) (ta2 : Nat → Nat) (ch2 : Nat) (lo : Nat → Prop) (fo : Nat → Nat) (si : Nat → Nat) (it : Nat → Nat → Int32) (j : Nat) (k : Nat) (J : IW n cl th ki va re fi) (S : SW n cl re fi) (B9 : (∀ j, bt j ≤ 255) ∧ bs ≤ 216) (C9 : (∀ j, co j ≤ 400) ∧ (∀ j, fw j ≤ 15)) (H9 : IHd lt tr sh cr ct cu ve ta ch) (U9 : IHd lt2 tr2 sh2 cr2 ct2 cu2 ve2 ta2 ch2) (E9 : (∀ j, fo j ≤ 2) ∧ (∀ j, si j ≤ 60)) (hj9 : j ≤ 2) (hf9 : ¬ lo 0) (hc9 : fo 0 = j) (hx9 : k < si 0) : CM l D (TY cI cZ cS) yX5_get cX5_get 5 (some .int) 1 [.ref (aS 0), .int (nI 0), .int (nI j), .int (nI k)] ((wS cS aS (aW 0) (aB 0) (aC 0) (aH 0) (aT 0) aE la) ++ ((wW cI aW n cl th ki va re fi) ++ ((wB cI aB bt bs) ++ ((wC cI cZ aC (aW 0) (aB 0) to co ke nu fw) ++ ((wH cI aH (aW 0) lt tr sh cr ct cu ve ta ch) ++ ((wH cI aT (aW 0) lt2 tr2 sh2 cr2 ct2 cu2 ve2 ta2 ch2) ++ (wE cI aE lo fo si it))))))) (some (.int (it 0 k))) ((wS cS aS (aW 0) (aB 0) (aC 0) (aH 0) (aT 0) aE la) ++ ((wW cI aW n cl th ki va re fi) ++ ((wB cI aB bt bs) ++ ((wC cI cZ aC (aW 0) (aB 0) to co ke nu fw) ++ ((wH cI aH (aW 0) lt tr sh cr ct cu ve ta ch) ++ ((wH cI aT (aW 0) lt2 tr2 sh2 cr2 ct2 cu2 ve2 ta2 ch2) ++ (wE cI aE lo fo si it))))))) := by
  refine CM.ofI (by decide +kernel) (Nat.le_of_ble_eq_true rfl) (nar_int _) ?_
  intro p e s m args below meth c Q A G K hA w hret ls hl
  obtain ⟨hx, hb, hml, hown, hts⟩ := id G
  obtain ⟨hn, hcl, hth, hki, hva, hre, hfi⟩ := id J
  obtain ⟨hbt, hbs⟩ := id B9
  obtain ⟨hco, hfw⟩ := id C9
  obtain ⟨hlt, htr, hsh, hcr, hct, hcu, hve, hta, hch⟩ := id H9
  obtain ⟨hlt2, htr2, hsh2, hcr2, hct2, hcu2, hve2, hta2, hch2⟩ := id U9
  obtain ⟨hfo, hsi⟩ := id E9
  have hs9 := hsi 0
  have hl : lv_has ls 5 [(0, .ref (aS 0)), (1, .int (nI 0)), (2, .int (nI j)), (3, .int (nI k))] := hl
  refine lv_iload_n hx hb dX5_get_0 rfl (lv_at hl 1 rfl) ?_
  refine callPS (rest := []) G K F_X5_isSheet (c_X5_isSheet (nI 0)) (va_P_nil D s.heap) ml_X5_121 (by decide) (by decide) rfl hl.1 (Nat.le_of_ble_eq_true rfl) dX5_get_1 ?_
  refine b_eq G (tgt := 14) dX5_get_4 (by decide) (fun c4 => ?_) (fun c4 => ?_)
  · -- taken at 4
    exact absurd ⟨0, by decide, rfl⟩ c4
  · -- not taken at 4
    refine lv_iload_n hx hb dX5_get_7 rfl (lv_at hl 2 rfl) ?_
    refine callPS (rest := []) G K F_X5_isForm (c_X5_isForm (nI j)) (va_P_nil D s.heap) ml_X5_235 (by decide) (by decide) rfl hl.1 (Nat.le_of_ble_eq_true rfl) dX5_get_8 ?_
    refine b_ne G (tgt := 17) dX5_get_11 (by decide) (fun c11 => ?_) (fun c11 => ?_)
    · -- taken at 11
      refine lv_aload_n hx hb dX5_get_17 rfl (lv_at hl 0 rfl) ?_
      refine f_get G K w.1 inX5 0 (ci := 5) rfl rfl 5 rfl fl_X5_46 (v := .ref (aS 1)) rfl dX5_get_18 ?_
      refine lv_iload_n hx hb dX5_get_21 rfl (lv_at hl 1 rfl) ?_
      refine a_ldR G K w.1 1 2 (a := (aS 1)) rfl rfl (by omega) (by decide) dX5_get_22 ?_
      refine lv_iload_n hx hb dX5_get_23 rfl (lv_at hl 2 rfl) ?_
      refine lv_iload_n hx hb dX5_get_24 rfl (lv_at hl 3 rfl) ?_
      refine callPV (As := [.int (nI j), .int (nI k)]) (rest := []) (q0 := 0) (ci := 3) G K F_X3_findingAt (c_X3_findingAt (aE 0) (aE 4) (lo 0) (fo 0) (si 0) (it 0) j (nI k) ⟨hfo 0, hsi 0⟩ (by omega)) (w.1.sub (ws' := (wT cI (aE 0) (aE 4) (lo 0) (fo 0) (si 0) (it 0))) [34, 38] rfl) ml_X5_241 rfl rfl rfl (by decide) (by decide) rfl hl.1 (Nat.le_of_ble_eq_true rfl) dX5_get_25 ?_
      refine t_i (y := (nI 0)) (congrArg nI (by unfold fdA; rw [cif_f hf9, cif_t hc9, cif_t ⟨k, hx9, rfl⟩])) ?_
      refine lv_istore (lv' := [(4, .int (nI 0)), (0, .ref (aS 0)), (1, .int (nI 0)), (2, .int (nI j)), (3, .int (nI k))]) hx hb dX5_get_28 hl (by decide) rfl (fun ls hl => ?_)
      refine lv_iload hx hb dX5_get_30 (lv_at hl 0 rfl) ?_
      refine z_eq G (tgt := 45) (by omega) dX5_get_32 (by decide) (fun c32 => ?_) (fun c32 => ?_)
      · -- taken at 32
        refine lv_aload_n hx hb dX5_get_45 rfl (lv_at hl 1 rfl) ?_
        refine f_get G K w.1 inX5 0 (ci := 5) rfl rfl 5 rfl fl_X5_46 (v := .ref (aS 1)) rfl dX5_get_46 ?_
        refine lv_iload_n hx hb dX5_get_49 rfl (lv_at hl 2 rfl) ?_
        refine a_ldR G K w.1 1 2 (a := (aS 1)) rfl rfl (by omega) (by decide) dX5_get_50 ?_
        refine f_get G K w.1 inX3 34 (ci := 3) rfl rfl 0 rfl fl_X5_132 (v := .ref (aE 4)) rfl dX5_get_51 ?_
        refine lv_iload_n hx hb dX5_get_54 rfl (lv_at hl 4 rfl) ?_
        refine a_ld G K w.1 38 0 (a := (aE 4)) rfl rfl (by omega) (by decide) dX5_get_55 ?_
        exact hret _ _ _ _ _ _ rfl rfl w dX5_get_56
      · -- not taken at 32
        exact absurd c32 (by decide)
    · -- not taken at 11
      exact absurd ⟨j, hj9, rfl⟩ c11
set_option maxHeartbeats 4000000 in
set_option maxRecDepth 100000 in
theorem c_X5_get_nul1 (aS : Nat → Nat) (aE : Nat → Nat) (la : Int32) (aW : Nat → Nat) (n : Nat) (cl : Nat) (th : Nat → Nat) (ki : Nat → Nat) (va : Nat → Nat) (re : Nat → Nat) (fi : Nat → Nat) (aB : Nat → Nat) (bt : Nat → Nat) (bs : Nat) (aC : Nat → Nat) (to : Nat → Prop) (co : Nat → Nat) (ke : Nat → Int32) (nu : Nat → Int32) (fw : Nat → Nat) (aH : Nat → Nat) (lt : Nat → Option Nat) (tr : Nat → Nat) (sh : Nat → Nat) (cr : Nat → Nat) (ct : Nat → Nat) (cu : Nat → Nat) (ve : Nat → Nat) (ta : Nat → Nat) (ch : Nat) (aT : Nat → Nat) (lt2 : Nat → Option Nat) (tr2 : Nat → Nat) (sh2 : Nat → Nat) (cr2 : Nat → Nat) (ct2 : Nat → Nat) (cu2 : Nat → Nat) (ve2 : Nat → Nat) (ta2 : Nat → Nat) (ch2 : Nat) (lo : Nat → Prop) (fo : Nat → Nat) (si : Nat → Nat) (it : Nat → Nat → Int32) (j : Nat) (y : Int32) (J : IW n cl th ki va re fi) (S : SW n cl re fi) (B9 : (∀ j, bt j ≤ 255) ∧ bs ≤ 216) (C9 : (∀ j, co j ≤ 400) ∧ (∀ j, fw j ≤ 15)) (H9 : IHd lt tr sh cr ct cu ve ta ch) (U9 : IHd lt2 tr2 sh2 cr2 ct2 cu2 ve2 ta2 ch2) (E9 : (∀ j, fo j ≤ 2) ∧ (∀ j, si j ≤ 60)) (hj9 : j ≤ 2) (hf9 : lo 1) : CM l D (TY cI cZ cS) yX5_get cX5_get 5 (some .int) 1 [.ref (aS 0), .int (nI 1), .int (nI j), .int y] ((wS cS aS (aW 0) (aB 0) (aC 0) (aH 0) (aT 0) aE la) ++ ((wW cI aW n cl th ki va re fi) ++ ((wB cI aB bt bs) ++ ((wC cI cZ aC (aW 0) (aB 0) to co ke nu fw) ++ ((wH cI aH (aW 0) lt tr sh cr ct cu ve ta ch) ++ ((wH cI aT (aW 0) lt2 tr2 sh2 cr2 ct2 cu2 ve2 ta2 ch2) ++ (wE cI aE lo fo si it))))))) (some (.int (-2147483648))) ((wS cS aS (aW 0) (aB 0) (aC 0) (aH 0) (aT 0) aE (nI 1)) ++ ((wW cI aW n cl th ki va re fi) ++ ((wB cI aB bt bs) ++ ((wC cI cZ aC (aW 0) (aB 0) to co ke nu fw) ++ ((wH cI aH (aW 0) lt tr sh cr ct cu ve ta ch) ++ ((wH cI aT (aW 0) lt2 tr2 sh2 cr2 ct2 cu2 ve2 ta2 ch2) ++ (wE cI aE lo fo si it))))))) := by
  refine CM.ofI (by decide +kernel) (Nat.le_of_ble_eq_true rfl) (nar_int _) ?_
  intro p e s m args below meth c Q A G K hA w hret ls hl
  obtain ⟨hx, hb, hml, hown, hts⟩ := id G
  obtain ⟨hn, hcl, hth, hki, hva, hre, hfi⟩ := id J
  obtain ⟨hbt, hbs⟩ := id B9
  obtain ⟨hco, hfw⟩ := id C9
  obtain ⟨hlt, htr, hsh, hcr, hct, hcu, hve, hta, hch⟩ := id H9
  obtain ⟨hlt2, htr2, hsh2, hcr2, hct2, hcu2, hve2, hta2, hch2⟩ := id U9
  obtain ⟨hfo, hsi⟩ := id E9
  have hl : lv_has ls 5 [(0, .ref (aS 0)), (1, .int (nI 1)), (2, .int (nI j)), (3, .int y)] := hl
  refine lv_iload_n hx hb dX5_get_0 rfl (lv_at hl 1 rfl) ?_
  refine callPS (rest := []) G K F_X5_isSheet (c_X5_isSheet (nI 1)) (va_P_nil D s.heap) ml_X5_121 (by decide) (by decide) rfl hl.1 (Nat.le_of_ble_eq_true rfl) dX5_get_1 ?_
  refine b_eq G (tgt := 14) dX5_get_4 (by decide) (fun c4 => ?_) (fun c4 => ?_)
  · -- taken at 4
    exact absurd ⟨1, by decide, rfl⟩ c4
  · -- not taken at 4
    refine lv_iload_n hx hb dX5_get_7 rfl (lv_at hl 2 rfl) ?_
    refine callPS (rest := []) G K F_X5_isForm (c_X5_isForm (nI j)) (va_P_nil D s.heap) ml_X5_235 (by decide) (by decide) rfl hl.1 (Nat.le_of_ble_eq_true rfl) dX5_get_8 ?_
    refine b_ne G (tgt := 17) dX5_get_11 (by decide) (fun c11 => ?_) (fun c11 => ?_)
    · -- taken at 11
      refine lv_aload_n hx hb dX5_get_17 rfl (lv_at hl 0 rfl) ?_
      refine f_get G K w.1 inX5 0 (ci := 5) rfl rfl 5 rfl fl_X5_46 (v := .ref (aS 1)) rfl dX5_get_18 ?_
      refine lv_iload_n hx hb dX5_get_21 rfl (lv_at hl 1 rfl) ?_
      refine a_ldR G K w.1 1 2 (a := (aS 1)) rfl rfl (by omega) (by decide) dX5_get_22 ?_
      refine lv_iload_n hx hb dX5_get_23 rfl (lv_at hl 2 rfl) ?_
      refine lv_iload_n hx hb dX5_get_24 rfl (lv_at hl 3 rfl) ?_
      refine callPV (As := [.int (nI j), .int y]) (rest := []) (q0 := 0) (ci := 3) G K F_X3_findingAt (c_X3_findingAt (aE 1) (aE 5) (lo 1) (fo 1) (si 1) (it 1) j y ⟨hfo 1, hsi 1⟩ (by omega)) (w.1.sub (ws' := (wT cI (aE 1) (aE 5) (lo 1) (fo 1) (si 1) (it 1))) [35, 39] rfl) ml_X5_241 rfl rfl rfl (by decide) (by decide) rfl hl.1 (Nat.le_of_ble_eq_true rfl) dX5_get_25 ?_
      refine t_i (y := (nI 1)) (congrArg nI (by unfold fdA; rw [cif_t hf9])) ?_
      refine lv_istore (lv' := [(4, .int (nI 1)), (0, .ref (aS 0)), (1, .int (nI 1)), (2, .int (nI j)), (3, .int y)]) hx hb dX5_get_28 hl (by decide) rfl (fun ls hl => ?_)
      refine lv_iload hx hb dX5_get_30 (lv_at hl 0 rfl) ?_
      refine z_eq G (tgt := 45) (by omega) dX5_get_32 (by decide) (fun c32 => ?_) (fun c32 => ?_)
      · -- taken at 32
        exact absurd c32 (by decide)
      · -- not taken at 32
        refine lv_aload_n hx hb dX5_get_35 rfl (lv_at hl 1 rfl) ?_
        refine lv_iload hx hb dX5_get_36 (lv_at hl 0 rfl) ?_
        refine callMF (As := [.int (nI 1)]) (rest := []) (q0 := 0) (ci := 5) (ws' := ((wS cS aS (aW 0) (aB 0) (aC 0) (aH 0) (aT 0) aE (nI 1)) ++ ((wW cI aW n cl th ki va re fi) ++ ((wB cI aB bt bs) ++ ((wC cI cZ aC (aW 0) (aB 0) to co ke nu fw) ++ ((wH cI aH (aW 0) lt tr sh cr ct cu ve ta ch) ++ ((wH cI aT (aW 0) lt2 tr2 sh2 cr2 ct2 cu2 ve2 ta2 ch2) ++ (wE cI aE lo fo si it)))))))) G K hA w F_X5_find (c_X5_find aS aE la aW n cl th ki va re fi aB bt bs aC to co ke nu fw aH lt tr sh cr ct cu ve ta ch aT lt2 tr2 sh2 cr2 ct2 cu2 ve2 ta2 ch2 lo fo si it 1 J S B9 C9 H9 U9 E9) ml_X5_128 rfl rfl rfl (by decide) (by decide) rfl hl.1 (Nat.le_of_ble_eq_true rfl) dX5_get_38 (fun Hp1 lo2 w => ?_)
        refine lv_pop hx hb dX5_get_41 rfl ?_
        refine lv_ldc hx hb hown (hts _ kc_X5_181) dX5_get_42 ?_
        exact hret _ _ _ _ _ _ rfl rfl w dX5_get_44
    · -- not taken at 11
      exact absurd ⟨j, hj9, rfl⟩ c11
set_option maxHeartbeats 4000000 in
set_option maxRecDepth 100000 in
theorem c_X5_get_cast1 (aS : Nat → Nat) (aE : Nat → Nat) (la : Int32) (aW : Nat → Nat) (n : Nat) (cl : Nat) (th : Nat → Nat) (ki : Nat → Nat) (va : Nat → Nat) (re : Nat → Nat) (fi : Nat → Nat) (aB : Nat → Nat) (bt : Nat → Nat) (bs : Nat) (aC : Nat → Nat) (to : Nat → Prop) (co : Nat → Nat) (ke : Nat → Int32) (nu : Nat → Int32) (fw : Nat → Nat) (aH : Nat → Nat) (lt : Nat → Option Nat) (tr : Nat → Nat) (sh : Nat → Nat) (cr : Nat → Nat) (ct : Nat → Nat) (cu : Nat → Nat) (ve : Nat → Nat) (ta : Nat → Nat) (ch : Nat) (aT : Nat → Nat) (lt2 : Nat → Option Nat) (tr2 : Nat → Nat) (sh2 : Nat → Nat) (cr2 : Nat → Nat) (ct2 : Nat → Nat) (cu2 : Nat → Nat) (ve2 : Nat → Nat) (ta2 : Nat → Nat) (ch2 : Nat) (lo : Nat → Prop) (fo : Nat → Nat) (si : Nat → Nat) (it : Nat → Nat → Int32) (j : Nat) (y : Int32) (J : IW n cl th ki va re fi) (S : SW n cl re fi) (B9 : (∀ j, bt j ≤ 255) ∧ bs ≤ 216) (C9 : (∀ j, co j ≤ 400) ∧ (∀ j, fw j ≤ 15)) (H9 : IHd lt tr sh cr ct cu ve ta ch) (U9 : IHd lt2 tr2 sh2 cr2 ct2 cu2 ve2 ta2 ch2) (E9 : (∀ j, fo j ≤ 2) ∧ (∀ j, si j ≤ 60)) (hj9 : j ≤ 2) (hf9 : ¬ lo 1) (hc9 : fo 1 ≠ j) : CM l D (TY cI cZ cS) yX5_get cX5_get 5 (some .int) 1 [.ref (aS 0), .int (nI 1), .int (nI j), .int y] ((wS cS aS (aW 0) (aB 0) (aC 0) (aH 0) (aT 0) aE la) ++ ((wW cI aW n cl th ki va re fi) ++ ((wB cI aB bt bs) ++ ((wC cI cZ aC (aW 0) (aB 0) to co ke nu fw) ++ ((wH cI aH (aW 0) lt tr sh cr ct cu ve ta ch) ++ ((wH cI aT (aW 0) lt2 tr2 sh2 cr2 ct2 cu2 ve2 ta2 ch2) ++ (wE cI aE lo fo si it))))))) (some (.int (-2147483648))) ((wS cS aS (aW 0) (aB 0) (aC 0) (aH 0) (aT 0) aE (nI 3)) ++ ((wW cI aW n cl th ki va re fi) ++ ((wB cI aB bt bs) ++ ((wC cI cZ aC (aW 0) (aB 0) to co ke nu fw) ++ ((wH cI aH (aW 0) lt tr sh cr ct cu ve ta ch) ++ ((wH cI aT (aW 0) lt2 tr2 sh2 cr2 ct2 cu2 ve2 ta2 ch2) ++ (wE cI aE lo fo si it))))))) := by
  refine CM.ofI (by decide +kernel) (Nat.le_of_ble_eq_true rfl) (nar_int _) ?_
  intro p e s m args below meth c Q A G K hA w hret ls hl
  obtain ⟨hx, hb, hml, hown, hts⟩ := id G
  obtain ⟨hn, hcl, hth, hki, hva, hre, hfi⟩ := id J
  obtain ⟨hbt, hbs⟩ := id B9
  obtain ⟨hco, hfw⟩ := id C9
  obtain ⟨hlt, htr, hsh, hcr, hct, hcu, hve, hta, hch⟩ := id H9
  obtain ⟨hlt2, htr2, hsh2, hcr2, hct2, hcu2, hve2, hta2, hch2⟩ := id U9
  obtain ⟨hfo, hsi⟩ := id E9
  have hl : lv_has ls 5 [(0, .ref (aS 0)), (1, .int (nI 1)), (2, .int (nI j)), (3, .int y)] := hl
  refine lv_iload_n hx hb dX5_get_0 rfl (lv_at hl 1 rfl) ?_
  refine callPS (rest := []) G K F_X5_isSheet (c_X5_isSheet (nI 1)) (va_P_nil D s.heap) ml_X5_121 (by decide) (by decide) rfl hl.1 (Nat.le_of_ble_eq_true rfl) dX5_get_1 ?_
  refine b_eq G (tgt := 14) dX5_get_4 (by decide) (fun c4 => ?_) (fun c4 => ?_)
  · -- taken at 4
    exact absurd ⟨1, by decide, rfl⟩ c4
  · -- not taken at 4
    refine lv_iload_n hx hb dX5_get_7 rfl (lv_at hl 2 rfl) ?_
    refine callPS (rest := []) G K F_X5_isForm (c_X5_isForm (nI j)) (va_P_nil D s.heap) ml_X5_235 (by decide) (by decide) rfl hl.1 (Nat.le_of_ble_eq_true rfl) dX5_get_8 ?_
    refine b_ne G (tgt := 17) dX5_get_11 (by decide) (fun c11 => ?_) (fun c11 => ?_)
    · -- taken at 11
      refine lv_aload_n hx hb dX5_get_17 rfl (lv_at hl 0 rfl) ?_
      refine f_get G K w.1 inX5 0 (ci := 5) rfl rfl 5 rfl fl_X5_46 (v := .ref (aS 1)) rfl dX5_get_18 ?_
      refine lv_iload_n hx hb dX5_get_21 rfl (lv_at hl 1 rfl) ?_
      refine a_ldR G K w.1 1 2 (a := (aS 1)) rfl rfl (by omega) (by decide) dX5_get_22 ?_
      refine lv_iload_n hx hb dX5_get_23 rfl (lv_at hl 2 rfl) ?_
      refine lv_iload_n hx hb dX5_get_24 rfl (lv_at hl 3 rfl) ?_
      refine callPV (As := [.int (nI j), .int y]) (rest := []) (q0 := 0) (ci := 3) G K F_X3_findingAt (c_X3_findingAt (aE 1) (aE 5) (lo 1) (fo 1) (si 1) (it 1) j y ⟨hfo 1, hsi 1⟩ (by omega)) (w.1.sub (ws' := (wT cI (aE 1) (aE 5) (lo 1) (fo 1) (si 1) (it 1))) [35, 39] rfl) ml_X5_241 rfl rfl rfl (by decide) (by decide) rfl hl.1 (Nat.le_of_ble_eq_true rfl) dX5_get_25 ?_
      refine t_i (y := (nI 3)) (congrArg nI (by unfold fdA; rw [cif_f hf9, cif_f hc9])) ?_
      refine lv_istore (lv' := [(4, .int (nI 3)), (0, .ref (aS 0)), (1, .int (nI 1)), (2, .int (nI j)), (3, .int y)]) hx hb dX5_get_28 hl (by decide) rfl (fun ls hl => ?_)
      refine lv_iload hx hb dX5_get_30 (lv_at hl 0 rfl) ?_
      refine z_eq G (tgt := 45) (by omega) dX5_get_32 (by decide) (fun c32 => ?_) (fun c32 => ?_)
      · -- taken at 32
        exact absurd c32 (by decide)
      · -- not taken at 32
        refine lv_aload_n hx hb dX5_get_35 rfl (lv_at hl 1 rfl) ?_
        refine lv_iload hx hb dX5_get_36 (lv_at hl 0 rfl) ?_
        refine callMF (As := [.int (nI 3)]) (rest := []) (q0 := 0) (ci := 5) (ws' := ((wS cS aS (aW 0) (aB 0) (aC 0) (aH 0) (aT 0) aE (nI 3)) ++ ((wW cI aW n cl th ki va re fi) ++ ((wB cI aB bt bs) ++ ((wC cI cZ aC (aW 0) (aB 0) to co ke nu fw) ++ ((wH cI aH (aW 0) lt tr sh cr ct cu ve ta ch) ++ ((wH cI aT (aW 0) lt2 tr2 sh2 cr2 ct2 cu2 ve2 ta2 ch2) ++ (wE cI aE lo fo si it)))))))) G K hA w F_X5_find (c_X5_find aS aE la aW n cl th ki va re fi aB bt bs aC to co ke nu fw aH lt tr sh cr ct cu ve ta ch aT lt2 tr2 sh2 cr2 ct2 cu2 ve2 ta2 ch2 lo fo si it 3 J S B9 C9 H9 U9 E9) ml_X5_128 rfl rfl rfl (by decide) (by decide) rfl hl.1 (Nat.le_of_ble_eq_true rfl) dX5_get_38 (fun Hp1 lo2 w => ?_)
        refine lv_pop hx hb dX5_get_41 rfl ?_
        refine lv_ldc hx hb hown (hts _ kc_X5_181) dX5_get_42 ?_
        exact hret _ _ _ _ _ _ rfl rfl w dX5_get_44
    · -- not taken at 11
      exact absurd ⟨j, hj9, rfl⟩ c11
set_option maxHeartbeats 4000000 in
set_option maxRecDepth 100000 in
theorem c_X5_get_idx1 (aS : Nat → Nat) (aE : Nat → Nat) (la : Int32) (aW : Nat → Nat) (n : Nat) (cl : Nat) (th : Nat → Nat) (ki : Nat → Nat) (va : Nat → Nat) (re : Nat → Nat) (fi : Nat → Nat) (aB : Nat → Nat) (bt : Nat → Nat) (bs : Nat) (aC : Nat → Nat) (to : Nat → Prop) (co : Nat → Nat) (ke : Nat → Int32) (nu : Nat → Int32) (fw : Nat → Nat) (aH : Nat → Nat) (lt : Nat → Option Nat) (tr : Nat → Nat) (sh : Nat → Nat) (cr : Nat → Nat) (ct : Nat → Nat) (cu : Nat → Nat) (ve : Nat → Nat) (ta : Nat → Nat) (ch : Nat) (aT : Nat → Nat) (lt2 : Nat → Option Nat) (tr2 : Nat → Nat) (sh2 : Nat → Nat) (cr2 : Nat → Nat) (ct2 : Nat → Nat) (cu2 : Nat → Nat) (ve2 : Nat → Nat) (ta2 : Nat → Nat) (ch2 : Nat) (lo : Nat → Prop) (fo : Nat → Nat) (si : Nat → Nat) (it : Nat → Nat → Int32) (j : Nat) (y : Int32) (J : IW n cl th ki va re fi) (S : SW n cl re fi) (B9 : (∀ j, bt j ≤ 255) ∧ bs ≤ 216) (C9 : (∀ j, co j ≤ 400) ∧ (∀ j, fw j ≤ 15)) (H9 : IHd lt tr sh cr ct cu ve ta ch) (U9 : IHd lt2 tr2 sh2 cr2 ct2 cu2 ve2 ta2 ch2) (E9 : (∀ j, fo j ≤ 2) ∧ (∀ j, si j ≤ 60)) (hj9 : j ≤ 2) (hf9 : ¬ lo 1) (hc9 : fo 1 = j) (hx9 : ¬ okW (si 1) y) : CM l D (TY cI cZ cS) yX5_get cX5_get 5 (some .int) 1 [.ref (aS 0), .int (nI 1), .int (nI j), .int y] ((wS cS aS (aW 0) (aB 0) (aC 0) (aH 0) (aT 0) aE la) ++ ((wW cI aW n cl th ki va re fi) ++ ((wB cI aB bt bs) ++ ((wC cI cZ aC (aW 0) (aB 0) to co ke nu fw) ++ ((wH cI aH (aW 0) lt tr sh cr ct cu ve ta ch) ++ ((wH cI aT (aW 0) lt2 tr2 sh2 cr2 ct2 cu2 ve2 ta2 ch2) ++ (wE cI aE lo fo si it))))))) (some (.int (-2147483648))) ((wS cS aS (aW 0) (aB 0) (aC 0) (aH 0) (aT 0) aE (nI 2)) ++ ((wW cI aW n cl th ki va re fi) ++ ((wB cI aB bt bs) ++ ((wC cI cZ aC (aW 0) (aB 0) to co ke nu fw) ++ ((wH cI aH (aW 0) lt tr sh cr ct cu ve ta ch) ++ ((wH cI aT (aW 0) lt2 tr2 sh2 cr2 ct2 cu2 ve2 ta2 ch2) ++ (wE cI aE lo fo si it))))))) := by
  refine CM.ofI (by decide +kernel) (Nat.le_of_ble_eq_true rfl) (nar_int _) ?_
  intro p e s m args below meth c Q A G K hA w hret ls hl
  obtain ⟨hx, hb, hml, hown, hts⟩ := id G
  obtain ⟨hn, hcl, hth, hki, hva, hre, hfi⟩ := id J
  obtain ⟨hbt, hbs⟩ := id B9
  obtain ⟨hco, hfw⟩ := id C9
  obtain ⟨hlt, htr, hsh, hcr, hct, hcu, hve, hta, hch⟩ := id H9
  obtain ⟨hlt2, htr2, hsh2, hcr2, hct2, hcu2, hve2, hta2, hch2⟩ := id U9
  obtain ⟨hfo, hsi⟩ := id E9
  have hl : lv_has ls 5 [(0, .ref (aS 0)), (1, .int (nI 1)), (2, .int (nI j)), (3, .int y)] := hl
  refine lv_iload_n hx hb dX5_get_0 rfl (lv_at hl 1 rfl) ?_
  refine callPS (rest := []) G K F_X5_isSheet (c_X5_isSheet (nI 1)) (va_P_nil D s.heap) ml_X5_121 (by decide) (by decide) rfl hl.1 (Nat.le_of_ble_eq_true rfl) dX5_get_1 ?_
  refine b_eq G (tgt := 14) dX5_get_4 (by decide) (fun c4 => ?_) (fun c4 => ?_)
  · -- taken at 4
    exact absurd ⟨1, by decide, rfl⟩ c4
  · -- not taken at 4
    refine lv_iload_n hx hb dX5_get_7 rfl (lv_at hl 2 rfl) ?_
    refine callPS (rest := []) G K F_X5_isForm (c_X5_isForm (nI j)) (va_P_nil D s.heap) ml_X5_235 (by decide) (by decide) rfl hl.1 (Nat.le_of_ble_eq_true rfl) dX5_get_8 ?_
    refine b_ne G (tgt := 17) dX5_get_11 (by decide) (fun c11 => ?_) (fun c11 => ?_)
    · -- taken at 11
      refine lv_aload_n hx hb dX5_get_17 rfl (lv_at hl 0 rfl) ?_
      refine f_get G K w.1 inX5 0 (ci := 5) rfl rfl 5 rfl fl_X5_46 (v := .ref (aS 1)) rfl dX5_get_18 ?_
      refine lv_iload_n hx hb dX5_get_21 rfl (lv_at hl 1 rfl) ?_
      refine a_ldR G K w.1 1 2 (a := (aS 1)) rfl rfl (by omega) (by decide) dX5_get_22 ?_
      refine lv_iload_n hx hb dX5_get_23 rfl (lv_at hl 2 rfl) ?_
      refine lv_iload_n hx hb dX5_get_24 rfl (lv_at hl 3 rfl) ?_
      refine callPV (As := [.int (nI j), .int y]) (rest := []) (q0 := 0) (ci := 3) G K F_X3_findingAt (c_X3_findingAt (aE 1) (aE 5) (lo 1) (fo 1) (si 1) (it 1) j y ⟨hfo 1, hsi 1⟩ (by omega)) (w.1.sub (ws' := (wT cI (aE 1) (aE 5) (lo 1) (fo 1) (si 1) (it 1))) [35, 39] rfl) ml_X5_241 rfl rfl rfl (by decide) (by decide) rfl hl.1 (Nat.le_of_ble_eq_true rfl) dX5_get_25 ?_
      refine t_i (y := (nI 2)) (congrArg nI (by unfold fdA; rw [cif_f hf9, cif_t hc9, cif_f hx9])) ?_
      refine lv_istore (lv' := [(4, .int (nI 2)), (0, .ref (aS 0)), (1, .int (nI 1)), (2, .int (nI j)), (3, .int y)]) hx hb dX5_get_28 hl (by decide) rfl (fun ls hl => ?_)
      refine lv_iload hx hb dX5_get_30 (lv_at hl 0 rfl) ?_
      refine z_eq G (tgt := 45) (by omega) dX5_get_32 (by decide) (fun c32 => ?_) (fun c32 => ?_)
      · -- taken at 32
        exact absurd c32 (by decide)
      · -- not taken at 32
        refine lv_aload_n hx hb dX5_get_35 rfl (lv_at hl 1 rfl) ?_
        refine lv_iload hx hb dX5_get_36 (lv_at hl 0 rfl) ?_
        refine callMF (As := [.int (nI 2)]) (rest := []) (q0 := 0) (ci := 5) (ws' := ((wS cS aS (aW 0) (aB 0) (aC 0) (aH 0) (aT 0) aE (nI 2)) ++ ((wW cI aW n cl th ki va re fi) ++ ((wB cI aB bt bs) ++ ((wC cI cZ aC (aW 0) (aB 0) to co ke nu fw) ++ ((wH cI aH (aW 0) lt tr sh cr ct cu ve ta ch) ++ ((wH cI aT (aW 0) lt2 tr2 sh2 cr2 ct2 cu2 ve2 ta2 ch2) ++ (wE cI aE lo fo si it)))))))) G K hA w F_X5_find (c_X5_find aS aE la aW n cl th ki va re fi aB bt bs aC to co ke nu fw aH lt tr sh cr ct cu ve ta ch aT lt2 tr2 sh2 cr2 ct2 cu2 ve2 ta2 ch2 lo fo si it 2 J S B9 C9 H9 U9 E9) ml_X5_128 rfl rfl rfl (by decide) (by decide) rfl hl.1 (Nat.le_of_ble_eq_true rfl) dX5_get_38 (fun Hp1 lo2 w => ?_)
        refine lv_pop hx hb dX5_get_41 rfl ?_
        refine lv_ldc hx hb hown (hts _ kc_X5_181) dX5_get_42 ?_
        exact hret _ _ _ _ _ _ rfl rfl w dX5_get_44
    · -- not taken at 11
      exact absurd ⟨j, hj9, rfl⟩ c11
set_option maxHeartbeats 4000000 in
set_option maxRecDepth 100000 in
theorem c_X5_get_ok1 (aS : Nat → Nat) (aE : Nat → Nat) (la : Int32) (aW : Nat → Nat) (n : Nat) (cl : Nat) (th : Nat → Nat) (ki : Nat → Nat) (va : Nat → Nat) (re : Nat → Nat) (fi : Nat → Nat) (aB : Nat → Nat) (bt : Nat → Nat) (bs : Nat) (aC : Nat → Nat) (to : Nat → Prop) (co : Nat → Nat) (ke : Nat → Int32) (nu : Nat → Int32) (fw : Nat → Nat) (aH : Nat → Nat) (lt : Nat → Option Nat) (tr : Nat → Nat) (sh : Nat → Nat) (cr : Nat → Nat) (ct : Nat → Nat) (cu : Nat → Nat) (ve : Nat → Nat) (ta : Nat → Nat) (ch : Nat) (aT : Nat → Nat) (lt2 : Nat → Option Nat) (tr2 : Nat → Nat) (sh2 : Nat → Nat) (cr2 : Nat → Nat) (ct2 : Nat → Nat) (cu2 : Nat → Nat) (ve2 : Nat → Nat) (ta2 : Nat → Nat) (ch2 : Nat) (lo : Nat → Prop) (fo : Nat → Nat) (si : Nat → Nat) (it : Nat → Nat → Int32) (j : Nat) (k : Nat) (J : IW n cl th ki va re fi) (S : SW n cl re fi) (B9 : (∀ j, bt j ≤ 255) ∧ bs ≤ 216) (C9 : (∀ j, co j ≤ 400) ∧ (∀ j, fw j ≤ 15)) (H9 : IHd lt tr sh cr ct cu ve ta ch) (U9 : IHd lt2 tr2 sh2 cr2 ct2 cu2 ve2 ta2 ch2) (E9 : (∀ j, fo j ≤ 2) ∧ (∀ j, si j ≤ 60)) (hj9 : j ≤ 2) (hf9 : ¬ lo 1) (hc9 : fo 1 = j) (hx9 : k < si 1) : CM l D (TY cI cZ cS) yX5_get cX5_get 5 (some .int) 1 [.ref (aS 0), .int (nI 1), .int (nI j), .int (nI k)] ((wS cS aS (aW 0) (aB 0) (aC 0) (aH 0) (aT 0) aE la) ++ ((wW cI aW n cl th ki va re fi) ++ ((wB cI aB bt bs) ++ ((wC cI cZ aC (aW 0) (aB 0) to co ke nu fw) ++ ((wH cI aH (aW 0) lt tr sh cr ct cu ve ta ch) ++ ((wH cI aT (aW 0) lt2 tr2 sh2 cr2 ct2 cu2 ve2 ta2 ch2) ++ (wE cI aE lo fo si it))))))) (some (.int (it 1 k))) ((wS cS aS (aW 0) (aB 0) (aC 0) (aH 0) (aT 0) aE la) ++ ((wW cI aW n cl th ki va re fi) ++ ((wB cI aB bt bs) ++ ((wC cI cZ aC (aW 0) (aB 0) to co ke nu fw) ++ ((wH cI aH (aW 0) lt tr sh cr ct cu ve ta ch) ++ ((wH cI aT (aW 0) lt2 tr2 sh2 cr2 ct2 cu2 ve2 ta2 ch2) ++ (wE cI aE lo fo si it))))))) := by
  refine CM.ofI (by decide +kernel) (Nat.le_of_ble_eq_true rfl) (nar_int _) ?_
  intro p e s m args below meth c Q A G K hA w hret ls hl
  obtain ⟨hx, hb, hml, hown, hts⟩ := id G
  obtain ⟨hn, hcl, hth, hki, hva, hre, hfi⟩ := id J
  obtain ⟨hbt, hbs⟩ := id B9
  obtain ⟨hco, hfw⟩ := id C9
  obtain ⟨hlt, htr, hsh, hcr, hct, hcu, hve, hta, hch⟩ := id H9
  obtain ⟨hlt2, htr2, hsh2, hcr2, hct2, hcu2, hve2, hta2, hch2⟩ := id U9
  obtain ⟨hfo, hsi⟩ := id E9
  have hs9 := hsi 1
  have hl : lv_has ls 5 [(0, .ref (aS 0)), (1, .int (nI 1)), (2, .int (nI j)), (3, .int (nI k))] := hl
  refine lv_iload_n hx hb dX5_get_0 rfl (lv_at hl 1 rfl) ?_
  refine callPS (rest := []) G K F_X5_isSheet (c_X5_isSheet (nI 1)) (va_P_nil D s.heap) ml_X5_121 (by decide) (by decide) rfl hl.1 (Nat.le_of_ble_eq_true rfl) dX5_get_1 ?_
  refine b_eq G (tgt := 14) dX5_get_4 (by decide) (fun c4 => ?_) (fun c4 => ?_)
  · -- taken at 4
    exact absurd ⟨1, by decide, rfl⟩ c4
  · -- not taken at 4
    refine lv_iload_n hx hb dX5_get_7 rfl (lv_at hl 2 rfl) ?_
    refine callPS (rest := []) G K F_X5_isForm (c_X5_isForm (nI j)) (va_P_nil D s.heap) ml_X5_235 (by decide) (by decide) rfl hl.1 (Nat.le_of_ble_eq_true rfl) dX5_get_8 ?_
    refine b_ne G (tgt := 17) dX5_get_11 (by decide) (fun c11 => ?_) (fun c11 => ?_)
    · -- taken at 11
      refine lv_aload_n hx hb dX5_get_17 rfl (lv_at hl 0 rfl) ?_
      refine f_get G K w.1 inX5 0 (ci := 5) rfl rfl 5 rfl fl_X5_46 (v := .ref (aS 1)) rfl dX5_get_18 ?_
      refine lv_iload_n hx hb dX5_get_21 rfl (lv_at hl 1 rfl) ?_
      refine a_ldR G K w.1 1 2 (a := (aS 1)) rfl rfl (by omega) (by decide) dX5_get_22 ?_
      refine lv_iload_n hx hb dX5_get_23 rfl (lv_at hl 2 rfl) ?_
      refine lv_iload_n hx hb dX5_get_24 rfl (lv_at hl 3 rfl) ?_
      refine callPV (As := [.int (nI j), .int (nI k)]) (rest := []) (q0 := 0) (ci := 3) G K F_X3_findingAt (c_X3_findingAt (aE 1) (aE 5) (lo 1) (fo 1) (si 1) (it 1) j (nI k) ⟨hfo 1, hsi 1⟩ (by omega)) (w.1.sub (ws' := (wT cI (aE 1) (aE 5) (lo 1) (fo 1) (si 1) (it 1))) [35, 39] rfl) ml_X5_241 rfl rfl rfl (by decide) (by decide) rfl hl.1 (Nat.le_of_ble_eq_true rfl) dX5_get_25 ?_
      refine t_i (y := (nI 0)) (congrArg nI (by unfold fdA; rw [cif_f hf9, cif_t hc9, cif_t ⟨k, hx9, rfl⟩])) ?_
      refine lv_istore (lv' := [(4, .int (nI 0)), (0, .ref (aS 0)), (1, .int (nI 1)), (2, .int (nI j)), (3, .int (nI k))]) hx hb dX5_get_28 hl (by decide) rfl (fun ls hl => ?_)
      refine lv_iload hx hb dX5_get_30 (lv_at hl 0 rfl) ?_
      refine z_eq G (tgt := 45) (by omega) dX5_get_32 (by decide) (fun c32 => ?_) (fun c32 => ?_)
      · -- taken at 32
        refine lv_aload_n hx hb dX5_get_45 rfl (lv_at hl 1 rfl) ?_
        refine f_get G K w.1 inX5 0 (ci := 5) rfl rfl 5 rfl fl_X5_46 (v := .ref (aS 1)) rfl dX5_get_46 ?_
        refine lv_iload_n hx hb dX5_get_49 rfl (lv_at hl 2 rfl) ?_
        refine a_ldR G K w.1 1 2 (a := (aS 1)) rfl rfl (by omega) (by decide) dX5_get_50 ?_
        refine f_get G K w.1 inX3 35 (ci := 3) rfl rfl 0 rfl fl_X5_132 (v := .ref (aE 5)) rfl dX5_get_51 ?_
        refine lv_iload_n hx hb dX5_get_54 rfl (lv_at hl 4 rfl) ?_
        refine a_ld G K w.1 39 0 (a := (aE 5)) rfl rfl (by omega) (by decide) dX5_get_55 ?_
        exact hret _ _ _ _ _ _ rfl rfl w dX5_get_56
      · -- not taken at 32
        exact absurd c32 (by decide)
    · -- not taken at 11
      exact absurd ⟨j, hj9, rfl⟩ c11
set_option maxHeartbeats 4000000 in
set_option maxRecDepth 100000 in
theorem c_X5_get_nul2 (aS : Nat → Nat) (aE : Nat → Nat) (la : Int32) (aW : Nat → Nat) (n : Nat) (cl : Nat) (th : Nat → Nat) (ki : Nat → Nat) (va : Nat → Nat) (re : Nat → Nat) (fi : Nat → Nat) (aB : Nat → Nat) (bt : Nat → Nat) (bs : Nat) (aC : Nat → Nat) (to : Nat → Prop) (co : Nat → Nat) (ke : Nat → Int32) (nu : Nat → Int32) (fw : Nat → Nat) (aH : Nat → Nat) (lt : Nat → Option Nat) (tr : Nat → Nat) (sh : Nat → Nat) (cr : Nat → Nat) (ct : Nat → Nat) (cu : Nat → Nat) (ve : Nat → Nat) (ta : Nat → Nat) (ch : Nat) (aT : Nat → Nat) (lt2 : Nat → Option Nat) (tr2 : Nat → Nat) (sh2 : Nat → Nat) (cr2 : Nat → Nat) (ct2 : Nat → Nat) (cu2 : Nat → Nat) (ve2 : Nat → Nat) (ta2 : Nat → Nat) (ch2 : Nat) (lo : Nat → Prop) (fo : Nat → Nat) (si : Nat → Nat) (it : Nat → Nat → Int32) (j : Nat) (y : Int32) (J : IW n cl th ki va re fi) (S : SW n cl re fi) (B9 : (∀ j, bt j ≤ 255) ∧ bs ≤ 216) (C9 : (∀ j, co j ≤ 400) ∧ (∀ j, fw j ≤ 15)) (H9 : IHd lt tr sh cr ct cu ve ta ch) (U9 : IHd lt2 tr2 sh2 cr2 ct2 cu2 ve2 ta2 ch2) (E9 : (∀ j, fo j ≤ 2) ∧ (∀ j, si j ≤ 60)) (hj9 : j ≤ 2) (hf9 : lo 2) : CM l D (TY cI cZ cS) yX5_get cX5_get 5 (some .int) 1 [.ref (aS 0), .int (nI 2), .int (nI j), .int y] ((wS cS aS (aW 0) (aB 0) (aC 0) (aH 0) (aT 0) aE la) ++ ((wW cI aW n cl th ki va re fi) ++ ((wB cI aB bt bs) ++ ((wC cI cZ aC (aW 0) (aB 0) to co ke nu fw) ++ ((wH cI aH (aW 0) lt tr sh cr ct cu ve ta ch) ++ ((wH cI aT (aW 0) lt2 tr2 sh2 cr2 ct2 cu2 ve2 ta2 ch2) ++ (wE cI aE lo fo si it))))))) (some (.int (-2147483648))) ((wS cS aS (aW 0) (aB 0) (aC 0) (aH 0) (aT 0) aE (nI 1)) ++ ((wW cI aW n cl th ki va re fi) ++ ((wB cI aB bt bs) ++ ((wC cI cZ aC (aW 0) (aB 0) to co ke nu fw) ++ ((wH cI aH (aW 0) lt tr sh cr ct cu ve ta ch) ++ ((wH cI aT (aW 0) lt2 tr2 sh2 cr2 ct2 cu2 ve2 ta2 ch2) ++ (wE cI aE lo fo si it))))))) := by
  refine CM.ofI (by decide +kernel) (Nat.le_of_ble_eq_true rfl) (nar_int _) ?_
  intro p e s m args below meth c Q A G K hA w hret ls hl
  obtain ⟨hx, hb, hml, hown, hts⟩ := id G
  obtain ⟨hn, hcl, hth, hki, hva, hre, hfi⟩ := id J
  obtain ⟨hbt, hbs⟩ := id B9
  obtain ⟨hco, hfw⟩ := id C9
  obtain ⟨hlt, htr, hsh, hcr, hct, hcu, hve, hta, hch⟩ := id H9
  obtain ⟨hlt2, htr2, hsh2, hcr2, hct2, hcu2, hve2, hta2, hch2⟩ := id U9
  obtain ⟨hfo, hsi⟩ := id E9
  have hl : lv_has ls 5 [(0, .ref (aS 0)), (1, .int (nI 2)), (2, .int (nI j)), (3, .int y)] := hl
  refine lv_iload_n hx hb dX5_get_0 rfl (lv_at hl 1 rfl) ?_
  refine callPS (rest := []) G K F_X5_isSheet (c_X5_isSheet (nI 2)) (va_P_nil D s.heap) ml_X5_121 (by decide) (by decide) rfl hl.1 (Nat.le_of_ble_eq_true rfl) dX5_get_1 ?_
  refine b_eq G (tgt := 14) dX5_get_4 (by decide) (fun c4 => ?_) (fun c4 => ?_)
  · -- taken at 4
    exact absurd ⟨2, by decide, rfl⟩ c4
  · -- not taken at 4
    refine lv_iload_n hx hb dX5_get_7 rfl (lv_at hl 2 rfl) ?_
    refine callPS (rest := []) G K F_X5_isForm (c_X5_isForm (nI j)) (va_P_nil D s.heap) ml_X5_235 (by decide) (by decide) rfl hl.1 (Nat.le_of_ble_eq_true rfl) dX5_get_8 ?_
    refine b_ne G (tgt := 17) dX5_get_11 (by decide) (fun c11 => ?_) (fun c11 => ?_)
    · -- taken at 11
      refine lv_aload_n hx hb dX5_get_17 rfl (lv_at hl 0 rfl) ?_
      refine f_get G K w.1 inX5 0 (ci := 5) rfl rfl 5 rfl fl_X5_46 (v := .ref (aS 1)) rfl dX5_get_18 ?_
      refine lv_iload_n hx hb dX5_get_21 rfl (lv_at hl 1 rfl) ?_
      refine a_ldR G K w.1 1 2 (a := (aS 1)) rfl rfl (by omega) (by decide) dX5_get_22 ?_
      refine lv_iload_n hx hb dX5_get_23 rfl (lv_at hl 2 rfl) ?_
      refine lv_iload_n hx hb dX5_get_24 rfl (lv_at hl 3 rfl) ?_
      refine callPV (As := [.int (nI j), .int y]) (rest := []) (q0 := 0) (ci := 3) G K F_X3_findingAt (c_X3_findingAt (aE 2) (aE 6) (lo 2) (fo 2) (si 2) (it 2) j y ⟨hfo 2, hsi 2⟩ (by omega)) (w.1.sub (ws' := (wT cI (aE 2) (aE 6) (lo 2) (fo 2) (si 2) (it 2))) [36, 40] rfl) ml_X5_241 rfl rfl rfl (by decide) (by decide) rfl hl.1 (Nat.le_of_ble_eq_true rfl) dX5_get_25 ?_
      refine t_i (y := (nI 1)) (congrArg nI (by unfold fdA; rw [cif_t hf9])) ?_
      refine lv_istore (lv' := [(4, .int (nI 1)), (0, .ref (aS 0)), (1, .int (nI 2)), (2, .int (nI j)), (3, .int y)]) hx hb dX5_get_28 hl (by decide) rfl (fun ls hl => ?_)
      refine lv_iload hx hb dX5_get_30 (lv_at hl 0 rfl) ?_
      refine z_eq G (tgt := 45) (by omega) dX5_get_32 (by decide) (fun c32 => ?_) (fun c32 => ?_)
      · -- taken at 32
        exact absurd c32 (by decide)
      · -- not taken at 32
        refine lv_aload_n hx hb dX5_get_35 rfl (lv_at hl 1 rfl) ?_
        refine lv_iload hx hb dX5_get_36 (lv_at hl 0 rfl) ?_
        refine callMF (As := [.int (nI 1)]) (rest := []) (q0 := 0) (ci := 5) (ws' := ((wS cS aS (aW 0) (aB 0) (aC 0) (aH 0) (aT 0) aE (nI 1)) ++ ((wW cI aW n cl th ki va re fi) ++ ((wB cI aB bt bs) ++ ((wC cI cZ aC (aW 0) (aB 0) to co ke nu fw) ++ ((wH cI aH (aW 0) lt tr sh cr ct cu ve ta ch) ++ ((wH cI aT (aW 0) lt2 tr2 sh2 cr2 ct2 cu2 ve2 ta2 ch2) ++ (wE cI aE lo fo si it)))))))) G K hA w F_X5_find (c_X5_find aS aE la aW n cl th ki va re fi aB bt bs aC to co ke nu fw aH lt tr sh cr ct cu ve ta ch aT lt2 tr2 sh2 cr2 ct2 cu2 ve2 ta2 ch2 lo fo si it 1 J S B9 C9 H9 U9 E9) ml_X5_128 rfl rfl rfl (by decide) (by decide) rfl hl.1 (Nat.le_of_ble_eq_true rfl) dX5_get_38 (fun Hp1 lo2 w => ?_)
        refine lv_pop hx hb dX5_get_41 rfl ?_
        refine lv_ldc hx hb hown (hts _ kc_X5_181) dX5_get_42 ?_
        exact hret _ _ _ _ _ _ rfl rfl w dX5_get_44
    · -- not taken at 11
      exact absurd ⟨j, hj9, rfl⟩ c11
set_option maxHeartbeats 4000000 in
set_option maxRecDepth 100000 in
theorem c_X5_get_cast2 (aS : Nat → Nat) (aE : Nat → Nat) (la : Int32) (aW : Nat → Nat) (n : Nat) (cl : Nat) (th : Nat → Nat) (ki : Nat → Nat) (va : Nat → Nat) (re : Nat → Nat) (fi : Nat → Nat) (aB : Nat → Nat) (bt : Nat → Nat) (bs : Nat) (aC : Nat → Nat) (to : Nat → Prop) (co : Nat → Nat) (ke : Nat → Int32) (nu : Nat → Int32) (fw : Nat → Nat) (aH : Nat → Nat) (lt : Nat → Option Nat) (tr : Nat → Nat) (sh : Nat → Nat) (cr : Nat → Nat) (ct : Nat → Nat) (cu : Nat → Nat) (ve : Nat → Nat) (ta : Nat → Nat) (ch : Nat) (aT : Nat → Nat) (lt2 : Nat → Option Nat) (tr2 : Nat → Nat) (sh2 : Nat → Nat) (cr2 : Nat → Nat) (ct2 : Nat → Nat) (cu2 : Nat → Nat) (ve2 : Nat → Nat) (ta2 : Nat → Nat) (ch2 : Nat) (lo : Nat → Prop) (fo : Nat → Nat) (si : Nat → Nat) (it : Nat → Nat → Int32) (j : Nat) (y : Int32) (J : IW n cl th ki va re fi) (S : SW n cl re fi) (B9 : (∀ j, bt j ≤ 255) ∧ bs ≤ 216) (C9 : (∀ j, co j ≤ 400) ∧ (∀ j, fw j ≤ 15)) (H9 : IHd lt tr sh cr ct cu ve ta ch) (U9 : IHd lt2 tr2 sh2 cr2 ct2 cu2 ve2 ta2 ch2) (E9 : (∀ j, fo j ≤ 2) ∧ (∀ j, si j ≤ 60)) (hj9 : j ≤ 2) (hf9 : ¬ lo 2) (hc9 : fo 2 ≠ j) : CM l D (TY cI cZ cS) yX5_get cX5_get 5 (some .int) 1 [.ref (aS 0), .int (nI 2), .int (nI j), .int y] ((wS cS aS (aW 0) (aB 0) (aC 0) (aH 0) (aT 0) aE la) ++ ((wW cI aW n cl th ki va re fi) ++ ((wB cI aB bt bs) ++ ((wC cI cZ aC (aW 0) (aB 0) to co ke nu fw) ++ ((wH cI aH (aW 0) lt tr sh cr ct cu ve ta ch) ++ ((wH cI aT (aW 0) lt2 tr2 sh2 cr2 ct2 cu2 ve2 ta2 ch2) ++ (wE cI aE lo fo si it))))))) (some (.int (-2147483648))) ((wS cS aS (aW 0) (aB 0) (aC 0) (aH 0) (aT 0) aE (nI 3)) ++ ((wW cI aW n cl th ki va re fi) ++ ((wB cI aB bt bs) ++ ((wC cI cZ aC (aW 0) (aB 0) to co ke nu fw) ++ ((wH cI aH (aW 0) lt tr sh cr ct cu ve ta ch) ++ ((wH cI aT (aW 0) lt2 tr2 sh2 cr2 ct2 cu2 ve2 ta2 ch2) ++ (wE cI aE lo fo si it))))))) := by
  refine CM.ofI (by decide +kernel) (Nat.le_of_ble_eq_true rfl) (nar_int _) ?_
  intro p e s m args below meth c Q A G K hA w hret ls hl
  obtain ⟨hx, hb, hml, hown, hts⟩ := id G
  obtain ⟨hn, hcl, hth, hki, hva, hre, hfi⟩ := id J
  obtain ⟨hbt, hbs⟩ := id B9
  obtain ⟨hco, hfw⟩ := id C9
  obtain ⟨hlt, htr, hsh, hcr, hct, hcu, hve, hta, hch⟩ := id H9
  obtain ⟨hlt2, htr2, hsh2, hcr2, hct2, hcu2, hve2, hta2, hch2⟩ := id U9
  obtain ⟨hfo, hsi⟩ := id E9
  have hl : lv_has ls 5 [(0, .ref (aS 0)), (1, .int (nI 2)), (2, .int (nI j)), (3, .int y)] := hl
  refine lv_iload_n hx hb dX5_get_0 rfl (lv_at hl 1 rfl) ?_
  refine callPS (rest := []) G K F_X5_isSheet (c_X5_isSheet (nI 2)) (va_P_nil D s.heap) ml_X5_121 (by decide) (by decide) rfl hl.1 (Nat.le_of_ble_eq_true rfl) dX5_get_1 ?_
  refine b_eq G (tgt := 14) dX5_get_4 (by decide) (fun c4 => ?_) (fun c4 => ?_)
  · -- taken at 4
    exact absurd ⟨2, by decide, rfl⟩ c4
  · -- not taken at 4
    refine lv_iload_n hx hb dX5_get_7 rfl (lv_at hl 2 rfl) ?_
    refine callPS (rest := []) G K F_X5_isForm (c_X5_isForm (nI j)) (va_P_nil D s.heap) ml_X5_235 (by decide) (by decide) rfl hl.1 (Nat.le_of_ble_eq_true rfl) dX5_get_8 ?_
    refine b_ne G (tgt := 17) dX5_get_11 (by decide) (fun c11 => ?_) (fun c11 => ?_)
    · -- taken at 11
      refine lv_aload_n hx hb dX5_get_17 rfl (lv_at hl 0 rfl) ?_
      refine f_get G K w.1 inX5 0 (ci := 5) rfl rfl 5 rfl fl_X5_46 (v := .ref (aS 1)) rfl dX5_get_18 ?_
      refine lv_iload_n hx hb dX5_get_21 rfl (lv_at hl 1 rfl) ?_
      refine a_ldR G K w.1 1 2 (a := (aS 1)) rfl rfl (by omega) (by decide) dX5_get_22 ?_
      refine lv_iload_n hx hb dX5_get_23 rfl (lv_at hl 2 rfl) ?_
      refine lv_iload_n hx hb dX5_get_24 rfl (lv_at hl 3 rfl) ?_
      refine callPV (As := [.int (nI j), .int y]) (rest := []) (q0 := 0) (ci := 3) G K F_X3_findingAt (c_X3_findingAt (aE 2) (aE 6) (lo 2) (fo 2) (si 2) (it 2) j y ⟨hfo 2, hsi 2⟩ (by omega)) (w.1.sub (ws' := (wT cI (aE 2) (aE 6) (lo 2) (fo 2) (si 2) (it 2))) [36, 40] rfl) ml_X5_241 rfl rfl rfl (by decide) (by decide) rfl hl.1 (Nat.le_of_ble_eq_true rfl) dX5_get_25 ?_
      refine t_i (y := (nI 3)) (congrArg nI (by unfold fdA; rw [cif_f hf9, cif_f hc9])) ?_
      refine lv_istore (lv' := [(4, .int (nI 3)), (0, .ref (aS 0)), (1, .int (nI 2)), (2, .int (nI j)), (3, .int y)]) hx hb dX5_get_28 hl (by decide) rfl (fun ls hl => ?_)
      refine lv_iload hx hb dX5_get_30 (lv_at hl 0 rfl) ?_
      refine z_eq G (tgt := 45) (by omega) dX5_get_32 (by decide) (fun c32 => ?_) (fun c32 => ?_)
      · -- taken at 32
        exact absurd c32 (by decide)
      · -- not taken at 32
        refine lv_aload_n hx hb dX5_get_35 rfl (lv_at hl 1 rfl) ?_
        refine lv_iload hx hb dX5_get_36 (lv_at hl 0 rfl) ?_
        refine callMF (As := [.int (nI 3)]) (rest := []) (q0 := 0) (ci := 5) (ws' := ((wS cS aS (aW 0) (aB 0) (aC 0) (aH 0) (aT 0) aE (nI 3)) ++ ((wW cI aW n cl th ki va re fi) ++ ((wB cI aB bt bs) ++ ((wC cI cZ aC (aW 0) (aB 0) to co ke nu fw) ++ ((wH cI aH (aW 0) lt tr sh cr ct cu ve ta ch) ++ ((wH cI aT (aW 0) lt2 tr2 sh2 cr2 ct2 cu2 ve2 ta2 ch2) ++ (wE cI aE lo fo si it)))))))) G K hA w F_X5_find (c_X5_find aS aE la aW n cl th ki va re fi aB bt bs aC to co ke nu fw aH lt tr sh cr ct cu ve ta ch aT lt2 tr2 sh2 cr2 ct2 cu2 ve2 ta2 ch2 lo fo si it 3 J S B9 C9 H9 U9 E9) ml_X5_128 rfl rfl rfl (by decide) (by decide) rfl hl.1 (Nat.le_of_ble_eq_true rfl) dX5_get_38 (fun Hp1 lo2 w => ?_)
        refine lv_pop hx hb dX5_get_41 rfl ?_
        refine lv_ldc hx hb hown (hts _ kc_X5_181) dX5_get_42 ?_
        exact hret _ _ _ _ _ _ rfl rfl w dX5_get_44
    · -- not taken at 11
      exact absurd ⟨j, hj9, rfl⟩ c11
set_option maxHeartbeats 4000000 in
set_option maxRecDepth 100000 in
theorem c_X5_get_idx2 (aS : Nat → Nat) (aE : Nat → Nat) (la : Int32) (aW : Nat → Nat) (n : Nat) (cl : Nat) (th : Nat → Nat) (ki : Nat → Nat) (va : Nat → Nat) (re : Nat → Nat) (fi : Nat → Nat) (aB : Nat → Nat) (bt : Nat → Nat) (bs : Nat) (aC : Nat → Nat) (to : Nat → Prop) (co : Nat → Nat) (ke : Nat → Int32) (nu : Nat → Int32) (fw : Nat → Nat) (aH : Nat → Nat) (lt : Nat → Option Nat) (tr : Nat → Nat) (sh : Nat → Nat) (cr : Nat → Nat) (ct : Nat → Nat) (cu : Nat → Nat) (ve : Nat → Nat) (ta : Nat → Nat) (ch : Nat) (aT : Nat → Nat) (lt2 : Nat → Option Nat) (tr2 : Nat → Nat) (sh2 : Nat → Nat) (cr2 : Nat → Nat) (ct2 : Nat → Nat) (cu2 : Nat → Nat) (ve2 : Nat → Nat) (ta2 : Nat → Nat) (ch2 : Nat) (lo : Nat → Prop) (fo : Nat → Nat) (si : Nat → Nat) (it : Nat → Nat → Int32) (j : Nat) (y : Int32) (J : IW n cl th ki va re fi) (S : SW n cl re fi) (B9 : (∀ j, bt j ≤ 255) ∧ bs ≤ 216) (C9 : (∀ j, co j ≤ 400) ∧ (∀ j, fw j ≤ 15)) (H9 : IHd lt tr sh cr ct cu ve ta ch) (U9 : IHd lt2 tr2 sh2 cr2 ct2 cu2 ve2 ta2 ch2) (E9 : (∀ j, fo j ≤ 2) ∧ (∀ j, si j ≤ 60)) (hj9 : j ≤ 2) (hf9 : ¬ lo 2) (hc9 : fo 2 = j) (hx9 : ¬ okW (si 2) y) : CM l D (TY cI cZ cS) yX5_get cX5_get 5 (some .int) 1 [.ref (aS 0), .int (nI 2), .int (nI j), .int y] ((wS cS aS (aW 0) (aB 0) (aC 0) (aH 0) (aT 0) aE la) ++ ((wW cI aW n cl th ki va re fi) ++ ((wB cI aB bt bs) ++ ((wC cI cZ aC (aW 0) (aB 0) to co ke nu fw) ++ ((wH cI aH (aW 0) lt tr sh cr ct cu ve ta ch) ++ ((wH cI aT (aW 0) lt2 tr2 sh2 cr2 ct2 cu2 ve2 ta2 ch2) ++ (wE cI aE lo fo si it))))))) (some (.int (-2147483648))) ((wS cS aS (aW 0) (aB 0) (aC 0) (aH 0) (aT 0) aE (nI 2)) ++ ((wW cI aW n cl th ki va re fi) ++ ((wB cI aB bt bs) ++ ((wC cI cZ aC (aW 0) (aB 0) to co ke nu fw) ++ ((wH cI aH (aW 0) lt tr sh cr ct cu ve ta ch) ++ ((wH cI aT (aW 0) lt2 tr2 sh2 cr2 ct2 cu2 ve2 ta2 ch2) ++ (wE cI aE lo fo si it))))))) := by
  refine CM.ofI (by decide +kernel) (Nat.le_of_ble_eq_true rfl) (nar_int _) ?_
  intro p e s m args below meth c Q A G K hA w hret ls hl
  obtain ⟨hx, hb, hml, hown, hts⟩ := id G
  obtain ⟨hn, hcl, hth, hki, hva, hre, hfi⟩ := id J
  obtain ⟨hbt, hbs⟩ := id B9
  obtain ⟨hco, hfw⟩ := id C9
  obtain ⟨hlt, htr, hsh, hcr, hct, hcu, hve, hta, hch⟩ := id H9
  obtain ⟨hlt2, htr2, hsh2, hcr2, hct2, hcu2, hve2, hta2, hch2⟩ := id U9
  obtain ⟨hfo, hsi⟩ := id E9
  have hl : lv_has ls 5 [(0, .ref (aS 0)), (1, .int (nI 2)), (2, .int (nI j)), (3, .int y)] := hl
  refine lv_iload_n hx hb dX5_get_0 rfl (lv_at hl 1 rfl) ?_
  refine callPS (rest := []) G K F_X5_isSheet (c_X5_isSheet (nI 2)) (va_P_nil D s.heap) ml_X5_121 (by decide) (by decide) rfl hl.1 (Nat.le_of_ble_eq_true rfl) dX5_get_1 ?_
  refine b_eq G (tgt := 14) dX5_get_4 (by decide) (fun c4 => ?_) (fun c4 => ?_)
  · -- taken at 4
    exact absurd ⟨2, by decide, rfl⟩ c4
  · -- not taken at 4
    refine lv_iload_n hx hb dX5_get_7 rfl (lv_at hl 2 rfl) ?_
    refine callPS (rest := []) G K F_X5_isForm (c_X5_isForm (nI j)) (va_P_nil D s.heap) ml_X5_235 (by decide) (by decide) rfl hl.1 (Nat.le_of_ble_eq_true rfl) dX5_get_8 ?_
    refine b_ne G (tgt := 17) dX5_get_11 (by decide) (fun c11 => ?_) (fun c11 => ?_)
    · -- taken at 11
      refine lv_aload_n hx hb dX5_get_17 rfl (lv_at hl 0 rfl) ?_
      refine f_get G K w.1 inX5 0 (ci := 5) rfl rfl 5 rfl fl_X5_46 (v := .ref (aS 1)) rfl dX5_get_18 ?_
      refine lv_iload_n hx hb dX5_get_21 rfl (lv_at hl 1 rfl) ?_
      refine a_ldR G K w.1 1 2 (a := (aS 1)) rfl rfl (by omega) (by decide) dX5_get_22 ?_
      refine lv_iload_n hx hb dX5_get_23 rfl (lv_at hl 2 rfl) ?_
      refine lv_iload_n hx hb dX5_get_24 rfl (lv_at hl 3 rfl) ?_
      refine callPV (As := [.int (nI j), .int y]) (rest := []) (q0 := 0) (ci := 3) G K F_X3_findingAt (c_X3_findingAt (aE 2) (aE 6) (lo 2) (fo 2) (si 2) (it 2) j y ⟨hfo 2, hsi 2⟩ (by omega)) (w.1.sub (ws' := (wT cI (aE 2) (aE 6) (lo 2) (fo 2) (si 2) (it 2))) [36, 40] rfl) ml_X5_241 rfl rfl rfl (by decide) (by decide) rfl hl.1 (Nat.le_of_ble_eq_true rfl) dX5_get_25 ?_
      refine t_i (y := (nI 2)) (congrArg nI (by unfold fdA; rw [cif_f hf9, cif_t hc9, cif_f hx9])) ?_
      refine lv_istore (lv' := [(4, .int (nI 2)), (0, .ref (aS 0)), (1, .int (nI 2)), (2, .int (nI j)), (3, .int y)]) hx hb dX5_get_28 hl (by decide) rfl (fun ls hl => ?_)
      refine lv_iload hx hb dX5_get_30 (lv_at hl 0 rfl) ?_
      refine z_eq G (tgt := 45) (by omega) dX5_get_32 (by decide) (fun c32 => ?_) (fun c32 => ?_)
      · -- taken at 32
        exact absurd c32 (by decide)
      · -- not taken at 32
        refine lv_aload_n hx hb dX5_get_35 rfl (lv_at hl 1 rfl) ?_
        refine lv_iload hx hb dX5_get_36 (lv_at hl 0 rfl) ?_
        refine callMF (As := [.int (nI 2)]) (rest := []) (q0 := 0) (ci := 5) (ws' := ((wS cS aS (aW 0) (aB 0) (aC 0) (aH 0) (aT 0) aE (nI 2)) ++ ((wW cI aW n cl th ki va re fi) ++ ((wB cI aB bt bs) ++ ((wC cI cZ aC (aW 0) (aB 0) to co ke nu fw) ++ ((wH cI aH (aW 0) lt tr sh cr ct cu ve ta ch) ++ ((wH cI aT (aW 0) lt2 tr2 sh2 cr2 ct2 cu2 ve2 ta2 ch2) ++ (wE cI aE lo fo si it)))))))) G K hA w F_X5_find (c_X5_find aS aE la aW n cl th ki va re fi aB bt bs aC to co ke nu fw aH lt tr sh cr ct cu ve ta ch aT lt2 tr2 sh2 cr2 ct2 cu2 ve2 ta2 ch2 lo fo si it 2 J S B9 C9 H9 U9 E9) ml_X5_128 rfl rfl rfl (by decide) (by decide) rfl hl.1 (Nat.le_of_ble_eq_true rfl) dX5_get_38 (fun Hp1 lo2 w => ?_)
        refine lv_pop hx hb dX5_get_41 rfl ?_
        refine lv_ldc hx hb hown (hts _ kc_X5_181) dX5_get_42 ?_
        exact hret _ _ _ _ _ _ rfl rfl w dX5_get_44
    · -- not taken at 11
      exact absurd ⟨j, hj9, rfl⟩ c11
set_option maxHeartbeats 4000000 in
set_option maxRecDepth 100000 in
theorem c_X5_get_ok2 (aS : Nat → Nat) (aE : Nat → Nat) (la : Int32) (aW : Nat → Nat) (n : Nat) (cl : Nat) (th : Nat → Nat) (ki : Nat → Nat) (va : Nat → Nat) (re : Nat → Nat) (fi : Nat → Nat) (aB : Nat → Nat) (bt : Nat → Nat) (bs : Nat) (aC : Nat → Nat) (to : Nat → Prop) (co : Nat → Nat) (ke : Nat → Int32) (nu : Nat → Int32) (fw : Nat → Nat) (aH : Nat → Nat) (lt : Nat → Option Nat) (tr : Nat → Nat) (sh : Nat → Nat) (cr : Nat → Nat) (ct : Nat → Nat) (cu : Nat → Nat) (ve : Nat → Nat) (ta : Nat → Nat) (ch : Nat) (aT : Nat → Nat) (lt2 : Nat → Option Nat) (tr2 : Nat → Nat) (sh2 : Nat → Nat) (cr2 : Nat → Nat) (ct2 : Nat → Nat) (cu2 : Nat → Nat) (ve2 : Nat → Nat) (ta2 : Nat → Nat) (ch2 : Nat) (lo : Nat → Prop) (fo : Nat → Nat) (si : Nat → Nat) (it : Nat → Nat → Int32) (j : Nat) (k : Nat) (J : IW n cl th ki va re fi) (S : SW n cl re fi) (B9 : (∀ j, bt j ≤ 255) ∧ bs ≤ 216) (C9 : (∀ j, co j ≤ 400) ∧ (∀ j, fw j ≤ 15)) (H9 : IHd lt tr sh cr ct cu ve ta ch) (U9 : IHd lt2 tr2 sh2 cr2 ct2 cu2 ve2 ta2 ch2) (E9 : (∀ j, fo j ≤ 2) ∧ (∀ j, si j ≤ 60)) (hj9 : j ≤ 2) (hf9 : ¬ lo 2) (hc9 : fo 2 = j) (hx9 : k < si 2) : CM l D (TY cI cZ cS) yX5_get cX5_get 5 (some .int) 1 [.ref (aS 0), .int (nI 2), .int (nI j), .int (nI k)] ((wS cS aS (aW 0) (aB 0) (aC 0) (aH 0) (aT 0) aE la) ++ ((wW cI aW n cl th ki va re fi) ++ ((wB cI aB bt bs) ++ ((wC cI cZ aC (aW 0) (aB 0) to co ke nu fw) ++ ((wH cI aH (aW 0) lt tr sh cr ct cu ve ta ch) ++ ((wH cI aT (aW 0) lt2 tr2 sh2 cr2 ct2 cu2 ve2 ta2 ch2) ++ (wE cI aE lo fo si it))))))) (some (.int (it 2 k))) ((wS cS aS (aW 0) (aB 0) (aC 0) (aH 0) (aT 0) aE la) ++ ((wW cI aW n cl th ki va re fi) ++ ((wB cI aB bt bs) ++ ((wC cI cZ aC (aW 0) (aB 0) to co ke nu fw) ++ ((wH cI aH (aW 0) lt tr sh cr ct cu ve ta ch) ++ ((wH cI aT (aW 0) lt2 tr2 sh2 cr2 ct2 cu2 ve2 ta2 ch2) ++ (wE cI aE lo fo si it))))))) := by
  refine CM.ofI (by decide +kernel) (Nat.le_of_ble_eq_true rfl) (nar_int _) ?_
  intro p e s m args below meth c Q A G K hA w hret ls hl
  obtain ⟨hx, hb, hml, hown, hts⟩ := id G
  obtain ⟨hn, hcl, hth, hki, hva, hre, hfi⟩ := id J
  obtain ⟨hbt, hbs⟩ := id B9
  obtain ⟨hco, hfw⟩ := id C9
  obtain ⟨hlt, htr, hsh, hcr, hct, hcu, hve, hta, hch⟩ := id H9
  obtain ⟨hlt2, htr2, hsh2, hcr2, hct2, hcu2, hve2, hta2, hch2⟩ := id U9
  obtain ⟨hfo, hsi⟩ := id E9
  have hs9 := hsi 2
  have hl : lv_has ls 5 [(0, .ref (aS 0)), (1, .int (nI 2)), (2, .int (nI j)), (3, .int (nI k))] := hl
  refine lv_iload_n hx hb dX5_get_0 rfl (lv_at hl 1 rfl) ?_
  refine callPS (rest := []) G K F_X5_isSheet (c_X5_isSheet (nI 2)) (va_P_nil D s.heap) ml_X5_121 (by decide) (by decide) rfl hl.1 (Nat.le_of_ble_eq_true rfl) dX5_get_1 ?_
  refine b_eq G (tgt := 14) dX5_get_4 (by decide) (fun c4 => ?_) (fun c4 => ?_)
  · -- taken at 4
    exact absurd ⟨2, by decide, rfl⟩ c4
  · -- not taken at 4
    refine lv_iload_n hx hb dX5_get_7 rfl (lv_at hl 2 rfl) ?_
    refine callPS (rest := []) G K F_X5_isForm (c_X5_isForm (nI j)) (va_P_nil D s.heap) ml_X5_235 (by decide) (by decide) rfl hl.1 (Nat.le_of_ble_eq_true rfl) dX5_get_8 ?_
    refine b_ne G (tgt := 17) dX5_get_11 (by decide) (fun c11 => ?_) (fun c11 => ?_)
    · -- taken at 11
      refine lv_aload_n hx hb dX5_get_17 rfl (lv_at hl 0 rfl) ?_
      refine f_get G K w.1 inX5 0 (ci := 5) rfl rfl 5 rfl fl_X5_46 (v := .ref (aS 1)) rfl dX5_get_18 ?_
      refine lv_iload_n hx hb dX5_get_21 rfl (lv_at hl 1 rfl) ?_
      refine a_ldR G K w.1 1 2 (a := (aS 1)) rfl rfl (by omega) (by decide) dX5_get_22 ?_
      refine lv_iload_n hx hb dX5_get_23 rfl (lv_at hl 2 rfl) ?_
      refine lv_iload_n hx hb dX5_get_24 rfl (lv_at hl 3 rfl) ?_
      refine callPV (As := [.int (nI j), .int (nI k)]) (rest := []) (q0 := 0) (ci := 3) G K F_X3_findingAt (c_X3_findingAt (aE 2) (aE 6) (lo 2) (fo 2) (si 2) (it 2) j (nI k) ⟨hfo 2, hsi 2⟩ (by omega)) (w.1.sub (ws' := (wT cI (aE 2) (aE 6) (lo 2) (fo 2) (si 2) (it 2))) [36, 40] rfl) ml_X5_241 rfl rfl rfl (by decide) (by decide) rfl hl.1 (Nat.le_of_ble_eq_true rfl) dX5_get_25 ?_
      refine t_i (y := (nI 0)) (congrArg nI (by unfold fdA; rw [cif_f hf9, cif_t hc9, cif_t ⟨k, hx9, rfl⟩])) ?_
      refine lv_istore (lv' := [(4, .int (nI 0)), (0, .ref (aS 0)), (1, .int (nI 2)), (2, .int (nI j)), (3, .int (nI k))]) hx hb dX5_get_28 hl (by decide) rfl (fun ls hl => ?_)
      refine lv_iload hx hb dX5_get_30 (lv_at hl 0 rfl) ?_
      refine z_eq G (tgt := 45) (by omega) dX5_get_32 (by decide) (fun c32 => ?_) (fun c32 => ?_)
      · -- taken at 32
        refine lv_aload_n hx hb dX5_get_45 rfl (lv_at hl 1 rfl) ?_
        refine f_get G K w.1 inX5 0 (ci := 5) rfl rfl 5 rfl fl_X5_46 (v := .ref (aS 1)) rfl dX5_get_46 ?_
        refine lv_iload_n hx hb dX5_get_49 rfl (lv_at hl 2 rfl) ?_
        refine a_ldR G K w.1 1 2 (a := (aS 1)) rfl rfl (by omega) (by decide) dX5_get_50 ?_
        refine f_get G K w.1 inX3 36 (ci := 3) rfl rfl 0 rfl fl_X5_132 (v := .ref (aE 6)) rfl dX5_get_51 ?_
        refine lv_iload_n hx hb dX5_get_54 rfl (lv_at hl 4 rfl) ?_
        refine a_ld G K w.1 40 0 (a := (aE 6)) rfl rfl (by omega) (by decide) dX5_get_55 ?_
        exact hret _ _ _ _ _ _ rfl rfl w dX5_get_56
      · -- not taken at 32
        exact absurd c32 (by decide)
    · -- not taken at 11
      exact absurd ⟨j, hj9, rfl⟩ c11
set_option maxHeartbeats 4000000 in
set_option maxRecDepth 100000 in
theorem c_X5_get_nul3 (aS : Nat → Nat) (aE : Nat → Nat) (la : Int32) (aW : Nat → Nat) (n : Nat) (cl : Nat) (th : Nat → Nat) (ki : Nat → Nat) (va : Nat → Nat) (re : Nat → Nat) (fi : Nat → Nat) (aB : Nat → Nat) (bt : Nat → Nat) (bs : Nat) (aC : Nat → Nat) (to : Nat → Prop) (co : Nat → Nat) (ke : Nat → Int32) (nu : Nat → Int32) (fw : Nat → Nat) (aH : Nat → Nat) (lt : Nat → Option Nat) (tr : Nat → Nat) (sh : Nat → Nat) (cr : Nat → Nat) (ct : Nat → Nat) (cu : Nat → Nat) (ve : Nat → Nat) (ta : Nat → Nat) (ch : Nat) (aT : Nat → Nat) (lt2 : Nat → Option Nat) (tr2 : Nat → Nat) (sh2 : Nat → Nat) (cr2 : Nat → Nat) (ct2 : Nat → Nat) (cu2 : Nat → Nat) (ve2 : Nat → Nat) (ta2 : Nat → Nat) (ch2 : Nat) (lo : Nat → Prop) (fo : Nat → Nat) (si : Nat → Nat) (it : Nat → Nat → Int32) (j : Nat) (y : Int32) (J : IW n cl th ki va re fi) (S : SW n cl re fi) (B9 : (∀ j, bt j ≤ 255) ∧ bs ≤ 216) (C9 : (∀ j, co j ≤ 400) ∧ (∀ j, fw j ≤ 15)) (H9 : IHd lt tr sh cr ct cu ve ta ch) (U9 : IHd lt2 tr2 sh2 cr2 ct2 cu2 ve2 ta2 ch2) (E9 : (∀ j, fo j ≤ 2) ∧ (∀ j, si j ≤ 60)) (hj9 : j ≤ 2) (hf9 : lo 3) : CM l D (TY cI cZ cS) yX5_get cX5_get 5 (some .int) 1 [.ref (aS 0), .int (nI 3), .int (nI j), .int y] ((wS cS aS (aW 0) (aB 0) (aC 0) (aH 0) (aT 0) aE la) ++ ((wW cI aW n cl th ki va re fi) ++ ((wB cI aB bt bs) ++ ((wC cI cZ aC (aW 0) (aB 0) to co ke nu fw) ++ ((wH cI aH (aW 0) lt tr sh cr ct cu ve ta ch) ++ ((wH cI aT (aW 0) lt2 tr2 sh2 cr2 ct2 cu2 ve2 ta2 ch2) ++ (wE cI aE lo fo si it))))))) (some (.int (-2147483648))) ((wS cS aS (aW 0) (aB 0) (aC 0) (aH 0) (aT 0) aE (nI 1)) ++ ((wW cI aW n cl th ki va re fi) ++ ((wB cI aB bt bs) ++ ((wC cI cZ aC (aW 0) (aB 0) to co ke nu fw) ++ ((wH cI aH (aW 0) lt tr sh cr ct cu ve ta ch) ++ ((wH cI aT (aW 0) lt2 tr2 sh2 cr2 ct2 cu2 ve2 ta2 ch2) ++ (wE cI aE lo fo si it))))))) := by
  refine CM.ofI (by decide +kernel) (Nat.le_of_ble_eq_true rfl) (nar_int _) ?_
  intro p e s m args below meth c Q A G K hA w hret ls hl
  obtain ⟨hx, hb, hml, hown, hts⟩ := id G
  obtain ⟨hn, hcl, hth, hki, hva, hre, hfi⟩ := id J
  obtain ⟨hbt, hbs⟩ := id B9
  obtain ⟨hco, hfw⟩ := id C9
  obtain ⟨hlt, htr, hsh, hcr, hct, hcu, hve, hta, hch⟩ := id H9
  obtain ⟨hlt2, htr2, hsh2, hcr2, hct2, hcu2, hve2, hta2, hch2⟩ := id U9
  obtain ⟨hfo, hsi⟩ := id E9
  have hl : lv_has ls 5 [(0, .ref (aS 0)), (1, .int (nI 3)), (2, .int (nI j)), (3, .int y)] := hl
  refine lv_iload_n hx hb dX5_get_0 rfl (lv_at hl 1 rfl) ?_
  refine callPS (rest := []) G K F_X5_isSheet (c_X5_isSheet (nI 3)) (va_P_nil D s.heap) ml_X5_121 (by decide) (by decide) rfl hl.1 (Nat.le_of_ble_eq_true rfl) dX5_get_1 ?_
  refine b_eq G (tgt := 14) dX5_get_4 (by decide) (fun c4 => ?_) (fun c4 => ?_)
  · -- taken at 4
    exact absurd ⟨3, by decide, rfl⟩ c4
  · -- not taken at 4
    refine lv_iload_n hx hb dX5_get_7 rfl (lv_at hl 2 rfl) ?_
    refine callPS (rest := []) G K F_X5_isForm (c_X5_isForm (nI j)) (va_P_nil D s.heap) ml_X5_235 (by decide) (by decide) rfl hl.1 (Nat.le_of_ble_eq_true rfl) dX5_get_8 ?_
    refine b_ne G (tgt := 17) dX5_get_11 (by decide) (fun c11 => ?_) (fun c11 => ?_)
    · -- taken at 11
      refine lv_aload_n hx hb dX5_get_17 rfl (lv_at hl 0 rfl) ?_
      refine f_get G K w.1 inX5 0 (ci := 5) rfl rfl 5 rfl fl_X5_46 (v := .ref (aS 1)) rfl dX5_get_18 ?_
      refine lv_iload_n hx hb dX5_get_21 rfl (lv_at hl 1 rfl) ?_
      refine a_ldR G K w.1 1 2 (a := (aS 1)) rfl rfl (by omega) (by decide) dX5_get_22 ?_
      refine lv_iload_n hx hb dX5_get_23 rfl (lv_at hl 2 rfl) ?_
      refine lv_iload_n hx hb dX5_get_24 rfl (lv_at hl 3 rfl) ?_
      refine callPV (As := [.int (nI j), .int y]) (rest := []) (q0 := 0) (ci := 3) G K F_X3_findingAt (c_X3_findingAt (aE 3) (aE 7) (lo 3) (fo 3) (si 3) (it 3) j y ⟨hfo 3, hsi 3⟩ (by omega)) (w.1.sub (ws' := (wT cI (aE 3) (aE 7) (lo 3) (fo 3) (si 3) (it 3))) [37, 41] rfl) ml_X5_241 rfl rfl rfl (by decide) (by decide) rfl hl.1 (Nat.le_of_ble_eq_true rfl) dX5_get_25 ?_
      refine t_i (y := (nI 1)) (congrArg nI (by unfold fdA; rw [cif_t hf9])) ?_
      refine lv_istore (lv' := [(4, .int (nI 1)), (0, .ref (aS 0)), (1, .int (nI 3)), (2, .int (nI j)), (3, .int y)]) hx hb dX5_get_28 hl (by decide) rfl (fun ls hl => ?_)
      refine lv_iload hx hb dX5_get_30 (lv_at hl 0 rfl) ?_
      refine z_eq G (tgt := 45) (by omega) dX5_get_32 (by decide) (fun c32 => ?_) (fun c32 => ?_)
      · -- taken at 32
        exact absurd c32 (by decide)
      · -- not taken at 32
        refine lv_aload_n hx hb dX5_get_35 rfl (lv_at hl 1 rfl) ?_
        refine lv_iload hx hb dX5_get_36 (lv_at hl 0 rfl) ?_
        refine callMF (As := [.int (nI 1)]) (rest := []) (q0 := 0) (ci := 5) (ws' := ((wS cS aS (aW 0) (aB 0) (aC 0) (aH 0) (aT 0) aE (nI 1)) ++ ((wW cI aW n cl th ki va re fi) ++ ((wB cI aB bt bs) ++ ((wC cI cZ aC (aW 0) (aB 0) to co ke nu fw) ++ ((wH cI aH (aW 0) lt tr sh cr ct cu ve ta ch) ++ ((wH cI aT (aW 0) lt2 tr2 sh2 cr2 ct2 cu2 ve2 ta2 ch2) ++ (wE cI aE lo fo si it)))))))) G K hA w F_X5_find (c_X5_find aS aE la aW n cl th ki va re fi aB bt bs aC to co ke nu fw aH lt tr sh cr ct cu ve ta ch aT lt2 tr2 sh2 cr2 ct2 cu2 ve2 ta2 ch2 lo fo si it 1 J S B9 C9 H9 U9 E9) ml_X5_128 rfl rfl rfl (by decide) (by decide) rfl hl.1 (Nat.le_of_ble_eq_true rfl) dX5_get_38 (fun Hp1 lo2 w => ?_)
        refine lv_pop hx hb dX5_get_41 rfl ?_
        refine lv_ldc hx hb hown (hts _ kc_X5_181) dX5_get_42 ?_
        exact hret _ _ _ _ _ _ rfl rfl w dX5_get_44
    · -- not taken at 11
      exact absurd ⟨j, hj9, rfl⟩ c11
set_option maxHeartbeats 4000000 in
set_option maxRecDepth 100000 in
theorem c_X5_get_cast3 (aS : Nat → Nat) (aE : Nat → Nat) (la : Int32) (aW : Nat → Nat) (n : Nat) (cl : Nat) (th : Nat → Nat) (ki : Nat → Nat) (va : Nat → Nat) (re : Nat → Nat) (fi : Nat → Nat) (aB : Nat → Nat) (bt : Nat → Nat) (bs : Nat) (aC : Nat → Nat) (to : Nat → Prop) (co : Nat → Nat) (ke : Nat → Int32) (nu : Nat → Int32) (fw : Nat → Nat) (aH : Nat → Nat) (lt : Nat → Option Nat) (tr : Nat → Nat) (sh : Nat → Nat) (cr : Nat → Nat) (ct : Nat → Nat) (cu : Nat → Nat) (ve : Nat → Nat) (ta : Nat → Nat) (ch : Nat) (aT : Nat → Nat) (lt2 : Nat → Option Nat) (tr2 : Nat → Nat) (sh2 : Nat → Nat) (cr2 : Nat → Nat) (ct2 : Nat → Nat) (cu2 : Nat → Nat) (ve2 : Nat → Nat) (ta2 : Nat → Nat) (ch2 : Nat) (lo : Nat → Prop) (fo : Nat → Nat) (si : Nat → Nat) (it : Nat → Nat → Int32) (j : Nat) (y : Int32) (J : IW n cl th ki va re fi) (S : SW n cl re fi) (B9 : (∀ j, bt j ≤ 255) ∧ bs ≤ 216) (C9 : (∀ j, co j ≤ 400) ∧ (∀ j, fw j ≤ 15)) (H9 : IHd lt tr sh cr ct cu ve ta ch) (U9 : IHd lt2 tr2 sh2 cr2 ct2 cu2 ve2 ta2 ch2) (E9 : (∀ j, fo j ≤ 2) ∧ (∀ j, si j ≤ 60)) (hj9 : j ≤ 2) (hf9 : ¬ lo 3) (hc9 : fo 3 ≠ j) : CM l D (TY cI cZ cS) yX5_get cX5_get 5 (some .int) 1 [.ref (aS 0), .int (nI 3), .int (nI j), .int y] ((wS cS aS (aW 0) (aB 0) (aC 0) (aH 0) (aT 0) aE la) ++ ((wW cI aW n cl th ki va re fi) ++ ((wB cI aB bt bs) ++ ((wC cI cZ aC (aW 0) (aB 0) to co ke nu fw) ++ ((wH cI aH (aW 0) lt tr sh cr ct cu ve ta ch) ++ ((wH cI aT (aW 0) lt2 tr2 sh2 cr2 ct2 cu2 ve2 ta2 ch2) ++ (wE cI aE lo fo si it))))))) (some (.int (-2147483648))) ((wS cS aS (aW 0) (aB 0) (aC 0) (aH 0) (aT 0) aE (nI 3)) ++ ((wW cI aW n cl th ki va re fi) ++ ((wB cI aB bt bs) ++ ((wC cI cZ aC (aW 0) (aB 0) to co ke nu fw) ++ ((wH cI aH (aW 0) lt tr sh cr ct cu ve ta ch) ++ ((wH cI aT (aW 0) lt2 tr2 sh2 cr2 ct2 cu2 ve2 ta2 ch2) ++ (wE cI aE lo fo si it))))))) := by
  refine CM.ofI (by decide +kernel) (Nat.le_of_ble_eq_true rfl) (nar_int _) ?_
  intro p e s m args below meth c Q A G K hA w hret ls hl
  obtain ⟨hx, hb, hml, hown, hts⟩ := id G
  obtain ⟨hn, hcl, hth, hki, hva, hre, hfi⟩ := id J
  obtain ⟨hbt, hbs⟩ := id B9
  obtain ⟨hco, hfw⟩ := id C9
  obtain ⟨hlt, htr, hsh, hcr, hct, hcu, hve, hta, hch⟩ := id H9
  obtain ⟨hlt2, htr2, hsh2, hcr2, hct2, hcu2, hve2, hta2, hch2⟩ := id U9
  obtain ⟨hfo, hsi⟩ := id E9
  have hl : lv_has ls 5 [(0, .ref (aS 0)), (1, .int (nI 3)), (2, .int (nI j)), (3, .int y)] := hl
  refine lv_iload_n hx hb dX5_get_0 rfl (lv_at hl 1 rfl) ?_
  refine callPS (rest := []) G K F_X5_isSheet (c_X5_isSheet (nI 3)) (va_P_nil D s.heap) ml_X5_121 (by decide) (by decide) rfl hl.1 (Nat.le_of_ble_eq_true rfl) dX5_get_1 ?_
  refine b_eq G (tgt := 14) dX5_get_4 (by decide) (fun c4 => ?_) (fun c4 => ?_)
  · -- taken at 4
    exact absurd ⟨3, by decide, rfl⟩ c4
  · -- not taken at 4
    refine lv_iload_n hx hb dX5_get_7 rfl (lv_at hl 2 rfl) ?_
    refine callPS (rest := []) G K F_X5_isForm (c_X5_isForm (nI j)) (va_P_nil D s.heap) ml_X5_235 (by decide) (by decide) rfl hl.1 (Nat.le_of_ble_eq_true rfl) dX5_get_8 ?_
    refine b_ne G (tgt := 17) dX5_get_11 (by decide) (fun c11 => ?_) (fun c11 => ?_)
    · -- taken at 11
      refine lv_aload_n hx hb dX5_get_17 rfl (lv_at hl 0 rfl) ?_
      refine f_get G K w.1 inX5 0 (ci := 5) rfl rfl 5 rfl fl_X5_46 (v := .ref (aS 1)) rfl dX5_get_18 ?_
      refine lv_iload_n hx hb dX5_get_21 rfl (lv_at hl 1 rfl) ?_
      refine a_ldR G K w.1 1 2 (a := (aS 1)) rfl rfl (by omega) (by decide) dX5_get_22 ?_
      refine lv_iload_n hx hb dX5_get_23 rfl (lv_at hl 2 rfl) ?_
      refine lv_iload_n hx hb dX5_get_24 rfl (lv_at hl 3 rfl) ?_
      refine callPV (As := [.int (nI j), .int y]) (rest := []) (q0 := 0) (ci := 3) G K F_X3_findingAt (c_X3_findingAt (aE 3) (aE 7) (lo 3) (fo 3) (si 3) (it 3) j y ⟨hfo 3, hsi 3⟩ (by omega)) (w.1.sub (ws' := (wT cI (aE 3) (aE 7) (lo 3) (fo 3) (si 3) (it 3))) [37, 41] rfl) ml_X5_241 rfl rfl rfl (by decide) (by decide) rfl hl.1 (Nat.le_of_ble_eq_true rfl) dX5_get_25 ?_
      refine t_i (y := (nI 3)) (congrArg nI (by unfold fdA; rw [cif_f hf9, cif_f hc9])) ?_
      refine lv_istore (lv' := [(4, .int (nI 3)), (0, .ref (aS 0)), (1, .int (nI 3)), (2, .int (nI j)), (3, .int y)]) hx hb dX5_get_28 hl (by decide) rfl (fun ls hl => ?_)
      refine lv_iload hx hb dX5_get_30 (lv_at hl 0 rfl) ?_
      refine z_eq G (tgt := 45) (by omega) dX5_get_32 (by decide) (fun c32 => ?_) (fun c32 => ?_)
      · -- taken at 32
        exact absurd c32 (by decide)
      · -- not taken at 32
        refine lv_aload_n hx hb dX5_get_35 rfl (lv_at hl 1 rfl) ?_
        refine lv_iload hx hb dX5_get_36 (lv_at hl 0 rfl) ?_
        refine callMF (As := [.int (nI 3)]) (rest := []) (q0 := 0) (ci := 5) (ws' := ((wS cS aS (aW 0) (aB 0) (aC 0) (aH 0) (aT 0) aE (nI 3)) ++ ((wW cI aW n cl th ki va re fi) ++ ((wB cI aB bt bs) ++ ((wC cI cZ aC (aW 0) (aB 0) to co ke nu fw) ++ ((wH cI aH (aW 0) lt tr sh cr ct cu ve ta ch) ++ ((wH cI aT (aW 0) lt2 tr2 sh2 cr2 ct2 cu2 ve2 ta2 ch2) ++ (wE cI aE lo fo si it)))))))) G K hA w F_X5_find (c_X5_find aS aE la aW n cl th ki va re fi aB bt bs aC to co ke nu fw aH lt tr sh cr ct cu ve ta ch aT lt2 tr2 sh2 cr2 ct2 cu2 ve2 ta2 ch2 lo fo si it 3 J S B9 C9 H9 U9 E9) ml_X5_128 rfl rfl rfl (by decide) (by decide) rfl hl.1 (Nat.le_of_ble_eq_true rfl) dX5_get_38 (fun Hp1 lo2 w => ?_)
        refine lv_pop hx hb dX5_get_41 rfl ?_
        refine lv_ldc hx hb hown (hts _ kc_X5_181) dX5_get_42 ?_
        exact hret _ _ _ _ _ _ rfl rfl w dX5_get_44
    · -- not taken at 11
      exact absurd ⟨j, hj9, rfl⟩ c11
set_option maxHeartbeats 4000000 in
set_option maxRecDepth 100000 in
theorem c_X5_get_idx3 (aS : Nat → Nat) (aE : Nat → Nat) (la : Int32) (aW : Nat → Nat) (n : Nat) (cl : Nat) (th : Nat → Nat) (ki : Nat → Nat) (va : Nat → Nat) (re : Nat → Nat) (fi : Nat → Nat) (aB : Nat → Nat) (bt : Nat → Nat) (bs : Nat) (aC : Nat → Nat) (to : Nat → Prop) (co : Nat → Nat) (ke : Nat → Int32) (nu : Nat → Int32) (fw : Nat → Nat) (aH : Nat → Nat) (lt : Nat → Option Nat) (tr : Nat → Nat) (sh : Nat → Nat) (cr : Nat → Nat) (ct : Nat → Nat) (cu : Nat → Nat) (ve : Nat → Nat) (ta : Nat → Nat) (ch : Nat) (aT : Nat → Nat) (lt2 : Nat → Option Nat) (tr2 : Nat → Nat) (sh2 : Nat → Nat) (cr2 : Nat → Nat) (ct2 : Nat → Nat) (cu2 : Nat → Nat) (ve2 : Nat → Nat) (ta2 : Nat → Nat) (ch2 : Nat) (lo : Nat → Prop) (fo : Nat → Nat) (si : Nat → Nat) (it : Nat → Nat → Int32) (j : Nat) (y : Int32) (J : IW n cl th ki va re fi) (S : SW n cl re fi) (B9 : (∀ j, bt j ≤ 255) ∧ bs ≤ 216) (C9 : (∀ j, co j ≤ 400) ∧ (∀ j, fw j ≤ 15)) (H9 : IHd lt tr sh cr ct cu ve ta ch) (U9 : IHd lt2 tr2 sh2 cr2 ct2 cu2 ve2 ta2 ch2) (E9 : (∀ j, fo j ≤ 2) ∧ (∀ j, si j ≤ 60)) (hj9 : j ≤ 2) (hf9 : ¬ lo 3) (hc9 : fo 3 = j) (hx9 : ¬ okW (si 3) y) : CM l D (TY cI cZ cS) yX5_get cX5_get 5 (some .int) 1 [.ref (aS 0), .int (nI 3), .int (nI j), .int y] ((wS cS aS (aW 0) (aB 0) (aC 0) (aH 0) (aT 0) aE la) ++ ((wW cI aW n cl th ki va re fi) ++ ((wB cI aB bt bs) ++ ((wC cI cZ aC (aW 0) (aB 0) to co ke nu fw) ++ ((wH cI aH (aW 0) lt tr sh cr ct cu ve ta ch) ++ ((wH cI aT (aW 0) lt2 tr2 sh2 cr2 ct2 cu2 ve2 ta2 ch2) ++ (wE cI aE lo fo si it))))))) (some (.int (-2147483648))) ((wS cS aS (aW 0) (aB 0) (aC 0) (aH 0) (aT 0) aE (nI 2)) ++ ((wW cI aW n cl th ki va re fi) ++ ((wB cI aB bt bs) ++ ((wC cI cZ aC (aW 0) (aB 0) to co ke nu fw) ++ ((wH cI aH (aW 0) lt tr sh cr ct cu ve ta ch) ++ ((wH cI aT (aW 0) lt2 tr2 sh2 cr2 ct2 cu2 ve2 ta2 ch2) ++ (wE cI aE lo fo si it))))))) := by
  refine CM.ofI (by decide +kernel) (Nat.le_of_ble_eq_true rfl) (nar_int _) ?_
  intro p e s m args below meth c Q A G K hA w hret ls hl
  obtain ⟨hx, hb, hml, hown, hts⟩ := id G
  obtain ⟨hn, hcl, hth, hki, hva, hre, hfi⟩ := id J
  obtain ⟨hbt, hbs⟩ := id B9
  obtain ⟨hco, hfw⟩ := id C9
  obtain ⟨hlt, htr, hsh, hcr, hct, hcu, hve, hta, hch⟩ := id H9
  obtain ⟨hlt2, htr2, hsh2, hcr2, hct2, hcu2, hve2, hta2, hch2⟩ := id U9
  obtain ⟨hfo, hsi⟩ := id E9
  have hl : lv_has ls 5 [(0, .ref (aS 0)), (1, .int (nI 3)), (2, .int (nI j)), (3, .int y)] := hl
  refine lv_iload_n hx hb dX5_get_0 rfl (lv_at hl 1 rfl) ?_
  refine callPS (rest := []) G K F_X5_isSheet (c_X5_isSheet (nI 3)) (va_P_nil D s.heap) ml_X5_121 (by decide) (by decide) rfl hl.1 (Nat.le_of_ble_eq_true rfl) dX5_get_1 ?_
  refine b_eq G (tgt := 14) dX5_get_4 (by decide) (fun c4 => ?_) (fun c4 => ?_)
  · -- taken at 4
    exact absurd ⟨3, by decide, rfl⟩ c4
  · -- not taken at 4
    refine lv_iload_n hx hb dX5_get_7 rfl (lv_at hl 2 rfl) ?_
    refine callPS (rest := []) G K F_X5_isForm (c_X5_isForm (nI j)) (va_P_nil D s.heap) ml_X5_235 (by decide) (by decide) rfl hl.1 (Nat.le_of_ble_eq_true rfl) dX5_get_8 ?_
    refine b_ne G (tgt := 17) dX5_get_11 (by decide) (fun c11 => ?_) (fun c11 => ?_)
    · -- taken at 11
      refine lv_aload_n hx hb dX5_get_17 rfl (lv_at hl 0 rfl) ?_
      refine f_get G K w.1 inX5 0 (ci := 5) rfl rfl 5 rfl fl_X5_46 (v := .ref (aS 1)) rfl dX5_get_18 ?_
      refine lv_iload_n hx hb dX5_get_21 rfl (lv_at hl 1 rfl) ?_
      refine a_ldR G K w.1 1 2 (a := (aS 1)) rfl rfl (by omega) (by decide) dX5_get_22 ?_
      refine lv_iload_n hx hb dX5_get_23 rfl (lv_at hl 2 rfl) ?_
      refine lv_iload_n hx hb dX5_get_24 rfl (lv_at hl 3 rfl) ?_
      refine callPV (As := [.int (nI j), .int y]) (rest := []) (q0 := 0) (ci := 3) G K F_X3_findingAt (c_X3_findingAt (aE 3) (aE 7) (lo 3) (fo 3) (si 3) (it 3) j y ⟨hfo 3, hsi 3⟩ (by omega)) (w.1.sub (ws' := (wT cI (aE 3) (aE 7) (lo 3) (fo 3) (si 3) (it 3))) [37, 41] rfl) ml_X5_241 rfl rfl rfl (by decide) (by decide) rfl hl.1 (Nat.le_of_ble_eq_true rfl) dX5_get_25 ?_
      refine t_i (y := (nI 2)) (congrArg nI (by unfold fdA; rw [cif_f hf9, cif_t hc9, cif_f hx9])) ?_
      refine lv_istore (lv' := [(4, .int (nI 2)), (0, .ref (aS 0)), (1, .int (nI 3)), (2, .int (nI j)), (3, .int y)]) hx hb dX5_get_28 hl (by decide) rfl (fun ls hl => ?_)
      refine lv_iload hx hb dX5_get_30 (lv_at hl 0 rfl) ?_
      refine z_eq G (tgt := 45) (by omega) dX5_get_32 (by decide) (fun c32 => ?_) (fun c32 => ?_)
      · -- taken at 32
        exact absurd c32 (by decide)
      · -- not taken at 32
        refine lv_aload_n hx hb dX5_get_35 rfl (lv_at hl 1 rfl) ?_
        refine lv_iload hx hb dX5_get_36 (lv_at hl 0 rfl) ?_
        refine callMF (As := [.int (nI 2)]) (rest := []) (q0 := 0) (ci := 5) (ws' := ((wS cS aS (aW 0) (aB 0) (aC 0) (aH 0) (aT 0) aE (nI 2)) ++ ((wW cI aW n cl th ki va re fi) ++ ((wB cI aB bt bs) ++ ((wC cI cZ aC (aW 0) (aB 0) to co ke nu fw) ++ ((wH cI aH (aW 0) lt tr sh cr ct cu ve ta ch) ++ ((wH cI aT (aW 0) lt2 tr2 sh2 cr2 ct2 cu2 ve2 ta2 ch2) ++ (wE cI aE lo fo si it)))))))) G K hA w F_X5_find (c_X5_find aS aE la aW n cl th ki va re fi aB bt bs aC to co ke nu fw aH lt tr sh cr ct cu ve ta ch aT lt2 tr2 sh2 cr2 ct2 cu2 ve2 ta2 ch2 lo fo si it 2 J S B9 C9 H9 U9 E9) ml_X5_128 rfl rfl rfl (by decide) (by decide) rfl hl.1 (Nat.le_of_ble_eq_true rfl) dX5_get_38 (fun Hp1 lo2 w => ?_)
        refine lv_pop hx hb dX5_get_41 rfl ?_
        refine lv_ldc hx hb hown (hts _ kc_X5_181) dX5_get_42 ?_
        exact hret _ _ _ _ _ _ rfl rfl w dX5_get_44
    · -- not taken at 11
      exact absurd ⟨j, hj9, rfl⟩ c11
set_option maxHeartbeats 4000000 in
set_option maxRecDepth 100000 in
theorem c_X5_get_ok3 (aS : Nat → Nat) (aE : Nat → Nat) (la : Int32) (aW : Nat → Nat) (n : Nat) (cl : Nat) (th : Nat → Nat) (ki : Nat → Nat) (va : Nat → Nat) (re : Nat → Nat) (fi : Nat → Nat) (aB : Nat → Nat) (bt : Nat → Nat) (bs : Nat) (aC : Nat → Nat) (to : Nat → Prop) (co : Nat → Nat) (ke : Nat → Int32) (nu : Nat → Int32) (fw : Nat → Nat) (aH : Nat → Nat) (lt : Nat → Option Nat) (tr : Nat → Nat) (sh : Nat → Nat) (cr : Nat → Nat) (ct : Nat → Nat) (cu : Nat → Nat) (ve : Nat → Nat) (ta : Nat → Nat) (ch : Nat) (aT : Nat → Nat) (lt2 : Nat → Option Nat) (tr2 : Nat → Nat) (sh2 : Nat → Nat) (cr2 : Nat → Nat) (ct2 : Nat → Nat) (cu2 : Nat → Nat) (ve2 : Nat → Nat) (ta2 : Nat → Nat) (ch2 : Nat) (lo : Nat → Prop) (fo : Nat → Nat) (si : Nat → Nat) (it : Nat → Nat → Int32) (j : Nat) (k : Nat) (J : IW n cl th ki va re fi) (S : SW n cl re fi) (B9 : (∀ j, bt j ≤ 255) ∧ bs ≤ 216) (C9 : (∀ j, co j ≤ 400) ∧ (∀ j, fw j ≤ 15)) (H9 : IHd lt tr sh cr ct cu ve ta ch) (U9 : IHd lt2 tr2 sh2 cr2 ct2 cu2 ve2 ta2 ch2) (E9 : (∀ j, fo j ≤ 2) ∧ (∀ j, si j ≤ 60)) (hj9 : j ≤ 2) (hf9 : ¬ lo 3) (hc9 : fo 3 = j) (hx9 : k < si 3) : CM l D (TY cI cZ cS) yX5_get cX5_get 5 (some .int) 1 [.ref (aS 0), .int (nI 3), .int (nI j), .int (nI k)] ((wS cS aS (aW 0) (aB 0) (aC 0) (aH 0) (aT 0) aE la) ++ ((wW cI aW n cl th ki va re fi) ++ ((wB cI aB bt bs) ++ ((wC cI cZ aC (aW 0) (aB 0) to co ke nu fw) ++ ((wH cI aH (aW 0) lt tr sh cr ct cu ve ta ch) ++ ((wH cI aT (aW 0) lt2 tr2 sh2 cr2 ct2 cu2 ve2 ta2 ch2) ++ (wE cI aE lo fo si it))))))) (some (.int (it 3 k))) ((wS cS aS (aW 0) (aB 0) (aC 0) (aH 0) (aT 0) aE la) ++ ((wW cI aW n cl th ki va re fi) ++ ((wB cI aB bt bs) ++ ((wC cI cZ aC (aW 0) (aB 0) to co ke nu fw) ++ ((wH cI aH (aW 0) lt tr sh cr ct cu ve ta ch) ++ ((wH cI aT (aW 0) lt2 tr2 sh2 cr2 ct2 cu2 ve2 ta2 ch2) ++ (wE cI aE lo fo si it))))))) := by
  refine CM.ofI (by decide +kernel) (Nat.le_of_ble_eq_true rfl) (nar_int _) ?_
  intro p e s m args below meth c Q A G K hA w hret ls hl
  obtain ⟨hx, hb, hml, hown, hts⟩ := id G
  obtain ⟨hn, hcl, hth, hki, hva, hre, hfi⟩ := id J
  obtain ⟨hbt, hbs⟩ := id B9
  obtain ⟨hco, hfw⟩ := id C9
  obtain ⟨hlt, htr, hsh, hcr, hct, hcu, hve, hta, hch⟩ := id H9
  obtain ⟨hlt2, htr2, hsh2, hcr2, hct2, hcu2, hve2, hta2, hch2⟩ := id U9
  obtain ⟨hfo, hsi⟩ := id E9
  have hs9 := hsi 3
  have hl : lv_has ls 5 [(0, .ref (aS 0)), (1, .int (nI 3)), (2, .int (nI j)), (3, .int (nI k))] := hl
  refine lv_iload_n hx hb dX5_get_0 rfl (lv_at hl 1 rfl) ?_
  refine callPS (rest := []) G K F_X5_isSheet (c_X5_isSheet (nI 3)) (va_P_nil D s.heap) ml_X5_121 (by decide) (by decide) rfl hl.1 (Nat.le_of_ble_eq_true rfl) dX5_get_1 ?_
  refine b_eq G (tgt := 14) dX5_get_4 (by decide) (fun c4 => ?_) (fun c4 => ?_)
  · -- taken at 4
    exact absurd ⟨3, by decide, rfl⟩ c4
  · -- not taken at 4
    refine lv_iload_n hx hb dX5_get_7 rfl (lv_at hl 2 rfl) ?_
    refine callPS (rest := []) G K F_X5_isForm (c_X5_isForm (nI j)) (va_P_nil D s.heap) ml_X5_235 (by decide) (by decide) rfl hl.1 (Nat.le_of_ble_eq_true rfl) dX5_get_8 ?_
    refine b_ne G (tgt := 17) dX5_get_11 (by decide) (fun c11 => ?_) (fun c11 => ?_)
    · -- taken at 11
      refine lv_aload_n hx hb dX5_get_17 rfl (lv_at hl 0 rfl) ?_
      refine f_get G K w.1 inX5 0 (ci := 5) rfl rfl 5 rfl fl_X5_46 (v := .ref (aS 1)) rfl dX5_get_18 ?_
      refine lv_iload_n hx hb dX5_get_21 rfl (lv_at hl 1 rfl) ?_
      refine a_ldR G K w.1 1 2 (a := (aS 1)) rfl rfl (by omega) (by decide) dX5_get_22 ?_
      refine lv_iload_n hx hb dX5_get_23 rfl (lv_at hl 2 rfl) ?_
      refine lv_iload_n hx hb dX5_get_24 rfl (lv_at hl 3 rfl) ?_
      refine callPV (As := [.int (nI j), .int (nI k)]) (rest := []) (q0 := 0) (ci := 3) G K F_X3_findingAt (c_X3_findingAt (aE 3) (aE 7) (lo 3) (fo 3) (si 3) (it 3) j (nI k) ⟨hfo 3, hsi 3⟩ (by omega)) (w.1.sub (ws' := (wT cI (aE 3) (aE 7) (lo 3) (fo 3) (si 3) (it 3))) [37, 41] rfl) ml_X5_241 rfl rfl rfl (by decide) (by decide) rfl hl.1 (Nat.le_of_ble_eq_true rfl) dX5_get_25 ?_
      refine t_i (y := (nI 0)) (congrArg nI (by unfold fdA; rw [cif_f hf9, cif_t hc9, cif_t ⟨k, hx9, rfl⟩])) ?_
      refine lv_istore (lv' := [(4, .int (nI 0)), (0, .ref (aS 0)), (1, .int (nI 3)), (2, .int (nI j)), (3, .int (nI k))]) hx hb dX5_get_28 hl (by decide) rfl (fun ls hl => ?_)
      refine lv_iload hx hb dX5_get_30 (lv_at hl 0 rfl) ?_
      refine z_eq G (tgt := 45) (by omega) dX5_get_32 (by decide) (fun c32 => ?_) (fun c32 => ?_)
      · -- taken at 32
        refine lv_aload_n hx hb dX5_get_45 rfl (lv_at hl 1 rfl) ?_
        refine f_get G K w.1 inX5 0 (ci := 5) rfl rfl 5 rfl fl_X5_46 (v := .ref (aS 1)) rfl dX5_get_46 ?_
        refine lv_iload_n hx hb dX5_get_49 rfl (lv_at hl 2 rfl) ?_
        refine a_ldR G K w.1 1 2 (a := (aS 1)) rfl rfl (by omega) (by decide) dX5_get_50 ?_
        refine f_get G K w.1 inX3 37 (ci := 3) rfl rfl 0 rfl fl_X5_132 (v := .ref (aE 7)) rfl dX5_get_51 ?_
        refine lv_iload_n hx hb dX5_get_54 rfl (lv_at hl 4 rfl) ?_
        refine a_ld G K w.1 41 0 (a := (aE 7)) rfl rfl (by omega) (by decide) dX5_get_55 ?_
        exact hret _ _ _ _ _ _ rfl rfl w dX5_get_56
      · -- not taken at 32
        exact absurd c32 (by decide)
    · -- not taken at 11
      exact absurd ⟨j, hj9, rfl⟩ c11
set_option maxHeartbeats 4000000 in
set_option maxRecDepth 100000 in
theorem c_X5_copy_bad (aS : Nat → Nat) (aE : Nat → Nat) (la : Int32) (aW : Nat → Nat) (n : Nat) (cl : Nat) (th : Nat → Nat) (ki : Nat → Nat) (va : Nat → Nat) (re : Nat → Nat) (fi : Nat → Nat) (aB : Nat → Nat) (bt : Nat → Nat) (bs : Nat) (aC : Nat → Nat) (to : Nat → Prop) (co : Nat → Nat) (ke : Nat → Int32) (nu : Nat → Int32) (fw : Nat → Nat) (aH : Nat → Nat) (lt : Nat → Option Nat) (tr : Nat → Nat) (sh : Nat → Nat) (cr : Nat → Nat) (ct : Nat → Nat) (cu : Nat → Nat) (ve : Nat → Nat) (ta : Nat → Nat) (ch : Nat) (aT : Nat → Nat) (lt2 : Nat → Option Nat) (tr2 : Nat → Nat) (sh2 : Nat → Nat) (cr2 : Nat → Nat) (ct2 : Nat → Nat) (cu2 : Nat → Nat) (ve2 : Nat → Nat) (ta2 : Nat → Nat) (ch2 : Nat) (lo : Nat → Prop) (fo : Nat → Nat) (si : Nat → Nat) (it : Nat → Nat → Int32) (x : Int32) (i : Int32) (y : Int32) (j : Int32) (k : Int32) (J : IW n cl th ki va re fi) (S : SW n cl re fi) (B9 : (∀ j, bt j ≤ 255) ∧ bs ≤ 216) (C9 : (∀ j, co j ≤ 400) ∧ (∀ j, fw j ≤ 15)) (H9 : IHd lt tr sh cr ct cu ve ta ch) (U9 : IHd lt2 tr2 sh2 cr2 ct2 cu2 ve2 ta2 ch2) (E9 : (∀ j, fo j ≤ 2) ∧ (∀ j, si j ≤ 60)) (hbad : ¬ (okR 3 x ∧ okR 3 y)) : CM l D (TY cI cZ cS) yX5_copy cX5_copy 8 (some .int) 1 [.ref (aS 0), .int x, .int i, .int y, .int j, .int k] ((wS cS aS (aW 0) (aB 0) (aC 0) (aH 0) (aT 0) aE la) ++ ((wW cI aW n cl th ki va re fi) ++ ((wB cI aB bt bs) ++ ((wC cI cZ aC (aW 0) (aB 0) to co ke nu fw) ++ ((wH cI aH (aW 0) lt tr sh cr ct cu ve ta ch) ++ ((wH cI aT (aW 0) lt2 tr2 sh2 cr2 ct2 cu2 ve2 ta2 ch2) ++ (wE cI aE lo fo si it))))))) (some (.int (-2))) ((wS cS aS (aW 0) (aB 0) (aC 0) (aH 0) (aT 0) aE la) ++ ((wW cI aW n cl th ki va re fi) ++ ((wB cI aB bt bs) ++ ((wC cI cZ aC (aW 0) (aB 0) to co ke nu fw) ++ ((wH cI aH (aW 0) lt tr sh cr ct cu ve ta ch) ++ ((wH cI aT (aW 0) lt2 tr2 sh2 cr2 ct2 cu2 ve2 ta2 ch2) ++ (wE cI aE lo fo si it))))))) := by
  refine CM.ofI (by decide +kernel) (Nat.le_of_ble_eq_true rfl) (nar_int _) ?_
  intro p e s m args below meth c Q A G K hA w hret ls hl
  obtain ⟨hx, hb, hml, hown, hts⟩ := id G
  obtain ⟨hn, hcl, hth, hki, hva, hre, hfi⟩ := id J
  obtain ⟨hbt, hbs⟩ := id B9
  obtain ⟨hco, hfw⟩ := id C9
  obtain ⟨hlt, htr, hsh, hcr, hct, hcu, hve, hta, hch⟩ := id H9
  obtain ⟨hlt2, htr2, hsh2, hcr2, hct2, hcu2, hve2, hta2, hch2⟩ := id U9
  obtain ⟨hfo, hsi⟩ := id E9
  have hl : lv_has ls 8 [(0, .ref (aS 0)), (1, .int x), (2, .int i), (3, .int y), (4, .int j), (5, .int k)] := hl
  refine lv_iload_n hx hb dX5_copy_0 rfl (lv_at hl 1 rfl) ?_
  refine callPS (rest := []) G K F_X5_isSheet (c_X5_isSheet x) (va_P_nil D s.heap) ml_X5_121 (by decide) (by decide) rfl hl.1 (Nat.le_of_ble_eq_true rfl) dX5_copy_1 ?_
  refine b_eq G (tgt := 14) dX5_copy_4 (by decide) (fun c4 => ?_) (fun c4 => ?_)
  · -- taken at 4
    refine lv_bipush (v := (-2)) hx hb dX5_copy_14 (by decide) ?_
    exact hret _ _ _ _ _ _ rfl rfl w dX5_copy_16
  · -- not taken at 4
    refine lv_iload_n hx hb dX5_copy_7 rfl (lv_at hl 3 rfl) ?_
    refine callPS (rest := []) G K F_X5_isSheet (c_X5_isSheet y) (va_P_nil D s.heap) ml_X5_121 (by decide) (by decide) rfl hl.1 (Nat.le_of_ble_eq_true rfl) dX5_copy_8 ?_
    refine b_ne G (tgt := 17) dX5_copy_11 (by decide) (fun c11 => ?_) (fun c11 => ?_)
    · -- taken at 11
      exact absurd ⟨c4, c11⟩ hbad
    · -- not taken at 11
      refine lv_bipush (v := (-2)) hx hb dX5_copy_14 (by decide) ?_
      exact hret _ _ _ _ _ _ rfl rfl w dX5_copy_16
set_option maxHeartbeats 4000000 in
set_option maxRecDepth 100000 in
theorem c_X5_tell_bad (aS : Nat → Nat) (aE : Nat → Nat) (la : Int32) (aW : Nat → Nat) (n : Nat) (cl : Nat) (th : Nat → Nat) (ki : Nat → Nat) (va : Nat → Nat) (re : Nat → Nat) (fi : Nat → Nat) (aB : Nat → Nat) (bt : Nat → Nat) (bs : Nat) (aC : Nat → Nat) (to : Nat → Prop) (co : Nat → Nat) (ke : Nat → Int32) (nu : Nat → Int32) (fw : Nat → Nat) (aH : Nat → Nat) (lt : Nat → Option Nat) (tr : Nat → Nat) (sh : Nat → Nat) (cr : Nat → Nat) (ct : Nat → Nat) (cu : Nat → Nat) (ve : Nat → Nat) (ta : Nat → Nat) (ch : Nat) (aT : Nat → Nat) (lt2 : Nat → Option Nat) (tr2 : Nat → Nat) (sh2 : Nat → Nat) (cr2 : Nat → Nat) (ct2 : Nat → Nat) (cu2 : Nat → Nat) (ve2 : Nat → Nat) (ta2 : Nat → Nat) (ch2 : Nat) (lo : Nat → Prop) (fo : Nat → Nat) (si : Nat → Nat) (it : Nat → Nat → Int32) (f : Int32) (x : Int32) (J : IW n cl th ki va re fi) (S : SW n cl re fi) (B9 : (∀ j, bt j ≤ 255) ∧ bs ≤ 216) (C9 : (∀ j, co j ≤ 400) ∧ (∀ j, fw j ≤ 15)) (H9 : IHd lt tr sh cr ct cu ve ta ch) (U9 : IHd lt2 tr2 sh2 cr2 ct2 cu2 ve2 ta2 ch2) (E9 : (∀ j, fo j ≤ 2) ∧ (∀ j, si j ≤ 60)) (hbad : ¬ (okR 400 f ∧ okR 3 x)) : CM l D (TY cI cZ cS) yX5_tell cX5_tell 6 (some .int) 1 [.ref (aS 0), .int f, .int x] ((wS cS aS (aW 0) (aB 0) (aC 0) (aH 0) (aT 0) aE la) ++ ((wW cI aW n cl th ki va re fi) ++ ((wB cI aB bt bs) ++ ((wC cI cZ aC (aW 0) (aB 0) to co ke nu fw) ++ ((wH cI aH (aW 0) lt tr sh cr ct cu ve ta ch) ++ ((wH cI aT (aW 0) lt2 tr2 sh2 cr2 ct2 cu2 ve2 ta2 ch2) ++ (wE cI aE lo fo si it))))))) (some (.int (-2))) ((wS cS aS (aW 0) (aB 0) (aC 0) (aH 0) (aT 0) aE la) ++ ((wW cI aW n cl th ki va re fi) ++ ((wB cI aB bt bs) ++ ((wC cI cZ aC (aW 0) (aB 0) to co ke nu fw) ++ ((wH cI aH (aW 0) lt tr sh cr ct cu ve ta ch) ++ ((wH cI aT (aW 0) lt2 tr2 sh2 cr2 ct2 cu2 ve2 ta2 ch2) ++ (wE cI aE lo fo si it))))))) := by
  refine CM.ofI (by decide +kernel) (Nat.le_of_ble_eq_true rfl) (nar_int _) ?_
  intro p e s m args below meth c Q A G K hA w hret ls hl
  obtain ⟨hx, hb, hml, hown, hts⟩ := id G
  obtain ⟨hn, hcl, hth, hki, hva, hre, hfi⟩ := id J
  obtain ⟨hbt, hbs⟩ := id B9
  obtain ⟨hco, hfw⟩ := id C9
  obtain ⟨hlt, htr, hsh, hcr, hct, hcu, hve, hta, hch⟩ := id H9
  obtain ⟨hlt2, htr2, hsh2, hcr2, hct2, hcu2, hve2, hta2, hch2⟩ := id U9
  obtain ⟨hfo, hsi⟩ := id E9
  have hl : lv_has ls 6 [(0, .ref (aS 0)), (1, .int f), (2, .int x)] := hl
  refine lv_iload_n hx hb dX5_tell_0 rfl (lv_at hl 1 rfl) ?_
  refine lv_if_lt (tgt := 18) hx hb dX5_tell_1 (by decide) (fun c1 => ?_) (fun c1 => ?_)
  · -- taken at 1
    refine lv_bipush (v := (-2)) hx hb dX5_tell_18 (by decide) ?_
    exact hret _ _ _ _ _ _ rfl rfl w dX5_tell_20
  · -- not taken at 1
    refine lv_iload_n hx hb dX5_tell_4 rfl (lv_at hl 1 rfl) ?_
    refine lv_sipush (v := (nI 400)) hx hb dX5_tell_5 (by decide) ?_
    refine lv_icmp_gt (tgt := 18) hx hb dX5_tell_8 (by decide) (fun c8 => ?_) (fun c8 => ?_)
    · -- taken at 8
      refine lv_bipush (v := (-2)) hx hb dX5_tell_18 (by decide) ?_
      exact hret _ _ _ _ _ _ rfl rfl w dX5_tell_20
    · -- not taken at 8
      refine lv_iload_n hx hb dX5_tell_11 rfl (lv_at hl 2 rfl) ?_
      refine callPS (rest := []) G K F_X5_isSheet (c_X5_isSheet x) (va_P_nil D s.heap) ml_X5_121 (by decide) (by decide) rfl hl.1 (Nat.le_of_ble_eq_true rfl) dX5_tell_12 ?_
      refine b_ne G (tgt := 21) dX5_tell_15 (by decide) (fun c15 => ?_) (fun c15 => ?_)
      · -- taken at 15
        exact absurd ⟨hr_iff (m := 400) (by decide) c1 c8, c15⟩ hbad
      · -- not taken at 15
        refine lv_bipush (v := (-2)) hx hb dX5_tell_18 (by decide) ?_
        exact hret _ _ _ _ _ _ rfl rfl w dX5_tell_20
set_option maxHeartbeats 4000000 in
set_option maxRecDepth 100000 in
theorem c_X5_tell_nul0 (aS : Nat → Nat) (aE : Nat → Nat) (la : Int32) (aW : Nat → Nat) (n : Nat) (cl : Nat) (th : Nat → Nat) (ki : Nat → Nat) (va : Nat → Nat) (re : Nat → Nat) (fi : Nat → Nat) (aB : Nat → Nat) (bt : Nat → Nat) (bs : Nat) (aC : Nat → Nat) (to : Nat → Prop) (co : Nat → Nat) (ke : Nat → Int32) (nu : Nat → Int32) (fw : Nat → Nat) (aH : Nat → Nat) (lt : Nat → Option Nat) (tr : Nat → Nat) (sh : Nat → Nat) (cr : Nat → Nat) (ct : Nat → Nat) (cu : Nat → Nat) (ve : Nat → Nat) (ta : Nat → Nat) (ch : Nat) (aT : Nat → Nat) (lt2 : Nat → Option Nat) (tr2 : Nat → Nat) (sh2 : Nat → Nat) (cr2 : Nat → Nat) (ct2 : Nat → Nat) (cu2 : Nat → Nat) (ve2 : Nat → Nat) (ta2 : Nat → Nat) (ch2 : Nat) (lo : Nat → Prop) (fo : Nat → Nat) (si : Nat → Nat) (it : Nat → Nat → Int32) (f : Nat) (J : IW n cl th ki va re fi) (S : SW n cl re fi) (B9 : (∀ j, bt j ≤ 255) ∧ bs ≤ 216) (C9 : (∀ j, co j ≤ 400) ∧ (∀ j, fw j ≤ 15)) (H9 : IHd lt tr sh cr ct cu ve ta ch) (U9 : IHd lt2 tr2 sh2 cr2 ct2 cu2 ve2 ta2 ch2) (E9 : (∀ j, fo j ≤ 2) ∧ (∀ j, si j ≤ 60)) (hf9 : f ≤ 400) (hn9 : lo 0) : CM l D (TY cI cZ cS) yX5_tell cX5_tell 6 (some .int) 1 [.ref (aS 0), .int (nI f), .int (nI 0)] ((wS cS aS (aW 0) (aB 0) (aC 0) (aH 0) (aT 0) aE la) ++ ((wW cI aW n cl th ki va re fi) ++ ((wB cI aB bt bs) ++ ((wC cI cZ aC (aW 0) (aB 0) to co ke nu fw) ++ ((wH cI aH (aW 0) lt tr sh cr ct cu ve ta ch) ++ ((wH cI aT (aW 0) lt2 tr2 sh2 cr2 ct2 cu2 ve2 ta2 ch2) ++ (wE cI aE lo fo si it))))))) (some (.int ((-10) - (nI 1)))) ((wS cS aS (aW 0) (aB 0) (aC 0) (aH 0) (aT 0) aE (nI 1)) ++ ((wW cI aW n cl th ki va re fi) ++ ((wB cI aB bt bs) ++ ((wC cI cZ aC (aW 0) (aB 0) to co ke nu fw) ++ ((wH cI aH (aW 0) lt tr sh cr ct cu ve ta ch) ++ ((wH cI aT (aW 0) lt2 tr2 sh2 cr2 ct2 cu2 ve2 ta2 ch2) ++ (wE cI aE lo fo si it))))))) := by
  refine CM.ofI (by decide +kernel) (Nat.le_of_ble_eq_true rfl) (nar_int _) ?_
  intro p e s m args below meth c Q A G K hA w hret ls hl
  obtain ⟨hx, hb, hml, hown, hts⟩ := id G
  obtain ⟨hn, hcl, hth, hki, hva, hre, hfi⟩ := id J
  obtain ⟨hbt, hbs⟩ := id B9
  obtain ⟨hco, hfw⟩ := id C9
  obtain ⟨hlt, htr, hsh, hcr, hct, hcu, hve, hta, hch⟩ := id H9
  obtain ⟨hlt2, htr2, hsh2, hcr2, hct2, hcu2, hve2, hta2, hch2⟩ := id U9
  obtain ⟨hfo, hsi⟩ := id E9
  have hl : lv_has ls 6 [(0, .ref (aS 0)), (1, .int (nI f)), (2, .int (nI 0))] := hl
  refine lv_iload_n hx hb dX5_tell_0 rfl (lv_at hl 1 rfl) ?_
  refine z_lt G (tgt := 18) (by omega) dX5_tell_1 (by decide) ?_
  refine lv_iload_n hx hb dX5_tell_4 rfl (lv_at hl 1 rfl) ?_
  refine lv_sipush (v := (nI 400)) hx hb dX5_tell_5 (by decide) ?_
  refine c_gt G (tgt := 18) (by omega) (by omega) dX5_tell_8 (by decide) (fun c8 => ?_) (fun c8 => ?_)
  · -- taken at 8
    exact absurd c8 (by omega)
  · -- not taken at 8
    refine lv_iload_n hx hb dX5_tell_11 rfl (lv_at hl 2 rfl) ?_
    refine callPS (rest := []) G K F_X5_isSheet (c_X5_isSheet (nI 0)) (va_P_nil D s.heap) ml_X5_121 (by decide) (by decide) rfl hl.1 (Nat.le_of_ble_eq_true rfl) dX5_tell_12 ?_
    refine b_ne G (tgt := 21) dX5_tell_15 (by decide) (fun c15 => ?_) (fun c15 => ?_)
    · -- taken at 15
      refine lv_aload_n hx hb dX5_tell_21 rfl (lv_at hl 0 rfl) ?_
      refine f_get G K w.1 inX5 0 (ci := 5) rfl rfl 5 rfl fl_X5_46 (v := .ref (aS 1)) rfl dX5_tell_22 ?_
      refine lv_iload_n hx hb dX5_tell_25 rfl (lv_at hl 2 rfl) ?_
      refine a_ldR G K w.1 1 2 (a := (aS 1)) rfl rfl (by omega) (by decide) dX5_tell_26 ?_
      refine lv_astore_n (lv' := [(3, .ref (aE 0)), (0, .ref (aS 0)), (1, .int (nI f)), (2, .int (nI 0))]) hx hb dX5_tell_27 rfl hl (by decide) rfl (fun ls hl => ?_)
      refine lv_aload_n hx hb dX5_tell_28 rfl (lv_at hl 0 rfl) ?_
      refine f_get G K w.1 inX3 34 (ci := 3) rfl rfl 1 rfl fl_X5_124 (v := .int (bI (lo 0))) rfl dX5_tell_29 ?_
      refine b_eq G (tgt := 41) dX5_tell_32 (by decide) (fun c32 => ?_) (fun c32 => ?_)
      · -- taken at 32
        exact absurd hn9 c32
      · -- not taken at 32
        refine lv_aload_n hx hb dX5_tell_35 rfl (lv_at hl 1 rfl) ?_
        refine lv_iconst (v := (nI 1)) hx hb dX5_tell_36 (by decide) ?_
        refine callMF (As := [.int (nI 1)]) (rest := []) (q0 := 0) (ci := 5) (ws' := ((wS cS aS (aW 0) (aB 0) (aC 0) (aH 0) (aT 0) aE (nI 1)) ++ ((wW cI aW n cl th ki va re fi) ++ ((wB cI aB bt bs) ++ ((wC cI cZ aC (aW 0) (aB 0) to co ke nu fw) ++ ((wH cI aH (aW 0) lt tr sh cr ct cu ve ta ch) ++ ((wH cI aT (aW 0) lt2 tr2 sh2 cr2 ct2 cu2 ve2 ta2 ch2) ++ (wE cI aE lo fo si it)))))))) G K hA w F_X5_find (c_X5_find aS aE la aW n cl th ki va re fi aB bt bs aC to co ke nu fw aH lt tr sh cr ct cu ve ta ch aT lt2 tr2 sh2 cr2 ct2 cu2 ve2 ta2 ch2 lo fo si it 1 J S B9 C9 H9 U9 E9) ml_X5_128 rfl rfl rfl (by decide) (by decide) rfl hl.1 (Nat.le_of_ble_eq_true rfl) dX5_tell_37 (fun Hp1 lo2 w => ?_)
        exact hret _ _ _ _ _ _ rfl rfl w dX5_tell_40
    · -- not taken at 15
      exact absurd ⟨0, by decide, rfl⟩ c15
set_option maxHeartbeats 4000000 in
set_option maxRecDepth 100000 in
theorem c_X5_tell_ok0 (aS : Nat → Nat) (aE : Nat → Nat) (la : Int32) (aW : Nat → Nat) (n : Nat) (cl : Nat) (th : Nat → Nat) (ki : Nat → Nat) (va : Nat → Nat) (re : Nat → Nat) (fi : Nat → Nat) (aB : Nat → Nat) (bt : Nat → Nat) (bs : Nat) (aC : Nat → Nat) (to : Nat → Prop) (co : Nat → Nat) (ke : Nat → Int32) (nu : Nat → Int32) (fw : Nat → Nat) (aH : Nat → Nat) (lt : Nat → Option Nat) (tr : Nat → Nat) (sh : Nat → Nat) (cr : Nat → Nat) (ct : Nat → Nat) (cu : Nat → Nat) (ve : Nat → Nat) (ta : Nat → Nat) (ch : Nat) (aT : Nat → Nat) (lt2 : Nat → Option Nat) (tr2 : Nat → Nat) (sh2 : Nat → Nat) (cr2 : Nat → Nat) (ct2 : Nat → Nat) (cu2 : Nat → Nat) (ve2 : Nat → Nat) (ta2 : Nat → Nat) (ch2 : Nat) (lo : Nat → Prop) (fo : Nat → Nat) (si : Nat → Nat) (it : Nat → Nat → Int32) (f : Nat) (J : IW n cl th ki va re fi) (S : SW n cl re fi) (B9 : (∀ j, bt j ≤ 255) ∧ bs ≤ 216) (C9 : (∀ j, co j ≤ 400) ∧ (∀ j, fw j ≤ 15)) (H9 : IHd lt tr sh cr ct cu ve ta ch) (U9 : IHd lt2 tr2 sh2 cr2 ct2 cu2 ve2 ta2 ch2) (E9 : (∀ j, fo j ≤ 2) ∧ (∀ j, si j ≤ 60)) (hf9 : f ≤ 400) (hn9 : ¬ lo 0) : CM l D (TY cI cZ cS) yX5_tell cX5_tell 6 (some .int) 1 [.ref (aS 0), .int (nI f), .int (nI 0)] ((wS cS aS (aW 0) (aB 0) (aC 0) (aH 0) (aT 0) aE la) ++ ((wW cI aW n cl th ki va re fi) ++ ((wB cI aB bt bs) ++ ((wC cI cZ aC (aW 0) (aB 0) to co ke nu fw) ++ ((wH cI aH (aW 0) lt tr sh cr ct cu ve ta ch) ++ ((wH cI aT (aW 0) lt2 tr2 sh2 cr2 ct2 cu2 ve2 ta2 ch2) ++ (wE cI aE lo fo si it))))))) (some (.int (nI (min (si 0) (bs - f))))) ((wS cS aS (aW 0) (aB 0) (aC 0) (aH 0) (aT 0) aE la) ++ ((wW cI aW n cl th ki va re fi) ++ ((wB cI aB bt bs) ++ ((wC cI cZ aC (aW 0) (aB 0) to co ke nu fw) ++ ((wH cI aH (aW 0) lt tr sh cr ct cu ve ta ch) ++ ((wH cI aT (aW 0) lt2 tr2 sh2 cr2 ct2 cu2 ve2 ta2 ch2) ++ (wE cI aE lo fo si (va_up it 0 (stI (it 0) 0 (fun uu => cutV (nI (fo 0)) (nI (bt (f + (0 + uu))))) (min (si 0) (bs - f))))))))))) := by
  refine CM.ofI (by decide +kernel) (Nat.le_of_ble_eq_true rfl) (nar_int _) ?_
  intro p e s m args below meth c Q A G K hA w hret ls hl
  obtain ⟨hx, hb, hml, hown, hts⟩ := id G
  obtain ⟨hn, hcl, hth, hki, hva, hre, hfi⟩ := id J
  obtain ⟨hbt, hbs⟩ := id B9
  obtain ⟨hco, hfw⟩ := id C9
  obtain ⟨hlt, htr, hsh, hcr, hct, hcu, hve, hta, hch⟩ := id H9
  obtain ⟨hlt2, htr2, hsh2, hcr2, hct2, hcu2, hve2, hta2, hch2⟩ := id U9
  obtain ⟨hfo, hsi⟩ := id E9
  have hs9 := hsi 0
  have hl : lv_has ls 6 [(0, .ref (aS 0)), (1, .int (nI f)), (2, .int (nI 0))] := hl
  refine lv_iload_n hx hb dX5_tell_0 rfl (lv_at hl 1 rfl) ?_
  refine z_lt G (tgt := 18) (by omega) dX5_tell_1 (by decide) ?_
  refine lv_iload_n hx hb dX5_tell_4 rfl (lv_at hl 1 rfl) ?_
  refine lv_sipush (v := (nI 400)) hx hb dX5_tell_5 (by decide) ?_
  refine c_gt G (tgt := 18) (by omega) (by omega) dX5_tell_8 (by decide) (fun c8 => ?_) (fun c8 => ?_)
  · -- taken at 8
    exact absurd c8 (by omega)
  · -- not taken at 8
    refine lv_iload_n hx hb dX5_tell_11 rfl (lv_at hl 2 rfl) ?_
    refine callPS (rest := []) G K F_X5_isSheet (c_X5_isSheet (nI 0)) (va_P_nil D s.heap) ml_X5_121 (by decide) (by decide) rfl hl.1 (Nat.le_of_ble_eq_true rfl) dX5_tell_12 ?_
    refine b_ne G (tgt := 21) dX5_tell_15 (by decide) (fun c15 => ?_) (fun c15 => ?_)
    · -- taken at 15
      refine lv_aload_n hx hb dX5_tell_21 rfl (lv_at hl 0 rfl) ?_
      refine f_get G K w.1 inX5 0 (ci := 5) rfl rfl 5 rfl fl_X5_46 (v := .ref (aS 1)) rfl dX5_tell_22 ?_
      refine lv_iload_n hx hb dX5_tell_25 rfl (lv_at hl 2 rfl) ?_
      refine a_ldR G K w.1 1 2 (a := (aS 1)) rfl rfl (by omega) (by decide) dX5_tell_26 ?_
      refine lv_astore_n (lv' := [(3, .ref (aE 0)), (0, .ref (aS 0)), (1, .int (nI f)), (2, .int (nI 0))]) hx hb dX5_tell_27 rfl hl (by decide) rfl (fun ls hl => ?_)
      refine lv_aload_n hx hb dX5_tell_28 rfl (lv_at hl 0 rfl) ?_
      refine f_get G K w.1 inX3 34 (ci := 3) rfl rfl 1 rfl fl_X5_124 (v := .int (bI (lo 0))) rfl dX5_tell_29 ?_
      refine b_eq G (tgt := 41) dX5_tell_32 (by decide) (fun c32 => ?_) (fun c32 => ?_)
      · -- taken at 32
        refine lv_aload_n hx hb dX5_tell_41 rfl (lv_at hl 0 rfl) ?_
        refine f_get G K w.1 inX3 34 (ci := 3) rfl rfl 3 rfl fl_X5_131 (v := .int (nI (si 0))) rfl dX5_tell_42 ?_
        refine lv_iconst (v := (nI 0)) hx hb dX5_tell_45 (by decide) ?_
        refine lv_aload_n hx hb dX5_tell_46 rfl (lv_at hl 1 rfl) ?_
        refine f_get G K w.1 inX5 0 (ci := 5) rfl rfl 1 rfl fl_X5_19 (v := .ref (aB 0)) rfl dX5_tell_47 ?_
        refine f_get G K w.1 inX0 8 (ci := 0) rfl rfl 1 rfl fl_X5_156 (v := .int (nI bs)) rfl dX5_tell_50 ?_
        refine lv_iload_n hx hb dX5_tell_53 rfl (lv_at hl 2 rfl) ?_
        refine lv_isub hx hb dX5_tell_54 ?_
        refine va_mmax hx hb (hml.trans hl.1.symm) hown (hts _ ml_X5_259) (hts _ st_J9_max_7cf53) (hts _ in_J9) (hts _ cd_J9_max_7cf53) (Nat.le_of_ble_eq_true rfl) (Nat.le_of_ble_eq_true rfl) (Nat.le_refl 0) (Nat.le_refl 0) dX5_tell_55 ?_
        refine t_i (y := (nI (bs - f))) (tr_sub (by omega) (by omega)) ?_
        refine va_mmin hx hb (hml.trans hl.1.symm) hown (hts _ ml_X5_216) (hts _ st_J9_min_7cf53) (hts _ in_J9) (hts _ cd_J9_min_7cf53) (Nat.le_of_ble_eq_true rfl) (Nat.le_of_ble_eq_true rfl) (Nat.le_refl 0) (Nat.le_refl 0) dX5_tell_58 ?_
        refine t_i (y := nI (min (si 0) (bs - f))) (m_min (by omega) (by omega)) ?_
        refine lv_istore (lv' := [(4, .int (nI (min (si 0) (bs - f)))), (3, .ref (aE 0)), (0, .ref (aS 0)), (1, .int (nI f)), (2, .int (nI 0))]) hx hb dX5_tell_61 hl (by decide) rfl (fun ls hl => ?_)
        refine lv_iconst (v := (nI 0)) hx hb dX5_tell_63 (by decide) ?_
        refine lv_istore (lv' := [(5, .int (nI 0)), (4, .int (nI (min (si 0) (bs - f)))), (3, .ref (aE 0)), (0, .ref (aS 0)), (1, .int (nI f)), (2, .int (nI 0))]) hx hb dX5_tell_64 hl (by decide) rfl (fun ls hl => ?_)
        have L66 : ∀ (d u : Nat), 0 ≤ u → u + d = min (si 0) (bs - f) → ∀ (H : Heap) (locs : List Loc), WW D A s.heap ((wS cS aS (aW 0) (aB 0) (aC 0) (aH 0) (aT 0) aE la) ++ ((wW cI aW n cl th ki va re fi) ++ ((wB cI aB bt bs) ++ ((wC cI cZ aC (aW 0) (aB 0) to co ke nu fw) ++ ((wH cI aH (aW 0) lt tr sh cr ct cu ve ta ch) ++ ((wH cI aT (aW 0) lt2 tr2 sh2 cr2 ct2 cu2 ve2 ta2 ch2) ++ (wE cI aE lo fo si (va_up it 0 (stI (it 0) 0 (fun uu => cutV (nI (fo 0)) (nI (bt (f + (0 + uu))))) u))))))))) H locs → ∀ (ls : Array Slot), lv_has ls 6 [(0, .ref (aS 0)), (1, .int (nI f)), (2, .int (nI 0)), (3, .ref (aE 0)), (4, .int (nI (min (si 0) (bs - f)))), (5, .int (nI (0 + u)))] → W p l e (RM 1) s m args below meth c H locs 0 0 Q (F0 m 66 ls []) := by
          intro d
          induction d with
          | zero =>
            intro u hlo66 hhi66 H locs w ls hl
            refine lv_iload hx hb dX5_tell_66 (lv_at hl 5 rfl) ?_
            refine lv_iload hx hb dX5_tell_68 (lv_at hl 4 rfl) ?_
            refine c_ge G (tgt := 97) (by omega) (by omega) dX5_tell_70 (by decide) (fun c70 => ?_) (fun c70 => ?_)
            · -- taken at 70
              refine lv_iload hx hb dX5_tell_97 (lv_at hl 4 rfl) ?_
              exact hret _ _ _ _ _ _ rfl (by rw [show u = min (si 0) (bs - f) by omega]) w dX5_tell_99
            · -- not taken at 70
              exact absurd c70 (by omega)
          | succ d ih =>
            intro u hlo66 hhi66 H locs w ls hl
            refine lv_iload hx hb dX5_tell_66 (lv_at hl 5 rfl) ?_
            refine lv_iload hx hb dX5_tell_68 (lv_at hl 4 rfl) ?_
            refine c_ge G (tgt := 97) (by omega) (by omega) dX5_tell_70 (by decide) (fun c70 => ?_) (fun c70 => ?_)
            · -- taken at 70
              exact absurd c70 (by omega)
            · -- not taken at 70
              refine lv_aload_n hx hb dX5_tell_73 rfl (lv_at hl 3 rfl) ?_
              refine lv_iload hx hb dX5_tell_74 (lv_at hl 5 rfl) ?_
              refine lv_aload_n hx hb dX5_tell_76 rfl (lv_at hl 0 rfl) ?_
              refine f_get G K w.1 inX5 0 (ci := 5) rfl rfl 1 rfl fl_X5_19 (v := .ref (aB 0)) rfl dX5_tell_77 ?_
              refine f_get G K w.1 inX0 8 (ci := 0) rfl rfl 0 rfl fl_X5_158 (v := .ref (aB 1)) rfl dX5_tell_80 ?_
              refine lv_iload_n hx hb dX5_tell_83 rfl (lv_at hl 1 rfl) ?_
              refine lv_iload hx hb dX5_tell_84 (lv_at hl 5 rfl) ?_
              refine t_add G dX5_tell_86 ?_
              refine a_ldN G K w.1 9 0 (a := (aB 1)) rfl rfl (by omega) (by decide) dX5_tell_87 ?_
              have hb1 := hbt (f + (0 + u))
              refine callMV (As := [.int (nI (0 + u)), .int (nI (bt (f + (0 + u))))]) (rest := []) (q0 := 0) (ci := 3) (wr := ((wS cS aS (aW 0) (aB 0) (aC 0) (aH 0) (aT 0) aE la) ++ ((wW cI aW n cl th ki va re fi) ++ ((wB cI aB bt bs) ++ ((wC cI cZ aC (aW 0) (aB 0) to co ke nu fw) ++ ((wH cI aH (aW 0) lt tr sh cr ct cu ve ta ch) ++ ((wH cI aT (aW 0) lt2 tr2 sh2 cr2 ct2 cu2 ve2 ta2 ch2) ++ ([(aE 1, .inr (3, [.ref (aE 5), .int (bI (lo 1)), .int (nI (fo 1)), .int (nI (si 1))])), (aE 2, .inr (3, [.ref (aE 6), .int (bI (lo 2)), .int (nI (fo 2)), .int (nI (si 2))])), (aE 3, .inr (3, [.ref (aE 7), .int (bI (lo 3)), .int (nI (fo 3)), .int (nI (si 3))])), (aE 5, .inl (cI, 60, .inl ((va_up it 0 (stI (it 0) 0 (fun uu => cutV (nI (fo 0)) (nI (bt (f + (0 + uu))))) u)) 1))), (aE 6, .inl (cI, 60, .inl ((va_up it 0 (stI (it 0) 0 (fun uu => cutV (nI (fo 0)) (nI (bt (f + (0 + uu))))) u)) 2))), (aE 7, .inl (cI, 60, .inl ((va_up it 0 (stI (it 0) 0 (fun uu => cutV (nI (fo 0)) (nI (bt (f + (0 + uu))))) u)) 3)))] : va_W)))))))) (ws2 := ((wS cS aS (aW 0) (aB 0) (aC 0) (aH 0) (aT 0) aE la) ++ ((wW cI aW n cl th ki va re fi) ++ ((wB cI aB bt bs) ++ ((wC cI cZ aC (aW 0) (aB 0) to co ke nu fw) ++ ((wH cI aH (aW 0) lt tr sh cr ct cu ve ta ch) ++ ((wH cI aT (aW 0) lt2 tr2 sh2 cr2 ct2 cu2 ve2 ta2 ch2) ++ (wE cI aE lo fo si (va_up (va_up it 0 (stI (it 0) 0 (fun uu => cutV (nI (fo 0)) (nI (bt (f + (0 + uu))))) u)) 0 (va_up ((va_up it 0 (stI (it 0) 0 (fun uu => cutV (nI (fo 0)) (nI (bt (f + (0 + uu))))) u)) 0) (0 + u) (cutV (nI (fo 0)) (nI (bt (f + (0 + u))))))))))))))) G K hA w F_X3_layItem (c_X3_layItem (aE 0) (aE 4) (lo 0) (fo 0) (si 0) ((va_up it 0 (stI (it 0) 0 (fun uu => cutV (nI (fo 0)) (nI (bt (f + (0 + uu))))) u)) 0) (0 + u) (nI (bt (f + (0 + u)))) ⟨hfo 0, hsi 0⟩ (by omega)) ml_X5_244 [34, 38] [0, 1, 2, 3, 4, 5, 6, 7, 8, 9, 10, 11, 12, 13, 14, 15, 16, 17, 18, 19, 20, 21, 22, 23, 24, 25, 26, 27, 28, 29, 30, 31, 32, 33, 35, 36, 37, 39, 40, 41] [0, 1, 2, 3, 4, 5, 6, 7, 8, 9, 10, 11, 12, 13, 14, 15, 16, 17, 18, 19, 20, 21, 22, 23, 24, 25, 26, 27, 28, 29, 30, 31, 32, 33, 40, 34, 35, 36, 41, 37, 38, 39] rfl rfl rfl rfl rfl rfl rfl rfl rfl rfl (by decide) (by decide) rfl hl.1 (Nat.le_of_ble_eq_true rfl) dX5_tell_88 (fun Hp2 lo3 w => ?_)
              have w : WW D A s.heap ((wS cS aS (aW 0) (aB 0) (aC 0) (aH 0) (aT 0) aE la) ++ ((wW cI aW n cl th ki va re fi) ++ ((wB cI aB bt bs) ++ ((wC cI cZ aC (aW 0) (aB 0) to co ke nu fw) ++ ((wH cI aH (aW 0) lt tr sh cr ct cu ve ta ch) ++ ((wH cI aT (aW 0) lt2 tr2 sh2 cr2 ct2 cu2 ve2 ta2 ch2) ++ (wE cI aE lo fo si (va_up it 0 (stI (it 0) 0 (fun uu => cutV (nI (fo 0)) (nI (bt (f + (0 + uu))))) (u + 1)))))))))) Hp2 lo3 := by
                rw [bx_uu, va_up_self] at w; exact w
              refine lv_iinc (v := (nI (0 + u + 1))) (lv' := [(5, .int (nI (0 + u + 1))), (0, .ref (aS 0)), (1, .int (nI f)), (2, .int (nI 0)), (3, .ref (aE 0)), (4, .int (nI (min (si 0) (bs - f))))]) hx hb dX5_tell_91 hl (k := 5) rfl (nI_inc _ 1) (by decide) rfl (fun ls hl => ?_)
              refine lv_goto (tgt := 66) hx hb dX5_tell_94 (by decide) ?_
              -- slot 5: have n:0 + u + 1, want n:0 + (u + 1)
              exact ih (u + 1) (by omega) (by omega) Hp2 lo3 w ls (lv_sub hl [1, 2, 3, 4, 5, 0] rfl)
        exact L66 (min (si 0) (bs - f) - 0) (0) (Nat.le_refl _) (by omega) s.heap [] (by rw [show va_up it 0 (stI (it 0) 0 (fun uu => cutV (nI (fo 0)) (nI (bt (f + (0 + uu))))) 0) = it from up_id it 0]; exact w) ls (lv_sub hl [3, 4, 5, 2, 1, 0] rfl)
      · -- not taken at 32
        exact absurd c32 hn9
    · -- not taken at 15
      exact absurd ⟨0, by decide, rfl⟩ c15
set_option maxHeartbeats 4000000 in
set_option maxRecDepth 100000 in
theorem c_X5_tell_nul1 (aS : Nat → Nat) (aE : Nat → Nat) (la : Int32) (aW : Nat → Nat) (n : Nat) (cl : Nat) (th : Nat → Nat) (ki : Nat → Nat) (va : Nat → Nat) (re : Nat → Nat) (fi : Nat → Nat) (aB : Nat → Nat) (bt : Nat → Nat) (bs : Nat) (aC : Nat → Nat) (to : Nat → Prop) (co : Nat → Nat) (ke : Nat → Int32) (nu : Nat → Int32) (fw : Nat → Nat) (aH : Nat → Nat) (lt : Nat → Option Nat) (tr : Nat → Nat) (sh : Nat → Nat) (cr : Nat → Nat) (ct : Nat → Nat) (cu : Nat → Nat) (ve : Nat → Nat) (ta : Nat → Nat) (ch : Nat) (aT : Nat → Nat) (lt2 : Nat → Option Nat) (tr2 : Nat → Nat) (sh2 : Nat → Nat) (cr2 : Nat → Nat) (ct2 : Nat → Nat) (cu2 : Nat → Nat) (ve2 : Nat → Nat) (ta2 : Nat → Nat) (ch2 : Nat) (lo : Nat → Prop) (fo : Nat → Nat) (si : Nat → Nat) (it : Nat → Nat → Int32) (f : Nat) (J : IW n cl th ki va re fi) (S : SW n cl re fi) (B9 : (∀ j, bt j ≤ 255) ∧ bs ≤ 216) (C9 : (∀ j, co j ≤ 400) ∧ (∀ j, fw j ≤ 15)) (H9 : IHd lt tr sh cr ct cu ve ta ch) (U9 : IHd lt2 tr2 sh2 cr2 ct2 cu2 ve2 ta2 ch2) (E9 : (∀ j, fo j ≤ 2) ∧ (∀ j, si j ≤ 60)) (hf9 : f ≤ 400) (hn9 : lo 1) : CM l D (TY cI cZ cS) yX5_tell cX5_tell 6 (some .int) 1 [.ref (aS 0), .int (nI f), .int (nI 1)] ((wS cS aS (aW 0) (aB 0) (aC 0) (aH 0) (aT 0) aE la) ++ ((wW cI aW n cl th ki va re fi) ++ ((wB cI aB bt bs) ++ ((wC cI cZ aC (aW 0) (aB 0) to co ke nu fw) ++ ((wH cI aH (aW 0) lt tr sh cr ct cu ve ta ch) ++ ((wH cI aT (aW 0) lt2 tr2 sh2 cr2 ct2 cu2 ve2 ta2 ch2) ++ (wE cI aE lo fo si it))))))) (some (.int ((-10) - (nI 1)))) ((wS cS aS (aW 0) (aB 0) (aC 0) (aH 0) (aT 0) aE (nI 1)) ++ ((wW cI aW n cl th ki va re fi) ++ ((wB cI aB bt bs) ++ ((wC cI cZ aC (aW 0) (aB 0) to co ke nu fw) ++ ((wH cI aH (aW 0) lt tr sh cr ct cu ve ta ch) ++ ((wH cI aT (aW 0) lt2 tr2 sh2 cr2 ct2 cu2 ve2 ta2 ch2) ++ (wE cI aE lo fo si it))))))) := by
  refine CM.ofI (by decide +kernel) (Nat.le_of_ble_eq_true rfl) (nar_int _) ?_
  intro p e s m args below meth c Q A G K hA w hret ls hl
  obtain ⟨hx, hb, hml, hown, hts⟩ := id G
  obtain ⟨hn, hcl, hth, hki, hva, hre, hfi⟩ := id J
  obtain ⟨hbt, hbs⟩ := id B9
  obtain ⟨hco, hfw⟩ := id C9
  obtain ⟨hlt, htr, hsh, hcr, hct, hcu, hve, hta, hch⟩ := id H9
  obtain ⟨hlt2, htr2, hsh2, hcr2, hct2, hcu2, hve2, hta2, hch2⟩ := id U9
  obtain ⟨hfo, hsi⟩ := id E9
  have hl : lv_has ls 6 [(0, .ref (aS 0)), (1, .int (nI f)), (2, .int (nI 1))] := hl
  refine lv_iload_n hx hb dX5_tell_0 rfl (lv_at hl 1 rfl) ?_
  refine z_lt G (tgt := 18) (by omega) dX5_tell_1 (by decide) ?_
  refine lv_iload_n hx hb dX5_tell_4 rfl (lv_at hl 1 rfl) ?_
  refine lv_sipush (v := (nI 400)) hx hb dX5_tell_5 (by decide) ?_
  refine c_gt G (tgt := 18) (by omega) (by omega) dX5_tell_8 (by decide) (fun c8 => ?_) (fun c8 => ?_)
  · -- taken at 8
    exact absurd c8 (by omega)
  · -- not taken at 8
    refine lv_iload_n hx hb dX5_tell_11 rfl (lv_at hl 2 rfl) ?_
    refine callPS (rest := []) G K F_X5_isSheet (c_X5_isSheet (nI 1)) (va_P_nil D s.heap) ml_X5_121 (by decide) (by decide) rfl hl.1 (Nat.le_of_ble_eq_true rfl) dX5_tell_12 ?_
    refine b_ne G (tgt := 21) dX5_tell_15 (by decide) (fun c15 => ?_) (fun c15 => ?_)
    · -- taken at 15
      refine lv_aload_n hx hb dX5_tell_21 rfl (lv_at hl 0 rfl) ?_
      refine f_get G K w.1 inX5 0 (ci := 5) rfl rfl 5 rfl fl_X5_46 (v := .ref (aS 1)) rfl dX5_tell_22 ?_
      refine lv_iload_n hx hb dX5_tell_25 rfl (lv_at hl 2 rfl) ?_
      refine a_ldR G K w.1 1 2 (a := (aS 1)) rfl rfl (by omega) (by decide) dX5_tell_26 ?_
      refine lv_astore_n (lv' := [(3, .ref (aE 1)), (0, .ref (aS 0)), (1, .int (nI f)), (2, .int (nI 1))]) hx hb dX5_tell_27 rfl hl (by decide) rfl (fun ls hl => ?_)
      refine lv_aload_n hx hb dX5_tell_28 rfl (lv_at hl 0 rfl) ?_
      refine f_get G K w.1 inX3 35 (ci := 3) rfl rfl 1 rfl fl_X5_124 (v := .int (bI (lo 1))) rfl dX5_tell_29 ?_
      refine b_eq G (tgt := 41) dX5_tell_32 (by decide) (fun c32 => ?_) (fun c32 => ?_)
      · -- taken at 32
        exact absurd hn9 c32
      · -- not taken at 32
        refine lv_aload_n hx hb dX5_tell_35 rfl (lv_at hl 1 rfl) ?_
        refine lv_iconst (v := (nI 1)) hx hb dX5_tell_36 (by decide) ?_
        refine callMF (As := [.int (nI 1)]) (rest := []) (q0 := 0) (ci := 5) (ws' := ((wS cS aS (aW 0) (aB 0) (aC 0) (aH 0) (aT 0) aE (nI 1)) ++ ((wW cI aW n cl th ki va re fi) ++ ((wB cI aB bt bs) ++ ((wC cI cZ aC (aW 0) (aB 0) to co ke nu fw) ++ ((wH cI aH (aW 0) lt tr sh cr ct cu ve ta ch) ++ ((wH cI aT (aW 0) lt2 tr2 sh2 cr2 ct2 cu2 ve2 ta2 ch2) ++ (wE cI aE lo fo si it)))))))) G K hA w F_X5_find (c_X5_find aS aE la aW n cl th ki va re fi aB bt bs aC to co ke nu fw aH lt tr sh cr ct cu ve ta ch aT lt2 tr2 sh2 cr2 ct2 cu2 ve2 ta2 ch2 lo fo si it 1 J S B9 C9 H9 U9 E9) ml_X5_128 rfl rfl rfl (by decide) (by decide) rfl hl.1 (Nat.le_of_ble_eq_true rfl) dX5_tell_37 (fun Hp1 lo2 w => ?_)
        exact hret _ _ _ _ _ _ rfl rfl w dX5_tell_40
    · -- not taken at 15
      exact absurd ⟨1, by decide, rfl⟩ c15
set_option maxHeartbeats 4000000 in
set_option maxRecDepth 100000 in
theorem c_X5_tell_ok1 (aS : Nat → Nat) (aE : Nat → Nat) (la : Int32) (aW : Nat → Nat) (n : Nat) (cl : Nat) (th : Nat → Nat) (ki : Nat → Nat) (va : Nat → Nat) (re : Nat → Nat) (fi : Nat → Nat) (aB : Nat → Nat) (bt : Nat → Nat) (bs : Nat) (aC : Nat → Nat) (to : Nat → Prop) (co : Nat → Nat) (ke : Nat → Int32) (nu : Nat → Int32) (fw : Nat → Nat) (aH : Nat → Nat) (lt : Nat → Option Nat) (tr : Nat → Nat) (sh : Nat → Nat) (cr : Nat → Nat) (ct : Nat → Nat) (cu : Nat → Nat) (ve : Nat → Nat) (ta : Nat → Nat) (ch : Nat) (aT : Nat → Nat) (lt2 : Nat → Option Nat) (tr2 : Nat → Nat) (sh2 : Nat → Nat) (cr2 : Nat → Nat) (ct2 : Nat → Nat) (cu2 : Nat → Nat) (ve2 : Nat → Nat) (ta2 : Nat → Nat) (ch2 : Nat) (lo : Nat → Prop) (fo : Nat → Nat) (si : Nat → Nat) (it : Nat → Nat → Int32) (f : Nat) (J : IW n cl th ki va re fi) (S : SW n cl re fi) (B9 : (∀ j, bt j ≤ 255) ∧ bs ≤ 216) (C9 : (∀ j, co j ≤ 400) ∧ (∀ j, fw j ≤ 15)) (H9 : IHd lt tr sh cr ct cu ve ta ch) (U9 : IHd lt2 tr2 sh2 cr2 ct2 cu2 ve2 ta2 ch2) (E9 : (∀ j, fo j ≤ 2) ∧ (∀ j, si j ≤ 60)) (hf9 : f ≤ 400) (hn9 : ¬ lo 1) : CM l D (TY cI cZ cS) yX5_tell cX5_tell 6 (some .int) 1 [.ref (aS 0), .int (nI f), .int (nI 1)] ((wS cS aS (aW 0) (aB 0) (aC 0) (aH 0) (aT 0) aE la) ++ ((wW cI aW n cl th ki va re fi) ++ ((wB cI aB bt bs) ++ ((wC cI cZ aC (aW 0) (aB 0) to co ke nu fw) ++ ((wH cI aH (aW 0) lt tr sh cr ct cu ve ta ch) ++ ((wH cI aT (aW 0) lt2 tr2 sh2 cr2 ct2 cu2 ve2 ta2 ch2) ++ (wE cI aE lo fo si it))))))) (some (.int (nI (min (si 1) (bs - f))))) ((wS cS aS (aW 0) (aB 0) (aC 0) (aH 0) (aT 0) aE la) ++ ((wW cI aW n cl th ki va re fi) ++ ((wB cI aB bt bs) ++ ((wC cI cZ aC (aW 0) (aB 0) to co ke nu fw) ++ ((wH cI aH (aW 0) lt tr sh cr ct cu ve ta ch) ++ ((wH cI aT (aW 0) lt2 tr2 sh2 cr2 ct2 cu2 ve2 ta2 ch2) ++ (wE cI aE lo fo si (va_up it 1 (stI (it 1) 0 (fun uu => cutV (nI (fo 1)) (nI (bt (f + (0 + uu))))) (min (si 1) (bs - f))))))))))) := by
  refine CM.ofI (by decide +kernel) (Nat.le_of_ble_eq_true rfl) (nar_int _) ?_
  intro p e s m args below meth c Q A G K hA w hret ls hl
  obtain ⟨hx, hb, hml, hown, hts⟩ := id G
  obtain ⟨hn, hcl, hth, hki, hva, hre, hfi⟩ := id J
  obtain ⟨hbt, hbs⟩ := id B9
  obtain ⟨hco, hfw⟩ := id C9
  obtain ⟨hlt, htr, hsh, hcr, hct, hcu, hve, hta, hch⟩ := id H9
  obtain ⟨hlt2, htr2, hsh2, hcr2, hct2, hcu2, hve2, hta2, hch2⟩ := id U9
  obtain ⟨hfo, hsi⟩ := id E9
  have hs9 := hsi 1
  have hl : lv_has ls 6 [(0, .ref (aS 0)), (1, .int (nI f)), (2, .int (nI 1))] := hl
  refine lv_iload_n hx hb dX5_tell_0 rfl (lv_at hl 1 rfl) ?_
  refine z_lt G (tgt := 18) (by omega) dX5_tell_1 (by decide) ?_
  refine lv_iload_n hx hb dX5_tell_4 rfl (lv_at hl 1 rfl) ?_
  refine lv_sipush (v := (nI 400)) hx hb dX5_tell_5 (by decide) ?_
  refine c_gt G (tgt := 18) (by omega) (by omega) dX5_tell_8 (by decide) (fun c8 => ?_) (fun c8 => ?_)
  · -- taken at 8
    exact absurd c8 (by omega)
  · -- not taken at 8
    refine lv_iload_n hx hb dX5_tell_11 rfl (lv_at hl 2 rfl) ?_
    refine callPS (rest := []) G K F_X5_isSheet (c_X5_isSheet (nI 1)) (va_P_nil D s.heap) ml_X5_121 (by decide) (by decide) rfl hl.1 (Nat.le_of_ble_eq_true rfl) dX5_tell_12 ?_
    refine b_ne G (tgt := 21) dX5_tell_15 (by decide) (fun c15 => ?_) (fun c15 => ?_)
    · -- taken at 15
      refine lv_aload_n hx hb dX5_tell_21 rfl (lv_at hl 0 rfl) ?_
      refine f_get G K w.1 inX5 0 (ci := 5) rfl rfl 5 rfl fl_X5_46 (v := .ref (aS 1)) rfl dX5_tell_22 ?_
      refine lv_iload_n hx hb dX5_tell_25 rfl (lv_at hl 2 rfl) ?_
      refine a_ldR G K w.1 1 2 (a := (aS 1)) rfl rfl (by omega) (by decide) dX5_tell_26 ?_
      refine lv_astore_n (lv' := [(3, .ref (aE 1)), (0, .ref (aS 0)), (1, .int (nI f)), (2, .int (nI 1))]) hx hb dX5_tell_27 rfl hl (by decide) rfl (fun ls hl => ?_)
      refine lv_aload_n hx hb dX5_tell_28 rfl (lv_at hl 0 rfl) ?_
      refine f_get G K w.1 inX3 35 (ci := 3) rfl rfl 1 rfl fl_X5_124 (v := .int (bI (lo 1))) rfl dX5_tell_29 ?_
      refine b_eq G (tgt := 41) dX5_tell_32 (by decide) (fun c32 => ?_) (fun c32 => ?_)
      · -- taken at 32
        refine lv_aload_n hx hb dX5_tell_41 rfl (lv_at hl 0 rfl) ?_
        refine f_get G K w.1 inX3 35 (ci := 3) rfl rfl 3 rfl fl_X5_131 (v := .int (nI (si 1))) rfl dX5_tell_42 ?_
        refine lv_iconst (v := (nI 0)) hx hb dX5_tell_45 (by decide) ?_
        refine lv_aload_n hx hb dX5_tell_46 rfl (lv_at hl 1 rfl) ?_
        refine f_get G K w.1 inX5 0 (ci := 5) rfl rfl 1 rfl fl_X5_19 (v := .ref (aB 0)) rfl dX5_tell_47 ?_
        refine f_get G K w.1 inX0 8 (ci := 0) rfl rfl 1 rfl fl_X5_156 (v := .int (nI bs)) rfl dX5_tell_50 ?_
        refine lv_iload_n hx hb dX5_tell_53 rfl (lv_at hl 2 rfl) ?_
        refine lv_isub hx hb dX5_tell_54 ?_
        refine va_mmax hx hb (hml.trans hl.1.symm) hown (hts _ ml_X5_259) (hts _ st_J9_max_7cf53) (hts _ in_J9) (hts _ cd_J9_max_7cf53) (Nat.le_of_ble_eq_true rfl) (Nat.le_of_ble_eq_true rfl) (Nat.le_refl 0) (Nat.le_refl 0) dX5_tell_55 ?_
        refine t_i (y := (nI (bs - f))) (tr_sub (by omega) (by omega)) ?_
        refine va_mmin hx hb (hml.trans hl.1.symm) hown (hts _ ml_X5_216) (hts _ st_J9_min_7cf53) (hts _ in_J9) (hts _ cd_J9_min_7cf53) (Nat.le_of_ble_eq_true rfl) (Nat.le_of_ble_eq_true rfl) (Nat.le_refl 0) (Nat.le_refl 0) dX5_tell_58 ?_
        refine t_i (y := nI (min (si 1) (bs - f))) (m_min (by omega) (by omega)) ?_
        refine lv_istore (lv' := [(4, .int (nI (min (si 1) (bs - f)))), (3, .ref (aE 1)), (0, .ref (aS 0)), (1, .int (nI f)), (2, .int (nI 1))]) hx hb dX5_tell_61 hl (by decide) rfl (fun ls hl => ?_)
        refine lv_iconst (v := (nI 0)) hx hb dX5_tell_63 (by decide) ?_
        refine lv_istore (lv' := [(5, .int (nI 0)), (4, .int (nI (min (si 1) (bs - f)))), (3, .ref (aE 1)), (0, .ref (aS 0)), (1, .int (nI f)), (2, .int (nI 1))]) hx hb dX5_tell_64 hl (by decide) rfl (fun ls hl => ?_)
        have L66 : ∀ (d u : Nat), 0 ≤ u → u + d = min (si 1) (bs - f) → ∀ (H : Heap) (locs : List Loc), WW D A s.heap ((wS cS aS (aW 0) (aB 0) (aC 0) (aH 0) (aT 0) aE la) ++ ((wW cI aW n cl th ki va re fi) ++ ((wB cI aB bt bs) ++ ((wC cI cZ aC (aW 0) (aB 0) to co ke nu fw) ++ ((wH cI aH (aW 0) lt tr sh cr ct cu ve ta ch) ++ ((wH cI aT (aW 0) lt2 tr2 sh2 cr2 ct2 cu2 ve2 ta2 ch2) ++ (wE cI aE lo fo si (va_up it 1 (stI (it 1) 0 (fun uu => cutV (nI (fo 1)) (nI (bt (f + (0 + uu))))) u))))))))) H locs → ∀ (ls : Array Slot), lv_has ls 6 [(0, .ref (aS 0)), (1, .int (nI f)), (2, .int (nI 1)), (3, .ref (aE 1)), (4, .int (nI (min (si 1) (bs - f)))), (5, .int (nI (0 + u)))] → W p l e (RM 1) s m args below meth c H locs 0 0 Q (F0 m 66 ls []) := by
          intro d
          induction d with
          | zero =>
            intro u hlo66 hhi66 H locs w ls hl
            refine lv_iload hx hb dX5_tell_66 (lv_at hl 5 rfl) ?_
            refine lv_iload hx hb dX5_tell_68 (lv_at hl 4 rfl) ?_
            refine c_ge G (tgt := 97) (by omega) (by omega) dX5_tell_70 (by decide) (fun c70 => ?_) (fun c70 => ?_)
            · -- taken at 70
              refine lv_iload hx hb dX5_tell_97 (lv_at hl 4 rfl) ?_
              exact hret _ _ _ _ _ _ rfl (by rw [show u = min (si 1) (bs - f) by omega]) w dX5_tell_99
            · -- not taken at 70
              exact absurd c70 (by omega)
          | succ d ih =>
            intro u hlo66 hhi66 H locs w ls hl
            refine lv_iload hx hb dX5_tell_66 (lv_at hl 5 rfl) ?_
            refine lv_iload hx hb dX5_tell_68 (lv_at hl 4 rfl) ?_
            refine c_ge G (tgt := 97) (by omega) (by omega) dX5_tell_70 (by decide) (fun c70 => ?_) (fun c70 => ?_)
            · -- taken at 70
              exact absurd c70 (by omega)
            · -- not taken at 70
              refine lv_aload_n hx hb dX5_tell_73 rfl (lv_at hl 3 rfl) ?_
              refine lv_iload hx hb dX5_tell_74 (lv_at hl 5 rfl) ?_
              refine lv_aload_n hx hb dX5_tell_76 rfl (lv_at hl 0 rfl) ?_
              refine f_get G K w.1 inX5 0 (ci := 5) rfl rfl 1 rfl fl_X5_19 (v := .ref (aB 0)) rfl dX5_tell_77 ?_
              refine f_get G K w.1 inX0 8 (ci := 0) rfl rfl 0 rfl fl_X5_158 (v := .ref (aB 1)) rfl dX5_tell_80 ?_
              refine lv_iload_n hx hb dX5_tell_83 rfl (lv_at hl 1 rfl) ?_
              refine lv_iload hx hb dX5_tell_84 (lv_at hl 5 rfl) ?_
              refine t_add G dX5_tell_86 ?_
              refine a_ldN G K w.1 9 0 (a := (aB 1)) rfl rfl (by omega) (by decide) dX5_tell_87 ?_
              have hb1 := hbt (f + (0 + u))
              refine callMV (As := [.int (nI (0 + u)), .int (nI (bt (f + (0 + u))))]) (rest := []) (q0 := 0) (ci := 3) (wr := ((wS cS aS (aW 0) (aB 0) (aC 0) (aH 0) (aT 0) aE la) ++ ((wW cI aW n cl th ki va re fi) ++ ((wB cI aB bt bs) ++ ((wC cI cZ aC (aW 0) (aB 0) to co ke nu fw) ++ ((wH cI aH (aW 0) lt tr sh cr ct cu ve ta ch) ++ ((wH cI aT (aW 0) lt2 tr2 sh2 cr2 ct2 cu2 ve2 ta2 ch2) ++ ([(aE 0, .inr (3, [.ref (aE 4), .int (bI (lo 0)), .int (nI (fo 0)), .int (nI (si 0))])), (aE 2, .inr (3, [.ref (aE 6), .int (bI (lo 2)), .int (nI (fo 2)), .int (nI (si 2))])), (aE 3, .inr (3, [.ref (aE 7), .int (bI (lo 3)), .int (nI (fo 3)), .int (nI (si 3))])), (aE 4, .inl (cI, 60, .inl ((va_up it 1 (stI (it 1) 0 (fun uu => cutV (nI (fo 1)) (nI (bt (f + (0 + uu))))) u)) 0))), (aE 6, .inl (cI, 60, .inl ((va_up it 1 (stI (it 1) 0 (fun uu => cutV (nI (fo 1)) (nI (bt (f + (0 + uu))))) u)) 2))), (aE 7, .inl (cI, 60, .inl ((va_up it 1 (stI (it 1) 0 (fun uu => cutV (nI (fo 1)) (nI (bt (f + (0 + uu))))) u)) 3)))] : va_W)))))))) (ws2 := ((wS cS aS (aW 0) (aB 0) (aC 0) (aH 0) (aT 0) aE la) ++ ((wW cI aW n cl th ki va re fi) ++ ((wB cI aB bt bs) ++ ((wC cI cZ aC (aW 0) (aB 0) to co ke nu fw) ++ ((wH cI aH (aW 0) lt tr sh cr ct cu ve ta ch) ++ ((wH cI aT (aW 0) lt2 tr2 sh2 cr2 ct2 cu2 ve2 ta2 ch2) ++ (wE cI aE lo fo si (va_up (va_up it 1 (stI (it 1) 0 (fun uu => cutV (nI (fo 1)) (nI (bt (f + (0 + uu))))) u)) 1 (va_up ((va_up it 1 (stI (it 1) 0 (fun uu => cutV (nI (fo 1)) (nI (bt (f + (0 + uu))))) u)) 1) (0 + u) (cutV (nI (fo 1)) (nI (bt (f + (0 + u))))))))))))))) G K hA w F_X3_layItem (c_X3_layItem (aE 1) (aE 5) (lo 1) (fo 1) (si 1) ((va_up it 1 (stI (it 1) 0 (fun uu => cutV (nI (fo 1)) (nI (bt (f + (0 + uu))))) u)) 1) (0 + u) (nI (bt (f + (0 + u)))) ⟨hfo 1, hsi 1⟩ (by omega)) ml_X5_244 [35, 39] [0, 1, 2, 3, 4, 5, 6, 7, 8, 9, 10, 11, 12, 13, 14, 15, 16, 17, 18, 19, 20, 21, 22, 23, 24, 25, 26, 27, 28, 29, 30, 31, 32, 33, 34, 36, 37, 38, 40, 41] [0, 1, 2, 3, 4, 5, 6, 7, 8, 9, 10, 11, 12, 13, 14, 15, 16, 17, 18, 19, 20, 21, 22, 23, 24, 25, 26, 27, 28, 29, 30, 31, 32, 33, 34, 40, 35, 36, 37, 41, 38, 39] rfl rfl rfl rfl rfl rfl rfl rfl rfl rfl (by decide) (by decide) rfl hl.1 (Nat.le_of_ble_eq_true rfl) dX5_tell_88 (fun Hp2 lo3 w => ?_)
              have w : WW D A s.heap ((wS cS aS (aW 0) (aB 0) (aC 0) (aH 0) (aT 0) aE la) ++ ((wW cI aW n cl th ki va re fi) ++ ((wB cI aB bt bs) ++ ((wC cI cZ aC (aW 0) (aB 0) to co ke nu fw) ++ ((wH cI aH (aW 0) lt tr sh cr ct cu ve ta ch) ++ ((wH cI aT (aW 0) lt2 tr2 sh2 cr2 ct2 cu2 ve2 ta2 ch2) ++ (wE cI aE lo fo si (va_up it 1 (stI (it 1) 0 (fun uu => cutV (nI (fo 1)) (nI (bt (f + (0 + uu))))) (u + 1)))))))))) Hp2 lo3 := by
                rw [bx_uu, va_up_self] at w; exact w
              refine lv_iinc (v := (nI (0 + u + 1))) (lv' := [(5, .int (nI (0 + u + 1))), (0, .ref (aS 0)), (1, .int (nI f)), (2, .int (nI 1)), (3, .ref (aE 1)), (4, .int (nI (min (si 1) (bs - f))))]) hx hb dX5_tell_91 hl (k := 5) rfl (nI_inc _ 1) (by decide) rfl (fun ls hl => ?_)
              refine lv_goto (tgt := 66) hx hb dX5_tell_94 (by decide) ?_
              -- slot 5: have n:0 + u + 1, want n:0 + (u + 1)
              exact ih (u + 1) (by omega) (by omega) Hp2 lo3 w ls (lv_sub hl [1, 2, 3, 4, 5, 0] rfl)
        exact L66 (min (si 1) (bs - f) - 0) (0) (Nat.le_refl _) (by omega) s.heap [] (by rw [show va_up it 1 (stI (it 1) 0 (fun uu => cutV (nI (fo 1)) (nI (bt (f + (0 + uu))))) 0) = it from up_id it 1]; exact w) ls (lv_sub hl [3, 4, 5, 2, 1, 0] rfl)
      · -- not taken at 32
        exact absurd c32 hn9
    · -- not taken at 15
      exact absurd ⟨1, by decide, rfl⟩ c15
set_option maxHeartbeats 4000000 in
set_option maxRecDepth 100000 in
theorem c_X5_tell_nul2 (aS : Nat → Nat) (aE : Nat → Nat) (la : Int32) (aW : Nat → Nat) (n : Nat) (cl : Nat) (th : Nat → Nat) (ki : Nat → Nat) (va : Nat → Nat) (re : Nat → Nat) (fi : Nat → Nat) (aB : Nat → Nat) (bt : Nat → Nat) (bs : Nat) (aC : Nat → Nat) (to : Nat → Prop) (co : Nat → Nat) (ke : Nat → Int32) (nu : Nat → Int32) (fw : Nat → Nat) (aH : Nat → Nat) (lt : Nat → Option Nat) (tr : Nat → Nat) (sh : Nat → Nat) (cr : Nat → Nat) (ct : Nat → Nat) (cu : Nat → Nat) (ve : Nat → Nat) (ta : Nat → Nat) (ch : Nat) (aT : Nat → Nat) (lt2 : Nat → Option Nat) (tr2 : Nat → Nat) (sh2 : Nat → Nat) (cr2 : Nat → Nat) (ct2 : Nat → Nat) (cu2 : Nat → Nat) (ve2 : Nat → Nat) (ta2 : Nat → Nat) (ch2 : Nat) (lo : Nat → Prop) (fo : Nat → Nat) (si : Nat → Nat) (it : Nat → Nat → Int32) (f : Nat) (J : IW n cl th ki va re fi) (S : SW n cl re fi) (B9 : (∀ j, bt j ≤ 255) ∧ bs ≤ 216) (C9 : (∀ j, co j ≤ 400) ∧ (∀ j, fw j ≤ 15)) (H9 : IHd lt tr sh cr ct cu ve ta ch) (U9 : IHd lt2 tr2 sh2 cr2 ct2 cu2 ve2 ta2 ch2) (E9 : (∀ j, fo j ≤ 2) ∧ (∀ j, si j ≤ 60)) (hf9 : f ≤ 400) (hn9 : lo 2) : CM l D (TY cI cZ cS) yX5_tell cX5_tell 6 (some .int) 1 [.ref (aS 0), .int (nI f), .int (nI 2)] ((wS cS aS (aW 0) (aB 0) (aC 0) (aH 0) (aT 0) aE la) ++ ((wW cI aW n cl th ki va re fi) ++ ((wB cI aB bt bs) ++ ((wC cI cZ aC (aW 0) (aB 0) to co ke nu fw) ++ ((wH cI aH (aW 0) lt tr sh cr ct cu ve ta ch) ++ ((wH cI aT (aW 0) lt2 tr2 sh2 cr2 ct2 cu2 ve2 ta2 ch2) ++ (wE cI aE lo fo si it))))))) (some (.int ((-10) - (nI 1)))) ((wS cS aS (aW 0) (aB 0) (aC 0) (aH 0) (aT 0) aE (nI 1)) ++ ((wW cI aW n cl th ki va re fi) ++ ((wB cI aB bt bs) ++ ((wC cI cZ aC (aW 0) (aB 0) to co ke nu fw) ++ ((wH cI aH (aW 0) lt tr sh cr ct cu ve ta ch) ++ ((wH cI aT (aW 0) lt2 tr2 sh2 cr2 ct2 cu2 ve2 ta2 ch2) ++ (wE cI aE lo fo si it))))))) := by
  refine CM.ofI (by decide +kernel) (Nat.le_of_ble_eq_true rfl) (nar_int _) ?_
  intro p e s m args below meth c Q A G K hA w hret ls hl
  obtain ⟨hx, hb, hml, hown, hts⟩ := id G
  obtain ⟨hn, hcl, hth, hki, hva, hre, hfi⟩ := id J
  obtain ⟨hbt, hbs⟩ := id B9
  obtain ⟨hco, hfw⟩ := id C9
  obtain ⟨hlt, htr, hsh, hcr, hct, hcu, hve, hta, hch⟩ := id H9
  obtain ⟨hlt2, htr2, hsh2, hcr2, hct2, hcu2, hve2, hta2, hch2⟩ := id U9
  obtain ⟨hfo, hsi⟩ := id E9
  have hl : lv_has ls 6 [(0, .ref (aS 0)), (1, .int (nI f)), (2, .int (nI 2))] := hl
  refine lv_iload_n hx hb dX5_tell_0 rfl (lv_at hl 1 rfl) ?_
  refine z_lt G (tgt := 18) (by omega) dX5_tell_1 (by decide) ?_
  refine lv_iload_n hx hb dX5_tell_4 rfl (lv_at hl 1 rfl) ?_
  refine lv_sipush (v := (nI 400)) hx hb dX5_tell_5 (by decide) ?_
  refine c_gt G (tgt := 18) (by omega) (by omega) dX5_tell_8 (by decide) (fun c8 => ?_) (fun c8 => ?_)
  · -- taken at 8
    exact absurd c8 (by omega)
  · -- not taken at 8
    refine lv_iload_n hx hb dX5_tell_11 rfl (lv_at hl 2 rfl) ?_
    refine callPS (rest := []) G K F_X5_isSheet (c_X5_isSheet (nI 2)) (va_P_nil D s.heap) ml_X5_121 (by decide) (by decide) rfl hl.1 (Nat.le_of_ble_eq_true rfl) dX5_tell_12 ?_
    refine b_ne G (tgt := 21) dX5_tell_15 (by decide) (fun c15 => ?_) (fun c15 => ?_)
    · -- taken at 15
      refine lv_aload_n hx hb dX5_tell_21 rfl (lv_at hl 0 rfl) ?_
      refine f_get G K w.1 inX5 0 (ci := 5) rfl rfl 5 rfl fl_X5_46 (v := .ref (aS 1)) rfl dX5_tell_22 ?_
      refine lv_iload_n hx hb dX5_tell_25 rfl (lv_at hl 2 rfl) ?_
      refine a_ldR G K w.1 1 2 (a := (aS 1)) rfl rfl (by omega) (by decide) dX5_tell_26 ?_
      refine lv_astore_n (lv' := [(3, .ref (aE 2)), (0, .ref (aS 0)), (1, .int (nI f)), (2, .int (nI 2))]) hx hb dX5_tell_27 rfl hl (by decide) rfl (fun ls hl => ?_)
      refine lv_aload_n hx hb dX5_tell_28 rfl (lv_at hl 0 rfl) ?_
      refine f_get G K w.1 inX3 36 (ci := 3) rfl rfl 1 rfl fl_X5_124 (v := .int (bI (lo 2))) rfl dX5_tell_29 ?_
      refine b_eq G (tgt := 41) dX5_tell_32 (by decide) (fun c32 => ?_) (fun c32 => ?_)
      · -- taken at 32
        exact absurd hn9 c32
      · -- not taken at 32
        refine lv_aload_n hx hb dX5_tell_35 rfl (lv_at hl 1 rfl) ?_
        refine lv_iconst (v := (nI 1)) hx hb dX5_tell_36 (by decide) ?_
        refine callMF (As := [.int (nI 1)]) (rest := []) (q0 := 0) (ci := 5) (ws' := ((wS cS aS (aW 0) (aB 0) (aC 0) (aH 0) (aT 0) aE (nI 1)) ++ ((wW cI aW n cl th ki va re fi) ++ ((wB cI aB bt bs) ++ ((wC cI cZ aC (aW 0) (aB 0) to co ke nu fw) ++ ((wH cI aH (aW 0) lt tr sh cr ct cu ve ta ch) ++ ((wH cI aT (aW 0) lt2 tr2 sh2 cr2 ct2 cu2 ve2 ta2 ch2) ++ (wE cI aE lo fo si it)))))))) G K hA w F_X5_find (c_X5_find aS aE la aW n cl th ki va re fi aB bt bs aC to co ke nu fw aH lt tr sh cr ct cu ve ta ch aT lt2 tr2 sh2 cr2 ct2 cu2 ve2 ta2 ch2 lo fo si it 1 J S B9 C9 H9 U9 E9) ml_X5_128 rfl rfl rfl (by decide) (by decide) rfl hl.1 (Nat.le_of_ble_eq_true rfl) dX5_tell_37 (fun Hp1 lo2 w => ?_)
        exact hret _ _ _ _ _ _ rfl rfl w dX5_tell_40
    · -- not taken at 15
      exact absurd ⟨2, by decide, rfl⟩ c15
set_option maxHeartbeats 4000000 in
set_option maxRecDepth 100000 in
theorem c_X5_tell_ok2 (aS : Nat → Nat) (aE : Nat → Nat) (la : Int32) (aW : Nat → Nat) (n : Nat) (cl : Nat) (th : Nat → Nat) (ki : Nat → Nat) (va : Nat → Nat) (re : Nat → Nat) (fi : Nat → Nat) (aB : Nat → Nat) (bt : Nat → Nat) (bs : Nat) (aC : Nat → Nat) (to : Nat → Prop) (co : Nat → Nat) (ke : Nat → Int32) (nu : Nat → Int32) (fw : Nat → Nat) (aH : Nat → Nat) (lt : Nat → Option Nat) (tr : Nat → Nat) (sh : Nat → Nat) (cr : Nat → Nat) (ct : Nat → Nat) (cu : Nat → Nat) (ve : Nat → Nat) (ta : Nat → Nat) (ch : Nat) (aT : Nat → Nat) (lt2 : Nat → Option Nat) (tr2 : Nat → Nat) (sh2 : Nat → Nat) (cr2 : Nat → Nat) (ct2 : Nat → Nat) (cu2 : Nat → Nat) (ve2 : Nat → Nat) (ta2 : Nat → Nat) (ch2 : Nat) (lo : Nat → Prop) (fo : Nat → Nat) (si : Nat → Nat) (it : Nat → Nat → Int32) (f : Nat) (J : IW n cl th ki va re fi) (S : SW n cl re fi) (B9 : (∀ j, bt j ≤ 255) ∧ bs ≤ 216) (C9 : (∀ j, co j ≤ 400) ∧ (∀ j, fw j ≤ 15)) (H9 : IHd lt tr sh cr ct cu ve ta ch) (U9 : IHd lt2 tr2 sh2 cr2 ct2 cu2 ve2 ta2 ch2) (E9 : (∀ j, fo j ≤ 2) ∧ (∀ j, si j ≤ 60)) (hf9 : f ≤ 400) (hn9 : ¬ lo 2) : CM l D (TY cI cZ cS) yX5_tell cX5_tell 6 (some .int) 1 [.ref (aS 0), .int (nI f), .int (nI 2)] ((wS cS aS (aW 0) (aB 0) (aC 0) (aH 0) (aT 0) aE la) ++ ((wW cI aW n cl th ki va re fi) ++ ((wB cI aB bt bs) ++ ((wC cI cZ aC (aW 0) (aB 0) to co ke nu fw) ++ ((wH cI aH (aW 0) lt tr sh cr ct cu ve ta ch) ++ ((wH cI aT (aW 0) lt2 tr2 sh2 cr2 ct2 cu2 ve2 ta2 ch2) ++ (wE cI aE lo fo si it))))))) (some (.int (nI (min (si 2) (bs - f))))) ((wS cS aS (aW 0) (aB 0) (aC 0) (aH 0) (aT 0) aE la) ++ ((wW cI aW n cl th ki va re fi) ++ ((wB cI aB bt bs) ++ ((wC cI cZ aC (aW 0) (aB 0) to co ke nu fw) ++ ((wH cI aH (aW 0) lt tr sh cr ct cu ve ta ch) ++ ((wH cI aT (aW 0) lt2 tr2 sh2 cr2 ct2 cu2 ve2 ta2 ch2) ++ (wE cI aE lo fo si (va_up it 2 (stI (it 2) 0 (fun uu => cutV (nI (fo 2)) (nI (bt (f + (0 + uu))))) (min (si 2) (bs - f))))))))))) := by
  refine CM.ofI (by decide +kernel) (Nat.le_of_ble_eq_true rfl) (nar_int _) ?_
  intro p e s m args below meth c Q A G K hA w hret ls hl
  obtain ⟨hx, hb, hml, hown, hts⟩ := id G
  obtain ⟨hn, hcl, hth, hki, hva, hre, hfi⟩ := id J
  obtain ⟨hbt, hbs⟩ := id B9
  obtain ⟨hco, hfw⟩ := id C9
  obtain ⟨hlt, htr, hsh, hcr, hct, hcu, hve, hta, hch⟩ := id H9
  obtain ⟨hlt2, htr2, hsh2, hcr2, hct2, hcu2, hve2, hta2, hch2⟩ := id U9
  obtain ⟨hfo, hsi⟩ := id E9
  have hs9 := hsi 2
  have hl : lv_has ls 6 [(0, .ref (aS 0)), (1, .int (nI f)), (2, .int (nI 2))] := hl
  refine lv_iload_n hx hb dX5_tell_0 rfl (lv_at hl 1 rfl) ?_
  refine z_lt G (tgt := 18) (by omega) dX5_tell_1 (by decide) ?_
  refine lv_iload_n hx hb dX5_tell_4 rfl (lv_at hl 1 rfl) ?_
  refine lv_sipush (v := (nI 400)) hx hb dX5_tell_5 (by decide) ?_
  refine c_gt G (tgt := 18) (by omega) (by omega) dX5_tell_8 (by decide) (fun c8 => ?_) (fun c8 => ?_)
  · -- taken at 8
    exact absurd c8 (by omega)
  · -- not taken at 8
    refine lv_iload_n hx hb dX5_tell_11 rfl (lv_at hl 2 rfl) ?_
    refine callPS (rest := []) G K F_X5_isSheet (c_X5_isSheet (nI 2)) (va_P_nil D s.heap) ml_X5_121 (by decide) (by decide) rfl hl.1 (Nat.le_of_ble_eq_true rfl) dX5_tell_12 ?_
    refine b_ne G (tgt := 21) dX5_tell_15 (by decide) (fun c15 => ?_) (fun c15 => ?_)
    · -- taken at 15
      refine lv_aload_n hx hb dX5_tell_21 rfl (lv_at hl 0 rfl) ?_
      refine f_get G K w.1 inX5 0 (ci := 5) rfl rfl 5 rfl fl_X5_46 (v := .ref (aS 1)) rfl dX5_tell_22 ?_
      refine lv_iload_n hx hb dX5_tell_25 rfl (lv_at hl 2 rfl) ?_
      refine a_ldR G K w.1 1 2 (a := (aS 1)) rfl rfl (by omega) (by decide) dX5_tell_26 ?_
      refine lv_astore_n (lv' := [(3, .ref (aE 2)), (0, .ref (aS 0)), (1, .int (nI f)), (2, .int (nI 2))]) hx hb dX5_tell_27 rfl hl (by decide) rfl (fun ls hl => ?_)
      refine lv_aload_n hx hb dX5_tell_28 rfl (lv_at hl 0 rfl) ?_
      refine f_get G K w.1 inX3 36 (ci := 3) rfl rfl 1 rfl fl_X5_124 (v := .int (bI (lo 2))) rfl dX5_tell_29 ?_
      refine b_eq G (tgt := 41) dX5_tell_32 (by decide) (fun c32 => ?_) (fun c32 => ?_)
      · -- taken at 32
        refine lv_aload_n hx hb dX5_tell_41 rfl (lv_at hl 0 rfl) ?_
        refine f_get G K w.1 inX3 36 (ci := 3) rfl rfl 3 rfl fl_X5_131 (v := .int (nI (si 2))) rfl dX5_tell_42 ?_
        refine lv_iconst (v := (nI 0)) hx hb dX5_tell_45 (by decide) ?_
        refine lv_aload_n hx hb dX5_tell_46 rfl (lv_at hl 1 rfl) ?_
        refine f_get G K w.1 inX5 0 (ci := 5) rfl rfl 1 rfl fl_X5_19 (v := .ref (aB 0)) rfl dX5_tell_47 ?_
        refine f_get G K w.1 inX0 8 (ci := 0) rfl rfl 1 rfl fl_X5_156 (v := .int (nI bs)) rfl dX5_tell_50 ?_
        refine lv_iload_n hx hb dX5_tell_53 rfl (lv_at hl 2 rfl) ?_
        refine lv_isub hx hb dX5_tell_54 ?_
        refine va_mmax hx hb (hml.trans hl.1.symm) hown (hts _ ml_X5_259) (hts _ st_J9_max_7cf53) (hts _ in_J9) (hts _ cd_J9_max_7cf53) (Nat.le_of_ble_eq_true rfl) (Nat.le_of_ble_eq_true rfl) (Nat.le_refl 0) (Nat.le_refl 0) dX5_tell_55 ?_
        refine t_i (y := (nI (bs - f))) (tr_sub (by omega) (by omega)) ?_
        refine va_mmin hx hb (hml.trans hl.1.symm) hown (hts _ ml_X5_216) (hts _ st_J9_min_7cf53) (hts _ in_J9) (hts _ cd_J9_min_7cf53) (Nat.le_of_ble_eq_true rfl) (Nat.le_of_ble_eq_true rfl) (Nat.le_refl 0) (Nat.le_refl 0) dX5_tell_58 ?_
        refine t_i (y := nI (min (si 2) (bs - f))) (m_min (by omega) (by omega)) ?_
        refine lv_istore (lv' := [(4, .int (nI (min (si 2) (bs - f)))), (3, .ref (aE 2)), (0, .ref (aS 0)), (1, .int (nI f)), (2, .int (nI 2))]) hx hb dX5_tell_61 hl (by decide) rfl (fun ls hl => ?_)
        refine lv_iconst (v := (nI 0)) hx hb dX5_tell_63 (by decide) ?_
        refine lv_istore (lv' := [(5, .int (nI 0)), (4, .int (nI (min (si 2) (bs - f)))), (3, .ref (aE 2)), (0, .ref (aS 0)), (1, .int (nI f)), (2, .int (nI 2))]) hx hb dX5_tell_64 hl (by decide) rfl (fun ls hl => ?_)
        have L66 : ∀ (d u : Nat), 0 ≤ u → u + d = min (si 2) (bs - f) → ∀ (H : Heap) (locs : List Loc), WW D A s.heap ((wS cS aS (aW 0) (aB 0) (aC 0) (aH 0) (aT 0) aE la) ++ ((wW cI aW n cl th ki va re fi) ++ ((wB cI aB bt bs) ++ ((wC cI cZ aC (aW 0) (aB 0) to co ke nu fw) ++ ((wH cI aH (aW 0) lt tr sh cr ct cu ve ta ch) ++ ((wH cI aT (aW 0) lt2 tr2 sh2 cr2 ct2 cu2 ve2 ta2 ch2) ++ (wE cI aE lo fo si (va_up it 2 (stI (it 2) 0 (fun uu => cutV (nI (fo 2)) (nI (bt (f + (0 + uu))))) u))))))))) H locs → ∀ (ls : Array Slot), lv_has ls 6 [(0, .ref (aS 0)), (1, .int (nI f)), (2, .int (nI 2)), (3, .ref (aE 2)), (4, .int (nI (min (si 2) (bs - f)))), (5, .int (nI (0 + u)))] → W p l e (RM 1) s m args below meth c H locs 0 0 Q (F0 m 66 ls []) := by
          intro d
          induction d with
          | zero =>
            intro u hlo66 hhi66 H locs w ls hl
            refine lv_iload hx hb dX5_tell_66 (lv_at hl 5 rfl) ?_
            refine lv_iload hx hb dX5_tell_68 (lv_at hl 4 rfl) ?_
            refine c_ge G (tgt := 97) (by omega) (by omega) dX5_tell_70 (by decide) (fun c70 => ?_) (fun c70 => ?_)
            · -- taken at 70
              refine lv_iload hx hb dX5_tell_97 (lv_at hl 4 rfl) ?_
              exact hret _ _ _ _ _ _ rfl (by rw [show u = min (si 2) (bs - f) by omega]) w dX5_tell_99
            · -- not taken at 70
              exact absurd c70 (by omega)
          | succ d ih =>
            intro u hlo66 hhi66 H locs w ls hl
            refine lv_iload hx hb dX5_tell_66 (lv_at hl 5 rfl) ?_
            refine lv_iload hx hb dX5_tell_68 (lv_at hl 4 rfl) ?_
            refine c_ge G (tgt := 97) (by omega) (by omega) dX5_tell_70 (by decide) (fun c70 => ?_) (fun c70 => ?_)
            · -- taken at 70
              exact absurd c70 (by omega)
            · -- not taken at 70
              refine lv_aload_n hx hb dX5_tell_73 rfl (lv_at hl 3 rfl) ?_
              refine lv_iload hx hb dX5_tell_74 (lv_at hl 5 rfl) ?_
              refine lv_aload_n hx hb dX5_tell_76 rfl (lv_at hl 0 rfl) ?_
              refine f_get G K w.1 inX5 0 (ci := 5) rfl rfl 1 rfl fl_X5_19 (v := .ref (aB 0)) rfl dX5_tell_77 ?_
              refine f_get G K w.1 inX0 8 (ci := 0) rfl rfl 0 rfl fl_X5_158 (v := .ref (aB 1)) rfl dX5_tell_80 ?_
              refine lv_iload_n hx hb dX5_tell_83 rfl (lv_at hl 1 rfl) ?_
              refine lv_iload hx hb dX5_tell_84 (lv_at hl 5 rfl) ?_
              refine t_add G dX5_tell_86 ?_
              refine a_ldN G K w.1 9 0 (a := (aB 1)) rfl rfl (by omega) (by decide) dX5_tell_87 ?_
              have hb1 := hbt (f + (0 + u))
              refine callMV (As := [.int (nI (0 + u)), .int (nI (bt (f + (0 + u))))]) (rest := []) (q0 := 0) (ci := 3) (wr := ((wS cS aS (aW 0) (aB 0) (aC 0) (aH 0) (aT 0) aE la) ++ ((wW cI aW n cl th ki va re fi) ++ ((wB cI aB bt bs) ++ ((wC cI cZ aC (aW 0) (aB 0) to co ke nu fw) ++ ((wH cI aH (aW 0) lt tr sh cr ct cu ve ta ch) ++ ((wH cI aT (aW 0) lt2 tr2 sh2 cr2 ct2 cu2 ve2 ta2 ch2) ++ ([(aE 0, .inr (3, [.ref (aE 4), .int (bI (lo 0)), .int (nI (fo 0)), .int (nI (si 0))])), (aE 1, .inr (3, [.ref (aE 5), .int (bI (lo 1)), .int (nI (fo 1)), .int (nI (si 1))])), (aE 3, .inr (3, [.ref (aE 7), .int (bI (lo 3)), .int (nI (fo 3)), .int (nI (si 3))])), (aE 4, .inl (cI, 60, .inl ((va_up it 2 (stI (it 2) 0 (fun uu => cutV (nI (fo 2)) (nI (bt (f + (0 + uu))))) u)) 0))), (aE 5, .inl (cI, 60, .inl ((va_up it 2 (stI (it 2) 0 (fun uu => cutV (nI (fo 2)) (nI (bt (f + (0 + uu))))) u)) 1))), (aE 7, .inl (cI, 60, .inl ((va_up it 2 (stI (it 2) 0 (fun uu => cutV (nI (fo 2)) (nI (bt (f + (0 + uu))))) u)) 3)))] : va_W)))))))) (ws2 := ((wS cS aS (aW 0) (aB 0) (aC 0) (aH 0) (aT 0) aE la) ++ ((wW cI aW n cl th ki va re fi) ++ ((wB cI aB bt bs) ++ ((wC cI cZ aC (aW 0) (aB 0) to co ke nu fw) ++ ((wH cI aH (aW 0) lt tr sh cr ct cu ve ta ch) ++ ((wH cI aT (aW 0) lt2 tr2 sh2 cr2 ct2 cu2 ve2 ta2 ch2) ++ (wE cI aE lo fo si (va_up (va_up it 2 (stI (it 2) 0 (fun uu => cutV (nI (fo 2)) (nI (bt (f + (0 + uu))))) u)) 2 (va_up ((va_up it 2 (stI (it 2) 0 (fun uu => cutV (nI (fo 2)) (nI (bt (f + (0 + uu))))) u)) 2) (0 + u) (cutV (nI (fo 2)) (nI (bt (f + (0 + u))))))))))))))) G K hA w F_X3_layItem (c_X3_layItem (aE 2) (aE 6) (lo 2) (fo 2) (si 2) ((va_up it 2 (stI (it 2) 0 (fun uu => cutV (nI (fo 2)) (nI (bt (f + (0 + uu))))) u)) 2) (0 + u) (nI (bt (f + (0 + u)))) ⟨hfo 2, hsi 2⟩ (by omega)) ml_X5_244 [36, 40] [0, 1, 2, 3, 4, 5, 6, 7, 8, 9, 10, 11, 12, 13, 14, 15, 16, 17, 18, 19, 20, 21, 22, 23, 24, 25, 26, 27, 28, 29, 30, 31, 32, 33, 34, 35, 37, 38, 39, 41] [0, 1, 2, 3, 4, 5, 6, 7, 8, 9, 10, 11, 12, 13, 14, 15, 16, 17, 18, 19, 20, 21, 22, 23, 24, 25, 26, 27, 28, 29, 30, 31, 32, 33, 34, 35, 40, 36, 37, 38, 41, 39] rfl rfl rfl rfl rfl rfl rfl rfl rfl rfl (by decide) (by decide) rfl hl.1 (Nat.le_of_ble_eq_true rfl) dX5_tell_88 (fun Hp2 lo3 w => ?_)
              have w : WW D A s.heap ((wS cS aS (aW 0) (aB 0) (aC 0) (aH 0) (aT 0) aE la) ++ ((wW cI aW n cl th ki va re fi) ++ ((wB cI aB bt bs) ++ ((wC cI cZ aC (aW 0) (aB 0) to co ke nu fw) ++ ((wH cI aH (aW 0) lt tr sh cr ct cu ve ta ch) ++ ((wH cI aT (aW 0) lt2 tr2 sh2 cr2 ct2 cu2 ve2 ta2 ch2) ++ (wE cI aE lo fo si (va_up it 2 (stI (it 2) 0 (fun uu => cutV (nI (fo 2)) (nI (bt (f + (0 + uu))))) (u + 1)))))))))) Hp2 lo3 := by
                rw [bx_uu, va_up_self] at w; exact w
              refine lv_iinc (v := (nI (0 + u + 1))) (lv' := [(5, .int (nI (0 + u + 1))), (0, .ref (aS 0)), (1, .int (nI f)), (2, .int (nI 2)), (3, .ref (aE 2)), (4, .int (nI (min (si 2) (bs - f))))]) hx hb dX5_tell_91 hl (k := 5) rfl (nI_inc _ 1) (by decide) rfl (fun ls hl => ?_)
              refine lv_goto (tgt := 66) hx hb dX5_tell_94 (by decide) ?_
              -- slot 5: have n:0 + u + 1, want n:0 + (u + 1)
              exact ih (u + 1) (by omega) (by omega) Hp2 lo3 w ls (lv_sub hl [1, 2, 3, 4, 5, 0] rfl)
        exact L66 (min (si 2) (bs - f) - 0) (0) (Nat.le_refl _) (by omega) s.heap [] (by rw [show va_up it 2 (stI (it 2) 0 (fun uu => cutV (nI (fo 2)) (nI (bt (f + (0 + uu))))) 0) = it from up_id it 2]; exact w) ls (lv_sub hl [3, 4, 5, 2, 1, 0] rfl)
      · -- not taken at 32
        exact absurd c32 hn9
    · -- not taken at 15
      exact absurd ⟨2, by decide, rfl⟩ c15
set_option maxHeartbeats 4000000 in
set_option maxRecDepth 100000 in
theorem c_X5_tell_nul3 (aS : Nat → Nat) (aE : Nat → Nat) (la : Int32) (aW : Nat → Nat) (n : Nat) (cl : Nat) (th : Nat → Nat) (ki : Nat → Nat) (va : Nat → Nat) (re : Nat → Nat) (fi : Nat → Nat) (aB : Nat → Nat) (bt : Nat → Nat) (bs : Nat) (aC : Nat → Nat) (to : Nat → Prop) (co : Nat → Nat) (ke : Nat → Int32) (nu : Nat → Int32) (fw : Nat → Nat) (aH : Nat → Nat) (lt : Nat → Option Nat) (tr : Nat → Nat) (sh : Nat → Nat) (cr : Nat → Nat) (ct : Nat → Nat) (cu : Nat → Nat) (ve : Nat → Nat) (ta : Nat → Nat) (ch : Nat) (aT : Nat → Nat) (lt2 : Nat → Option Nat) (tr2 : Nat → Nat) (sh2 : Nat → Nat) (cr2 : Nat → Nat) (ct2 : Nat → Nat) (cu2 : Nat → Nat) (ve2 : Nat → Nat) (ta2 : Nat → Nat) (ch2 : Nat) (lo : Nat → Prop) (fo : Nat → Nat) (si : Nat → Nat) (it : Nat → Nat → Int32) (f : Nat) (J : IW n cl th ki va re fi) (S : SW n cl re fi) (B9 : (∀ j, bt j ≤ 255) ∧ bs ≤ 216) (C9 : (∀ j, co j ≤ 400) ∧ (∀ j, fw j ≤ 15)) (H9 : IHd lt tr sh cr ct cu ve ta ch) (U9 : IHd lt2 tr2 sh2 cr2 ct2 cu2 ve2 ta2 ch2) (E9 : (∀ j, fo j ≤ 2) ∧ (∀ j, si j ≤ 60)) (hf9 : f ≤ 400) (hn9 : lo 3) : CM l D (TY cI cZ cS) yX5_tell cX5_tell 6 (some .int) 1 [.ref (aS 0), .int (nI f), .int (nI 3)] ((wS cS aS (aW 0) (aB 0) (aC 0) (aH 0) (aT 0) aE la) ++ ((wW cI aW n cl th ki va re fi) ++ ((wB cI aB bt bs) ++ ((wC cI cZ aC (aW 0) (aB 0) to co ke nu fw) ++ ((wH cI aH (aW 0) lt tr sh cr ct cu ve ta ch) ++ ((wH cI aT (aW 0) lt2 tr2 sh2 cr2 ct2 cu2 ve2 ta2 ch2) ++ (wE cI aE lo fo si it))))))) (some (.int ((-10) - (nI 1)))) ((wS cS aS (aW 0) (aB 0) (aC 0) (aH 0) (aT 0) aE (nI 1)) ++ ((wW cI aW n cl th ki va re fi) ++ ((wB cI aB bt bs) ++ ((wC cI cZ aC (aW 0) (aB 0) to co ke nu fw) ++ ((wH cI aH (aW 0) lt tr sh cr ct cu ve ta ch) ++ ((wH cI aT (aW 0) lt2 tr2 sh2 cr2 ct2 cu2 ve2 ta2 ch2) ++ (wE cI aE lo fo si it))))))) := by
  refine CM.ofI (by decide +kernel) (Nat.le_of_ble_eq_true rfl) (nar_int _) ?_
  intro p e s m args below meth c Q A G K hA w hret ls hl
  obtain ⟨hx, hb, hml, hown, hts⟩ := id G
  obtain ⟨hn, hcl, hth, hki, hva, hre, hfi⟩ := id J
  obtain ⟨hbt, hbs⟩ := id B9
  obtain ⟨hco, hfw⟩ := id C9
  obtain ⟨hlt, htr, hsh, hcr, hct, hcu, hve, hta, hch⟩ := id H9
  obtain ⟨hlt2, htr2, hsh2, hcr2, hct2, hcu2, hve2, hta2, hch2⟩ := id U9
  obtain ⟨hfo, hsi⟩ := id E9
  have hl : lv_has ls 6 [(0, .ref (aS 0)), (1, .int (nI f)), (2, .int (nI 3))] := hl
  refine lv_iload_n hx hb dX5_tell_0 rfl (lv_at hl 1 rfl) ?_
  refine z_lt G (tgt := 18) (by omega) dX5_tell_1 (by decide) ?_
  refine lv_iload_n hx hb dX5_tell_4 rfl (lv_at hl 1 rfl) ?_
  refine lv_sipush (v := (nI 400)) hx hb dX5_tell_5 (by decide) ?_
  refine c_gt G (tgt := 18) (by omega) (by omega) dX5_tell_8 (by decide) (fun c8 => ?_) (fun c8 => ?_)
  · -- taken at 8
    exact absurd c8 (by omega)
  · -- not taken at 8
    refine lv_iload_n hx hb dX5_tell_11 rfl (lv_at hl 2 rfl) ?_
    refine callPS (rest := []) G K F_X5_isSheet (c_X5_isSheet (nI 3)) (va_P_nil D s.heap) ml_X5_121 (by decide) (by decide) rfl hl.1 (Nat.le_of_ble_eq_true rfl) dX5_tell_12 ?_
    refine b_ne G (tgt := 21) dX5_tell_15 (by decide) (fun c15 => ?_) (fun c15 => ?_)
    · -- taken at 15
      refine lv_aload_n hx hb dX5_tell_21 rfl (lv_at hl 0 rfl) ?_
      refine f_get G K w.1 inX5 0 (ci := 5) rfl rfl 5 rfl fl_X5_46 (v := .ref (aS 1)) rfl dX5_tell_22 ?_
      refine lv_iload_n hx hb dX5_tell_25 rfl (lv_at hl 2 rfl) ?_
      refine a_ldR G K w.1 1 2 (a := (aS 1)) rfl rfl (by omega) (by decide) dX5_tell_26 ?_
      refine lv_astore_n (lv' := [(3, .ref (aE 3)), (0, .ref (aS 0)), (1, .int (nI f)), (2, .int (nI 3))]) hx hb dX5_tell_27 rfl hl (by decide) rfl (fun ls hl => ?_)
      refine lv_aload_n hx hb dX5_tell_28 rfl (lv_at hl 0 rfl) ?_
      refine f_get G K w.1 inX3 37 (ci := 3) rfl rfl 1 rfl fl_X5_124 (v := .int (bI (lo 3))) rfl dX5_tell_29 ?_
      refine b_eq G (tgt := 41) dX5_tell_32 (by decide) (fun c32 => ?_) (fun c32 => ?_)
      · -- taken at 32
        exact absurd hn9 c32
      · -- not taken at 32
        refine lv_aload_n hx hb dX5_tell_35 rfl (lv_at hl 1 rfl) ?_
        refine lv_iconst (v := (nI 1)) hx hb dX5_tell_36 (by decide) ?_
        refine callMF (As := [.int (nI 1)]) (rest := []) (q0 := 0) (ci := 5) (ws' := ((wS cS aS (aW 0) (aB 0) (aC 0) (aH 0) (aT 0) aE (nI 1)) ++ ((wW cI aW n cl th ki va re fi) ++ ((wB cI aB bt bs) ++ ((wC cI cZ aC (aW 0) (aB 0) to co ke nu fw) ++ ((wH cI aH (aW 0) lt tr sh cr ct cu ve ta ch) ++ ((wH cI aT (aW 0) lt2 tr2 sh2 cr2 ct2 cu2 ve2 ta2 ch2) ++ (wE cI aE lo fo si it)))))))) G K hA w F_X5_find (c_X5_find aS aE la aW n cl th ki va re fi aB bt bs aC to co ke nu fw aH lt tr sh cr ct cu ve ta ch aT lt2 tr2 sh2 cr2 ct2 cu2 ve2 ta2 ch2 lo fo si it 1 J S B9 C9 H9 U9 E9) ml_X5_128 rfl rfl rfl (by decide) (by decide) rfl hl.1 (Nat.le_of_ble_eq_true rfl) dX5_tell_37 (fun Hp1 lo2 w => ?_)
        exact hret _ _ _ _ _ _ rfl rfl w dX5_tell_40
    · -- not taken at 15
      exact absurd ⟨3, by decide, rfl⟩ c15
set_option maxHeartbeats 4000000 in
set_option maxRecDepth 100000 in
theorem c_X5_tell_ok3 (aS : Nat → Nat) (aE : Nat → Nat) (la : Int32) (aW : Nat → Nat) (n : Nat) (cl : Nat) (th : Nat → Nat) (ki : Nat → Nat) (va : Nat → Nat) (re : Nat → Nat) (fi : Nat → Nat) (aB : Nat → Nat) (bt : Nat → Nat) (bs : Nat) (aC : Nat → Nat) (to : Nat → Prop) (co : Nat → Nat) (ke : Nat → Int32) (nu : Nat → Int32) (fw : Nat → Nat) (aH : Nat → Nat) (lt : Nat → Option Nat) (tr : Nat → Nat) (sh : Nat → Nat) (cr : Nat → Nat) (ct : Nat → Nat) (cu : Nat → Nat) (ve : Nat → Nat) (ta : Nat → Nat) (ch : Nat) (aT : Nat → Nat) (lt2 : Nat → Option Nat) (tr2 : Nat → Nat) (sh2 : Nat → Nat) (cr2 : Nat → Nat) (ct2 : Nat → Nat) (cu2 : Nat → Nat) (ve2 : Nat → Nat) (ta2 : Nat → Nat) (ch2 : Nat) (lo : Nat → Prop) (fo : Nat → Nat) (si : Nat → Nat) (it : Nat → Nat → Int32) (f : Nat) (J : IW n cl th ki va re fi) (S : SW n cl re fi) (B9 : (∀ j, bt j ≤ 255) ∧ bs ≤ 216) (C9 : (∀ j, co j ≤ 400) ∧ (∀ j, fw j ≤ 15)) (H9 : IHd lt tr sh cr ct cu ve ta ch) (U9 : IHd lt2 tr2 sh2 cr2 ct2 cu2 ve2 ta2 ch2) (E9 : (∀ j, fo j ≤ 2) ∧ (∀ j, si j ≤ 60)) (hf9 : f ≤ 400) (hn9 : ¬ lo 3) : CM l D (TY cI cZ cS) yX5_tell cX5_tell 6 (some .int) 1 [.ref (aS 0), .int (nI f), .int (nI 3)] ((wS cS aS (aW 0) (aB 0) (aC 0) (aH 0) (aT 0) aE la) ++ ((wW cI aW n cl th ki va re fi) ++ ((wB cI aB bt bs) ++ ((wC cI cZ aC (aW 0) (aB 0) to co ke nu fw) ++ ((wH cI aH (aW 0) lt tr sh cr ct cu ve ta ch) ++ ((wH cI aT (aW 0) lt2 tr2 sh2 cr2 ct2 cu2 ve2 ta2 ch2) ++ (wE cI aE lo fo si it))))))) (some (.int (nI (min (si 3) (bs - f))))) ((wS cS aS (aW 0) (aB 0) (aC 0) (aH 0) (aT 0) aE la) ++ ((wW cI aW n cl th ki va re fi) ++ ((wB cI aB bt bs) ++ ((wC cI cZ aC (aW 0) (aB 0) to co ke nu fw) ++ ((wH cI aH (aW 0) lt tr sh cr ct cu ve ta ch) ++ ((wH cI aT (aW 0) lt2 tr2 sh2 cr2 ct2 cu2 ve2 ta2 ch2) ++ (wE cI aE lo fo si (va_up it 3 (stI (it 3) 0 (fun uu => cutV (nI (fo 3)) (nI (bt (f + (0 + uu))))) (min (si 3) (bs - f))))))))))) := by
  refine CM.ofI (by decide +kernel) (Nat.le_of_ble_eq_true rfl) (nar_int _) ?_
  intro p e s m args below meth c Q A G K hA w hret ls hl
  obtain ⟨hx, hb, hml, hown, hts⟩ := id G
  obtain ⟨hn, hcl, hth, hki, hva, hre, hfi⟩ := id J
  obtain ⟨hbt, hbs⟩ := id B9
  obtain ⟨hco, hfw⟩ := id C9
  obtain ⟨hlt, htr, hsh, hcr, hct, hcu, hve, hta, hch⟩ := id H9
  obtain ⟨hlt2, htr2, hsh2, hcr2, hct2, hcu2, hve2, hta2, hch2⟩ := id U9
  obtain ⟨hfo, hsi⟩ := id E9
  have hs9 := hsi 3
  have hl : lv_has ls 6 [(0, .ref (aS 0)), (1, .int (nI f)), (2, .int (nI 3))] := hl
  refine lv_iload_n hx hb dX5_tell_0 rfl (lv_at hl 1 rfl) ?_
  refine z_lt G (tgt := 18) (by omega) dX5_tell_1 (by decide) ?_
  refine lv_iload_n hx hb dX5_tell_4 rfl (lv_at hl 1 rfl) ?_
  refine lv_sipush (v := (nI 400)) hx hb dX5_tell_5 (by decide) ?_
  refine c_gt G (tgt := 18) (by omega) (by omega) dX5_tell_8 (by decide) (fun c8 => ?_) (fun c8 => ?_)
  · -- taken at 8
    exact absurd c8 (by omega)
  · -- not taken at 8
    refine lv_iload_n hx hb dX5_tell_11 rfl (lv_at hl 2 rfl) ?_
    refine callPS (rest := []) G K F_X5_isSheet (c_X5_isSheet (nI 3)) (va_P_nil D s.heap) ml_X5_121 (by decide) (by decide) rfl hl.1 (Nat.le_of_ble_eq_true rfl) dX5_tell_12 ?_
    refine b_ne G (tgt := 21) dX5_tell_15 (by decide) (fun c15 => ?_) (fun c15 => ?_)
    · -- taken at 15
      refine lv_aload_n hx hb dX5_tell_21 rfl (lv_at hl 0 rfl) ?_
      refine f_get G K w.1 inX5 0 (ci := 5) rfl rfl 5 rfl fl_X5_46 (v := .ref (aS 1)) rfl dX5_tell_22 ?_
      refine lv_iload_n hx hb dX5_tell_25 rfl (lv_at hl 2 rfl) ?_
      refine a_ldR G K w.1 1 2 (a := (aS 1)) rfl rfl (by omega) (by decide) dX5_tell_26 ?_
      refine lv_astore_n (lv' := [(3, .ref (aE 3)), (0, .ref (aS 0)), (1, .int (nI f)), (2, .int (nI 3))]) hx hb dX5_tell_27 rfl hl (by decide) rfl (fun ls hl => ?_)
      refine lv_aload_n hx hb dX5_tell_28 rfl (lv_at hl 0 rfl) ?_
      refine f_get G K w.1 inX3 37 (ci := 3) rfl rfl 1 rfl fl_X5_124 (v := .int (bI (lo 3))) rfl dX5_tell_29 ?_
      refine b_eq G (tgt := 41) dX5_tell_32 (by decide) (fun c32 => ?_) (fun c32 => ?_)
      · -- taken at 32
        refine lv_aload_n hx hb dX5_tell_41 rfl (lv_at hl 0 rfl) ?_
        refine f_get G K w.1 inX3 37 (ci := 3) rfl rfl 3 rfl fl_X5_131 (v := .int (nI (si 3))) rfl dX5_tell_42 ?_
        refine lv_iconst (v := (nI 0)) hx hb dX5_tell_45 (by decide) ?_
        refine lv_aload_n hx hb dX5_tell_46 rfl (lv_at hl 1 rfl) ?_
        refine f_get G K w.1 inX5 0 (ci := 5) rfl rfl 1 rfl fl_X5_19 (v := .ref (aB 0)) rfl dX5_tell_47 ?_
        refine f_get G K w.1 inX0 8 (ci := 0) rfl rfl 1 rfl fl_X5_156 (v := .int (nI bs)) rfl dX5_tell_50 ?_
        refine lv_iload_n hx hb dX5_tell_53 rfl (lv_at hl 2 rfl) ?_
        refine lv_isub hx hb dX5_tell_54 ?_
        refine va_mmax hx hb (hml.trans hl.1.symm) hown (hts _ ml_X5_259) (hts _ st_J9_max_7cf53) (hts _ in_J9) (hts _ cd_J9_max_7cf53) (Nat.le_of_ble_eq_true rfl) (Nat.le_of_ble_eq_true rfl) (Nat.le_refl 0) (Nat.le_refl 0) dX5_tell_55 ?_
        refine t_i (y := (nI (bs - f))) (tr_sub (by omega) (by omega)) ?_
        refine va_mmin hx hb (hml.trans hl.1.symm) hown (hts _ ml_X5_216) (hts _ st_J9_min_7cf53) (hts _ in_J9) (hts _ cd_J9_min_7cf53) (Nat.le_of_ble_eq_true rfl) (Nat.le_of_ble_eq_true rfl) (Nat.le_refl 0) (Nat.le_refl 0) dX5_tell_58 ?_
        refine t_i (y := nI (min (si 3) (bs - f))) (m_min (by omega) (by omega)) ?_
        refine lv_istore (lv' := [(4, .int (nI (min (si 3) (bs - f)))), (3, .ref (aE 3)), (0, .ref (aS 0)), (1, .int (nI f)), (2, .int (nI 3))]) hx hb dX5_tell_61 hl (by decide) rfl (fun ls hl => ?_)
        refine lv_iconst (v := (nI 0)) hx hb dX5_tell_63 (by decide) ?_
        refine lv_istore (lv' := [(5, .int (nI 0)), (4, .int (nI (min (si 3) (bs - f)))), (3, .ref (aE 3)), (0, .ref (aS 0)), (1, .int (nI f)), (2, .int (nI 3))]) hx hb dX5_tell_64 hl (by decide) rfl (fun ls hl => ?_)
        have L66 : ∀ (d u : Nat), 0 ≤ u → u + d = min (si 3) (bs - f) → ∀ (H : Heap) (locs : List Loc), WW D A s.heap ((wS cS aS (aW 0) (aB 0) (aC 0) (aH 0) (aT 0) aE la) ++ ((wW cI aW n cl th ki va re fi) ++ ((wB cI aB bt bs) ++ ((wC cI cZ aC (aW 0) (aB 0) to co ke nu fw) ++ ((wH cI aH (aW 0) lt tr sh cr ct cu ve ta ch) ++ ((wH cI aT (aW 0) lt2 tr2 sh2 cr2 ct2 cu2 ve2 ta2 ch2) ++ (wE cI aE lo fo si (va_up it 3 (stI (it 3) 0 (fun uu => cutV (nI (fo 3)) (nI (bt (f + (0 + uu))))) u))))))))) H locs → ∀ (ls : Array Slot), lv_has ls 6 [(0, .ref (aS 0)), (1, .int (nI f)), (2, .int (nI 3)), (3, .ref (aE 3)), (4, .int (nI (min (si 3) (bs - f)))), (5, .int (nI (0 + u)))] → W p l e (RM 1) s m args below meth c H locs 0 0 Q (F0 m 66 ls []) := by
          intro d
          induction d with
          | zero =>
            intro u hlo66 hhi66 H locs w ls hl
            refine lv_iload hx hb dX5_tell_66 (lv_at hl 5 rfl) ?_
            refine lv_iload hx hb dX5_tell_68 (lv_at hl 4 rfl) ?_
            refine c_ge G (tgt := 97) (by omega) (by omega) dX5_tell_70 (by decide) (fun c70 => ?_) (fun c70 => ?_)
            · -- taken at 70
              refine lv_iload hx hb dX5_tell_97 (lv_at hl 4 rfl) ?_
              exact hret _ _ _ _ _ _ rfl (by rw [show u = min (si 3) (bs - f) by omega]) w dX5_tell_99
            · -- not taken at 70
              exact absurd c70 (by omega)
          | succ d ih =>
            intro u hlo66 hhi66 H locs w ls hl
            refine lv_iload hx hb dX5_tell_66 (lv_at hl 5 rfl) ?_
            refine lv_iload hx hb dX5_tell_68 (lv_at hl 4 rfl) ?_
            refine c_ge G (tgt := 97) (by omega) (by omega) dX5_tell_70 (by decide) (fun c70 => ?_) (fun c70 => ?_)
            · -- taken at 70
              exact absurd c70 (by omega)
            · -- not taken at 70
              refine lv_aload_n hx hb dX5_tell_73 rfl (lv_at hl 3 rfl) ?_
              refine lv_iload hx hb dX5_tell_74 (lv_at hl 5 rfl) ?_
              refine lv_aload_n hx hb dX5_tell_76 rfl (lv_at hl 0 rfl) ?_
              refine f_get G K w.1 inX5 0 (ci := 5) rfl rfl 1 rfl fl_X5_19 (v := .ref (aB 0)) rfl dX5_tell_77 ?_
              refine f_get G K w.1 inX0 8 (ci := 0) rfl rfl 0 rfl fl_X5_158 (v := .ref (aB 1)) rfl dX5_tell_80 ?_
              refine lv_iload_n hx hb dX5_tell_83 rfl (lv_at hl 1 rfl) ?_
              refine lv_iload hx hb dX5_tell_84 (lv_at hl 5 rfl) ?_
              refine t_add G dX5_tell_86 ?_
              refine a_ldN G K w.1 9 0 (a := (aB 1)) rfl rfl (by omega) (by decide) dX5_tell_87 ?_
              have hb1 := hbt (f + (0 + u))
              refine callMV (As := [.int (nI (0 + u)), .int (nI (bt (f + (0 + u))))]) (rest := []) (q0 := 0) (ci := 3) (wr := ((wS cS aS (aW 0) (aB 0) (aC 0) (aH 0) (aT 0) aE la) ++ ((wW cI aW n cl th ki va re fi) ++ ((wB cI aB bt bs) ++ ((wC cI cZ aC (aW 0) (aB 0) to co ke nu fw) ++ ((wH cI aH (aW 0) lt tr sh cr ct cu ve ta ch) ++ ((wH cI aT (aW 0) lt2 tr2 sh2 cr2 ct2 cu2 ve2 ta2 ch2) ++ ([(aE 0, .inr (3, [.ref (aE 4), .int (bI (lo 0)), .int (nI (fo 0)), .int (nI (si 0))])), (aE 1, .inr (3, [.ref (aE 5), .int (bI (lo 1)), .int (nI (fo 1)), .int (nI (si 1))])), (aE 2, .inr (3, [.ref (aE 6), .int (bI (lo 2)), .int (nI (fo 2)), .int (nI (si 2))])), (aE 4, .inl (cI, 60, .inl ((va_up it 3 (stI (it 3) 0 (fun uu => cutV (nI (fo 3)) (nI (bt (f + (0 + uu))))) u)) 0))), (aE 5, .inl (cI, 60, .inl ((va_up it 3 (stI (it 3) 0 (fun uu => cutV (nI (fo 3)) (nI (bt (f + (0 + uu))))) u)) 1))), (aE 6, .inl (cI, 60, .inl ((va_up it 3 (stI (it 3) 0 (fun uu => cutV (nI (fo 3)) (nI (bt (f + (0 + uu))))) u)) 2)))] : va_W)))))))) (ws2 := ((wS cS aS (aW 0) (aB 0) (aC 0) (aH 0) (aT 0) aE la) ++ ((wW cI aW n cl th ki va re fi) ++ ((wB cI aB bt bs) ++ ((wC cI cZ aC (aW 0) (aB 0) to co ke nu fw) ++ ((wH cI aH (aW 0) lt tr sh cr ct cu ve ta ch) ++ ((wH cI aT (aW 0) lt2 tr2 sh2 cr2 ct2 cu2 ve2 ta2 ch2) ++ (wE cI aE lo fo si (va_up (va_up it 3 (stI (it 3) 0 (fun uu => cutV (nI (fo 3)) (nI (bt (f + (0 + uu))))) u)) 3 (va_up ((va_up it 3 (stI (it 3) 0 (fun uu => cutV (nI (fo 3)) (nI (bt (f + (0 + uu))))) u)) 3) (0 + u) (cutV (nI (fo 3)) (nI (bt (f + (0 + u))))))))))))))) G K hA w F_X3_layItem (c_X3_layItem (aE 3) (aE 7) (lo 3) (fo 3) (si 3) ((va_up it 3 (stI (it 3) 0 (fun uu => cutV (nI (fo 3)) (nI (bt (f + (0 + uu))))) u)) 3) (0 + u) (nI (bt (f + (0 + u)))) ⟨hfo 3, hsi 3⟩ (by omega)) ml_X5_244 [37, 41] [0, 1, 2, 3, 4, 5, 6, 7, 8, 9, 10, 11, 12, 13, 14, 15, 16, 17, 18, 19, 20, 21, 22, 23, 24, 25, 26, 27, 28, 29, 30, 31, 32, 33, 34, 35, 36, 38, 39, 40] [0, 1, 2, 3, 4, 5, 6, 7, 8, 9, 10, 11, 12, 13, 14, 15, 16, 17, 18, 19, 20, 21, 22, 23, 24, 25, 26, 27, 28, 29, 30, 31, 32, 33, 34, 35, 36, 40, 37, 38, 39, 41] rfl rfl rfl rfl rfl rfl rfl rfl rfl rfl (by decide) (by decide) rfl hl.1 (Nat.le_of_ble_eq_true rfl) dX5_tell_88 (fun Hp2 lo3 w => ?_)
              have w : WW D A s.heap ((wS cS aS (aW 0) (aB 0) (aC 0) (aH 0) (aT 0) aE la) ++ ((wW cI aW n cl th ki va re fi) ++ ((wB cI aB bt bs) ++ ((wC cI cZ aC (aW 0) (aB 0) to co ke nu fw) ++ ((wH cI aH (aW 0) lt tr sh cr ct cu ve ta ch) ++ ((wH cI aT (aW 0) lt2 tr2 sh2 cr2 ct2 cu2 ve2 ta2 ch2) ++ (wE cI aE lo fo si (va_up it 3 (stI (it 3) 0 (fun uu => cutV (nI (fo 3)) (nI (bt (f + (0 + uu))))) (u + 1)))))))))) Hp2 lo3 := by
                rw [bx_uu, va_up_self] at w; exact w
              refine lv_iinc (v := (nI (0 + u + 1))) (lv' := [(5, .int (nI (0 + u + 1))), (0, .ref (aS 0)), (1, .int (nI f)), (2, .int (nI 3)), (3, .ref (aE 3)), (4, .int (nI (min (si 3) (bs - f))))]) hx hb dX5_tell_91 hl (k := 5) rfl (nI_inc _ 1) (by decide) rfl (fun ls hl => ?_)
              refine lv_goto (tgt := 66) hx hb dX5_tell_94 (by decide) ?_
              -- slot 5: have n:0 + u + 1, want n:0 + (u + 1)
              exact ih (u + 1) (by omega) (by omega) Hp2 lo3 w ls (lv_sub hl [1, 2, 3, 4, 5, 0] rfl)
        exact L66 (min (si 3) (bs - f) - 0) (0) (Nat.le_refl _) (by omega) s.heap [] (by rw [show va_up it 3 (stI (it 3) 0 (fun uu => cutV (nI (fo 3)) (nI (bt (f + (0 + uu))))) 0) = it from up_id it 3]; exact w) ls (lv_sub hl [3, 4, 5, 2, 1, 0] rfl)
      · -- not taken at 32
        exact absurd c32 hn9
    · -- not taken at 15
      exact absurd ⟨3, by decide, rfl⟩ c15

end
