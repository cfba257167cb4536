section
variable {l : Launch} {D : va_G} {cI cZ cS : ClassId}

set_option maxHeartbeats 4000000 in
set_option maxRecDepth 100000 in
theorem c_X5_copy_nul00 (aS : Nat → Nat) (aE : Nat → Nat) (la : Int32) (aW : Nat → Nat) (n : Nat) (cl : Nat) (th : Nat → Nat) (ki : Nat → Nat) (va : Nat → Nat) (re : Nat → Nat) (fi : Nat → Nat) (aB : Nat → Nat) (bt : Nat → Nat) (bs : Nat) (aC : Nat → Nat) (to : Nat → Prop) (co : Nat → Nat) (ke : Nat → Int32) (nu : Nat → Int32) (fw : Nat → Nat) (aH : Nat → Nat) (lt : Nat → Option Nat) (tr : Nat → Nat) (sh : Nat → Nat) (cr : Nat → Nat) (ct : Nat → Nat) (cu : Nat → Nat) (ve : Nat → Nat) (ta : Nat → Nat) (ch : Nat) (aT : Nat → Nat) (lt2 : Nat → Option Nat) (tr2 : Nat → Nat) (sh2 : Nat → Nat) (cr2 : Nat → Nat) (ct2 : Nat → Nat) (cu2 : Nat → Nat) (ve2 : Nat → Nat) (ta2 : Nat → Nat) (ch2 : Nat) (lo : Nat → Prop) (fo : Nat → Nat) (si : Nat → Nat) (it : Nat → Nat → Int32) (i : Int32) (j : Int32) (k : Int32) (J : IW n cl th ki va re fi) (S : SW n cl re fi) (B9 : (∀ j, bt j ≤ 255) ∧ bs ≤ 216) (C9 : (∀ j, co j ≤ 400) ∧ (∀ j, fw j ≤ 15)) (H9 : IHd lt tr sh cr ct cu ve ta ch) (U9 : IHd lt2 tr2 sh2 cr2 ct2 cu2 ve2 ta2 ch2) (E9 : (∀ j, fo j ≤ 2) ∧ (∀ j, si j ≤ 60)) (hf9 : lo 0 ∨ lo 0) : CM l D (TY cI cZ cS) yX5_copy cX5_copy 8 (some .int) 1 [.ref (aS 0), .int (nI 0), .int i, .int (nI 0), .int j, .int k] ((wS cS aS (aW 0) (aB 0) (aC 0) (aH 0) (aT 0) aE la) ++ ((wW cI aW n cl th ki va re fi) ++ ((wB cI aB bt bs) ++ ((wC cI cZ aC (aW 0) (aB 0) to co ke nu fw) ++ ((wH cI aH (aW 0) lt tr sh cr ct cu ve ta ch) ++ ((wH cI aT (aW 0) lt2 tr2 sh2 cr2 ct2 cu2 ve2 ta2 ch2) ++ (wE cI aE lo fo si it))))))) (some (.int ((-10) - (nI 1)))) ((wS cS aS (aW 0) (aB 0) (aC 0) (aH 0) (aT 0) aE (nI 1)) ++ ((wW cI aW n cl th ki va re fi) ++ ((wB cI aB bt bs) ++ ((wC cI cZ aC (aW 0) (aB 0) to co ke nu fw) ++ ((wH cI aH (aW 0) lt tr sh cr ct cu ve ta ch) ++ ((wH cI aT (aW 0) lt2 tr2 sh2 cr2 ct2 cu2 ve2 ta2 ch2) ++ (wE cI aE lo fo si it))))))) := by
  refine CM.ofI (by decide +kernel) (Nat.le_of_ble_eq_true rfl) (nar_int _) ?_
  intro p e s m args below meth c Q A G K hA w hret ls hl
  obtain ⟨hx, hb, hml, hown, hts⟩ := id G
  obtain ⟨hn, hcl, hth, hki, hva, hre, hfi⟩ := id J
  obtain ⟨hbt, hbs⟩ := id B9
  obtain ⟨hco, hfw⟩ := id C9
  obtain ⟨hlt, htr, hsh, hcr, hct, hcu, hve, hta, hch⟩ := id H9
  obtain ⟨hlt2, htr2, hsh2, hcr2, hct2, hcu2, hve2, hta2, hch2⟩ := id U9
  obtain ⟨hfo, hsi⟩ := id E9
  have hl : lv_has ls 8 [(0, .ref (aS 0)), (1, .int (nI 0)), (2, .int i), (3, .int (nI 0)), (4, .int j), (5, .int k)] := hl
  refine lv_iload_n hx hb dX5_copy_0 rfl (lv_at hl 1 rfl) ?_
  refine callPS (rest := []) G K F_X5_isSheet (c_X5_isSheet (nI 0)) (va_P_nil D s.heap) ml_X5_121 (by decide) (by decide) rfl hl.1 (Nat.le_of_ble_eq_true rfl) dX5_copy_1 ?_
  refine b_eq G (tgt := 14) dX5_copy_4 (by decide) (fun c4 => ?_) (fun c4 => ?_)
  · -- taken at 4
    exact absurd ⟨0, by decide, rfl⟩ c4
  · -- not taken at 4
    refine lv_iload_n hx hb dX5_copy_7 rfl (lv_at hl 3 rfl) ?_
    refine callPS (rest := []) G K F_X5_isSheet (c_X5_isSheet (nI 0)) (va_P_nil D s.heap) ml_X5_121 (by decide) (by decide) rfl hl.1 (Nat.le_of_ble_eq_true rfl) dX5_copy_8 ?_
    refine b_ne G (tgt := 17) dX5_copy_11 (by decide) (fun c11 => ?_) (fun c11 => ?_)
    · -- taken at 11
      refine lv_aload_n hx hb dX5_copy_17 rfl (lv_at hl 0 rfl) ?_
      refine f_get G K w.1 inX5 0 (ci := 5) rfl rfl 5 rfl fl_X5_46 (v := .ref (aS 1)) rfl dX5_copy_18 ?_
      refine lv_iload_n hx hb dX5_copy_21 rfl (lv_at hl 1 rfl) ?_
      refine a_ldR G K w.1 1 2 (a := (aS 1)) rfl rfl (by omega) (by decide) dX5_copy_22 ?_
      refine lv_astore (lv' := [(6, .ref (aE 0)), (0, .ref (aS 0)), (1, .int (nI 0)), (2, .int i), (3, .int (nI 0)), (4, .int j), (5, .int k)]) hx hb dX5_copy_23 hl (by decide) rfl (fun ls hl => ?_)
      refine lv_aload_n hx hb dX5_copy_25 rfl (lv_at hl 1 rfl) ?_
      refine f_get G K w.1 inX5 0 (ci := 5) rfl rfl 5 rfl fl_X5_46 (v := .ref (aS 1)) rfl dX5_copy_26 ?_
      refine lv_iload_n hx hb dX5_copy_29 rfl (lv_at hl 4 rfl) ?_
      refine a_ldR G K w.1 1 2 (a := (aS 1)) rfl rfl (by omega) (by decide) dX5_copy_30 ?_
      refine lv_astore (lv' := [(7, .ref (aE 0)), (6, .ref (aE 0)), (0, .ref (aS 0)), (1, .int (nI 0)), (2, .int i), (3, .int (nI 0)), (4, .int j), (5, .int k)]) hx hb dX5_copy_31 hl (by decide) rfl (fun ls hl => ?_)
      refine lv_aload hx hb dX5_copy_33 (lv_at hl 1 rfl) ?_
      refine f_get G K w.1 inX3 34 (ci := 3) rfl rfl 1 rfl fl_X5_124 (v := .int (bI (lo 0))) rfl dX5_copy_35 ?_
      refine b_ne G (tgt := 49) dX5_copy_38 (by decide) (fun c38 => ?_) (fun c38 => ?_)
      · -- taken at 38
        refine lv_aload_n hx hb dX5_copy_49 rfl (lv_at hl 2 rfl) ?_
        refine lv_iconst (v := (nI 1)) hx hb dX5_copy_50 (by decide) ?_
        refine callMF (As := [.int (nI 1)]) (rest := []) (q0 := 0) (ci := 5) (ws' := ((wS cS aS (aW 0) (aB 0) (aC 0) (aH 0) (aT 0) aE (nI 1)) ++ ((wW cI aW n cl th ki va re fi) ++ ((wB cI aB bt bs) ++ ((wC cI cZ aC (aW 0) (aB 0) to co ke nu fw) ++ ((wH cI aH (aW 0) lt tr sh cr ct cu ve ta ch) ++ ((wH cI aT (aW 0) lt2 tr2 sh2 cr2 ct2 cu2 ve2 ta2 ch2) ++ (wE cI aE lo fo si it)))))))) G K hA w F_X5_find (c_X5_find aS aE la aW n cl th ki va re fi aB bt bs aC to co ke nu fw aH lt tr sh cr ct cu ve ta ch aT lt2 tr2 sh2 cr2 ct2 cu2 ve2 ta2 ch2 lo fo si it 1 J S B9 C9 H9 U9 E9) ml_X5_128 rfl rfl rfl (by decide) (by decide) rfl hl.1 (Nat.le_of_ble_eq_true rfl) dX5_copy_51 (fun Hp1 lo2 w => ?_)
        exact hret _ _ _ _ _ _ rfl rfl w dX5_copy_54
      · -- not taken at 38
        refine lv_aload hx hb dX5_copy_41 (lv_at hl 0 rfl) ?_
        refine f_get G K w.1 inX3 34 (ci := 3) rfl rfl 1 rfl fl_X5_124 (v := .int (bI (lo 0))) rfl dX5_copy_43 ?_
        refine b_eq G (tgt := 55) dX5_copy_46 (by decide) (fun c46 => ?_) (fun c46 => ?_)
        · -- taken at 46
          exact absurd hf9 (fun h => h.elim c38 c46)
        · -- not taken at 46
          refine lv_aload_n hx hb dX5_copy_49 rfl (lv_at hl 2 rfl) ?_
          refine lv_iconst (v := (nI 1)) hx hb dX5_copy_50 (by decide) ?_
          refine callMF (As := [.int (nI 1)]) (rest := []) (q0 := 0) (ci := 5) (ws' := ((wS cS aS (aW 0) (aB 0) (aC 0) (aH 0) (aT 0) aE (nI 1)) ++ ((wW cI aW n cl th ki va re fi) ++ ((wB cI aB bt bs) ++ ((wC cI cZ aC (aW 0) (aB 0) to co ke nu fw) ++ ((wH cI aH (aW 0) lt tr sh cr ct cu ve ta ch) ++ ((wH cI aT (aW 0) lt2 tr2 sh2 cr2 ct2 cu2 ve2 ta2 ch2) ++ (wE cI aE lo fo si it)))))))) G K hA w F_X5_find (c_X5_find aS aE la aW n cl th ki va re fi aB bt bs aC to co ke nu fw aH lt tr sh cr ct cu ve ta ch aT lt2 tr2 sh2 cr2 ct2 cu2 ve2 ta2 ch2 lo fo si it 1 J S B9 C9 H9 U9 E9) ml_X5_128 rfl rfl rfl (by decide) (by decide) rfl hl.1 (Nat.le_of_ble_eq_true rfl) dX5_copy_51 (fun Hp3 lo4 w => ?_)
          exact hret _ _ _ _ _ _ rfl rfl w dX5_copy_54
    · -- not taken at 11
      exact absurd ⟨0, by decide, rfl⟩ c11
set_option maxHeartbeats 4000000 in
set_option maxRecDepth 100000 in
theorem c_X5_copy_sto00 (aS : Nat → Nat) (aE : Nat → Nat) (la : Int32) (aW : Nat → Nat) (n : Nat) (cl : Nat) (th : Nat → Nat) (ki : Nat → Nat) (va : Nat → Nat) (re : Nat → Nat) (fi : Nat → Nat) (aB : Nat → Nat) (bt : Nat → Nat) (bs : Nat) (aC : Nat → Nat) (to : Nat → Prop) (co : Nat → Nat) (ke : Nat → Int32) (nu : Nat → Int32) (fw : Nat → Nat) (aH : Nat → Nat) (lt : Nat → Option Nat) (tr : Nat → Nat) (sh : Nat → Nat) (cr : Nat → Nat) (ct : Nat → Nat) (cu : Nat → Nat) (ve : Nat → Nat) (ta : Nat → Nat) (ch : Nat) (aT : Nat → Nat) (lt2 : Nat → Option Nat) (tr2 : Nat → Nat) (sh2 : Nat → Nat) (cr2 : Nat → Nat) (ct2 : Nat → Nat) (cu2 : Nat → Nat) (ve2 : Nat → Nat) (ta2 : Nat → Nat) (ch2 : Nat) (lo : Nat → Prop) (fo : Nat → Nat) (si : Nat → Nat) (it : Nat → Nat → Int32) (i : Int32) (j : Int32) (k : Int32) (J : IW n cl th ki va re fi) (S : SW n cl re fi) (B9 : (∀ j, bt j ≤ 255) ∧ bs ≤ 216) (C9 : (∀ j, co j ≤ 400) ∧ (∀ j, fw j ≤ 15)) (H9 : IHd lt tr sh cr ct cu ve ta ch) (U9 : IHd lt2 tr2 sh2 cr2 ct2 cu2 ve2 ta2 ch2) (E9 : (∀ j, fo j ≤ 2) ∧ (∀ j, si j ≤ 60)) (hf9 : ¬ (lo 0 ∨ lo 0)) (hc9 : fo 0 ≠ fo 0) : CM l D (TY cI cZ cS) yX5_copy cX5_copy 8 (some .int) 1 [.ref (aS 0), .int (nI 0), .int i, .int (nI 0), .int j, .int k] ((wS cS aS (aW 0) (aB 0) (aC 0) (aH 0) (aT 0) aE la) ++ ((wW cI aW n cl th ki va re fi) ++ ((wB cI aB bt bs) ++ ((wC cI cZ aC (aW 0) (aB 0) to co ke nu fw) ++ ((wH cI aH (aW 0) lt tr sh cr ct cu ve ta ch) ++ ((wH cI aT (aW 0) lt2 tr2 sh2 cr2 ct2 cu2 ve2 ta2 ch2) ++ (wE cI aE lo fo si it))))))) (some (.int ((-10) - (nI 4)))) ((wS cS aS (aW 0) (aB 0) (aC 0) (aH 0) (aT 0) aE (nI 4)) ++ ((wW cI aW n cl th ki va re fi) ++ ((wB cI aB bt bs) ++ ((wC cI cZ aC (aW 0) (aB 0) to co ke nu fw) ++ ((wH cI aH (aW 0) lt tr sh cr ct cu ve ta ch) ++ ((wH cI aT (aW 0) lt2 tr2 sh2 cr2 ct2 cu2 ve2 ta2 ch2) ++ (wE cI aE lo fo si it))))))) := by
  refine CM.ofI (by decide +kernel) (Nat.le_of_ble_eq_true rfl) (nar_int _) ?_
  intro p e s m args below meth c Q A G K hA w hret ls hl
  obtain ⟨hx, hb, hml, hown, hts⟩ := id G
  obtain ⟨hn, hcl, hth, hki, hva, hre, hfi⟩ := id J
  obtain ⟨hbt, hbs⟩ := id B9
  obtain ⟨hco, hfw⟩ := id C9
  obtain ⟨hlt, htr, hsh, hcr, hct, hcu, hve, hta, hch⟩ := id H9
  obtain ⟨hlt2, htr2, hsh2, hcr2, hct2, hcu2, hve2, hta2, hch2⟩ := id U9
  obtain ⟨hfo, hsi⟩ := id E9
  have hq1 := hfo 0
  have hq2 := hfo 0
  have hl : lv_has ls 8 [(0, .ref (aS 0)), (1, .int (nI 0)), (2, .int i), (3, .int (nI 0)), (4, .int j), (5, .int k)] := hl
  refine lv_iload_n hx hb dX5_copy_0 rfl (lv_at hl 1 rfl) ?_
  refine callPS (rest := []) G K F_X5_isSheet (c_X5_isSheet (nI 0)) (va_P_nil D s.heap) ml_X5_121 (by decide) (by decide) rfl hl.1 (Nat.le_of_ble_eq_true rfl) dX5_copy_1 ?_
  refine b_eq G (tgt := 14) dX5_copy_4 (by decide) (fun c4 => ?_) (fun c4 => ?_)
  · -- taken at 4
    exact absurd ⟨0, by decide, rfl⟩ c4
  · -- not taken at 4
    refine lv_iload_n hx hb dX5_copy_7 rfl (lv_at hl 3 rfl) ?_
    refine callPS (rest := []) G K F_X5_isSheet (c_X5_isSheet (nI 0)) (va_P_nil D s.heap) ml_X5_121 (by decide) (by decide) rfl hl.1 (Nat.le_of_ble_eq_true rfl) dX5_copy_8 ?_
    refine b_ne G (tgt := 17) dX5_copy_11 (by decide) (fun c11 => ?_) (fun c11 => ?_)
    · -- taken at 11
      refine lv_aload_n hx hb dX5_copy_17 rfl (lv_at hl 0 rfl) ?_
      refine f_get G K w.1 inX5 0 (ci := 5) rfl rfl 5 rfl fl_X5_46 (v := .ref (aS 1)) rfl dX5_copy_18 ?_
      refine lv_iload_n hx hb dX5_copy_21 rfl (lv_at hl 1 rfl) ?_
      refine a_ldR G K w.1 1 2 (a := (aS 1)) rfl rfl (by omega) (by decide) dX5_copy_22 ?_
      refine lv_astore (lv' := [(6, .ref (aE 0)), (0, .ref (aS 0)), (1, .int (nI 0)), (2, .int i), (3, .int (nI 0)), (4, .int j), (5, .int k)]) hx hb dX5_copy_23 hl (by decide) rfl (fun ls hl => ?_)
      refine lv_aload_n hx hb dX5_copy_25 rfl (lv_at hl 1 rfl) ?_
      refine f_get G K w.1 inX5 0 (ci := 5) rfl rfl 5 rfl fl_X5_46 (v := .ref (aS 1)) rfl dX5_copy_26 ?_
      refine lv_iload_n hx hb dX5_copy_29 rfl (lv_at hl 4 rfl) ?_
      refine a_ldR G K w.1 1 2 (a := (aS 1)) rfl rfl (by omega) (by decide) dX5_copy_30 ?_
      refine lv_astore (lv' := [(7, .ref (aE 0)), (6, .ref (aE 0)), (0, .ref (aS 0)), (1, .int (nI 0)), (2, .int i), (3, .int (nI 0)), (4, .int j), (5, .int k)]) hx hb dX5_copy_31 hl (by decide) rfl (fun ls hl => ?_)
      refine lv_aload hx hb dX5_copy_33 (lv_at hl 1 rfl) ?_
      refine f_get G K w.1 inX3 34 (ci := 3) rfl rfl 1 rfl fl_X5_124 (v := .int (bI (lo 0))) rfl dX5_copy_35 ?_
      refine b_ne G (tgt := 49) dX5_copy_38 (by decide) (fun c38 => ?_) (fun c38 => ?_)
      · -- taken at 38
        exact absurd (Or.inl c38) hf9
      · -- not taken at 38
        refine lv_aload hx hb dX5_copy_41 (lv_at hl 0 rfl) ?_
        refine f_get G K w.1 inX3 34 (ci := 3) rfl rfl 1 rfl fl_X5_124 (v := .int (bI (lo 0))) rfl dX5_copy_43 ?_
        refine b_eq G (tgt := 55) dX5_copy_46 (by decide) (fun c46 => ?_) (fun c46 => ?_)
        · -- taken at 46
          refine lv_aload hx hb dX5_copy_55 (lv_at hl 1 rfl) ?_
          refine f_get G K w.1 inX3 34 (ci := 3) rfl rfl 2 rfl fl_X5_247 (v := .int (nI (fo 0))) rfl dX5_copy_57 ?_
          refine lv_aload hx hb dX5_copy_60 (lv_at hl 0 rfl) ?_
          refine f_get G K w.1 inX3 34 (ci := 3) rfl rfl 2 rfl fl_X5_247 (v := .int (nI (fo 0))) rfl dX5_copy_62 ?_
          refine c_eq G (tgt := 74) (by omega) (by omega) dX5_copy_65 (by decide) (fun c65 => ?_) (fun c65 => ?_)
          · -- taken at 65
            exact absurd c65 hc9
          · -- not taken at 65
            refine lv_aload_n hx hb dX5_copy_68 rfl (lv_at hl 2 rfl) ?_
            refine lv_iconst (v := (nI 4)) hx hb dX5_copy_69 (by decide) ?_
            refine callMF (As := [.int (nI 4)]) (rest := []) (q0 := 0) (ci := 5) (ws' := ((wS cS aS (aW 0) (aB 0) (aC 0) (aH 0) (aT 0) aE (nI 4)) ++ ((wW cI aW n cl th ki va re fi) ++ ((wB cI aB bt bs) ++ ((wC cI cZ aC (aW 0) (aB 0) to co ke nu fw) ++ ((wH cI aH (aW 0) lt tr sh cr ct cu ve ta ch) ++ ((wH cI aT (aW 0) lt2 tr2 sh2 cr2 ct2 cu2 ve2 ta2 ch2) ++ (wE cI aE lo fo si it)))))))) G K hA w F_X5_find (c_X5_find aS aE la aW n cl th ki va re fi aB bt bs aC to co ke nu fw aH lt tr sh cr ct cu ve ta ch aT lt2 tr2 sh2 cr2 ct2 cu2 ve2 ta2 ch2 lo fo si it 4 J S B9 C9 H9 U9 E9) ml_X5_128 rfl rfl rfl (by decide) (by decide) rfl hl.1 (Nat.le_of_ble_eq_true rfl) dX5_copy_70 (fun Hp1 lo2 w => ?_)
            exact hret _ _ _ _ _ _ rfl rfl w dX5_copy_73
        · -- not taken at 46
          exact absurd (Or.inr c46) hf9
    · -- not taken at 11
      exact absurd ⟨0, by decide, rfl⟩ c11
set_option maxHeartbeats 4000000 in
set_option maxRecDepth 100000 in
theorem c_X5_copy_idx00 (aS : Nat → Nat) (aE : Nat → Nat) (la : Int32) (aW : Nat → Nat) (n : Nat) (cl : Nat) (th : Nat → Nat) (ki : Nat → Nat) (va : Nat → Nat) (re : Nat → Nat) (fi : Nat → Nat) (aB : Nat → Nat) (bt : Nat → Nat) (bs : Nat) (aC : Nat → Nat) (to : Nat → Prop) (co : Nat → Nat) (ke : Nat → Int32) (nu : Nat → Int32) (fw : Nat → Nat) (aH : Nat → Nat) (lt : Nat → Option Nat) (tr : Nat → Nat) (sh : Nat → Nat) (cr : Nat → Nat) (ct : Nat → Nat) (cu : Nat → Nat) (ve : Nat → Nat) (ta : Nat → Nat) (ch : Nat) (aT : Nat → Nat) (lt2 : Nat → Option Nat) (tr2 : Nat → Nat) (sh2 : Nat → Nat) (cr2 : Nat → Nat) (ct2 : Nat → Nat) (cu2 : Nat → Nat) (ve2 : Nat → Nat) (ta2 : Nat → Nat) (ch2 : Nat) (lo : Nat → Prop) (fo : Nat → Nat) (si : Nat → Nat) (it : Nat → Nat → Int32) (i : Int32) (j : Int32) (k : Int32) (J : IW n cl th ki va re fi) (S : SW n cl re fi) (B9 : (∀ j, bt j ≤ 255) ∧ bs ≤ 216) (C9 : (∀ j, co j ≤ 400) ∧ (∀ j, fw j ≤ 15)) (H9 : IHd lt tr sh cr ct cu ve ta ch) (U9 : IHd lt2 tr2 sh2 cr2 ct2 cu2 ve2 ta2 ch2) (E9 : (∀ j, fo j ≤ 2) ∧ (∀ j, si j ≤ 60)) (hf9 : ¬ (lo 0 ∨ lo 0)) (hc9 : fo 0 = fo 0) (hk9 : ¬ (okH (si 0) i k ∧ okH (si 0) j k)) : CM l D (TY cI cZ cS) yX5_copy cX5_copy 8 (some .int) 1 [.ref (aS 0), .int (nI 0), .int i, .int (nI 0), .int j, .int k] ((wS cS aS (aW 0) (aB 0) (aC 0) (aH 0) (aT 0) aE la) ++ ((wW cI aW n cl th ki va re fi) ++ ((wB cI aB bt bs) ++ ((wC cI cZ aC (aW 0) (aB 0) to co ke nu fw) ++ ((wH cI aH (aW 0) lt tr sh cr ct cu ve ta ch) ++ ((wH cI aT (aW 0) lt2 tr2 sh2 cr2 ct2 cu2 ve2 ta2 ch2) ++ (wE cI aE lo fo si it))))))) (some (.int ((-10) - (nI 2)))) ((wS cS aS (aW 0) (aB 0) (aC 0) (aH 0) (aT 0) aE (nI 2)) ++ ((wW cI aW n cl th ki va re fi) ++ ((wB cI aB bt bs) ++ ((wC cI cZ aC (aW 0) (aB 0) to co ke nu fw) ++ ((wH cI aH (aW 0) lt tr sh cr ct cu ve ta ch) ++ ((wH cI aT (aW 0) lt2 tr2 sh2 cr2 ct2 cu2 ve2 ta2 ch2) ++ (wE cI aE lo fo si it))))))) := by
  refine CM.ofI (by decide +kernel) (Nat.le_of_ble_eq_true rfl) (nar_int _) ?_
  intro p e s m args below meth c Q A G K hA w hret ls hl
  obtain ⟨hx, hb, hml, hown, hts⟩ := id G
  obtain ⟨hn, hcl, hth, hki, hva, hre, hfi⟩ := id J
  obtain ⟨hbt, hbs⟩ := id B9
  obtain ⟨hco, hfw⟩ := id C9
  obtain ⟨hlt, htr, hsh, hcr, hct, hcu, hve, hta, hch⟩ := id H9
  obtain ⟨hlt2, htr2, hsh2, hcr2, hct2, hcu2, hve2, hta2, hch2⟩ := id U9
  obtain ⟨hfo, hsi⟩ := id E9
  have hq1 := hfo 0
  have hq2 := hfo 0
  have hl : lv_has ls 8 [(0, .ref (aS 0)), (1, .int (nI 0)), (2, .int i), (3, .int (nI 0)), (4, .int j), (5, .int k)] := hl
  refine lv_iload_n hx hb dX5_copy_0 rfl (lv_at hl 1 rfl) ?_
  refine callPS (rest := []) G K F_X5_isSheet (c_X5_isSheet (nI 0)) (va_P_nil D s.heap) ml_X5_121 (by decide) (by decide) rfl hl.1 (Nat.le_of_ble_eq_true rfl) dX5_copy_1 ?_
  refine b_eq G (tgt := 14) dX5_copy_4 (by decide) (fun c4 => ?_) (fun c4 => ?_)
  · -- taken at 4
    exact absurd ⟨0, by decide, rfl⟩ c4
  · -- not taken at 4
    refine lv_iload_n hx hb dX5_copy_7 rfl (lv_at hl 3 rfl) ?_
    refine callPS (rest := []) G K F_X5_isSheet (c_X5_isSheet (nI 0)) (va_P_nil D s.heap) ml_X5_121 (by decide) (by decide) rfl hl.1 (Nat.le_of_ble_eq_true rfl) dX5_copy_8 ?_
    refine b_ne G (tgt := 17) dX5_copy_11 (by decide) (fun c11 => ?_) (fun c11 => ?_)
    · -- taken at 11
      refine lv_aload_n hx hb dX5_copy_17 rfl (lv_at hl 0 rfl) ?_
      refine f_get G K w.1 inX5 0 (ci := 5) rfl rfl 5 rfl fl_X5_46 (v := .ref (aS 1)) rfl dX5_copy_18 ?_
      refine lv_iload_n hx hb dX5_copy_21 rfl (lv_at hl 1 rfl) ?_
      refine a_ldR G K w.1 1 2 (a := (aS 1)) rfl rfl (by omega) (by decide) dX5_copy_22 ?_
      refine lv_astore (lv' := [(6, .ref (aE 0)), (0, .ref (aS 0)), (1, .int (nI 0)), (2, .int i), (3, .int (nI 0)), (4, .int j), (5, .int k)]) hx hb dX5_copy_23 hl (by decide) rfl (fun ls hl => ?_)
      refine lv_aload_n hx hb dX5_copy_25 rfl (lv_at hl 1 rfl) ?_
      refine f_get G K w.1 inX5 0 (ci := 5) rfl rfl 5 rfl fl_X5_46 (v := .ref (aS 1)) rfl dX5_copy_26 ?_
      refine lv_iload_n hx hb dX5_copy_29 rfl (lv_at hl 4 rfl) ?_
      refine a_ldR G K w.1 1 2 (a := (aS 1)) rfl rfl (by omega) (by decide) dX5_copy_30 ?_
      refine lv_astore (lv' := [(7, .ref (aE 0)), (6, .ref (aE 0)), (0, .ref (aS 0)), (1, .int (nI 0)), (2, .int i), (3, .int (nI 0)), (4, .int j), (5, .int k)]) hx hb dX5_copy_31 hl (by decide) rfl (fun ls hl => ?_)
      refine lv_aload hx hb dX5_copy_33 (lv_at hl 1 rfl) ?_
      refine f_get G K w.1 inX3 34 (ci := 3) rfl rfl 1 rfl fl_X5_124 (v := .int (bI (lo 0))) rfl dX5_copy_35 ?_
      refine b_ne G (tgt := 49) dX5_copy_38 (by decide) (fun c38 => ?_) (fun c38 => ?_)
      · -- taken at 38
        exact absurd (Or.inl c38) hf9
      · -- not taken at 38
        refine lv_aload hx hb dX5_copy_41 (lv_at hl 0 rfl) ?_
        refine f_get G K w.1 inX3 34 (ci := 3) rfl rfl 1 rfl fl_X5_124 (v := .int (bI (lo 0))) rfl dX5_copy_43 ?_
        refine b_eq G (tgt := 55) dX5_copy_46 (by decide) (fun c46 => ?_) (fun c46 => ?_)
        · -- taken at 46
          refine lv_aload hx hb dX5_copy_55 (lv_at hl 1 rfl) ?_
          refine f_get G K w.1 inX3 34 (ci := 3) rfl rfl 2 rfl fl_X5_247 (v := .int (nI (fo 0))) rfl dX5_copy_57 ?_
          refine lv_aload hx hb dX5_copy_60 (lv_at hl 0 rfl) ?_
          refine f_get G K w.1 inX3 34 (ci := 3) rfl rfl 2 rfl fl_X5_247 (v := .int (nI (fo 0))) rfl dX5_copy_62 ?_
          refine c_eq G (tgt := 74) (by omega) (by omega) dX5_copy_65 (by decide) (fun c65 => ?_) (fun c65 => ?_)
          · -- taken at 65
            refine lv_aload hx hb dX5_copy_74 (lv_at hl 1 rfl) ?_
            refine lv_iload_n hx hb dX5_copy_76 rfl (lv_at hl 4 rfl) ?_
            refine lv_iload hx hb dX5_copy_77 (lv_at hl 7 rfl) ?_
            refine callPV (As := [.int i, .int k]) (rest := []) (q0 := 0) (ci := 3) G K F_X3_hasItems (c_X3_hasItems (aE 0) (aE 4) (lo 0) (fo 0) (si 0) (it 0) i k ⟨hfo 0, hsi 0⟩) (w.1.sub (ws' := (wT cI (aE 0) (aE 4) (lo 0) (fo 0) (si 0) (it 0))) [34, 38] rfl) ml_X5_250 rfl rfl rfl (by decide) (by decide) rfl hl.1 (Nat.le_of_ble_eq_true rfl) dX5_copy_79 ?_
            refine b_eq G (tgt := 97) dX5_copy_82 (by decide) (fun c82 => ?_) (fun c82 => ?_)
            · -- taken at 82
              refine lv_aload_n hx hb dX5_copy_97 rfl (lv_at hl 2 rfl) ?_
              refine lv_iconst (v := (nI 2)) hx hb dX5_copy_98 (by decide) ?_
              refine callMF (As := [.int (nI 2)]) (rest := []) (q0 := 0) (ci := 5) (ws' := ((wS cS aS (aW 0) (aB 0) (aC 0) (aH 0) (aT 0) aE (nI 2)) ++ ((wW cI aW n cl th ki va re fi) ++ ((wB cI aB bt bs) ++ ((wC cI cZ aC (aW 0) (aB 0) to co ke nu fw) ++ ((wH cI aH (aW 0) lt tr sh cr ct cu ve ta ch) ++ ((wH cI aT (aW 0) lt2 tr2 sh2 cr2 ct2 cu2 ve2 ta2 ch2) ++ (wE cI aE lo fo si it)))))))) G K hA w F_X5_find (c_X5_find aS aE la aW n cl th ki va re fi aB bt bs aC to co ke nu fw aH lt tr sh cr ct cu ve ta ch aT lt2 tr2 sh2 cr2 ct2 cu2 ve2 ta2 ch2 lo fo si it 2 J S B9 C9 H9 U9 E9) ml_X5_128 rfl rfl rfl (by decide) (by decide) rfl hl.1 (Nat.le_of_ble_eq_true rfl) dX5_copy_99 (fun Hp1 lo2 w => ?_)
              exact hret _ _ _ _ _ _ rfl rfl w dX5_copy_102
            · -- not taken at 82
              refine lv_aload hx hb dX5_copy_85 (lv_at hl 0 rfl) ?_
              refine lv_iload hx hb dX5_copy_87 (lv_at hl 6 rfl) ?_
              refine lv_iload hx hb dX5_copy_89 (lv_at hl 7 rfl) ?_
              refine callPV (As := [.int j, .int k]) (rest := []) (q0 := 0) (ci := 3) G K F_X3_hasItems (c_X3_hasItems (aE 0) (aE 4) (lo 0) (fo 0) (si 0) (it 0) j k ⟨hfo 0, hsi 0⟩) (w.1.sub (ws' := (wT cI (aE 0) (aE 4) (lo 0) (fo 0) (si 0) (it 0))) [34, 38] rfl) ml_X5_250 rfl rfl rfl (by decide) (by decide) rfl hl.1 (Nat.le_of_ble_eq_true rfl) dX5_copy_91 ?_
              refine b_ne G (tgt := 103) dX5_copy_94 (by decide) (fun c94 => ?_) (fun c94 => ?_)
              · -- taken at 94
                exact absurd ⟨c82, c94⟩ hk9
              · -- not taken at 94
                refine lv_aload_n hx hb dX5_copy_97 rfl (lv_at hl 2 rfl) ?_
                refine lv_iconst (v := (nI 2)) hx hb dX5_copy_98 (by decide) ?_
                refine callMF (As := [.int (nI 2)]) (rest := []) (q0 := 0) (ci := 5) (ws' := ((wS cS aS (aW 0) (aB 0) (aC 0) (aH 0) (aT 0) aE (nI 2)) ++ ((wW cI aW n cl th ki va re fi) ++ ((wB cI aB bt bs) ++ ((wC cI cZ aC (aW 0) (aB 0) to co ke nu fw) ++ ((wH cI aH (aW 0) lt tr sh cr ct cu ve ta ch) ++ ((wH cI aT (aW 0) lt2 tr2 sh2 cr2 ct2 cu2 ve2 ta2 ch2) ++ (wE cI aE lo fo si it)))))))) G K hA w F_X5_find (c_X5_find aS aE la aW n cl th ki va re fi aB bt bs aC to co ke nu fw aH lt tr sh cr ct cu ve ta ch aT lt2 tr2 sh2 cr2 ct2 cu2 ve2 ta2 ch2 lo fo si it 2 J S B9 C9 H9 U9 E9) ml_X5_128 rfl rfl rfl (by decide) (by decide) rfl hl.1 (Nat.le_of_ble_eq_true rfl) dX5_copy_99 (fun Hp3 lo4 w => ?_)
                exact hret _ _ _ _ _ _ rfl rfl w dX5_copy_102
          · -- not taken at 65
            exact absurd hc9 c65
        · -- not taken at 46
          exact absurd (Or.inr c46) hf9
    · -- not taken at 11
      exact absurd ⟨0, by decide, rfl⟩ c11
set_option maxHeartbeats 4000000 in
set_option maxRecDepth 100000 in
theorem c_X5_copy_ok00 (aS : Nat → Nat) (aE : Nat → Nat) (la : Int32) (aW : Nat → Nat) (n : Nat) (cl : Nat) (th : Nat → Nat) (ki : Nat → Nat) (va : Nat → Nat) (re : Nat → Nat) (fi : Nat → Nat) (aB : Nat → Nat) (bt : Nat → Nat) (bs : Nat) (aC : Nat → Nat) (to : Nat → Prop) (co : Nat → Nat) (ke : Nat → Int32) (nu : Nat → Int32) (fw : Nat → Nat) (aH : Nat → Nat) (lt : Nat → Option Nat) (tr : Nat → Nat) (sh : Nat → Nat) (cr : Nat → Nat) (ct : Nat → Nat) (cu : Nat → Nat) (ve : Nat → Nat) (ta : Nat → Nat) (ch : Nat) (aT : Nat → Nat) (lt2 : Nat → Option Nat) (tr2 : Nat → Nat) (sh2 : Nat → Nat) (cr2 : Nat → Nat) (ct2 : Nat → Nat) (cu2 : Nat → Nat) (ve2 : Nat → Nat) (ta2 : Nat → Nat) (ch2 : Nat) (lo : Nat → Prop) (fo : Nat → Nat) (si : Nat → Nat) (it : Nat → Nat → Int32) (i : Nat) (j : Nat) (k : Nat) (J : IW n cl th ki va re fi) (S : SW n cl re fi) (B9 : (∀ j, bt j ≤ 255) ∧ bs ≤ 216) (C9 : (∀ j, co j ≤ 400) ∧ (∀ j, fw j ≤ 15)) (H9 : IHd lt tr sh cr ct cu ve ta ch) (U9 : IHd lt2 tr2 sh2 cr2 ct2 cu2 ve2 ta2 ch2) (E9 : (∀ j, fo j ≤ 2) ∧ (∀ j, si j ≤ 60)) (hf9 : ¬ (lo 0 ∨ lo 0)) (hc9 : fo 0 = fo 0) (hi9 : i + k ≤ si 0) (hj9 : j + k ≤ si 0) : CM l D (TY cI cZ cS) yX5_copy cX5_copy 8 (some .int) 1 [.ref (aS 0), .int (nI 0), .int (nI i), .int (nI 0), .int (nI j), .int (nI k)] ((wS cS aS (aW 0) (aB 0) (aC 0) (aH 0) (aT 0) aE la) ++ ((wW cI aW n cl th ki va re fi) ++ ((wB cI aB bt bs) ++ ((wC cI cZ aC (aW 0) (aB 0) to co ke nu fw) ++ ((wH cI aH (aW 0) lt tr sh cr ct cu ve ta ch) ++ ((wH cI aT (aW 0) lt2 tr2 sh2 cr2 ct2 cu2 ve2 ta2 ch2) ++ (wE cI aE lo fo si it))))))) (some (.int (nI 1))) ((wS cS aS (aW 0) (aB 0) (aC 0) (aH 0) (aT 0) aE la) ++ ((wW cI aW n cl th ki va re fi) ++ ((wB cI aB bt bs) ++ ((wC cI cZ aC (aW 0) (aB 0) to co ke nu fw) ++ ((wH cI aH (aW 0) lt tr sh cr ct cu ve ta ch) ++ ((wH cI aT (aW 0) lt2 tr2 sh2 cr2 ct2 cu2 ve2 ta2 ch2) ++ (wE cI aE lo fo si (va_up it 0 (va_cpy (it 0) (it 0) i j k))))))))) := by
  refine CM.ofI (by decide +kernel) (Nat.le_of_ble_eq_true rfl) (nar_int _) ?_
  intro p e s m args below meth c Q A G K hA w hret ls hl
  obtain ⟨hx, hb, hml, hown, hts⟩ := id G
  obtain ⟨hn, hcl, hth, hki, hva, hre, hfi⟩ := id J
  obtain ⟨hbt, hbs⟩ := id B9
  obtain ⟨hco, hfw⟩ := id C9
  obtain ⟨hlt, htr, hsh, hcr, hct, hcu, hve, hta, hch⟩ := id H9
  obtain ⟨hlt2, htr2, hsh2, hcr2, hct2, hcu2, hve2, hta2, hch2⟩ := id U9
  obtain ⟨hfo, hsi⟩ := id E9
  have hs9 := hsi 0
  have ht9 := hsi 0
  have hq1 := hfo 0
  have hq2 := hfo 0
  have hl : lv_has ls 8 [(0, .ref (aS 0)), (1, .int (nI 0)), (2, .int (nI i)), (3, .int (nI 0)), (4, .int (nI j)), (5, .int (nI k))] := hl
  refine lv_iload_n hx hb dX5_copy_0 rfl (lv_at hl 1 rfl) ?_
  refine callPS (rest := []) G K F_X5_isSheet (c_X5_isSheet (nI 0)) (va_P_nil D s.heap) ml_X5_121 (by decide) (by decide) rfl hl.1 (Nat.le_of_ble_eq_true rfl) dX5_copy_1 ?_
  refine b_eq G (tgt := 14) dX5_copy_4 (by decide) (fun c4 => ?_) (fun c4 => ?_)
  · -- taken at 4
    exact absurd ⟨0, by decide, rfl⟩ c4
  · -- not taken at 4
    refine lv_iload_n hx hb dX5_copy_7 rfl (lv_at hl 3 rfl) ?_
    refine callPS (rest := []) G K F_X5_isSheet (c_X5_isSheet (nI 0)) (va_P_nil D s.heap) ml_X5_121 (by decide) (by decide) rfl hl.1 (Nat.le_of_ble_eq_true rfl) dX5_copy_8 ?_
    refine b_ne G (tgt := 17) dX5_copy_11 (by decide) (fun c11 => ?_) (fun c11 => ?_)
    · -- taken at 11
      refine lv_aload_n hx hb dX5_copy_17 rfl (lv_at hl 0 rfl) ?_
      refine f_get G K w.1 inX5 0 (ci := 5) rfl rfl 5 rfl fl_X5_46 (v := .ref (aS 1)) rfl dX5_copy_18 ?_
      refine lv_iload_n hx hb dX5_copy_21 rfl (lv_at hl 1 rfl) ?_
      refine a_ldR G K w.1 1 2 (a := (aS 1)) rfl rfl (by omega) (by decide) dX5_copy_22 ?_
      refine lv_astore (lv' := [(6, .ref (aE 0)), (0, .ref (aS 0)), (1, .int (nI 0)), (2, .int (nI i)), (3, .int (nI 0)), (4, .int (nI j)), (5, .int (nI k))]) hx hb dX5_copy_23 hl (by decide) rfl (fun ls hl => ?_)
      refine lv_aload_n hx hb dX5_copy_25 rfl (lv_at hl 1 rfl) ?_
      refine f_get G K w.1 inX5 0 (ci := 5) rfl rfl 5 rfl fl_X5_46 (v := .ref (aS 1)) rfl dX5_copy_26 ?_
      refine lv_iload_n hx hb dX5_copy_29 rfl (lv_at hl 4 rfl) ?_
      refine a_ldR G K w.1 1 2 (a := (aS 1)) rfl rfl (by omega) (by decide) dX5_copy_30 ?_
      refine lv_astore (lv' := [(7, .ref (aE 0)), (6, .ref (aE 0)), (0, .ref (aS 0)), (1, .int (nI 0)), (2, .int (nI i)), (3, .int (nI 0)), (4, .int (nI j)), (5, .int (nI k))]) hx hb dX5_copy_31 hl (by decide) rfl (fun ls hl => ?_)
      refine lv_aload hx hb dX5_copy_33 (lv_at hl 1 rfl) ?_
      refine f_get G K w.1 inX3 34 (ci := 3) rfl rfl 1 rfl fl_X5_124 (v := .int (bI (lo 0))) rfl dX5_copy_35 ?_
      refine b_ne G (tgt := 49) dX5_copy_38 (by decide) (fun c38 => ?_) (fun c38 => ?_)
      · -- taken at 38
        exact absurd (Or.inl c38) hf9
      · -- not taken at 38
        refine lv_aload hx hb dX5_copy_41 (lv_at hl 0 rfl) ?_
        refine f_get G K w.1 inX3 34 (ci := 3) rfl rfl 1 rfl fl_X5_124 (v := .int (bI (lo 0))) rfl dX5_copy_43 ?_
        refine b_eq G (tgt := 55) dX5_copy_46 (by decide) (fun c46 => ?_) (fun c46 => ?_)
        · -- taken at 46
          refine lv_aload hx hb dX5_copy_55 (lv_at hl 1 rfl) ?_
          refine f_get G K w.1 inX3 34 (ci := 3) rfl rfl 2 rfl fl_X5_247 (v := .int (nI (fo 0))) rfl dX5_copy_57 ?_
          refine lv_aload hx hb dX5_copy_60 (lv_at hl 0 rfl) ?_
          refine f_get G K w.1 inX3 34 (ci := 3) rfl rfl 2 rfl fl_X5_247 (v := .int (nI (fo 0))) rfl dX5_copy_62 ?_
          refine c_eq G (tgt := 74) (by omega) (by omega) dX5_copy_65 (by decide) (fun c65 => ?_) (fun c65 => ?_)
          · -- taken at 65
            refine lv_aload hx hb dX5_copy_74 (lv_at hl 1 rfl) ?_
            refine lv_iload_n hx hb dX5_copy_76 rfl (lv_at hl 4 rfl) ?_
            refine lv_iload hx hb dX5_copy_77 (lv_at hl 7 rfl) ?_
            refine callPV (As := [.int (nI i), .int (nI k)]) (rest := []) (q0 := 0) (ci := 3) G K F_X3_hasItems (c_X3_hasItems (aE 0) (aE 4) (lo 0) (fo 0) (si 0) (it 0) (nI i) (nI k) ⟨hfo 0, hsi 0⟩) (w.1.sub (ws' := (wT cI (aE 0) (aE 4) (lo 0) (fo 0) (si 0) (it 0))) [34, 38] rfl) ml_X5_250 rfl rfl rfl (by decide) (by decide) rfl hl.1 (Nat.le_of_ble_eq_true rfl) dX5_copy_79 ?_
            refine b_eq G (tgt := 97) dX5_copy_82 (by decide) (fun c82 => ?_) (fun c82 => ?_)
            · -- taken at 82
              exact absurd ⟨i, k, hi9, rfl, rfl⟩ c82
            · -- not taken at 82
              refine lv_aload hx hb dX5_copy_85 (lv_at hl 0 rfl) ?_
              refine lv_iload hx hb dX5_copy_87 (lv_at hl 6 rfl) ?_
              refine lv_iload hx hb dX5_copy_89 (lv_at hl 7 rfl) ?_
              refine callPV (As := [.int (nI j), .int (nI k)]) (rest := []) (q0 := 0) (ci := 3) G K F_X3_hasItems (c_X3_hasItems (aE 0) (aE 4) (lo 0) (fo 0) (si 0) (it 0) (nI j) (nI k) ⟨hfo 0, hsi 0⟩) (w.1.sub (ws' := (wT cI (aE 0) (aE 4) (lo 0) (fo 0) (si 0) (it 0))) [34, 38] rfl) ml_X5_250 rfl rfl rfl (by decide) (by decide) rfl hl.1 (Nat.le_of_ble_eq_true rfl) dX5_copy_91 ?_
              refine b_ne G (tgt := 103) dX5_copy_94 (by decide) (fun c94 => ?_) (fun c94 => ?_)
              · -- taken at 94
                refine lv_aload hx hb dX5_copy_103 (lv_at hl 1 rfl) ?_
                refine f_get G K w.1 inX3 34 (ci := 3) rfl rfl 0 rfl fl_X5_132 (v := .ref (aE 4)) rfl dX5_copy_105 ?_
                refine lv_iload_n hx hb dX5_copy_108 rfl (lv_at hl 4 rfl) ?_
                refine lv_aload hx hb dX5_copy_109 (lv_at hl 0 rfl) ?_
                refine f_get G K w.1 inX3 34 (ci := 3) rfl rfl 0 rfl fl_X5_132 (v := .ref (aE 4)) rfl dX5_copy_111 ?_
                refine lv_iload hx hb dX5_copy_114 (lv_at hl 6 rfl) ?_
                refine lv_iload hx hb dX5_copy_116 (lv_at hl 7 rfl) ?_
                refine acp (f := (it 0)) (g := (it 0)) (sp := i) (dp := j) (k := k) G K w (hml.trans hl.1.symm) ml_X5_253 38 38 rfl rfl (by omega) (by omega) (by decide) (Nat.le_of_ble_eq_true rfl) (Nat.le_of_ble_eq_true rfl) dX5_copy_118 (w2 := ((wS cS aS (aW 0) (aB 0) (aC 0) (aH 0) (aT 0) aE la) ++ ((wW cI aW n cl th ki va re fi) ++ ((wB cI aB bt bs) ++ ((wC cI cZ aC (aW 0) (aB 0) to co ke nu fw) ++ ((wH cI aH (aW 0) lt tr sh cr ct cu ve ta ch) ++ ((wH cI aT (aW 0) lt2 tr2 sh2 cr2 ct2 cu2 ve2 ta2 ch2) ++ (wE cI aE lo fo si (va_up it 0 (va_cpy (it 0) (it 0) i j k)))))))))) rfl (fun Hp1 lo2 w => ?_)
                refine lv_iconst (v := (nI 1)) hx hb dX5_copy_121 (by decide) ?_
                exact hret _ _ _ _ _ _ rfl rfl w dX5_copy_122
              · -- not taken at 94
                exact absurd ⟨j, k, hj9, rfl, rfl⟩ c94
          · -- not taken at 65
            exact absurd hc9 c65
        · -- not taken at 46
          exact absurd (Or.inr c46) hf9
    · -- not taken at 11
      exact absurd ⟨0, by decide, rfl⟩ c11
set_option maxHeartbeats 4000000 in
set_option maxRecDepth 100000 in
theorem c_X5_copy_nul01 (aS : Nat → Nat) (aE : Nat → Nat) (la : Int32) (aW : Nat → Nat) (n : Nat) (cl : Nat) (th : Nat → Nat) (ki : Nat → Nat) (va : Nat → Nat) (re : Nat → Nat) (fi : Nat → Nat) (aB : Nat → Nat) (bt : Nat → Nat) (bs : Nat) (aC : Nat → Nat) (to : Nat → Prop) (co : Nat → Nat) (ke : Nat → Int32) (nu : Nat → Int32) (fw : Nat → Nat) (aH : Nat → Nat) (lt : Nat → Option Nat) (tr : Nat → Nat) (sh : Nat → Nat) (cr : Nat → Nat) (ct : Nat → Nat) (cu : Nat → Nat) (ve : Nat → Nat) (ta : Nat → Nat) (ch : Nat) (aT : Nat → Nat) (lt2 : Nat → Option Nat) (tr2 : Nat → Nat) (sh2 : Nat → Nat) (cr2 : Nat → Nat) (ct2 : Nat → Nat) (cu2 : Nat → Nat) (ve2 : Nat → Nat) (ta2 : Nat → Nat) (ch2 : Nat) (lo : Nat → Prop) (fo : Nat → Nat) (si : Nat → Nat) (it : Nat → Nat → Int32) (i : Int32) (j : Int32) (k : Int32) (J : IW n cl th ki va re fi) (S : SW n cl re fi) (B9 : (∀ j, bt j ≤ 255) ∧ bs ≤ 216) (C9 : (∀ j, co j ≤ 400) ∧ (∀ j, fw j ≤ 15)) (H9 : IHd lt tr sh cr ct cu ve ta ch) (U9 : IHd lt2 tr2 sh2 cr2 ct2 cu2 ve2 ta2 ch2) (E9 : (∀ j, fo j ≤ 2) ∧ (∀ j, si j ≤ 60)) (hf9 : lo 0 ∨ lo 1) : CM l D (TY cI cZ cS) yX5_copy cX5_copy 8 (some .int) 1 [.ref (aS 0), .int (nI 0), .int i, .int (nI 1), .int j, .int k] ((wS cS aS (aW 0) (aB 0) (aC 0) (aH 0) (aT 0) aE la) ++ ((wW cI aW n cl th ki va re fi) ++ ((wB cI aB bt bs) ++ ((wC cI cZ aC (aW 0) (aB 0) to co ke nu fw) ++ ((wH cI aH (aW 0) lt tr sh cr ct cu ve ta ch) ++ ((wH cI aT (aW 0) lt2 tr2 sh2 cr2 ct2 cu2 ve2 ta2 ch2) ++ (wE cI aE lo fo si it))))))) (some (.int ((-10) - (nI 1)))) ((wS cS aS (aW 0) (aB 0) (aC 0) (aH 0) (aT 0) aE (nI 1)) ++ ((wW cI aW n cl th ki va re fi) ++ ((wB cI aB bt bs) ++ ((wC cI cZ aC (aW 0) (aB 0) to co ke nu fw) ++ ((wH cI aH (aW 0) lt tr sh cr ct cu ve ta ch) ++ ((wH cI aT (aW 0) lt2 tr2 sh2 cr2 ct2 cu2 ve2 ta2 ch2) ++ (wE cI aE lo fo si it))))))) := by
  refine CM.ofI (by decide +kernel) (Nat.le_of_ble_eq_true rfl) (nar_int _) ?_
  intro p e s m args below meth c Q A G K hA w hret ls hl
  obtain ⟨hx, hb, hml, hown, hts⟩ := id G
  obtain ⟨hn, hcl, hth, hki, hva, hre, hfi⟩ := id J
  obtain ⟨hbt, hbs⟩ := id B9
  obtain ⟨hco, hfw⟩ := id C9
  obtain ⟨hlt, htr, hsh, hcr, hct, hcu, hve, hta, hch⟩ := id H9
  obtain ⟨hlt2, htr2, hsh2, hcr2, hct2, hcu2, hve2, hta2, hch2⟩ := id U9
  obtain ⟨hfo, hsi⟩ := id E9
  have hl : lv_has ls 8 [(0, .ref (aS 0)), (1, .int (nI 0)), (2, .int i), (3, .int (nI 1)), (4, .int j), (5, .int k)] := hl
  refine lv_iload_n hx hb dX5_copy_0 rfl (lv_at hl 1 rfl) ?_
  refine callPS (rest := []) G K F_X5_isSheet (c_X5_isSheet (nI 0)) (va_P_nil D s.heap) ml_X5_121 (by decide) (by decide) rfl hl.1 (Nat.le_of_ble_eq_true rfl) dX5_copy_1 ?_
  refine b_eq G (tgt := 14) dX5_copy_4 (by decide) (fun c4 => ?_) (fun c4 => ?_)
  · -- taken at 4
    exact absurd ⟨0, by decide, rfl⟩ c4
  · -- not taken at 4
    refine lv_iload_n hx hb dX5_copy_7 rfl (lv_at hl 3 rfl) ?_
    refine callPS (rest := []) G K F_X5_isSheet (c_X5_isSheet (nI 1)) (va_P_nil D s.heap) ml_X5_121 (by decide) (by decide) rfl hl.1 (Nat.le_of_ble_eq_true rfl) dX5_copy_8 ?_
    refine b_ne G (tgt := 17) dX5_copy_11 (by decide) (fun c11 => ?_) (fun c11 => ?_)
    · -- taken at 11
      refine lv_aload_n hx hb dX5_copy_17 rfl (lv_at hl 0 rfl) ?_
      refine f_get G K w.1 inX5 0 (ci := 5) rfl rfl 5 rfl fl_X5_46 (v := .ref (aS 1)) rfl dX5_copy_18 ?_
      refine lv_iload_n hx hb dX5_copy_21 rfl (lv_at hl 1 rfl) ?_
      refine a_ldR G K w.1 1 2 (a := (aS 1)) rfl rfl (by omega) (by decide) dX5_copy_22 ?_
      refine lv_astore (lv' := [(6, .ref (aE 0)), (0, .ref (aS 0)), (1, .int (nI 0)), (2, .int i), (3, .int (nI 1)), (4, .int j), (5, .int k)]) hx hb dX5_copy_23 hl (by decide) rfl (fun ls hl => ?_)
      refine lv_aload_n hx hb dX5_copy_25 rfl (lv_at hl 1 rfl) ?_
      refine f_get G K w.1 inX5 0 (ci := 5) rfl rfl 5 rfl fl_X5_46 (v := .ref (aS 1)) rfl dX5_copy_26 ?_
      refine lv_iload_n hx hb dX5_copy_29 rfl (lv_at hl 4 rfl) ?_
      refine a_ldR G K w.1 1 2 (a := (aS 1)) rfl rfl (by omega) (by decide) dX5_copy_30 ?_
      refine lv_astore (lv' := [(7, .ref (aE 1)), (6, .ref (aE 0)), (0, .ref (aS 0)), (1, .int (nI 0)), (2, .int i), (3, .int (nI 1)), (4, .int j), (5, .int k)]) hx hb dX5_copy_31 hl (by decide) rfl (fun ls hl => ?_)
      refine lv_aload hx hb dX5_copy_33 (lv_at hl 1 rfl) ?_
      refine f_get G K w.1 inX3 34 (ci := 3) rfl rfl 1 rfl fl_X5_124 (v := .int (bI (lo 0))) rfl dX5_copy_35 ?_
      refine b_ne G (tgt := 49) dX5_copy_38 (by decide) (fun c38 => ?_) (fun c38 => ?_)
      · -- taken at 38
        refine lv_aload_n hx hb dX5_copy_49 rfl (lv_at hl 2 rfl) ?_
        refine lv_iconst (v := (nI 1)) hx hb dX5_copy_50 (by decide) ?_
        refine callMF (As := [.int (nI 1)]) (rest := []) (q0 := 0) (ci := 5) (ws' := ((wS cS aS (aW 0) (aB 0) (aC 0) (aH 0) (aT 0) aE (nI 1)) ++ ((wW cI aW n cl th ki va re fi) ++ ((wB cI aB bt bs) ++ ((wC cI cZ aC (aW 0) (aB 0) to co ke nu fw) ++ ((wH cI aH (aW 0) lt tr sh cr ct cu ve ta ch) ++ ((wH cI aT (aW 0) lt2 tr2 sh2 cr2 ct2 cu2 ve2 ta2 ch2) ++ (wE cI aE lo fo si it)))))))) G K hA w F_X5_find (c_X5_find aS aE la aW n cl th ki va re fi aB bt bs aC to co ke nu fw aH lt tr sh cr ct cu ve ta ch aT lt2 tr2 sh2 cr2 ct2 cu2 ve2 ta2 ch2 lo fo si it 1 J S B9 C9 H9 U9 E9) ml_X5_128 rfl rfl rfl (by decide) (by decide) rfl hl.1 (Nat.le_of_ble_eq_true rfl) dX5_copy_51 (fun Hp1 lo2 w => ?_)
        exact hret _ _ _ _ _ _ rfl rfl w dX5_copy_54
      · -- not taken at 38
        refine lv_aload hx hb dX5_copy_41 (lv_at hl 0 rfl) ?_
        refine f_get G K w.1 inX3 35 (ci := 3) rfl rfl 1 rfl fl_X5_124 (v := .int (bI (lo 1))) rfl dX5_copy_43 ?_
        refine b_eq G (tgt := 55) dX5_copy_46 (by decide) (fun c46 => ?_) (fun c46 => ?_)
        · -- taken at 46
          exact absurd hf9 (fun h => h.elim c38 c46)
        · -- not taken at 46
          refine lv_aload_n hx hb dX5_copy_49 rfl (lv_at hl 2 rfl) ?_
          refine lv_iconst (v := (nI 1)) hx hb dX5_copy_50 (by decide) ?_
          refine callMF (As := [.int (nI 1)]) (rest := []) (q0 := 0) (ci := 5) (ws' := ((wS cS aS (aW 0) (aB 0) (aC 0) (aH 0) (aT 0) aE (nI 1)) ++ ((wW cI aW n cl th ki va re fi) ++ ((wB cI aB bt bs) ++ ((wC cI cZ aC (aW 0) (aB 0) to co ke nu fw) ++ ((wH cI aH (aW 0) lt tr sh cr ct cu ve ta ch) ++ ((wH cI aT (aW 0) lt2 tr2 sh2 cr2 ct2 cu2 ve2 ta2 ch2) ++ (wE cI aE lo fo si it)))))))) G K hA w F_X5_find (c_X5_find aS aE la aW n cl th ki va re fi aB bt bs aC to co ke nu fw aH lt tr sh cr ct cu ve ta ch aT lt2 tr2 sh2 cr2 ct2 cu2 ve2 ta2 ch2 lo fo si it 1 J S B9 C9 H9 U9 E9) ml_X5_128 rfl rfl rfl (by decide) (by decide) rfl hl.1 (Nat.le_of_ble_eq_true rfl) dX5_copy_51 (fun Hp3 lo4 w => ?_)
          exact hret _ _ _ _ _ _ rfl rfl w dX5_copy_54
    · -- not taken at 11
      exact absurd ⟨1, by decide, rfl⟩ c11
set_option maxHeartbeats 4000000 in
set_option maxRecDepth 100000 in
theorem c_X5_copy_sto01 (aS : Nat → Nat) (aE : Nat → Nat) (la : Int32) (aW : Nat → Nat) (n : Nat) (cl : Nat) (th : Nat → Nat) (ki : Nat → Nat) (va : Nat → Nat) (re : Nat → Nat) (fi : Nat → Nat) (aB : Nat → Nat) (bt : Nat → Nat) (bs : Nat) (aC : Nat → Nat) (to : Nat → Prop) (co : Nat → Nat) (ke : Nat → Int32) (nu : Nat → Int32) (fw : Nat → Nat) (aH : Nat → Nat) (lt : Nat → Option Nat) (tr : Nat → Nat) (sh : Nat → Nat) (cr : Nat → Nat) (ct : Nat → Nat) (cu : Nat → Nat) (ve : Nat → Nat) (ta : Nat → Nat) (ch : Nat) (aT : Nat → Nat) (lt2 : Nat → Option Nat) (tr2 : Nat → Nat) (sh2 : Nat → Nat) (cr2 : Nat → Nat) (ct2 : Nat → Nat) (cu2 : Nat → Nat) (ve2 : Nat → Nat) (ta2 : Nat → Nat) (ch2 : Nat) (lo : Nat → Prop) (fo : Nat → Nat) (si : Nat → Nat) (it : Nat → Nat → Int32) (i : Int32) (j : Int32) (k : Int32) (J : IW n cl th ki va re fi) (S : SW n cl re fi) (B9 : (∀ j, bt j ≤ 255) ∧ bs ≤ 216) (C9 : (∀ j, co j ≤ 400) ∧ (∀ j, fw j ≤ 15)) (H9 : IHd lt tr sh cr ct cu ve ta ch) (U9 : IHd lt2 tr2 sh2 cr2 ct2 cu2 ve2 ta2 ch2) (E9 : (∀ j, fo j ≤ 2) ∧ (∀ j, si j ≤ 60)) (hf9 : ¬ (lo 0 ∨ lo 1)) (hc9 : fo 0 ≠ fo 1) : CM l D (TY cI cZ cS) yX5_copy cX5_copy 8 (some .int) 1 [.ref (aS 0), .int (nI 0), .int i, .int (nI 1), .int j, .int k] ((wS cS aS (aW 0) (aB 0) (aC 0) (aH 0) (aT 0) aE la) ++ ((wW cI aW n cl th ki va re fi) ++ ((wB cI aB bt bs) ++ ((wC cI cZ aC (aW 0) (aB 0) to co ke nu fw) ++ ((wH cI aH (aW 0) lt tr sh cr ct cu ve ta ch) ++ ((wH cI aT (aW 0) lt2 tr2 sh2 cr2 ct2 cu2 ve2 ta2 ch2) ++ (wE cI aE lo fo si it))))))) (some (.int ((-10) - (nI 4)))) ((wS cS aS (aW 0) (aB 0) (aC 0) (aH 0) (aT 0) aE (nI 4)) ++ ((wW cI aW n cl th ki va re fi) ++ ((wB cI aB bt bs) ++ ((wC cI cZ aC (aW 0) (aB 0) to co ke nu fw) ++ ((wH cI aH (aW 0) lt tr sh cr ct cu ve ta ch) ++ ((wH cI aT (aW 0) lt2 tr2 sh2 cr2 ct2 cu2 ve2 ta2 ch2) ++ (wE cI aE lo fo si it))))))) := by
  refine CM.ofI (by decide +kernel) (Nat.le_of_ble_eq_true rfl) (nar_int _) ?_
  intro p e s m args below meth c Q A G K hA w hret ls hl
  obtain ⟨hx, hb, hml, hown, hts⟩ := id G
  obtain ⟨hn, hcl, hth, hki, hva, hre, hfi⟩ := id J
  obtain ⟨hbt, hbs⟩ := id B9
  obtain ⟨hco, hfw⟩ := id C9
  obtain ⟨hlt, htr, hsh, hcr, hct, hcu, hve, hta, hch⟩ := id H9
  obtain ⟨hlt2, htr2, hsh2, hcr2, hct2, hcu2, hve2, hta2, hch2⟩ := id U9
  obtain ⟨hfo, hsi⟩ := id E9
  have hq1 := hfo 0
  have hq2 := hfo 1
  have hl : lv_has ls 8 [(0, .ref (aS 0)), (1, .int (nI 0)), (2, .int i), (3, .int (nI 1)), (4, .int j), (5, .int k)] := hl
  refine lv_iload_n hx hb dX5_copy_0 rfl (lv_at hl 1 rfl) ?_
  refine callPS (rest := []) G K F_X5_isSheet (c_X5_isSheet (nI 0)) (va_P_nil D s.heap) ml_X5_121 (by decide) (by decide) rfl hl.1 (Nat.le_of_ble_eq_true rfl) dX5_copy_1 ?_
  refine b_eq G (tgt := 14) dX5_copy_4 (by decide) (fun c4 => ?_) (fun c4 => ?_)
  · -- taken at 4
    exact absurd ⟨0, by decide, rfl⟩ c4
  · -- not taken at 4
    refine lv_iload_n hx hb dX5_copy_7 rfl (lv_at hl 3 rfl) ?_
    refine callPS (rest := []) G K F_X5_isSheet (c_X5_isSheet (nI 1)) (va_P_nil D s.heap) ml_X5_121 (by decide) (by decide) rfl hl.1 (Nat.le_of_ble_eq_true rfl) dX5_copy_8 ?_
    refine b_ne G (tgt := 17) dX5_copy_11 (by decide) (fun c11 => ?_) (fun c11 => ?_)
    · -- taken at 11
      refine lv_aload_n hx hb dX5_copy_17 rfl (lv_at hl 0 rfl) ?_
      refine f_get G K w.1 inX5 0 (ci := 5) rfl rfl 5 rfl fl_X5_46 (v := .ref (aS 1)) rfl dX5_copy_18 ?_
      refine lv_iload_n hx hb dX5_copy_21 rfl (lv_at hl 1 rfl) ?_
      refine a_ldR G K w.1 1 2 (a := (aS 1)) rfl rfl (by omega) (by decide) dX5_copy_22 ?_
      refine lv_astore (lv' := [(6, .ref (aE 0)), (0, .ref (aS 0)), (1, .int (nI 0)), (2, .int i), (3, .int (nI 1)), (4, .int j), (5, .int k)]) hx hb dX5_copy_23 hl (by decide) rfl (fun ls hl => ?_)
      refine lv_aload_n hx hb dX5_copy_25 rfl (lv_at hl 1 rfl) ?_
      refine f_get G K w.1 inX5 0 (ci := 5) rfl rfl 5 rfl fl_X5_46 (v := .ref (aS 1)) rfl dX5_copy_26 ?_
      refine lv_iload_n hx hb dX5_copy_29 rfl (lv_at hl 4 rfl) ?_
      refine a_ldR G K w.1 1 2 (a := (aS 1)) rfl rfl (by omega) (by decide) dX5_copy_30 ?_
      refine lv_astore (lv' := [(7, .ref (aE 1)), (6, .ref (aE 0)), (0, .ref (aS 0)), (1, .int (nI 0)), (2, .int i), (3, .int (nI 1)), (4, .int j), (5, .int k)]) hx hb dX5_copy_31 hl (by decide) rfl (fun ls hl => ?_)
      refine lv_aload hx hb dX5_copy_33 (lv_at hl 1 rfl) ?_
      refine f_get G K w.1 inX3 34 (ci := 3) rfl rfl 1 rfl fl_X5_124 (v := .int (bI (lo 0))) rfl dX5_copy_35 ?_
      refine b_ne G (tgt := 49) dX5_copy_38 (by decide) (fun c38 => ?_) (fun c38 => ?_)
      · -- taken at 38
        exact absurd (Or.inl c38) hf9
      · -- not taken at 38
        refine lv_aload hx hb dX5_copy_41 (lv_at hl 0 rfl) ?_
        refine f_get G K w.1 inX3 35 (ci := 3) rfl rfl 1 rfl fl_X5_124 (v := .int (bI (lo 1))) rfl dX5_copy_43 ?_
        refine b_eq G (tgt := 55) dX5_copy_46 (by decide) (fun c46 => ?_) (fun c46 => ?_)
        · -- taken at 46
          refine lv_aload hx hb dX5_copy_55 (lv_at hl 1 rfl) ?_
          refine f_get G K w.1 inX3 34 (ci := 3) rfl rfl 2 rfl fl_X5_247 (v := .int (nI (fo 0))) rfl dX5_copy_57 ?_
          refine lv_aload hx hb dX5_copy_60 (lv_at hl 0 rfl) ?_
          refine f_get G K w.1 inX3 35 (ci := 3) rfl rfl 2 rfl fl_X5_247 (v := .int (nI (fo 1))) rfl dX5_copy_62 ?_
          refine c_eq G (tgt := 74) (by omega) (by omega) dX5_copy_65 (by decide) (fun c65 => ?_) (fun c65 => ?_)
          · -- taken at 65
            exact absurd c65 hc9
          · -- not taken at 65
            refine lv_aload_n hx hb dX5_copy_68 rfl (lv_at hl 2 rfl) ?_
            refine lv_iconst (v := (nI 4)) hx hb dX5_copy_69 (by decide) ?_
            refine callMF (As := [.int (nI 4)]) (rest := []) (q0 := 0) (ci := 5) (ws' := ((wS cS aS (aW 0) (aB 0) (aC 0) (aH 0) (aT 0) aE (nI 4)) ++ ((wW cI aW n cl th ki va re fi) ++ ((wB cI aB bt bs) ++ ((wC cI cZ aC (aW 0) (aB 0) to co ke nu fw) ++ ((wH cI aH (aW 0) lt tr sh cr ct cu ve ta ch) ++ ((wH cI aT (aW 0) lt2 tr2 sh2 cr2 ct2 cu2 ve2 ta2 ch2) ++ (wE cI aE lo fo si it)))))))) G K hA w F_X5_find (c_X5_find aS aE la aW n cl th ki va re fi aB bt bs aC to co ke nu fw aH lt tr sh cr ct cu ve ta ch aT lt2 tr2 sh2 cr2 ct2 cu2 ve2 ta2 ch2 lo fo si it 4 J S B9 C9 H9 U9 E9) ml_X5_128 rfl rfl rfl (by decide) (by decide) rfl hl.1 (Nat.le_of_ble_eq_true rfl) dX5_copy_70 (fun Hp1 lo2 w => ?_)
            exact hret _ _ _ _ _ _ rfl rfl w dX5_copy_73
        · -- not taken at 46
          exact absurd (Or.inr c46) hf9
    · -- not taken at 11
      exact absurd ⟨1, by decide, rfl⟩ c11
set_option maxHeartbeats 4000000 in
set_option maxRecDepth 100000 in
theorem c_X5_copy_idx01 (aS : Nat → Nat) (aE : Nat → Nat) (la : Int32) (aW : Nat → Nat) (n : Nat) (cl : Nat) (th : Nat → Nat) (ki : Nat → Nat) (va : Nat → Nat) (re : Nat → Nat) (fi : Nat → Nat) (aB : Nat → Nat) (bt : Nat → Nat) (bs : Nat) (aC : Nat → Nat) (to : Nat → Prop) (co : Nat → Nat) (ke : Nat → Int32) (nu : Nat → Int32) (fw : Nat → Nat) (aH : Nat → Nat) (lt : Nat → Option Nat) (tr : Nat → Nat) (sh : Nat → Nat) (cr : Nat → Nat) (ct : Nat → Nat) (cu : Nat → Nat) (ve : Nat → Nat) (ta : Nat → Nat) (ch : Nat) (aT : Nat → Nat) (lt2 : Nat → Option Nat) (tr2 : Nat → Nat) (sh2 : Nat → Nat) (cr2 : Nat → Nat) (ct2 : Nat → Nat) (cu2 : Nat → Nat) (ve2 : Nat → Nat) (ta2 : Nat → Nat) (ch2 : Nat) (lo : Nat → Prop) (fo : Nat → Nat) (si : Nat → Nat) (it : Nat → Nat → Int32) (i : Int32) (j : Int32) (k : Int32) (J : IW n cl th ki va re fi) (S : SW n cl re fi) (B9 : (∀ j, bt j ≤ 255) ∧ bs ≤ 216) (C9 : (∀ j, co j ≤ 400) ∧ (∀ j, fw j ≤ 15)) (H9 : IHd lt tr sh cr ct cu ve ta ch) (U9 : IHd lt2 tr2 sh2 cr2 ct2 cu2 ve2 ta2 ch2) (E9 : (∀ j, fo j ≤ 2) ∧ (∀ j, si j ≤ 60)) (hf9 : ¬ (lo 0 ∨ lo 1)) (hc9 : fo 0 = fo 1) (hk9 : ¬ (okH (si 0) i k ∧ okH (si 1) j k)) : CM l D (TY cI cZ cS) yX5_copy cX5_copy 8 (some .int) 1 [.ref (aS 0), .int (nI 0), .int i, .int (nI 1), .int j, .int k] ((wS cS aS (aW 0) (aB 0) (aC 0) (aH 0) (aT 0) aE la) ++ ((wW cI aW n cl th ki va re fi) ++ ((wB cI aB bt bs) ++ ((wC cI cZ aC (aW 0) (aB 0) to co ke nu fw) ++ ((wH cI aH (aW 0) lt tr sh cr ct cu ve ta ch) ++ ((wH cI aT (aW 0) lt2 tr2 sh2 cr2 ct2 cu2 ve2 ta2 ch2) ++ (wE cI aE lo fo si it))))))) (some (.int ((-10) - (nI 2)))) ((wS cS aS (aW 0) (aB 0) (aC 0) (aH 0) (aT 0) aE (nI 2)) ++ ((wW cI aW n cl th ki va re fi) ++ ((wB cI aB bt bs) ++ ((wC cI cZ aC (aW 0) (aB 0) to co ke nu fw) ++ ((wH cI aH (aW 0) lt tr sh cr ct cu ve ta ch) ++ ((wH cI aT (aW 0) lt2 tr2 sh2 cr2 ct2 cu2 ve2 ta2 ch2) ++ (wE cI aE lo fo si it))))))) := by
  refine CM.ofI (by decide +kernel) (Nat.le_of_ble_eq_true rfl) (nar_int _) ?_
  intro p e s m args below meth c Q A G K hA w hret ls hl
  obtain ⟨hx, hb, hml, hown, hts⟩ := id G
  obtain ⟨hn, hcl, hth, hki, hva, hre, hfi⟩ := id J
  obtain ⟨hbt, hbs⟩ := id B9
  obtain ⟨hco, hfw⟩ := id C9
  obtain ⟨hlt, htr, hsh, hcr, hct, hcu, hve, hta, hch⟩ := id H9
  obtain ⟨hlt2, htr2, hsh2, hcr2, hct2, hcu2, hve2, hta2, hch2⟩ := id U9
  obtain ⟨hfo, hsi⟩ := id E9
  have hq1 := hfo 0
  have hq2 := hfo 1
  have hl : lv_has ls 8 [(0, .ref (aS 0)), (1, .int (nI 0)), (2, .int i), (3, .int (nI 1)), (4, .int j), (5, .int k)] := hl
  refine lv_iload_n hx hb dX5_copy_0 rfl (lv_at hl 1 rfl) ?_
  refine callPS (rest := []) G K F_X5_isSheet (c_X5_isSheet (nI 0)) (va_P_nil D s.heap) ml_X5_121 (by decide) (by decide) rfl hl.1 (Nat.le_of_ble_eq_true rfl) dX5_copy_1 ?_
  refine b_eq G (tgt := 14) dX5_copy_4 (by decide) (fun c4 => ?_) (fun c4 => ?_)
  · -- taken at 4
    exact absurd ⟨0, by decide, rfl⟩ c4
  · -- not taken at 4
    refine lv_iload_n hx hb dX5_copy_7 rfl (lv_at hl 3 rfl) ?_
    refine callPS (rest := []) G K F_X5_isSheet (c_X5_isSheet (nI 1)) (va_P_nil D s.heap) ml_X5_121 (by decide) (by decide) rfl hl.1 (Nat.le_of_ble_eq_true rfl) dX5_copy_8 ?_
    refine b_ne G (tgt := 17) dX5_copy_11 (by decide) (fun c11 => ?_) (fun c11 => ?_)
    · -- taken at 11
      refine lv_aload_n hx hb dX5_copy_17 rfl (lv_at hl 0 rfl) ?_
      refine f_get G K w.1 inX5 0 (ci := 5) rfl rfl 5 rfl fl_X5_46 (v := .ref (aS 1)) rfl dX5_copy_18 ?_
      refine lv_iload_n hx hb dX5_copy_21 rfl (lv_at hl 1 rfl) ?_
      refine a_ldR G K w.1 1 2 (a := (aS 1)) rfl rfl (by omega) (by decide) dX5_copy_22 ?_
      refine lv_astore (lv' := [(6, .ref (aE 0)), (0, .ref (aS 0)), (1, .int (nI 0)), (2, .int i), (3, .int (nI 1)), (4, .int j), (5, .int k)]) hx hb dX5_copy_23 hl (by decide) rfl (fun ls hl => ?_)
      refine lv_aload_n hx hb dX5_copy_25 rfl (lv_at hl 1 rfl) ?_
      refine f_get G K w.1 inX5 0 (ci := 5) rfl rfl 5 rfl fl_X5_46 (v := .ref (aS 1)) rfl dX5_copy_26 ?_
      refine lv_iload_n hx hb dX5_copy_29 rfl (lv_at hl 4 rfl) ?_
      refine a_ldR G K w.1 1 2 (a := (aS 1)) rfl rfl (by omega) (by decide) dX5_copy_30 ?_
      refine lv_astore (lv' := [(7, .ref (aE 1)), (6, .ref (aE 0)), (0, .ref (aS 0)), (1, .int (nI 0)), (2, .int i), (3, .int (nI 1)), (4, .int j), (5, .int k)]) hx hb dX5_copy_31 hl (by decide) rfl (fun ls hl => ?_)
      refine lv_aload hx hb dX5_copy_33 (lv_at hl 1 rfl) ?_
      refine f_get G K w.1 inX3 34 (ci := 3) rfl rfl 1 rfl fl_X5_124 (v := .int (bI (lo 0))) rfl dX5_copy_35 ?_
      refine b_ne G (tgt := 49) dX5_copy_38 (by decide) (fun c38 => ?_) (fun c38 => ?_)
      · -- taken at 38
        exact absurd (Or.inl c38) hf9
      · -- not taken at 38
        refine lv_aload hx hb dX5_copy_41 (lv_at hl 0 rfl) ?_
        refine f_get G K w.1 inX3 35 (ci := 3) rfl rfl 1 rfl fl_X5_124 (v := .int (bI (lo 1))) rfl dX5_copy_43 ?_
        refine b_eq G (tgt := 55) dX5_copy_46 (by decide) (fun c46 => ?_) (fun c46 => ?_)
        · -- taken at 46
          refine lv_aload hx hb dX5_copy_55 (lv_at hl 1 rfl) ?_
          refine f_get G K w.1 inX3 34 (ci := 3) rfl rfl 2 rfl fl_X5_247 (v := .int (nI (fo 0))) rfl dX5_copy_57 ?_
          refine lv_aload hx hb dX5_copy_60 (lv_at hl 0 rfl) ?_
          refine f_get G K w.1 inX3 35 (ci := 3) rfl rfl 2 rfl fl_X5_247 (v := .int (nI (fo 1))) rfl dX5_copy_62 ?_
          refine c_eq G (tgt := 74) (by omega) (by omega) dX5_copy_65 (by decide) (fun c65 => ?_) (fun c65 => ?_)
          · -- taken at 65
            refine lv_aload hx hb dX5_copy_74 (lv_at hl 1 rfl) ?_
            refine lv_iload_n hx hb dX5_copy_76 rfl (lv_at hl 4 rfl) ?_
            refine lv_iload hx hb dX5_copy_77 (lv_at hl 7 rfl) ?_
            refine callPV (As := [.int i, .int k]) (rest := []) (q0 := 0) (ci := 3) G K F_X3_hasItems (c_X3_hasItems (aE 0) (aE 4) (lo 0) (fo 0) (si 0) (it 0) i k ⟨hfo 0, hsi 0⟩) (w.1.sub (ws' := (wT cI (aE 0) (aE 4) (lo 0) (fo 0) (si 0) (it 0))) [34, 38] rfl) ml_X5_250 rfl rfl rfl (by decide) (by decide) rfl hl.1 (Nat.le_of_ble_eq_true rfl) dX5_copy_79 ?_
            refine b_eq G (tgt := 97) dX5_copy_82 (by decide) (fun c82 => ?_) (fun c82 => ?_)
            · -- taken at 82
              refine lv_aload_n hx hb dX5_copy_97 rfl (lv_at hl 2 rfl) ?_
              refine lv_iconst (v := (nI 2)) hx hb dX5_copy_98 (by decide) ?_
              refine callMF (As := [.int (nI 2)]) (rest := []) (q0 := 0) (ci := 5) (ws' := ((wS cS aS (aW 0) (aB 0) (aC 0) (aH 0) (aT 0) aE (nI 2)) ++ ((wW cI aW n cl th ki va re fi) ++ ((wB cI aB bt bs) ++ ((wC cI cZ aC (aW 0) (aB 0) to co ke nu fw) ++ ((wH cI aH (aW 0) lt tr sh cr ct cu ve ta ch) ++ ((wH cI aT (aW 0) lt2 tr2 sh2 cr2 ct2 cu2 ve2 ta2 ch2) ++ (wE cI aE lo fo si it)))))))) G K hA w F_X5_find (c_X5_find aS aE la aW n cl th ki va re fi aB bt bs aC to co ke nu fw aH lt tr sh cr ct cu ve ta ch aT lt2 tr2 sh2 cr2 ct2 cu2 ve2 ta2 ch2 lo fo si it 2 J S B9 C9 H9 U9 E9) ml_X5_128 rfl rfl rfl (by decide) (by decide) rfl hl.1 (Nat.le_of_ble_eq_true rfl) dX5_copy_99 (fun Hp1 lo2 w => ?_)
              exact hret _ _ _ _ _ _ rfl rfl w dX5_copy_102
            · -- not taken at 82
              refine lv_aload hx hb dX5_copy_85 (lv_at hl 0 rfl) ?_
              refine lv_iload hx hb dX5_copy_87 (lv_at hl 6 rfl) ?_
              refine lv_iload hx hb dX5_copy_89 (lv_at hl 7 rfl) ?_
              refine callPV (As := [.int j, .int k]) (rest := []) (q0 := 0) (ci := 3) G K F_X3_hasItems (c_X3_hasItems (aE 1) (aE 5) (lo 1) (fo 1) (si 1) (it 1) j k ⟨hfo 1, hsi 1⟩) (w.1.sub (ws' := (wT cI (aE 1) (aE 5) (lo 1) (fo 1) (si 1) (it 1))) [35, 39] rfl) ml_X5_250 rfl rfl rfl (by decide) (by decide) rfl hl.1 (Nat.le_of_ble_eq_true rfl) dX5_copy_91 ?_
              refine b_ne G (tgt := 103) dX5_copy_94 (by decide) (fun c94 => ?_) (fun c94 => ?_)
              · -- taken at 94
                exact absurd ⟨c82, c94⟩ hk9
              · -- not taken at 94
                refine lv_aload_n hx hb dX5_copy_97 rfl (lv_at hl 2 rfl) ?_
                refine lv_iconst (v := (nI 2)) hx hb dX5_copy_98 (by decide) ?_
                refine callMF (As := [.int (nI 2)]) (rest := []) (q0 := 0) (ci := 5) (ws' := ((wS cS aS (aW 0) (aB 0) (aC 0) (aH 0) (aT 0) aE (nI 2)) ++ ((wW cI aW n cl th ki va re fi) ++ ((wB cI aB bt bs) ++ ((wC cI cZ aC (aW 0) (aB 0) to co ke nu fw) ++ ((wH cI aH (aW 0) lt tr sh cr ct cu ve ta ch) ++ ((wH cI aT (aW 0) lt2 tr2 sh2 cr2 ct2 cu2 ve2 ta2 ch2) ++ (wE cI aE lo fo si it)))))))) G K hA w F_X5_find (c_X5_find aS aE la aW n cl th ki va re fi aB bt bs aC to co ke nu fw aH lt tr sh cr ct cu ve ta ch aT lt2 tr2 sh2 cr2 ct2 cu2 ve2 ta2 ch2 lo fo si it 2 J S B9 C9 H9 U9 E9) ml_X5_128 rfl rfl rfl (by decide) (by decide) rfl hl.1 (Nat.le_of_ble_eq_true rfl) dX5_copy_99 (fun Hp3 lo4 w => ?_)
                exact hret _ _ _ _ _ _ rfl rfl w dX5_copy_102
          · -- not taken at 65
            exact absurd hc9 c65
        · -- not taken at 46
          exact absurd (Or.inr c46) hf9
    · -- not taken at 11
      exact absurd ⟨1, by decide, rfl⟩ c11
set_option maxHeartbeats 4000000 in
set_option maxRecDepth 100000 in
theorem c_X5_copy_ok01 (aS : Nat → Nat) (aE : Nat → Nat) (la : Int32) (aW : Nat → Nat) (n : Nat) (cl : Nat) (th : Nat → Nat) (ki : Nat → Nat) (va : Nat → Nat) (re : Nat → Nat) (fi : Nat → Nat) (aB : Nat → Nat) (bt : Nat → Nat) (bs : Nat) (aC : Nat → Nat) (to : Nat → Prop) (co : Nat → Nat) (ke : Nat → Int32) (nu : Nat → Int32) (fw : Nat → Nat) (aH : Nat → Nat) (lt : Nat → Option Nat) (tr : Nat → Nat) (sh : Nat → Nat) (cr : Nat → Nat) (ct : Nat → Nat) (cu : Nat → Nat) (ve : Nat → Nat) (ta : Nat → Nat) (ch : Nat) (aT : Nat → Nat) (lt2 : Nat → Option Nat) (tr2 : Nat → Nat) (sh2 : Nat → Nat) (cr2 : Nat → Nat) (ct2 : Nat → Nat) (cu2 : Nat → Nat) (ve2 : Nat → Nat) (ta2 : Nat → Nat) (ch2 : Nat) (lo : Nat → Prop) (fo : Nat → Nat) (si : Nat → Nat) (it : Nat → Nat → Int32) (i : Nat) (j : Nat) (k : Nat) (J : IW n cl th ki va re fi) (S : SW n cl re fi) (B9 : (∀ j, bt j ≤ 255) ∧ bs ≤ 216) (C9 : (∀ j, co j ≤ 400) ∧ (∀ j, fw j ≤ 15)) (H9 : IHd lt tr sh cr ct cu ve ta ch) (U9 : IHd lt2 tr2 sh2 cr2 ct2 cu2 ve2 ta2 ch2) (E9 : (∀ j, fo j ≤ 2) ∧ (∀ j, si j ≤ 60)) (hf9 : ¬ (lo 0 ∨ lo 1)) (hc9 : fo 0 = fo 1) (hi9 : i + k ≤ si 0) (hj9 : j + k ≤ si 1) : CM l D (TY cI cZ cS) yX5_copy cX5_copy 8 (some .int) 1 [.ref (aS 0), .int (nI 0), .int (nI i), .int (nI 1), .int (nI j), .int (nI k)] ((wS cS aS (aW 0) (aB 0) (aC 0) (aH 0) (aT 0) aE la) ++ ((wW cI aW n cl th ki va re fi) ++ ((wB cI aB bt bs) ++ ((wC cI cZ aC (aW 0) (aB 0) to co ke nu fw) ++ ((wH cI aH (aW 0) lt tr sh cr ct cu ve ta ch) ++ ((wH cI aT (aW 0) lt2 tr2 sh2 cr2 ct2 cu2 ve2 ta2 ch2) ++ (wE cI aE lo fo si it))))))) (some (.int (nI 1))) ((wS cS aS (aW 0) (aB 0) (aC 0) (aH 0) (aT 0) aE la) ++ ((wW cI aW n cl th ki va re fi) ++ ((wB cI aB bt bs) ++ ((wC cI cZ aC (aW 0) (aB 0) to co ke nu fw) ++ ((wH cI aH (aW 0) lt tr sh cr ct cu ve ta ch) ++ ((wH cI aT (aW 0) lt2 tr2 sh2 cr2 ct2 cu2 ve2 ta2 ch2) ++ (wE cI aE lo fo si (va_up it 1 (va_cpy (it 0) (it 1) i j k))))))))) := by
  refine CM.ofI (by decide +kernel) (Nat.le_of_ble_eq_true rfl) (nar_int _) ?_
  intro p e s m args below meth c Q A G K hA w hret ls hl
  obtain ⟨hx, hb, hml, hown, hts⟩ := id G
  obtain ⟨hn, hcl, hth, hki, hva, hre, hfi⟩ := id J
  obtain ⟨hbt, hbs⟩ := id B9
  obtain ⟨hco, hfw⟩ := id C9
  obtain ⟨hlt, htr, hsh, hcr, hct, hcu, hve, hta, hch⟩ := id H9
  obtain ⟨hlt2, htr2, hsh2, hcr2, hct2, hcu2, hve2, hta2, hch2⟩ := id U9
  obtain ⟨hfo, hsi⟩ := id E9
  have hs9 := hsi 0
  have ht9 := hsi 1
  have hq1 := hfo 0
  have hq2 := hfo 1
  have hl : lv_has ls 8 [(0, .ref (aS 0)), (1, .int (nI 0)), (2, .int (nI i)), (3, .int (nI 1)), (4, .int (nI j)), (5, .int (nI k))] := hl
  refine lv_iload_n hx hb dX5_copy_0 rfl (lv_at hl 1 rfl) ?_
  refine callPS (rest := []) G K F_X5_isSheet (c_X5_isSheet (nI 0)) (va_P_nil D s.heap) ml_X5_121 (by decide) (by decide) rfl hl.1 (Nat.le_of_ble_eq_true rfl) dX5_copy_1 ?_
  refine b_eq G (tgt := 14) dX5_copy_4 (by decide) (fun c4 => ?_) (fun c4 => ?_)
  · -- taken at 4
    exact absurd ⟨0, by decide, rfl⟩ c4
  · -- not taken at 4
    refine lv_iload_n hx hb dX5_copy_7 rfl (lv_at hl 3 rfl) ?_
    refine callPS (rest := []) G K F_X5_isSheet (c_X5_isSheet (nI 1)) (va_P_nil D s.heap) ml_X5_121 (by decide) (by decide) rfl hl.1 (Nat.le_of_ble_eq_true rfl) dX5_copy_8 ?_
    refine b_ne G (tgt := 17) dX5_copy_11 (by decide) (fun c11 => ?_) (fun c11 => ?_)
    · -- taken at 11
      refine lv_aload_n hx hb dX5_copy_17 rfl (lv_at hl 0 rfl) ?_
      refine f_get G K w.1 inX5 0 (ci := 5) rfl rfl 5 rfl fl_X5_46 (v := .ref (aS 1)) rfl dX5_copy_18 ?_
      refine lv_iload_n hx hb dX5_copy_21 rfl (lv_at hl 1 rfl) ?_
      refine a_ldR G K w.1 1 2 (a := (aS 1)) rfl rfl (by omega) (by decide) dX5_copy_22 ?_
      refine lv_astore (lv' := [(6, .ref (aE 0)), (0, .ref (aS 0)), (1, .int (nI 0)), (2, .int (nI i)), (3, .int (nI 1)), (4, .int (nI j)), (5, .int (nI k))]) hx hb dX5_copy_23 hl (by decide) rfl (fun ls hl => ?_)
      refine lv_aload_n hx hb dX5_copy_25 rfl (lv_at hl 1 rfl) ?_
      refine f_get G K w.1 inX5 0 (ci := 5) rfl rfl 5 rfl fl_X5_46 (v := .ref (aS 1)) rfl dX5_copy_26 ?_
      refine lv_iload_n hx hb dX5_copy_29 rfl (lv_at hl 4 rfl) ?_
      refine a_ldR G K w.1 1 2 (a := (aS 1)) rfl rfl (by omega) (by decide) dX5_copy_30 ?_
      refine lv_astore (lv' := [(7, .ref (aE 1)), (6, .ref (aE 0)), (0, .ref (aS 0)), (1, .int (nI 0)), (2, .int (nI i)), (3, .int (nI 1)), (4, .int (nI j)), (5, .int (nI k))]) hx hb dX5_copy_31 hl (by decide) rfl (fun ls hl => ?_)
      refine lv_aload hx hb dX5_copy_33 (lv_at hl 1 rfl) ?_
      refine f_get G K w.1 inX3 34 (ci := 3) rfl rfl 1 rfl fl_X5_124 (v := .int (bI (lo 0))) rfl dX5_copy_35 ?_
      refine b_ne G (tgt := 49) dX5_copy_38 (by decide) (fun c38 => ?_) (fun c38 => ?_)
      · -- taken at 38
        exact absurd (Or.inl c38) hf9
      · -- not taken at 38
        refine lv_aload hx hb dX5_copy_41 (lv_at hl 0 rfl) ?_
        refine f_get G K w.1 inX3 35 (ci := 3) rfl rfl 1 rfl fl_X5_124 (v := .int (bI (lo 1))) rfl dX5_copy_43 ?_
        refine b_eq G (tgt := 55) dX5_copy_46 (by decide) (fun c46 => ?_) (fun c46 => ?_)
        · -- taken at 46
          refine lv_aload hx hb dX5_copy_55 (lv_at hl 1 rfl) ?_
          refine f_get G K w.1 inX3 34 (ci := 3) rfl rfl 2 rfl fl_X5_247 (v := .int (nI (fo 0))) rfl dX5_copy_57 ?_
          refine lv_aload hx hb dX5_copy_60 (lv_at hl 0 rfl) ?_
          refine f_get G K w.1 inX3 35 (ci := 3) rfl rfl 2 rfl fl_X5_247 (v := .int (nI (fo 1))) rfl dX5_copy_62 ?_
          refine c_eq G (tgt := 74) (by omega) (by omega) dX5_copy_65 (by decide) (fun c65 => ?_) (fun c65 => ?_)
          · -- taken at 65
            refine lv_aload hx hb dX5_copy_74 (lv_at hl 1 rfl) ?_
            refine lv_iload_n hx hb dX5_copy_76 rfl (lv_at hl 4 rfl) ?_
            refine lv_iload hx hb dX5_copy_77 (lv_at hl 7 rfl) ?_
            refine callPV (As := [.int (nI i), .int (nI k)]) (rest := []) (q0 := 0) (ci := 3) G K F_X3_hasItems (c_X3_hasItems (aE 0) (aE 4) (lo 0) (fo 0) (si 0) (it 0) (nI i) (nI k) ⟨hfo 0, hsi 0⟩) (w.1.sub (ws' := (wT cI (aE 0) (aE 4) (lo 0) (fo 0) (si 0) (it 0))) [34, 38] rfl) ml_X5_250 rfl rfl rfl (by decide) (by decide) rfl hl.1 (Nat.le_of_ble_eq_true rfl) dX5_copy_79 ?_
            refine b_eq G (tgt := 97) dX5_copy_82 (by decide) (fun c82 => ?_) (fun c82 => ?_)
            · -- taken at 82
              exact absurd ⟨i, k, hi9, rfl, rfl⟩ c82
            · -- not taken at 82
              refine lv_aload hx hb dX5_copy_85 (lv_at hl 0 rfl) ?_
              refine lv_iload hx hb dX5_copy_87 (lv_at hl 6 rfl) ?_
              refine lv_iload hx hb dX5_copy_89 (lv_at hl 7 rfl) ?_
              refine callPV (As := [.int (nI j), .int (nI k)]) (rest := []) (q0 := 0) (ci := 3) G K F_X3_hasItems (c_X3_hasItems (aE 1) (aE 5) (lo 1) (fo 1) (si 1) (it 1) (nI j) (nI k) ⟨hfo 1, hsi 1⟩) (w.1.sub (ws' := (wT cI (aE 1) (aE 5) (lo 1) (fo 1) (si 1) (it 1))) [35, 39] rfl) ml_X5_250 rfl rfl rfl (by decide) (by decide) rfl hl.1 (Nat.le_of_ble_eq_true rfl) dX5_copy_91 ?_
              refine b_ne G (tgt := 103) dX5_copy_94 (by decide) (fun c94 => ?_) (fun c94 => ?_)
              · -- taken at 94
                refine lv_aload hx hb dX5_copy_103 (lv_at hl 1 rfl) ?_
                refine f_get G K w.1 inX3 34 (ci := 3) rfl rfl 0 rfl fl_X5_132 (v := .ref (aE 4)) rfl dX5_copy_105 ?_
                refine lv_iload_n hx hb dX5_copy_108 rfl (lv_at hl 4 rfl) ?_
                refine lv_aload hx hb dX5_copy_109 (lv_at hl 0 rfl) ?_
                refine f_get G K w.1 inX3 35 (ci := 3) rfl rfl 0 rfl fl_X5_132 (v := .ref (aE 5)) rfl dX5_copy_111 ?_
                refine lv_iload hx hb dX5_copy_114 (lv_at hl 6 rfl) ?_
                refine lv_iload hx hb dX5_copy_116 (lv_at hl 7 rfl) ?_
                refine acp (f := (it 0)) (g := (it 1)) (sp := i) (dp := j) (k := k) G K w (hml.trans hl.1.symm) ml_X5_253 38 39 rfl rfl (by omega) (by omega) (by decide) (Nat.le_of_ble_eq_true rfl) (Nat.le_of_ble_eq_true rfl) dX5_copy_118 (w2 := ((wS cS aS (aW 0) (aB 0) (aC 0) (aH 0) (aT 0) aE la) ++ ((wW cI aW n cl th ki va re fi) ++ ((wB cI aB bt bs) ++ ((wC cI cZ aC (aW 0) (aB 0) to co ke nu fw) ++ ((wH cI aH (aW 0) lt tr sh cr ct cu ve ta ch) ++ ((wH cI aT (aW 0) lt2 tr2 sh2 cr2 ct2 cu2 ve2 ta2 ch2) ++ (wE cI aE lo fo si (va_up it 1 (va_cpy (it 0) (it 1) i j k)))))))))) rfl (fun Hp1 lo2 w => ?_)
                refine lv_iconst (v := (nI 1)) hx hb dX5_copy_121 (by decide) ?_
                exact hret _ _ _ _ _ _ rfl rfl w dX5_copy_122
              · -- not taken at 94
                exact absurd ⟨j, k, hj9, rfl, rfl⟩ c94
          · -- not taken at 65
            exact absurd hc9 c65
        · -- not taken at 46
          exact absurd (Or.inr c46) hf9
    · -- not taken at 11
      exact absurd ⟨1, by decide, rfl⟩ c11
set_option maxHeartbeats 4000000 in
set_option maxRecDepth 100000 in
theorem c_X5_copy_nul02 (aS : Nat → Nat) (aE : Nat → Nat) (la : Int32) (aW : Nat → Nat) (n : Nat) (cl : Nat) (th : Nat → Nat) (ki : Nat → Nat) (va : Nat → Nat) (re : Nat → Nat) (fi : Nat → Nat) (aB : Nat → Nat) (bt : Nat → Nat) (bs : Nat) (aC : Nat → Nat) (to : Nat → Prop) (co : Nat → Nat) (ke : Nat → Int32) (nu : Nat → Int32) (fw : Nat → Nat) (aH : Nat → Nat) (lt : Nat → Option Nat) (tr : Nat → Nat) (sh : Nat → Nat) (cr : Nat → Nat) (ct : Nat → Nat) (cu : Nat → Nat) (ve : Nat → Nat) (ta : Nat → Nat) (ch : Nat) (aT : Nat → Nat) (lt2 : Nat → Option Nat) (tr2 : Nat → Nat) (sh2 : Nat → Nat) (cr2 : Nat → Nat) (ct2 : Nat → Nat) (cu2 : Nat → Nat) (ve2 : Nat → Nat) (ta2 : Nat → Nat) (ch2 : Nat) (lo : Nat → Prop) (fo : Nat → Nat) (si : Nat → Nat) (it : Nat → Nat → Int32) (i : Int32) (j : Int32) (k : Int32) (J : IW n cl th ki va re fi) (S : SW n cl re fi) (B9 : (∀ j, bt j ≤ 255) ∧ bs ≤ 216) (C9 : (∀ j, co j ≤ 400) ∧ (∀ j, fw j ≤ 15)) (H9 : IHd lt tr sh cr ct cu ve ta ch) (U9 : IHd lt2 tr2 sh2 cr2 ct2 cu2 ve2 ta2 ch2) (E9 : (∀ j, fo j ≤ 2) ∧ (∀ j, si j ≤ 60)) (hf9 : lo 0 ∨ lo 2) : CM l D (TY cI cZ cS) yX5_copy cX5_copy 8 (some .int) 1 [.ref (aS 0), .int (nI 0), .int i, .int (nI 2), .int j, .int k] ((wS cS aS (aW 0) (aB 0) (aC 0) (aH 0) (aT 0) aE la) ++ ((wW cI aW n cl th ki va re fi) ++ ((wB cI aB bt bs) ++ ((wC cI cZ aC (aW 0) (aB 0) to co ke nu fw) ++ ((wH cI aH (aW 0) lt tr sh cr ct cu ve ta ch) ++ ((wH cI aT (aW 0) lt2 tr2 sh2 cr2 ct2 cu2 ve2 ta2 ch2) ++ (wE cI aE lo fo si it))))))) (some (.int ((-10) - (nI 1)))) ((wS cS aS (aW 0) (aB 0) (aC 0) (aH 0) (aT 0) aE (nI 1)) ++ ((wW cI aW n cl th ki va re fi) ++ ((wB cI aB bt bs) ++ ((wC cI cZ aC (aW 0) (aB 0) to co ke nu fw) ++ ((wH cI aH (aW 0) lt tr sh cr ct cu ve ta ch) ++ ((wH cI aT (aW 0) lt2 tr2 sh2 cr2 ct2 cu2 ve2 ta2 ch2) ++ (wE cI aE lo fo si it))))))) := by
  refine CM.ofI (by decide +kernel) (Nat.le_of_ble_eq_true rfl) (nar_int _) ?_
  intro p e s m args below meth c Q A G K hA w hret ls hl
  obtain ⟨hx, hb, hml, hown, hts⟩ := id G
  obtain ⟨hn, hcl, hth, hki, hva, hre, hfi⟩ := id J
  obtain ⟨hbt, hbs⟩ := id B9
  obtain ⟨hco, hfw⟩ := id C9
  obtain ⟨hlt, htr, hsh, hcr, hct, hcu, hve, hta, hch⟩ := id H9
  obtain ⟨hlt2, htr2, hsh2, hcr2, hct2, hcu2, hve2, hta2, hch2⟩ := id U9
  obtain ⟨hfo, hsi⟩ := id E9
  have hl : lv_has ls 8 [(0, .ref (aS 0)), (1, .int (nI 0)), (2, .int i), (3, .int (nI 2)), (4, .int j), (5, .int k)] := hl
  refine lv_iload_n hx hb dX5_copy_0 rfl (lv_at hl 1 rfl) ?_
  refine callPS (rest := []) G K F_X5_isSheet (c_X5_isSheet (nI 0)) (va_P_nil D s.heap) ml_X5_121 (by decide) (by decide) rfl hl.1 (Nat.le_of_ble_eq_true rfl) dX5_copy_1 ?_
  refine b_eq G (tgt := 14) dX5_copy_4 (by decide) (fun c4 => ?_) (fun c4 => ?_)
  · -- taken at 4
    exact absurd ⟨0, by decide, rfl⟩ c4
  · -- not taken at 4
    refine lv_iload_n hx hb dX5_copy_7 rfl (lv_at hl 3 rfl) ?_
    refine callPS (rest := []) G K F_X5_isSheet (c_X5_isSheet (nI 2)) (va_P_nil D s.heap) ml_X5_121 (by decide) (by decide) rfl hl.1 (Nat.le_of_ble_eq_true rfl) dX5_copy_8 ?_
    refine b_ne G (tgt := 17) dX5_copy_11 (by decide) (fun c11 => ?_) (fun c11 => ?_)
    · -- taken at 11
      refine lv_aload_n hx hb dX5_copy_17 rfl (lv_at hl 0 rfl) ?_
      refine f_get G K w.1 inX5 0 (ci := 5) rfl rfl 5 rfl fl_X5_46 (v := .ref (aS 1)) rfl dX5_copy_18 ?_
      refine lv_iload_n hx hb dX5_copy_21 rfl (lv_at hl 1 rfl) ?_
      refine a_ldR G K w.1 1 2 (a := (aS 1)) rfl rfl (by omega) (by decide) dX5_copy_22 ?_
      refine lv_astore (lv' := [(6, .ref (aE 0)), (0, .ref (aS 0)), (1, .int (nI 0)), (2, .int i), (3, .int (nI 2)), (4, .int j), (5, .int k)]) hx hb dX5_copy_23 hl (by decide) rfl (fun ls hl => ?_)
      refine lv_aload_n hx hb dX5_copy_25 rfl (lv_at hl 1 rfl) ?_
      refine f_get G K w.1 inX5 0 (ci := 5) rfl rfl 5 rfl fl_X5_46 (v := .ref (aS 1)) rfl dX5_copy_26 ?_
      refine lv_iload_n hx hb dX5_copy_29 rfl (lv_at hl 4 rfl) ?_
      refine a_ldR G K w.1 1 2 (a := (aS 1)) rfl rfl (by omega) (by decide) dX5_copy_30 ?_
      refine lv_astore (lv' := [(7, .ref (aE 2)), (6, .ref (aE 0)), (0, .ref (aS 0)), (1, .int (nI 0)), (2, .int i), (3, .int (nI 2)), (4, .int j), (5, .int k)]) hx hb dX5_copy_31 hl (by decide) rfl (fun ls hl => ?_)
      refine lv_aload hx hb dX5_copy_33 (lv_at hl 1 rfl) ?_
      refine f_get G K w.1 inX3 34 (ci := 3) rfl rfl 1 rfl fl_X5_124 (v := .int (bI (lo 0))) rfl dX5_copy_35 ?_
      refine b_ne G (tgt := 49) dX5_copy_38 (by decide) (fun c38 => ?_) (fun c38 => ?_)
      · -- taken at 38
        refine lv_aload_n hx hb dX5_copy_49 rfl (lv_at hl 2 rfl) ?_
        refine lv_iconst (v := (nI 1)) hx hb dX5_copy_50 (by decide) ?_
        refine callMF (As := [.int (nI 1)]) (rest := []) (q0 := 0) (ci := 5) (ws' := ((wS cS aS (aW 0) (aB 0) (aC 0) (aH 0) (aT 0) aE (nI 1)) ++ ((wW cI aW n cl th ki va re fi) ++ ((wB cI aB bt bs) ++ ((wC cI cZ aC (aW 0) (aB 0) to co ke nu fw) ++ ((wH cI aH (aW 0) lt tr sh cr ct cu ve ta ch) ++ ((wH cI aT (aW 0) lt2 tr2 sh2 cr2 ct2 cu2 ve2 ta2 ch2) ++ (wE cI aE lo fo si it)))))))) G K hA w F_X5_find (c_X5_find aS aE la aW n cl th ki va re fi aB bt bs aC to co ke nu fw aH lt tr sh cr ct cu ve ta ch aT lt2 tr2 sh2 cr2 ct2 cu2 ve2 ta2 ch2 lo fo si it 1 J S B9 C9 H9 U9 E9) ml_X5_128 rfl rfl rfl (by decide) (by decide) rfl hl.1 (Nat.le_of_ble_eq_true rfl) dX5_copy_51 (fun Hp1 lo2 w => ?_)
        exact hret _ _ _ _ _ _ rfl rfl w dX5_copy_54
      · -- not taken at 38
        refine lv_aload hx hb dX5_copy_41 (lv_at hl 0 rfl) ?_
        refine f_get G K w.1 inX3 36 (ci := 3) rfl rfl 1 rfl fl_X5_124 (v := .int (bI (lo 2))) rfl dX5_copy_43 ?_
        refine b_eq G (tgt := 55) dX5_copy_46 (by decide) (fun c46 => ?_) (fun c46 => ?_)
        · -- taken at 46
          exact absurd hf9 (fun h => h.elim c38 c46)
        · -- not taken at 46
          refine lv_aload_n hx hb dX5_copy_49 rfl (lv_at hl 2 rfl) ?_
          refine lv_iconst (v := (nI 1)) hx hb dX5_copy_50 (by decide) ?_
          refine callMF (As := [.int (nI 1)]) (rest := []) (q0 := 0) (ci := 5) (ws' := ((wS cS aS (aW 0) (aB 0) (aC 0) (aH 0) (aT 0) aE (nI 1)) ++ ((wW cI aW n cl th ki va re fi) ++ ((wB cI aB bt bs) ++ ((wC cI cZ aC (aW 0) (aB 0) to co ke nu fw) ++ ((wH cI aH (aW 0) lt tr sh cr ct cu ve ta ch) ++ ((wH cI aT (aW 0) lt2 tr2 sh2 cr2 ct2 cu2 ve2 ta2 ch2) ++ (wE cI aE lo fo si it)))))))) G K hA w F_X5_find (c_X5_find aS aE la aW n cl th ki va re fi aB bt bs aC to co ke nu fw aH lt tr sh cr ct cu ve ta ch aT lt2 tr2 sh2 cr2 ct2 cu2 ve2 ta2 ch2 lo fo si it 1 J S B9 C9 H9 U9 E9) ml_X5_128 rfl rfl rfl (by decide) (by decide) rfl hl.1 (Nat.le_of_ble_eq_true rfl) dX5_copy_51 (fun Hp3 lo4 w => ?_)
          exact hret _ _ _ _ _ _ rfl rfl w dX5_copy_54
    · -- not taken at 11
      exact absurd ⟨2, by decide, rfl⟩ c11
set_option maxHeartbeats 4000000 in
set_option maxRecDepth 100000 in
theorem c_X5_copy_sto02 (aS : Nat → Nat) (aE : Nat → Nat) (la : Int32) (aW : Nat → Nat) (n : Nat) (cl : Nat) (th : Nat → Nat) (ki : Nat → Nat) (va : Nat → Nat) (re : Nat → Nat) (fi : Nat → Nat) (aB : Nat → Nat) (bt : Nat → Nat) (bs : Nat) (aC : Nat → Nat) (to : Nat → Prop) (co : Nat → Nat) (ke : Nat → Int32) (nu : Nat → Int32) (fw : Nat → Nat) (aH : Nat → Nat) (lt : Nat → Option Nat) (tr : Nat → Nat) (sh : Nat → Nat) (cr : Nat → Nat) (ct : Nat → Nat) (cu : Nat → Nat) (ve : Nat → Nat) (ta : Nat → Nat) (ch : Nat) (aT : Nat → Nat) (lt2 : Nat → Option Nat) (tr2 : Nat → Nat) (sh2 : Nat → Nat) (cr2 : Nat → Nat) (ct2 : Nat → Nat) (cu2 : Nat → Nat) (ve2 : Nat → Nat) (ta2 : Nat → Nat) (ch2 : Nat) (lo : Nat → Prop) (fo : Nat → Nat) (si : Nat → Nat) (it : Nat → Nat → Int32) (i : Int32) (j : Int32) (k : Int32) (J : IW n cl th ki va re fi) (S : SW n cl re fi) (B9 : (∀ j, bt j ≤ 255) ∧ bs ≤ 216) (C9 : (∀ j, co j ≤ 400) ∧ (∀ j, fw j ≤ 15)) (H9 : IHd lt tr sh cr ct cu ve ta ch) (U9 : IHd lt2 tr2 sh2 cr2 ct2 cu2 ve2 ta2 ch2) (E9 : (∀ j, fo j ≤ 2) ∧ (∀ j, si j ≤ 60)) (hf9 : ¬ (lo 0 ∨ lo 2)) (hc9 : fo 0 ≠ fo 2) : CM l D (TY cI cZ cS) yX5_copy cX5_copy 8 (some .int) 1 [.ref (aS 0), .int (nI 0), .int i, .int (nI 2), .int j, .int k] ((wS cS aS (aW 0) (aB 0) (aC 0) (aH 0) (aT 0) aE la) ++ ((wW cI aW n cl th ki va re fi) ++ ((wB cI aB bt bs) ++ ((wC cI cZ aC (aW 0) (aB 0) to co ke nu fw) ++ ((wH cI aH (aW 0) lt tr sh cr ct cu ve ta ch) ++ ((wH cI aT (aW 0) lt2 tr2 sh2 cr2 ct2 cu2 ve2 ta2 ch2) ++ (wE cI aE lo fo si it))))))) (some (.int ((-10) - (nI 4)))) ((wS cS aS (aW 0) (aB 0) (aC 0) (aH 0) (aT 0) aE (nI 4)) ++ ((wW cI aW n cl th ki va re fi) ++ ((wB cI aB bt bs) ++ ((wC cI cZ aC (aW 0) (aB 0) to co ke nu fw) ++ ((wH cI aH (aW 0) lt tr sh cr ct cu ve ta ch) ++ ((wH cI aT (aW 0) lt2 tr2 sh2 cr2 ct2 cu2 ve2 ta2 ch2) ++ (wE cI aE lo fo si it))))))) := by
  refine CM.ofI (by decide +kernel) (Nat.le_of_ble_eq_true rfl) (nar_int _) ?_
  intro p e s m args below meth c Q A G K hA w hret ls hl
  obtain ⟨hx, hb, hml, hown, hts⟩ := id G
  obtain ⟨hn, hcl, hth, hki, hva, hre, hfi⟩ := id J
  obtain ⟨hbt, hbs⟩ := id B9
  obtain ⟨hco, hfw⟩ := id C9
  obtain ⟨hlt, htr, hsh, hcr, hct, hcu, hve, hta, hch⟩ := id H9
  obtain ⟨hlt2, htr2, hsh2, hcr2, hct2, hcu2, hve2, hta2, hch2⟩ := id U9
  obtain ⟨hfo, hsi⟩ := id E9
  have hq1 := hfo 0
  have hq2 := hfo 2
  have hl : lv_has ls 8 [(0, .ref (aS 0)), (1, .int (nI 0)), (2, .int i), (3, .int (nI 2)), (4, .int j), (5, .int k)] := hl
  refine lv_iload_n hx hb dX5_copy_0 rfl (lv_at hl 1 rfl) ?_
  refine callPS (rest := []) G K F_X5_isSheet (c_X5_isSheet (nI 0)) (va_P_nil D s.heap) ml_X5_121 (by decide) (by decide) rfl hl.1 (Nat.le_of_ble_eq_true rfl) dX5_copy_1 ?_
  refine b_eq G (tgt := 14) dX5_copy_4 (by decide) (fun c4 => ?_) (fun c4 => ?_)
  · -- taken at 4
    exact absurd ⟨0, by decide, rfl⟩ c4
  · -- not taken at 4
    refine lv_iload_n hx hb dX5_copy_7 rfl (lv_at hl 3 rfl) ?_
    refine callPS (rest := []) G K F_X5_isSheet (c_X5_isSheet (nI 2)) (va_P_nil D s.heap) ml_X5_121 (by decide) (by decide) rfl hl.1 (Nat.le_of_ble_eq_true rfl) dX5_copy_8 ?_
    refine b_ne G (tgt := 17) dX5_copy_11 (by decide) (fun c11 => ?_) (fun c11 => ?_)
    · -- taken at 11
      refine lv_aload_n hx hb dX5_copy_17 rfl (lv_at hl 0 rfl) ?_
      refine f_get G K w.1 inX5 0 (ci := 5) rfl rfl 5 rfl fl_X5_46 (v := .ref (aS 1)) rfl dX5_copy_18 ?_
      refine lv_iload_n hx hb dX5_copy_21 rfl (lv_at hl 1 rfl) ?_
      refine a_ldR G K w.1 1 2 (a := (aS 1)) rfl rfl (by omega) (by decide) dX5_copy_22 ?_
      refine lv_astore (lv' := [(6, .ref (aE 0)), (0, .ref (aS 0)), (1, .int (nI 0)), (2, .int i), (3, .int (nI 2)), (4, .int j), (5, .int k)]) hx hb dX5_copy_23 hl (by decide) rfl (fun ls hl => ?_)
      refine lv_aload_n hx hb dX5_copy_25 rfl (lv_at hl 1 rfl) ?_
      refine f_get G K w.1 inX5 0 (ci := 5) rfl rfl 5 rfl fl_X5_46 (v := .ref (aS 1)) rfl dX5_copy_26 ?_
      refine lv_iload_n hx hb dX5_copy_29 rfl (lv_at hl 4 rfl) ?_
      refine a_ldR G K w.1 1 2 (a := (aS 1)) rfl rfl (by omega) (by decide) dX5_copy_30 ?_
      refine lv_astore (lv' := [(7, .ref (aE 2)), (6, .ref (aE 0)), (0, .ref (aS 0)), (1, .int (nI 0)), (2, .int i), (3, .int (nI 2)), (4, .int j), (5, .int k)]) hx hb dX5_copy_31 hl (by decide) rfl (fun ls hl => ?_)
      refine lv_aload hx hb dX5_copy_33 (lv_at hl 1 rfl) ?_
      refine f_get G K w.1 inX3 34 (ci := 3) rfl rfl 1 rfl fl_X5_124 (v := .int (bI (lo 0))) rfl dX5_copy_35 ?_
      refine b_ne G (tgt := 49) dX5_copy_38 (by decide) (fun c38 => ?_) (fun c38 => ?_)
      · -- taken at 38
        exact absurd (Or.inl c38) hf9
      · -- not taken at 38
        refine lv_aload hx hb dX5_copy_41 (lv_at hl 0 rfl) ?_
        refine f_get G K w.1 inX3 36 (ci := 3) rfl rfl 1 rfl fl_X5_124 (v := .int (bI (lo 2))) rfl dX5_copy_43 ?_
        refine b_eq G (tgt := 55) dX5_copy_46 (by decide) (fun c46 => ?_) (fun c46 => ?_)
        · -- taken at 46
          refine lv_aload hx hb dX5_copy_55 (lv_at hl 1 rfl) ?_
          refine f_get G K w.1 inX3 34 (ci := 3) rfl rfl 2 rfl fl_X5_247 (v := .int (nI (fo 0))) rfl dX5_copy_57 ?_
          refine lv_aload hx hb dX5_copy_60 (lv_at hl 0 rfl) ?_
          refine f_get G K w.1 inX3 36 (ci := 3) rfl rfl 2 rfl fl_X5_247 (v := .int (nI (fo 2))) rfl dX5_copy_62 ?_
          refine c_eq G (tgt := 74) (by omega) (by omega) dX5_copy_65 (by decide) (fun c65 => ?_) (fun c65 => ?_)
          · -- taken at 65
            exact absurd c65 hc9
          · -- not taken at 65
            refine lv_aload_n hx hb dX5_copy_68 rfl (lv_at hl 2 rfl) ?_
            refine lv_iconst (v := (nI 4)) hx hb dX5_copy_69 (by decide) ?_
            refine callMF (As := [.int (nI 4)]) (rest := []) (q0 := 0) (ci := 5) (ws' := ((wS cS aS (aW 0) (aB 0) (aC 0) (aH 0) (aT 0) aE (nI 4)) ++ ((wW cI aW n cl th ki va re fi) ++ ((wB cI aB bt bs) ++ ((wC cI cZ aC (aW 0) (aB 0) to co ke nu fw) ++ ((wH cI aH (aW 0) lt tr sh cr ct cu ve ta ch) ++ ((wH cI aT (aW 0) lt2 tr2 sh2 cr2 ct2 cu2 ve2 ta2 ch2) ++ (wE cI aE lo fo si it)))))))) G K hA w F_X5_find (c_X5_find aS aE la aW n cl th ki va re fi aB bt bs aC to co ke nu fw aH lt tr sh cr ct cu ve ta ch aT lt2 tr2 sh2 cr2 ct2 cu2 ve2 ta2 ch2 lo fo si it 4 J S B9 C9 H9 U9 E9) ml_X5_128 rfl rfl rfl (by decide) (by decide) rfl hl.1 (Nat.le_of_ble_eq_true rfl) dX5_copy_70 (fun Hp1 lo2 w => ?_)
            exact hret _ _ _ _ _ _ rfl rfl w dX5_copy_73
        · -- not taken at 46
          exact absurd (Or.inr c46) hf9
    · -- not taken at 11
      exact absurd ⟨2, by decide, rfl⟩ c11
set_option maxHeartbeats 4000000 in
set_option maxRecDepth 100000 in
theorem c_X5_copy_idx02 (aS : Nat → Nat) (aE : Nat → Nat) (la : Int32) (aW : Nat → Nat) (n : Nat) (cl : Nat) (th : Nat → Nat) (ki : Nat → Nat) (va : Nat → Nat) (re : Nat → Nat) (fi : Nat → Nat) (aB : Nat → Nat) (bt : Nat → Nat) (bs : Nat) (aC : Nat → Nat) (to : Nat → Prop) (co : Nat → Nat) (ke : Nat → Int32) (nu : Nat → Int32) (fw : Nat → Nat) (aH : Nat → Nat) (lt : Nat → Option Nat) (tr : Nat → Nat) (sh : Nat → Nat) (cr : Nat → Nat) (ct : Nat → Nat) (cu : Nat → Nat) (ve : Nat → Nat) (ta : Nat → Nat) (ch : Nat) (aT : Nat → Nat) (lt2 : Nat → Option Nat) (tr2 : Nat → Nat) (sh2 : Nat → Nat) (cr2 : Nat → Nat) (ct2 : Nat → Nat) (cu2 : Nat → Nat) (ve2 : Nat → Nat) (ta2 : Nat → Nat) (ch2 : Nat) (lo : Nat → Prop) (fo : Nat → Nat) (si : Nat → Nat) (it : Nat → Nat → Int32) (i : Int32) (j : Int32) (k : Int32) (J : IW n cl th ki va re fi) (S : SW n cl re fi) (B9 : (∀ j, bt j ≤ 255) ∧ bs ≤ 216) (C9 : (∀ j, co j ≤ 400) ∧ (∀ j, fw j ≤ 15)) (H9 : IHd lt tr sh cr ct cu ve ta ch) (U9 : IHd lt2 tr2 sh2 cr2 ct2 cu2 ve2 ta2 ch2) (E9 : (∀ j, fo j ≤ 2) ∧ (∀ j, si j ≤ 60)) (hf9 : ¬ (lo 0 ∨ lo 2)) (hc9 : fo 0 = fo 2) (hk9 : ¬ (okH (si 0) i k ∧ okH (si 2) j k)) : CM l D (TY cI cZ cS) yX5_copy cX5_copy 8 (some .int) 1 [.ref (aS 0), .int (nI 0), .int i, .int (nI 2), .int j, .int k] ((wS cS aS (aW 0) (aB 0) (aC 0) (aH 0) (aT 0) aE la) ++ ((wW cI aW n cl th ki va re fi) ++ ((wB cI aB bt bs) ++ ((wC cI cZ aC (aW 0) (aB 0) to co ke nu fw) ++ ((wH cI aH (aW 0) lt tr sh cr ct cu ve ta ch) ++ ((wH cI aT (aW 0) lt2 tr2 sh2 cr2 ct2 cu2 ve2 ta2 ch2) ++ (wE cI aE lo fo si it))))))) (some (.int ((-10) - (nI 2)))) ((wS cS aS (aW 0) (aB 0) (aC 0) (aH 0) (aT 0) aE (nI 2)) ++ ((wW cI aW n cl th ki va re fi) ++ ((wB cI aB bt bs) ++ ((wC cI cZ aC (aW 0) (aB 0) to co ke nu fw) ++ ((wH cI aH (aW 0) lt tr sh cr ct cu ve ta ch) ++ ((wH cI aT (aW 0) lt2 tr2 sh2 cr2 ct2 cu2 ve2 ta2 ch2) ++ (wE cI aE lo fo si it))))))) := by
  refine CM.ofI (by decide +kernel) (Nat.le_of_ble_eq_true rfl) (nar_int _) ?_
  intro p e s m args below meth c Q A G K hA w hret ls hl
  obtain ⟨hx, hb, hml, hown, hts⟩ := id G
  obtain ⟨hn, hcl, hth, hki, hva, hre, hfi⟩ := id J
  obtain ⟨hbt, hbs⟩ := id B9
  obtain ⟨hco, hfw⟩ := id C9
  obtain ⟨hlt, htr, hsh, hcr, hct, hcu, hve, hta, hch⟩ := id H9
  obtain ⟨hlt2, htr2, hsh2, hcr2, hct2, hcu2, hve2, hta2, hch2⟩ := id U9
  obtain ⟨hfo, hsi⟩ := id E9
  have hq1 := hfo 0
  have hq2 := hfo 2
  have hl : lv_has ls 8 [(0, .ref (aS 0)), (1, .int (nI 0)), (2, .int i), (3, .int (nI 2)), (4, .int j), (5, .int k)] := hl
  refine lv_iload_n hx hb dX5_copy_0 rfl (lv_at hl 1 rfl) ?_
  refine callPS (rest := []) G K F_X5_isSheet (c_X5_isSheet (nI 0)) (va_P_nil D s.heap) ml_X5_121 (by decide) (by decide) rfl hl.1 (Nat.le_of_ble_eq_true rfl) dX5_copy_1 ?_
  refine b_eq G (tgt := 14) dX5_copy_4 (by decide) (fun c4 => ?_) (fun c4 => ?_)
  · -- taken at 4
    exact absurd ⟨0, by decide, rfl⟩ c4
  · -- not taken at 4
    refine lv_iload_n hx hb dX5_copy_7 rfl (lv_at hl 3 rfl) ?_
    refine callPS (rest := []) G K F_X5_isSheet (c_X5_isSheet (nI 2)) (va_P_nil D s.heap) ml_X5_121 (by decide) (by decide) rfl hl.1 (Nat.le_of_ble_eq_true rfl) dX5_copy_8 ?_
    refine b_ne G (tgt := 17) dX5_copy_11 (by decide) (fun c11 => ?_) (fun c11 => ?_)
    · -- taken at 11
      refine lv_aload_n hx hb dX5_copy_17 rfl (lv_at hl 0 rfl) ?_
      refine f_get G K w.1 inX5 0 (ci := 5) rfl rfl 5 rfl fl_X5_46 (v := .ref (aS 1)) rfl dX5_copy_18 ?_
      refine lv_iload_n hx hb dX5_copy_21 rfl (lv_at hl 1 rfl) ?_
      refine a_ldR G K w.1 1 2 (a := (aS 1)) rfl rfl (by omega) (by decide) dX5_copy_22 ?_
      refine lv_astore (lv' := [(6, .ref (aE 0)), (0, .ref (aS 0)), (1, .int (nI 0)), (2, .int i), (3, .int (nI 2)), (4, .int j), (5, .int k)]) hx hb dX5_copy_23 hl (by decide) rfl (fun ls hl => ?_)
      refine lv_aload_n hx hb dX5_copy_25 rfl (lv_at hl 1 rfl) ?_
      refine f_get G K w.1 inX5 0 (ci := 5) rfl rfl 5 rfl fl_X5_46 (v := .ref (aS 1)) rfl dX5_copy_26 ?_
      refine lv_iload_n hx hb dX5_copy_29 rfl (lv_at hl 4 rfl) ?_
      refine a_ldR G K w.1 1 2 (a := (aS 1)) rfl rfl (by omega) (by decide) dX5_copy_30 ?_
      refine lv_astore (lv' := [(7, .ref (aE 2)), (6, .ref (aE 0)), (0, .ref (aS 0)), (1, .int (nI 0)), (2, .int i), (3, .int (nI 2)), (4, .int j), (5, .int k)]) hx hb dX5_copy_31 hl (by decide) rfl (fun ls hl => ?_)
      refine lv_aload hx hb dX5_copy_33 (lv_at hl 1 rfl) ?_
      refine f_get G K w.1 inX3 34 (ci := 3) rfl rfl 1 rfl fl_X5_124 (v := .int (bI (lo 0))) rfl dX5_copy_35 ?_
      refine b_ne G (tgt := 49) dX5_copy_38 (by decide) (fun c38 => ?_) (fun c38 => ?_)
      · -- taken at 38
        exact absurd (Or.inl c38) hf9
      · -- not taken at 38
        refine lv_aload hx hb dX5_copy_41 (lv_at hl 0 rfl) ?_
        refine f_get G K w.1 inX3 36 (ci := 3) rfl rfl 1 rfl fl_X5_124 (v := .int (bI (lo 2))) rfl dX5_copy_43 ?_
        refine b_eq G (tgt := 55) dX5_copy_46 (by decide) (fun c46 => ?_) (fun c46 => ?_)
        · -- taken at 46
          refine lv_aload hx hb dX5_copy_55 (lv_at hl 1 rfl) ?_
          refine f_get G K w.1 inX3 34 (ci := 3) rfl rfl 2 rfl fl_X5_247 (v := .int (nI (fo 0))) rfl dX5_copy_57 ?_
          refine lv_aload hx hb dX5_copy_60 (lv_at hl 0 rfl) ?_
          refine f_get G K w.1 inX3 36 (ci := 3) rfl rfl 2 rfl fl_X5_247 (v := .int (nI (fo 2))) rfl dX5_copy_62 ?_
          refine c_eq G (tgt := 74) (by omega) (by omega) dX5_copy_65 (by decide) (fun c65 => ?_) (fun c65 => ?_)
          · -- taken at 65
            refine lv_aload hx hb dX5_copy_74 (lv_at hl 1 rfl) ?_
            refine lv_iload_n hx hb dX5_copy_76 rfl (lv_at hl 4 rfl) ?_
            refine lv_iload hx hb dX5_copy_77 (lv_at hl 7 rfl) ?_
            refine callPV (As := [.int i, .int k]) (rest := []) (q0 := 0) (ci := 3) G K F_X3_hasItems (c_X3_hasItems (aE 0) (aE 4) (lo 0) (fo 0) (si 0) (it 0) i k ⟨hfo 0, hsi 0⟩) (w.1.sub (ws' := (wT cI (aE 0) (aE 4) (lo 0) (fo 0) (si 0) (it 0))) [34, 38] rfl) ml_X5_250 rfl rfl rfl (by decide) (by decide) rfl hl.1 (Nat.le_of_ble_eq_true rfl) dX5_copy_79 ?_
            refine b_eq G (tgt := 97) dX5_copy_82 (by decide) (fun c82 => ?_) (fun c82 => ?_)
            · -- taken at 82
              refine lv_aload_n hx hb dX5_copy_97 rfl (lv_at hl 2 rfl) ?_
              refine lv_iconst (v := (nI 2)) hx hb dX5_copy_98 (by decide) ?_
              refine callMF (As := [.int (nI 2)]) (rest := []) (q0 := 0) (ci := 5) (ws' := ((wS cS aS (aW 0) (aB 0) (aC 0) (aH 0) (aT 0) aE (nI 2)) ++ ((wW cI aW n cl th ki va re fi) ++ ((wB cI aB bt bs) ++ ((wC cI cZ aC (aW 0) (aB 0) to co ke nu fw) ++ ((wH cI aH (aW 0) lt tr sh cr ct cu ve ta ch) ++ ((wH cI aT (aW 0) lt2 tr2 sh2 cr2 ct2 cu2 ve2 ta2 ch2) ++ (wE cI aE lo fo si it)))))))) G K hA w F_X5_find (c_X5_find aS aE la aW n cl th ki va re fi aB bt bs aC to co ke nu fw aH lt tr sh cr ct cu ve ta ch aT lt2 tr2 sh2 cr2 ct2 cu2 ve2 ta2 ch2 lo fo si it 2 J S B9 C9 H9 U9 E9) ml_X5_128 rfl rfl rfl (by decide) (by decide) rfl hl.1 (Nat.le_of_ble_eq_true rfl) dX5_copy_99 (fun Hp1 lo2 w => ?_)
              exact hret _ _ _ _ _ _ rfl rfl w dX5_copy_102
            · -- not taken at 82
              refine lv_aload hx hb dX5_copy_85 (lv_at hl 0 rfl) ?_
              refine lv_iload hx hb dX5_copy_87 (lv_at hl 6 rfl) ?_
              refine lv_iload hx hb dX5_copy_89 (lv_at hl 7 rfl) ?_
              refine callPV (As := [.int j, .int k]) (rest := []) (q0 := 0) (ci := 3) G K F_X3_hasItems (c_X3_hasItems (aE 2) (aE 6) (lo 2) (fo 2) (si 2) (it 2) j k ⟨hfo 2, hsi 2⟩) (w.1.sub (ws' := (wT cI (aE 2) (aE 6) (lo 2) (fo 2) (si 2) (it 2))) [36, 40] rfl) ml_X5_250 rfl rfl rfl (by decide) (by decide) rfl hl.1 (Nat.le_of_ble_eq_true rfl) dX5_copy_91 ?_
              refine b_ne G (tgt := 103) dX5_copy_94 (by decide) (fun c94 => ?_) (fun c94 => ?_)
              · -- taken at 94
                exact absurd ⟨c82, c94⟩ hk9
              · -- not taken at 94
                refine lv_aload_n hx hb dX5_copy_97 rfl (lv_at hl 2 rfl) ?_
                refine lv_iconst (v := (nI 2)) hx hb dX5_copy_98 (by decide) ?_
                refine callMF (As := [.int (nI 2)]) (rest := []) (q0 := 0) (ci := 5) (ws' := ((wS cS aS (aW 0) (aB 0) (aC 0) (aH 0) (aT 0) aE (nI 2)) ++ ((wW cI aW n cl th ki va re fi) ++ ((wB cI aB bt bs) ++ ((wC cI cZ aC (aW 0) (aB 0) to co ke nu fw) ++ ((wH cI aH (aW 0) lt tr sh cr ct cu ve ta ch) ++ ((wH cI aT (aW 0) lt2 tr2 sh2 cr2 ct2 cu2 ve2 ta2 ch2) ++ (wE cI aE lo fo si it)))))))) G K hA w F_X5_find (c_X5_find aS aE la aW n cl th ki va re fi aB bt bs aC to co ke nu fw aH lt tr sh cr ct cu ve ta ch aT lt2 tr2 sh2 cr2 ct2 cu2 ve2 ta2 ch2 lo fo si it 2 J S B9 C9 H9 U9 E9) ml_X5_128 rfl rfl rfl (by decide) (by decide) rfl hl.1 (Nat.le_of_ble_eq_true rfl) dX5_copy_99 (fun Hp3 lo4 w => ?_)
                exact hret _ _ _ _ _ _ rfl rfl w dX5_copy_102
          · -- not taken at 65
            exact absurd hc9 c65
        · -- not taken at 46
          exact absurd (Or.inr c46) hf9
    · -- not taken at 11
      exact absurd ⟨2, by decide, rfl⟩ c11
set_option maxHeartbeats 4000000 in
set_option maxRecDepth 100000 in
theorem c_X5_copy_ok02 (aS : Nat → Nat) (aE : Nat → Nat) (la : Int32) (aW : Nat → Nat) (n : Nat) (cl : Nat) (th : Nat → Nat) (ki : Nat → Nat) (va : Nat → Nat) (re : Nat → Nat) (fi : Nat → Nat) (aB : Nat → Nat) (bt : Nat → Nat) (bs : Nat) (aC : Nat → Nat) (to : Nat → Prop) (co : Nat → Nat) (ke : Nat → Int32) (nu : Nat → Int32) (fw : Nat → Nat) (aH : Nat → Nat) (lt : Nat → Option Nat) (tr : Nat → Nat) (sh : Nat → Nat) (cr : Nat → Nat) (ct : Nat → Nat) (cu : Nat → Nat) (ve : Nat → Nat) (ta : Nat → Nat) (ch : Nat) (aT : Nat → Nat) (lt2 : Nat → Option Nat) (tr2 : Nat → Nat) (sh2 : Nat → Nat) (cr2 : Nat → Nat) (ct2 : Nat → Nat) (cu2 : Nat → Nat) (ve2 : Nat → Nat) (ta2 : Nat → Nat) (ch2 : Nat) (lo : Nat → Prop) (fo : Nat → Nat) (si : Nat → Nat) (it : Nat → Nat → Int32) (i : Nat) (j : Nat) (k : Nat) (J : IW n cl th ki va re fi) (S : SW n cl re fi) (B9 : (∀ j, bt j ≤ 255) ∧ bs ≤ 216) (C9 : (∀ j, co j ≤ 400) ∧ (∀ j, fw j ≤ 15)) (H9 : IHd lt tr sh cr ct cu ve ta ch) (U9 : IHd lt2 tr2 sh2 cr2 ct2 cu2 ve2 ta2 ch2) (E9 : (∀ j, fo j ≤ 2) ∧ (∀ j, si j ≤ 60)) (hf9 : ¬ (lo 0 ∨ lo 2)) (hc9 : fo 0 = fo 2) (hi9 : i + k ≤ si 0) (hj9 : j + k ≤ si 2) : CM l D (TY cI cZ cS) yX5_copy cX5_copy 8 (some .int) 1 [.ref (aS 0), .int (nI 0), .int (nI i), .int (nI 2), .int (nI j), .int (nI k)] ((wS cS aS (aW 0) (aB 0) (aC 0) (aH 0) (aT 0) aE la) ++ ((wW cI aW n cl th ki va re fi) ++ ((wB cI aB bt bs) ++ ((wC cI cZ aC (aW 0) (aB 0) to co ke nu fw) ++ ((wH cI aH (aW 0) lt tr sh cr ct cu ve ta ch) ++ ((wH cI aT (aW 0) lt2 tr2 sh2 cr2 ct2 cu2 ve2 ta2 ch2) ++ (wE cI aE lo fo si it))))))) (some (.int (nI 1))) ((wS cS aS (aW 0) (aB 0) (aC 0) (aH 0) (aT 0) aE la) ++ ((wW cI aW n cl th ki va re fi) ++ ((wB cI aB bt bs) ++ ((wC cI cZ aC (aW 0) (aB 0) to co ke nu fw) ++ ((wH cI aH (aW 0) lt tr sh cr ct cu ve ta ch) ++ ((wH cI aT (aW 0) lt2 tr2 sh2 cr2 ct2 cu2 ve2 ta2 ch2) ++ (wE cI aE lo fo si (va_up it 2 (va_cpy (it 0) (it 2) i j k))))))))) := by
  refine CM.ofI (by decide +kernel) (Nat.le_of_ble_eq_true rfl) (nar_int _) ?_
  intro p e s m args below meth c Q A G K hA w hret ls hl
  obtain ⟨hx, hb, hml, hown, hts⟩ := id G
  obtain ⟨hn, hcl, hth, hki, hva, hre, hfi⟩ := id J
  obtain ⟨hbt, hbs⟩ := id B9
  obtain ⟨hco, hfw⟩ := id C9
  obtain ⟨hlt, htr, hsh, hcr, hct, hcu, hve, hta, hch⟩ := id H9
  obtain ⟨hlt2, htr2, hsh2, hcr2, hct2, hcu2, hve2, hta2, hch2⟩ := id U9
  obtain ⟨hfo, hsi⟩ := id E9
  have hs9 := hsi 0
  have ht9 := hsi 2
  have hq1 := hfo 0
  have hq2 := hfo 2
  have hl : lv_has ls 8 [(0, .ref (aS 0)), (1, .int (nI 0)), (2, .int (nI i)), (3, .int (nI 2)), (4, .int (nI j)), (5, .int (nI k))] := hl
  refine lv_iload_n hx hb dX5_copy_0 rfl (lv_at hl 1 rfl) ?_
  refine callPS (rest := []) G K F_X5_isSheet (c_X5_isSheet (nI 0)) (va_P_nil D s.heap) ml_X5_121 (by decide) (by decide) rfl hl.1 (Nat.le_of_ble_eq_true rfl) dX5_copy_1 ?_
  refine b_eq G (tgt := 14) dX5_copy_4 (by decide) (fun c4 => ?_) (fun c4 => ?_)
  · -- taken at 4
    exact absurd ⟨0, by decide, rfl⟩ c4
  · -- not taken at 4
    refine lv_iload_n hx hb dX5_copy_7 rfl (lv_at hl 3 rfl) ?_
    refine callPS (rest := []) G K F_X5_isSheet (c_X5_isSheet (nI 2)) (va_P_nil D s.heap) ml_X5_121 (by decide) (by decide) rfl hl.1 (Nat.le_of_ble_eq_true rfl) dX5_copy_8 ?_
    refine b_ne G (tgt := 17) dX5_copy_11 (by decide) (fun c11 => ?_) (fun c11 => ?_)
    · -- taken at 11
      refine lv_aload_n hx hb dX5_copy_17 rfl (lv_at hl 0 rfl) ?_
      refine f_get G K w.1 inX5 0 (ci := 5) rfl rfl 5 rfl fl_X5_46 (v := .ref (aS 1)) rfl dX5_copy_18 ?_
      refine lv_iload_n hx hb dX5_copy_21 rfl (lv_at hl 1 rfl) ?_
      refine a_ldR G K w.1 1 2 (a := (aS 1)) rfl rfl (by omega) (by decide) dX5_copy_22 ?_
      refine lv_astore (lv' := [(6, .ref (aE 0)), (0, .ref (aS 0)), (1, .int (nI 0)), (2, .int (nI i)), (3, .int (nI 2)), (4, .int (nI j)), (5, .int (nI k))]) hx hb dX5_copy_23 hl (by decide) rfl (fun ls hl => ?_)
      refine lv_aload_n hx hb dX5_copy_25 rfl (lv_at hl 1 rfl) ?_
      refine f_get G K w.1 inX5 0 (ci := 5) rfl rfl 5 rfl fl_X5_46 (v := .ref (aS 1)) rfl dX5_copy_26 ?_
      refine lv_iload_n hx hb dX5_copy_29 rfl (lv_at hl 4 rfl) ?_
      refine a_ldR G K w.1 1 2 (a := (aS 1)) rfl rfl (by omega) (by decide) dX5_copy_30 ?_
      refine lv_astore (lv' := [(7, .ref (aE 2)), (6, .ref (aE 0)), (0, .ref (aS 0)), (1, .int (nI 0)), (2, .int (nI i)), (3, .int (nI 2)), (4, .int (nI j)), (5, .int (nI k))]) hx hb dX5_copy_31 hl (by decide) rfl (fun ls hl => ?_)
      refine lv_aload hx hb dX5_copy_33 (lv_at hl 1 rfl) ?_
      refine f_get G K w.1 inX3 34 (ci := 3) rfl rfl 1 rfl fl_X5_124 (v := .int (bI (lo 0))) rfl dX5_copy_35 ?_
      refine b_ne G (tgt := 49) dX5_copy_38 (by decide) (fun c38 => ?_) (fun c38 => ?_)
      · -- taken at 38
        exact absurd (Or.inl c38) hf9
      · -- not taken at 38
        refine lv_aload hx hb dX5_copy_41 (lv_at hl 0 rfl) ?_
        refine f_get G K w.1 inX3 36 (ci := 3) rfl rfl 1 rfl fl_X5_124 (v := .int (bI (lo 2))) rfl dX5_copy_43 ?_
        refine b_eq G (tgt := 55) dX5_copy_46 (by decide) (fun c46 => ?_) (fun c46 => ?_)
        · -- taken at 46
          refine lv_aload hx hb dX5_copy_55 (lv_at hl 1 rfl) ?_
          refine f_get G K w.1 inX3 34 (ci := 3) rfl rfl 2 rfl fl_X5_247 (v := .int (nI (fo 0))) rfl dX5_copy_57 ?_
          refine lv_aload hx hb dX5_copy_60 (lv_at hl 0 rfl) ?_
          refine f_get G K w.1 inX3 36 (ci := 3) rfl rfl 2 rfl fl_X5_247 (v := .int (nI (fo 2))) rfl dX5_copy_62 ?_
          refine c_eq G (tgt := 74) (by omega) (by omega) dX5_copy_65 (by decide) (fun c65 => ?_) (fun c65 => ?_)
          · -- taken at 65
            refine lv_aload hx hb dX5_copy_74 (lv_at hl 1 rfl) ?_
            refine lv_iload_n hx hb dX5_copy_76 rfl (lv_at hl 4 rfl) ?_
            refine lv_iload hx hb dX5_copy_77 (lv_at hl 7 rfl) ?_
            refine callPV (As := [.int (nI i), .int (nI k)]) (rest := []) (q0 := 0) (ci := 3) G K F_X3_hasItems (c_X3_hasItems (aE 0) (aE 4) (lo 0) (fo 0) (si 0) (it 0) (nI i) (nI k) ⟨hfo 0, hsi 0⟩) (w.1.sub (ws' := (wT cI (aE 0) (aE 4) (lo 0) (fo 0) (si 0) (it 0))) [34, 38] rfl) ml_X5_250 rfl rfl rfl (by decide) (by decide) rfl hl.1 (Nat.le_of_ble_eq_true rfl) dX5_copy_79 ?_
            refine b_eq G (tgt := 97) dX5_copy_82 (by decide) (fun c82 => ?_) (fun c82 => ?_)
            · -- taken at 82
              exact absurd ⟨i, k, hi9, rfl, rfl⟩ c82
            · -- not taken at 82
              refine lv_aload hx hb dX5_copy_85 (lv_at hl 0 rfl) ?_
              refine lv_iload hx hb dX5_copy_87 (lv_at hl 6 rfl) ?_
              refine lv_iload hx hb dX5_copy_89 (lv_at hl 7 rfl) ?_
              refine callPV (As := [.int (nI j), .int (nI k)]) (rest := []) (q0 := 0) (ci := 3) G K F_X3_hasItems (c_X3_hasItems (aE 2) (aE 6) (lo 2) (fo 2) (si 2) (it 2) (nI j) (nI k) ⟨hfo 2, hsi 2⟩) (w.1.sub (ws' := (wT cI (aE 2) (aE 6) (lo 2) (fo 2) (si 2) (it 2))) [36, 40] rfl) ml_X5_250 rfl rfl rfl (by decide) (by decide) rfl hl.1 (Nat.le_of_ble_eq_true rfl) dX5_copy_91 ?_
              refine b_ne G (tgt := 103) dX5_copy_94 (by decide) (fun c94 => ?_) (fun c94 => ?_)
              · -- taken at 94
                refine lv_aload hx hb dX5_copy_103 (lv_at hl 1 rfl) ?_
                refine f_get G K w.1 inX3 34 (ci := 3) rfl rfl 0 rfl fl_X5_132 (v := .ref (aE 4)) rfl dX5_copy_105 ?_
                refine lv_iload_n hx hb dX5_copy_108 rfl (lv_at hl 4 rfl) ?_
                refine lv_aload hx hb dX5_copy_109 (lv_at hl 0 rfl) ?_
                refine f_get G K w.1 inX3 36 (ci := 3) rfl rfl 0 rfl fl_X5_132 (v := .ref (aE 6)) rfl dX5_copy_111 ?_
                refine lv_iload hx hb dX5_copy_114 (lv_at hl 6 rfl) ?_
                refine lv_iload hx hb dX5_copy_116 (lv_at hl 7 rfl) ?_
                refine acp (f := (it 0)) (g := (it 2)) (sp := i) (dp := j) (k := k) G K w (hml.trans hl.1.symm) ml_X5_253 38 40 rfl rfl (by omega) (by omega) (by decide) (Nat.le_of_ble_eq_true rfl) (Nat.le_of_ble_eq_true rfl) dX5_copy_118 (w2 := ((wS cS aS (aW 0) (aB 0) (aC 0) (aH 0) (aT 0) aE la) ++ ((wW cI aW n cl th ki va re fi) ++ ((wB cI aB bt bs) ++ ((wC cI cZ aC (aW 0) (aB 0) to co ke nu fw) ++ ((wH cI aH (aW 0) lt tr sh cr ct cu ve ta ch) ++ ((wH cI aT (aW 0) lt2 tr2 sh2 cr2 ct2 cu2 ve2 ta2 ch2) ++ (wE cI aE lo fo si (va_up it 2 (va_cpy (it 0) (it 2) i j k)))))))))) rfl (fun Hp1 lo2 w => ?_)
                refine lv_iconst (v := (nI 1)) hx hb dX5_copy_121 (by decide) ?_
                exact hret _ _ _ _ _ _ rfl rfl w dX5_copy_122
              · -- not taken at 94
                exact absurd ⟨j, k, hj9, rfl, rfl⟩ c94
          · -- not taken at 65
            exact absurd hc9 c65
        · -- not taken at 46
          exact absurd (Or.inr c46) hf9
    · -- not taken at 11
      exact absurd ⟨2, by decide, rfl⟩ c11
set_option maxHeartbeats 4000000 in
set_option maxRecDepth 100000 in
theorem c_X5_copy_nul03 (aS : Nat → Nat) (aE : Nat → Nat) (la : Int32) (aW : Nat → Nat) (n : Nat) (cl : Nat) (th : Nat → Nat) (ki : Nat → Nat) (va : Nat → Nat) (re : Nat → Nat) (fi : Nat → Nat) (aB : Nat → Nat) (bt : Nat → Nat) (bs : Nat) (aC : Nat → Nat) (to : Nat → Prop) (co : Nat → Nat) (ke : Nat → Int32) (nu : Nat → Int32) (fw : Nat → Nat) (aH : Nat → Nat) (lt : Nat → Option Nat) (tr : Nat → Nat) (sh : Nat → Nat) (cr : Nat → Nat) (ct : Nat → Nat) (cu : Nat → Nat) (ve : Nat → Nat) (ta : Nat → Nat) (ch : Nat) (aT : Nat → Nat) (lt2 : Nat → Option Nat) (tr2 : Nat → Nat) (sh2 : Nat → Nat) (cr2 : Nat → Nat) (ct2 : Nat → Nat) (cu2 : Nat → Nat) (ve2 : Nat → Nat) (ta2 : Nat → Nat) (ch2 : Nat) (lo : Nat → Prop) (fo : Nat → Nat) (si : Nat → Nat) (it : Nat → Nat → Int32) (i : Int32) (j : Int32) (k : Int32) (J : IW n cl th ki va re fi) (S : SW n cl re fi) (B9 : (∀ j, bt j ≤ 255) ∧ bs ≤ 216) (C9 : (∀ j, co j ≤ 400) ∧ (∀ j, fw j ≤ 15)) (H9 : IHd lt tr sh cr ct cu ve ta ch) (U9 : IHd lt2 tr2 sh2 cr2 ct2 cu2 ve2 ta2 ch2) (E9 : (∀ j, fo j ≤ 2) ∧ (∀ j, si j ≤ 60)) (hf9 : lo 0 ∨ lo 3) : CM l D (TY cI cZ cS) yX5_copy cX5_copy 8 (some .int) 1 [.ref (aS 0), .int (nI 0), .int i, .int (nI 3), .int j, .int k] ((wS cS aS (aW 0) (aB 0) (aC 0) (aH 0) (aT 0) aE la) ++ ((wW cI aW n cl th ki va re fi) ++ ((wB cI aB bt bs) ++ ((wC cI cZ aC (aW 0) (aB 0) to co ke nu fw) ++ ((wH cI aH (aW 0) lt tr sh cr ct cu ve ta ch) ++ ((wH cI aT (aW 0) lt2 tr2 sh2 cr2 ct2 cu2 ve2 ta2 ch2) ++ (wE cI aE lo fo si it))))))) (some (.int ((-10) - (nI 1)))) ((wS cS aS (aW 0) (aB 0) (aC 0) (aH 0) (aT 0) aE (nI 1)) ++ ((wW cI aW n cl th ki va re fi) ++ ((wB cI aB bt bs) ++ ((wC cI cZ aC (aW 0) (aB 0) to co ke nu fw) ++ ((wH cI aH (aW 0) lt tr sh cr ct cu ve ta ch) ++ ((wH cI aT (aW 0) lt2 tr2 sh2 cr2 ct2 cu2 ve2 ta2 ch2) ++ (wE cI aE lo fo si it))))))) := by
  refine CM.ofI (by decide +kernel) (Nat.le_of_ble_eq_true rfl) (nar_int _) ?_
  intro p e s m args below meth c Q A G K hA w hret ls hl
  obtain ⟨hx, hb, hml, hown, hts⟩ := id G
  obtain ⟨hn, hcl, hth, hki, hva, hre, hfi⟩ := id J
  obtain ⟨hbt, hbs⟩ := id B9
  obtain ⟨hco, hfw⟩ := id C9
  obtain ⟨hlt, htr, hsh, hcr, hct, hcu, hve, hta, hch⟩ := id H9
  obtain ⟨hlt2, htr2, hsh2, hcr2, hct2, hcu2, hve2, hta2, hch2⟩ := id U9
  obtain ⟨hfo, hsi⟩ := id E9
  have hl : lv_has ls 8 [(0, .ref (aS 0)), (1, .int (nI 0)), (2, .int i), (3, .int (nI 3)), (4, .int j), (5, .int k)] := hl
  refine lv_iload_n hx hb dX5_copy_0 rfl (lv_at hl 1 rfl) ?_
  refine callPS (rest := []) G K F_X5_isSheet (c_X5_isSheet (nI 0)) (va_P_nil D s.heap) ml_X5_121 (by decide) (by decide) rfl hl.1 (Nat.le_of_ble_eq_true rfl) dX5_copy_1 ?_
  refine b_eq G (tgt := 14) dX5_copy_4 (by decide) (fun c4 => ?_) (fun c4 => ?_)
  · -- taken at 4
    exact absurd ⟨0, by decide, rfl⟩ c4
  · -- not taken at 4
    refine lv_iload_n hx hb dX5_copy_7 rfl (lv_at hl 3 rfl) ?_
    refine callPS (rest := []) G K F_X5_isSheet (c_X5_isSheet (nI 3)) (va_P_nil D s.heap) ml_X5_121 (by decide) (by decide) rfl hl.1 (Nat.le_of_ble_eq_true rfl) dX5_copy_8 ?_
    refine b_ne G (tgt := 17) dX5_copy_11 (by decide) (fun c11 => ?_) (fun c11 => ?_)
    · -- taken at 11
      refine lv_aload_n hx hb dX5_copy_17 rfl (lv_at hl 0 rfl) ?_
      refine f_get G K w.1 inX5 0 (ci := 5) rfl rfl 5 rfl fl_X5_46 (v := .ref (aS 1)) rfl dX5_copy_18 ?_
      refine lv_iload_n hx hb dX5_copy_21 rfl (lv_at hl 1 rfl) ?_
      refine a_ldR G K w.1 1 2 (a := (aS 1)) rfl rfl (by omega) (by decide) dX5_copy_22 ?_
      refine lv_astore (lv' := [(6, .ref (aE 0)), (0, .ref (aS 0)), (1, .int (nI 0)), (2, .int i), (3, .int (nI 3)), (4, .int j), (5, .int k)]) hx hb dX5_copy_23 hl (by decide) rfl (fun ls hl => ?_)
      refine lv_aload_n hx hb dX5_copy_25 rfl (lv_at hl 1 rfl) ?_
      refine f_get G K w.1 inX5 0 (ci := 5) rfl rfl 5 rfl fl_X5_46 (v := .ref (aS 1)) rfl dX5_copy_26 ?_
      refine lv_iload_n hx hb dX5_copy_29 rfl (lv_at hl 4 rfl) ?_
      refine a_ldR G K w.1 1 2 (a := (aS 1)) rfl rfl (by omega) (by decide) dX5_copy_30 ?_
      refine lv_astore (lv' := [(7, .ref (aE 3)), (6, .ref (aE 0)), (0, .ref (aS 0)), (1, .int (nI 0)), (2, .int i), (3, .int (nI 3)), (4, .int j), (5, .int k)]) hx hb dX5_copy_31 hl (by decide) rfl (fun ls hl => ?_)
      refine lv_aload hx hb dX5_copy_33 (lv_at hl 1 rfl) ?_
      refine f_get G K w.1 inX3 34 (ci := 3) rfl rfl 1 rfl fl_X5_124 (v := .int (bI (lo 0))) rfl dX5_copy_35 ?_
      refine b_ne G (tgt := 49) dX5_copy_38 (by decide) (fun c38 => ?_) (fun c38 => ?_)
      · -- taken at 38
        refine lv_aload_n hx hb dX5_copy_49 rfl (lv_at hl 2 rfl) ?_
        refine lv_iconst (v := (nI 1)) hx hb dX5_copy_50 (by decide) ?_
        refine callMF (As := [.int (nI 1)]) (rest := []) (q0 := 0) (ci := 5) (ws' := ((wS cS aS (aW 0) (aB 0) (aC 0) (aH 0) (aT 0) aE (nI 1)) ++ ((wW cI aW n cl th ki va re fi) ++ ((wB cI aB bt bs) ++ ((wC cI cZ aC (aW 0) (aB 0) to co ke nu fw) ++ ((wH cI aH (aW 0) lt tr sh cr ct cu ve ta ch) ++ ((wH cI aT (aW 0) lt2 tr2 sh2 cr2 ct2 cu2 ve2 ta2 ch2) ++ (wE cI aE lo fo si it)))))))) G K hA w F_X5_find (c_X5_find aS aE la aW n cl th ki va re fi aB bt bs aC to co ke nu fw aH lt tr sh cr ct cu ve ta ch aT lt2 tr2 sh2 cr2 ct2 cu2 ve2 ta2 ch2 lo fo si it 1 J S B9 C9 H9 U9 E9) ml_X5_128 rfl rfl rfl (by decide) (by decide) rfl hl.1 (Nat.le_of_ble_eq_true rfl) dX5_copy_51 (fun Hp1 lo2 w => ?_)
        exact hret _ _ _ _ _ _ rfl rfl w dX5_copy_54
      · -- not taken at 38
        refine lv_aload hx hb dX5_copy_41 (lv_at hl 0 rfl) ?_
        refine f_get G K w.1 inX3 37 (ci := 3) rfl rfl 1 rfl fl_X5_124 (v := .int (bI (lo 3))) rfl dX5_copy_43 ?_
        refine b_eq G (tgt := 55) dX5_copy_46 (by decide) (fun c46 => ?_) (fun c46 => ?_)
        · -- taken at 46
          exact absurd hf9 (fun h => h.elim c38 c46)
        · -- not taken at 46
          refine lv_aload_n hx hb dX5_copy_49 rfl (lv_at hl 2 rfl) ?_
          refine lv_iconst (v := (nI 1)) hx hb dX5_copy_50 (by decide) ?_
          refine callMF (As := [.int (nI 1)]) (rest := []) (q0 := 0) (ci := 5) (ws' := ((wS cS aS (aW 0) (aB 0) (aC 0) (aH 0) (aT 0) aE (nI 1)) ++ ((wW cI aW n cl th ki va re fi) ++ ((wB cI aB bt bs) ++ ((wC cI cZ aC (aW 0) (aB 0) to co ke nu fw) ++ ((wH cI aH (aW 0) lt tr sh cr ct cu ve ta ch) ++ ((wH cI aT (aW 0) lt2 tr2 sh2 cr2 ct2 cu2 ve2 ta2 ch2) ++ (wE cI aE lo fo si it)))))))) G K hA w F_X5_find (c_X5_find aS aE la aW n cl th ki va re fi aB bt bs aC to co ke nu fw aH lt tr sh cr ct cu ve ta ch aT lt2 tr2 sh2 cr2 ct2 cu2 ve2 ta2 ch2 lo fo si it 1 J S B9 C9 H9 U9 E9) ml_X5_128 rfl rfl rfl (by decide) (by decide) rfl hl.1 (Nat.le_of_ble_eq_true rfl) dX5_copy_51 (fun Hp3 lo4 w => ?_)
          exact hret _ _ _ _ _ _ rfl rfl w dX5_copy_54
    · -- not taken at 11
      exact absurd ⟨3, by decide, rfl⟩ c11
set_option maxHeartbeats 4000000 in
set_option maxRecDepth 100000 in
theorem c_X5_copy_sto03 (aS : Nat → Nat) (aE : Nat → Nat) (la : Int32) (aW : Nat → Nat) (n : Nat) (cl : Nat) (th : Nat → Nat) (ki : Nat → Nat) (va : Nat → Nat) (re : Nat → Nat) (fi : Nat → Nat) (aB : Nat → Nat) (bt : Nat → Nat) (bs : Nat) (aC : Nat → Nat) (to : Nat → Prop) (co : Nat → Nat) (ke : Nat → Int32) (nu : Nat → Int32) (fw : Nat → Nat) (aH : Nat → Nat) (lt : Nat → Option Nat) (tr : Nat → Nat) (sh : Nat → Nat) (cr : Nat → Nat) (ct : Nat → Nat) (cu : Nat → Nat) (ve : Nat → Nat) (ta : Nat → Nat) (ch : Nat) (aT : Nat → Nat) (lt2 : Nat → Option Nat) (tr2 : Nat → Nat) (sh2 : Nat → Nat) (cr2 : Nat → Nat) (ct2 : Nat → Nat) (cu2 : Nat → Nat) (ve2 : Nat → Nat) (ta2 : Nat → Nat) (ch2 : Nat) (lo : Nat → Prop) (fo : Nat → Nat) (si : Nat → Nat) (it : Nat → Nat → Int32) (i : Int32) (j : Int32) (k : Int32) (J : IW n cl th ki va re fi) (S : SW n cl re fi) (B9 : (∀ j, bt j ≤ 255) ∧ bs ≤ 216) (C9 : (∀ j, co j ≤ 400) ∧ (∀ j, fw j ≤ 15)) (H9 : IHd lt tr sh cr ct cu ve ta ch) (U9 : IHd lt2 tr2 sh2 cr2 ct2 cu2 ve2 ta2 ch2) (E9 : (∀ j, fo j ≤ 2) ∧ (∀ j, si j ≤ 60)) (hf9 : ¬ (lo 0 ∨ lo 3)) (hc9 : fo 0 ≠ fo 3) : CM l D (TY cI cZ cS) yX5_copy cX5_copy 8 (some .int) 1 [.ref (aS 0), .int (nI 0), .int i, .int (nI 3), .int j, .int k] ((wS cS aS (aW 0) (aB 0) (aC 0) (aH 0) (aT 0) aE la) ++ ((wW cI aW n cl th ki va re fi) ++ ((wB cI aB bt bs) ++ ((wC cI cZ aC (aW 0) (aB 0) to co ke nu fw) ++ ((wH cI aH (aW 0) lt tr sh cr ct cu ve ta ch) ++ ((wH cI aT (aW 0) lt2 tr2 sh2 cr2 ct2 cu2 ve2 ta2 ch2) ++ (wE cI aE lo fo si it))))))) (some (.int ((-10) - (nI 4)))) ((wS cS aS (aW 0) (aB 0) (aC 0) (aH 0) (aT 0) aE (nI 4)) ++ ((wW cI aW n cl th ki va re fi) ++ ((wB cI aB bt bs) ++ ((wC cI cZ aC (aW 0) (aB 0) to co ke nu fw) ++ ((wH cI aH (aW 0) lt tr sh cr ct cu ve ta ch) ++ ((wH cI aT (aW 0) lt2 tr2 sh2 cr2 ct2 cu2 ve2 ta2 ch2) ++ (wE cI aE lo fo si it))))))) := by
  refine CM.ofI (by decide +kernel) (Nat.le_of_ble_eq_true rfl) (nar_int _) ?_
  intro p e s m args below meth c Q A G K hA w hret ls hl
  obtain ⟨hx, hb, hml, hown, hts⟩ := id G
  obtain ⟨hn, hcl, hth, hki, hva, hre, hfi⟩ := id J
  obtain ⟨hbt, hbs⟩ := id B9
  obtain ⟨hco, hfw⟩ := id C9
  obtain ⟨hlt, htr, hsh, hcr, hct, hcu, hve, hta, hch⟩ := id H9
  obtain ⟨hlt2, htr2, hsh2, hcr2, hct2, hcu2, hve2, hta2, hch2⟩ := id U9
  obtain ⟨hfo, hsi⟩ := id E9
  have hq1 := hfo 0
  have hq2 := hfo 3
  have hl : lv_has ls 8 [(0, .ref (aS 0)), (1, .int (nI 0)), (2, .int i), (3, .int (nI 3)), (4, .int j), (5, .int k)] := hl
  refine lv_iload_n hx hb dX5_copy_0 rfl (lv_at hl 1 rfl) ?_
  refine callPS (rest := []) G K F_X5_isSheet (c_X5_isSheet (nI 0)) (va_P_nil D s.heap) ml_X5_121 (by decide) (by decide) rfl hl.1 (Nat.le_of_ble_eq_true rfl) dX5_copy_1 ?_
  refine b_eq G (tgt := 14) dX5_copy_4 (by decide) (fun c4 => ?_) (fun c4 => ?_)
  · -- taken at 4
    exact absurd ⟨0, by decide, rfl⟩ c4
  · -- not taken at 4
    refine lv_iload_n hx hb dX5_copy_7 rfl (lv_at hl 3 rfl) ?_
    refine callPS (rest := []) G K F_X5_isSheet (c_X5_isSheet (nI 3)) (va_P_nil D s.heap) ml_X5_121 (by decide) (by decide) rfl hl.1 (Nat.le_of_ble_eq_true rfl) dX5_copy_8 ?_
    refine b_ne G (tgt := 17) dX5_copy_11 (by decide) (fun c11 => ?_) (fun c11 => ?_)
    · -- taken at 11
      refine lv_aload_n hx hb dX5_copy_17 rfl (lv_at hl 0 rfl) ?_
      refine f_get G K w.1 inX5 0 (ci := 5) rfl rfl 5 rfl fl_X5_46 (v := .ref (aS 1)) rfl dX5_copy_18 ?_
      refine lv_iload_n hx hb dX5_copy_21 rfl (lv_at hl 1 rfl) ?_
      refine a_ldR G K w.1 1 2 (a := (aS 1)) rfl rfl (by omega) (by decide) dX5_copy_22 ?_
      refine lv_astore (lv' := [(6, .ref (aE 0)), (0, .ref (aS 0)), (1, .int (nI 0)), (2, .int i), (3, .int (nI 3)), (4, .int j), (5, .int k)]) hx hb dX5_copy_23 hl (by decide) rfl (fun ls hl => ?_)
      refine lv_aload_n hx hb dX5_copy_25 rfl (lv_at hl 1 rfl) ?_
      refine f_get G K w.1 inX5 0 (ci := 5) rfl rfl 5 rfl fl_X5_46 (v := .ref (aS 1)) rfl dX5_copy_26 ?_
      refine lv_iload_n hx hb dX5_copy_29 rfl (lv_at hl 4 rfl) ?_
      refine a_ldR G K w.1 1 2 (a := (aS 1)) rfl rfl (by omega) (by decide) dX5_copy_30 ?_
      refine lv_astore (lv' := [(7, .ref (aE 3)), (6, .ref (aE 0)), (0, .ref (aS 0)), (1, .int (nI 0)), (2, .int i), (3, .int (nI 3)), (4, .int j), (5, .int k)]) hx hb dX5_copy_31 hl (by decide) rfl (fun ls hl => ?_)
      refine lv_aload hx hb dX5_copy_33 (lv_at hl 1 rfl) ?_
      refine f_get G K w.1 inX3 34 (ci := 3) rfl rfl 1 rfl fl_X5_124 (v := .int (bI (lo 0))) rfl dX5_copy_35 ?_
      refine b_ne G (tgt := 49) dX5_copy_38 (by decide) (fun c38 => ?_) (fun c38 => ?_)
      · -- taken at 38
        exact absurd (Or.inl c38) hf9
      · -- not taken at 38
        refine lv_aload hx hb dX5_copy_41 (lv_at hl 0 rfl) ?_
        refine f_get G K w.1 inX3 37 (ci := 3) rfl rfl 1 rfl fl_X5_124 (v := .int (bI (lo 3))) rfl dX5_copy_43 ?_
        refine b_eq G (tgt := 55) dX5_copy_46 (by decide) (fun c46 => ?_) (fun c46 => ?_)
        · -- taken at 46
          refine lv_aload hx hb dX5_copy_55 (lv_at hl 1 rfl) ?_
          refine f_get G K w.1 inX3 34 (ci := 3) rfl rfl 2 rfl fl_X5_247 (v := .int (nI (fo 0))) rfl dX5_copy_57 ?_
          refine lv_aload hx hb dX5_copy_60 (lv_at hl 0 rfl) ?_
          refine f_get G K w.1 inX3 37 (ci := 3) rfl rfl 2 rfl fl_X5_247 (v := .int (nI (fo 3))) rfl dX5_copy_62 ?_
          refine c_eq G (tgt := 74) (by omega) (by omega) dX5_copy_65 (by decide) (fun c65 => ?_) (fun c65 => ?_)
          · -- taken at 65
            exact absurd c65 hc9
          · -- not taken at 65
            refine lv_aload_n hx hb dX5_copy_68 rfl (lv_at hl 2 rfl) ?_
            refine lv_iconst (v := (nI 4)) hx hb dX5_copy_69 (by decide) ?_
            refine callMF (As := [.int (nI 4)]) (rest := []) (q0 := 0) (ci := 5) (ws' := ((wS cS aS (aW 0) (aB 0) (aC 0) (aH 0) (aT 0) aE (nI 4)) ++ ((wW cI aW n cl th ki va re fi) ++ ((wB cI aB bt bs) ++ ((wC cI cZ aC (aW 0) (aB 0) to co ke nu fw) ++ ((wH cI aH (aW 0) lt tr sh cr ct cu ve ta ch) ++ ((wH cI aT (aW 0) lt2 tr2 sh2 cr2 ct2 cu2 ve2 ta2 ch2) ++ (wE cI aE lo fo si it)))))))) G K hA w F_X5_find (c_X5_find aS aE la aW n cl th ki va re fi aB bt bs aC to co ke nu fw aH lt tr sh cr ct cu ve ta ch aT lt2 tr2 sh2 cr2 ct2 cu2 ve2 ta2 ch2 lo fo si it 4 J S B9 C9 H9 U9 E9) ml_X5_128 rfl rfl rfl (by decide) (by decide) rfl hl.1 (Nat.le_of_ble_eq_true rfl) dX5_copy_70 (fun Hp1 lo2 w => ?_)
            exact hret _ _ _ _ _ _ rfl rfl w dX5_copy_73
        · -- not taken at 46
          exact absurd (Or.inr c46) hf9
    · -- not taken at 11
      exact absurd ⟨3, by decide, rfl⟩ c11
set_option maxHeartbeats 4000000 in
set_option maxRecDepth 100000 in
theorem c_X5_copy_idx03 (aS : Nat → Nat) (aE : Nat → Nat) (la : Int32) (aW : Nat → Nat) (n : Nat) (cl : Nat) (th : Nat → Nat) (ki : Nat → Nat) (va : Nat → Nat) (re : Nat → Nat) (fi : Nat → Nat) (aB : Nat → Nat) (bt : Nat → Nat) (bs : Nat) (aC : Nat → Nat) (to : Nat → Prop) (co : Nat → Nat) (ke : Nat → Int32) (nu : Nat → Int32) (fw : Nat → Nat) (aH : Nat → Nat) (lt : Nat → Option Nat) (tr : Nat → Nat) (sh : Nat → Nat) (cr : Nat → Nat) (ct : Nat → Nat) (cu : Nat → Nat) (ve : Nat → Nat) (ta : Nat → Nat) (ch : Nat) (aT : Nat → Nat) (lt2 : Nat → Option Nat) (tr2 : Nat → Nat) (sh2 : Nat → Nat) (cr2 : Nat → Nat) (ct2 : Nat → Nat) (cu2 : Nat → Nat) (ve2 : Nat → Nat) (ta2 : Nat → Nat) (ch2 : Nat) (lo : Nat → Prop) (fo : Nat → Nat) (si : Nat → Nat) (it : Nat → Nat → Int32) (i : Int32) (j : Int32) (k : Int32) (J : IW n cl th ki va re fi) (S : SW n cl re fi) (B9 : (∀ j, bt j ≤ 255) ∧ bs ≤ 216) (C9 : (∀ j, co j ≤ 400) ∧ (∀ j, fw j ≤ 15)) (H9 : IHd lt tr sh cr ct cu ve ta ch) (U9 : IHd lt2 tr2 sh2 cr2 ct2 cu2 ve2 ta2 ch2) (E9 : (∀ j, fo j ≤ 2) ∧ (∀ j, si j ≤ 60)) (hf9 : ¬ (lo 0 ∨ lo 3)) (hc9 : fo 0 = fo 3) (hk9 : ¬ (okH (si 0) i k ∧ okH (si 3) j k)) : CM l D (TY cI cZ cS) yX5_copy cX5_copy 8 (some .int) 1 [.ref (aS 0), .int (nI 0), .int i, .int (nI 3), .int j, .int k] ((wS cS aS (aW 0) (aB 0) (aC 0) (aH 0) (aT 0) aE la) ++ ((wW cI aW n cl th ki va re fi) ++ ((wB cI aB bt bs) ++ ((wC cI cZ aC (aW 0) (aB 0) to co ke nu fw) ++ ((wH cI aH (aW 0) lt tr sh cr ct cu ve ta ch) ++ ((wH cI aT (aW 0) lt2 tr2 sh2 cr2 ct2 cu2 ve2 ta2 ch2) ++ (wE cI aE lo fo si it))))))) (some (.int ((-10) - (nI 2)))) ((wS cS aS (aW 0) (aB 0) (aC 0) (aH 0) (aT 0) aE (nI 2)) ++ ((wW cI aW n cl th ki va re fi) ++ ((wB cI aB bt bs) ++ ((wC cI cZ aC (aW 0) (aB 0) to co ke nu fw) ++ ((wH cI aH (aW 0) lt tr sh cr ct cu ve ta ch) ++ ((wH cI aT (aW 0) lt2 tr2 sh2 cr2 ct2 cu2 ve2 ta2 ch2) ++ (wE cI aE lo fo si it))))))) := by
  refine CM.ofI (by decide +kernel) (Nat.le_of_ble_eq_true rfl) (nar_int _) ?_
  intro p e s m args below meth c Q A G K hA w hret ls hl
  obtain ⟨hx, hb, hml, hown, hts⟩ := id G
  obtain ⟨hn, hcl, hth, hki, hva, hre, hfi⟩ := id J
  obtain ⟨hbt, hbs⟩ := id B9
  obtain ⟨hco, hfw⟩ := id C9
  obtain ⟨hlt, htr, hsh, hcr, hct, hcu, hve, hta, hch⟩ := id H9
  obtain ⟨hlt2, htr2, hsh2, hcr2, hct2, hcu2, hve2, hta2, hch2⟩ := id U9
  obtain ⟨hfo, hsi⟩ := id E9
  have hq1 := hfo 0
  have hq2 := hfo 3
  have hl : lv_has ls 8 [(0, .ref (aS 0)), (1, .int (nI 0)), (2, .int i), (3, .int (nI 3)), (4, .int j), (5, .int k)] := hl
  refine lv_iload_n hx hb dX5_copy_0 rfl (lv_at hl 1 rfl) ?_
  refine callPS (rest := []) G K F_X5_isSheet (c_X5_isSheet (nI 0)) (va_P_nil D s.heap) ml_X5_121 (by decide) (by decide) rfl hl.1 (Nat.le_of_ble_eq_true rfl) dX5_copy_1 ?_
  refine b_eq G (tgt := 14) dX5_copy_4 (by decide) (fun c4 => ?_) (fun c4 => ?_)
  · -- taken at 4
    exact absurd ⟨0, by decide, rfl⟩ c4
  · -- not taken at 4
    refine lv_iload_n hx hb dX5_copy_7 rfl (lv_at hl 3 rfl) ?_
    refine callPS (rest := []) G K F_X5_isSheet (c_X5_isSheet (nI 3)) (va_P_nil D s.heap) ml_X5_121 (by decide) (by decide) rfl hl.1 (Nat.le_of_ble_eq_true rfl) dX5_copy_8 ?_
    refine b_ne G (tgt := 17) dX5_copy_11 (by decide) (fun c11 => ?_) (fun c11 => ?_)
    · -- taken at 11
      refine lv_aload_n hx hb dX5_copy_17 rfl (lv_at hl 0 rfl) ?_
      refine f_get G K w.1 inX5 0 (ci := 5) rfl rfl 5 rfl fl_X5_46 (v := .ref (aS 1)) rfl dX5_copy_18 ?_
      refine lv_iload_n hx hb dX5_copy_21 rfl (lv_at hl 1 rfl) ?_
      refine a_ldR G K w.1 1 2 (a := (aS 1)) rfl rfl (by omega) (by decide) dX5_copy_22 ?_
      refine lv_astore (lv' := [(6, .ref (aE 0)), (0, .ref (aS 0)), (1, .int (nI 0)), (2, .int i), (3, .int (nI 3)), (4, .int j), (5, .int k)]) hx hb dX5_copy_23 hl (by decide) rfl (fun ls hl => ?_)
      refine lv_aload_n hx hb dX5_copy_25 rfl (lv_at hl 1 rfl) ?_
      refine f_get G K w.1 inX5 0 (ci := 5) rfl rfl 5 rfl fl_X5_46 (v := .ref (aS 1)) rfl dX5_copy_26 ?_
      refine lv_iload_n hx hb dX5_copy_29 rfl (lv_at hl 4 rfl) ?_
      refine a_ldR G K w.1 1 2 (a := (aS 1)) rfl rfl (by omega) (by decide) dX5_copy_30 ?_
      refine lv_astore (lv' := [(7, .ref (aE 3)), (6, .ref (aE 0)), (0, .ref (aS 0)), (1, .int (nI 0)), (2, .int i), (3, .int (nI 3)), (4, .int j), (5, .int k)]) hx hb dX5_copy_31 hl (by decide) rfl (fun ls hl => ?_)
      refine lv_aload hx hb dX5_copy_33 (lv_at hl 1 rfl) ?_
      refine f_get G K w.1 inX3 34 (ci := 3) rfl rfl 1 rfl fl_X5_124 (v := .int (bI (lo 0))) rfl dX5_copy_35 ?_
      refine b_ne G (tgt := 49) dX5_copy_38 (by decide) (fun c38 => ?_) (fun c38 => ?_)
      · -- taken at 38
        exact absurd (Or.inl c38) hf9
      · -- not taken at 38
        refine lv_aload hx hb dX5_copy_41 (lv_at hl 0 rfl) ?_
        refine f_get G K w.1 inX3 37 (ci := 3) rfl rfl 1 rfl fl_X5_124 (v := .int (bI (lo 3))) rfl dX5_copy_43 ?_
        refine b_eq G (tgt := 55) dX5_copy_46 (by decide) (fun c46 => ?_) (fun c46 => ?_)
        · -- taken at 46
          refine lv_aload hx hb dX5_copy_55 (lv_at hl 1 rfl) ?_
          refine f_get G K w.1 inX3 34 (ci := 3) rfl rfl 2 rfl fl_X5_247 (v := .int (nI (fo 0))) rfl dX5_copy_57 ?_
          refine lv_aload hx hb dX5_copy_60 (lv_at hl 0 rfl) ?_
          refine f_get G K w.1 inX3 37 (ci := 3) rfl rfl 2 rfl fl_X5_247 (v := .int (nI (fo 3))) rfl dX5_copy_62 ?_
          refine c_eq G (tgt := 74) (by omega) (by omega) dX5_copy_65 (by decide) (fun c65 => ?_) (fun c65 => ?_)
          · -- taken at 65
            refine lv_aload hx hb dX5_copy_74 (lv_at hl 1 rfl) ?_
            refine lv_iload_n hx hb dX5_copy_76 rfl (lv_at hl 4 rfl) ?_
            refine lv_iload hx hb dX5_copy_77 (lv_at hl 7 rfl) ?_
            refine callPV (As := [.int i, .int k]) (rest := []) (q0 := 0) (ci := 3) G K F_X3_hasItems (c_X3_hasItems (aE 0) (aE 4) (lo 0) (fo 0) (si 0) (it 0) i k ⟨hfo 0, hsi 0⟩) (w.1.sub (ws' := (wT cI (aE 0) (aE 4) (lo 0) (fo 0) (si 0) (it 0))) [34, 38] rfl) ml_X5_250 rfl rfl rfl (by decide) (by decide) rfl hl.1 (Nat.le_of_ble_eq_true rfl) dX5_copy_79 ?_
            refine b_eq G (tgt := 97) dX5_copy_82 (by decide) (fun c82 => ?_) (fun c82 => ?_)
            · -- taken at 82
              refine lv_aload_n hx hb dX5_copy_97 rfl (lv_at hl 2 rfl) ?_
              refine lv_iconst (v := (nI 2)) hx hb dX5_copy_98 (by decide) ?_
              refine callMF (As := [.int (nI 2)]) (rest := []) (q0 := 0) (ci := 5) (ws' := ((wS cS aS (aW 0) (aB 0) (aC 0) (aH 0) (aT 0) aE (nI 2)) ++ ((wW cI aW n cl th ki va re fi) ++ ((wB cI aB bt bs) ++ ((wC cI cZ aC (aW 0) (aB 0) to co ke nu fw) ++ ((wH cI aH (aW 0) lt tr sh cr ct cu ve ta ch) ++ ((wH cI aT (aW 0) lt2 tr2 sh2 cr2 ct2 cu2 ve2 ta2 ch2) ++ (wE cI aE lo fo si it)))))))) G K hA w F_X5_find (c_X5_find aS aE la aW n cl th ki va re fi aB bt bs aC to co ke nu fw aH lt tr sh cr ct cu ve ta ch aT lt2 tr2 sh2 cr2 ct2 cu2 ve2 ta2 ch2 lo fo si it 2 J S B9 C9 H9 U9 E9) ml_X5_128 rfl rfl rfl (by decide) (by decide) rfl hl.1 (Nat.le_of_ble_eq_true rfl) dX5_copy_99 (fun Hp1 lo2 w => ?_)
              exact hret _ _ _ _ _ _ rfl rfl w dX5_copy_102
            · -- not taken at 82
              refine lv_aload hx hb dX5_copy_85 (lv_at hl 0 rfl) ?_
              refine lv_iload hx hb dX5_copy_87 (lv_at hl 6 rfl) ?_
              refine lv_iload hx hb dX5_copy_89 (lv_at hl 7 rfl) ?_
              refine callPV (As := [.int j, .int k]) (rest := []) (q0 := 0) (ci := 3) G K F_X3_hasItems (c_X3_hasItems (aE 3) (aE 7) (lo 3) (fo 3) (si 3) (it 3) j k ⟨hfo 3, hsi 3⟩) (w.1.sub (ws' := (wT cI (aE 3) (aE 7) (lo 3) (fo 3) (si 3) (it 3))) [37, 41] rfl) ml_X5_250 rfl rfl rfl (by decide) (by decide) rfl hl.1 (Nat.le_of_ble_eq_true rfl) dX5_copy_91 ?_
              refine b_ne G (tgt := 103) dX5_copy_94 (by decide) (fun c94 => ?_) (fun c94 => ?_)
              · -- taken at 94
                exact absurd ⟨c82, c94⟩ hk9
              · -- not taken at 94
                refine lv_aload_n hx hb dX5_copy_97 rfl (lv_at hl 2 rfl) ?_
                refine lv_iconst (v := (nI 2)) hx hb dX5_copy_98 (by decide) ?_
                refine callMF (As := [.int (nI 2)]) (rest := []) (q0 := 0) (ci := 5) (ws' := ((wS cS aS (aW 0) (aB 0) (aC 0) (aH 0) (aT 0) aE (nI 2)) ++ ((wW cI aW n cl th ki va re fi) ++ ((wB cI aB bt bs) ++ ((wC cI cZ aC (aW 0) (aB 0) to co ke nu fw) ++ ((wH cI aH (aW 0) lt tr sh cr ct cu ve ta ch) ++ ((wH cI aT (aW 0) lt2 tr2 sh2 cr2 ct2 cu2 ve2 ta2 ch2) ++ (wE cI aE lo fo si it)))))))) G K hA w F_X5_find (c_X5_find aS aE la aW n cl th ki va re fi aB bt bs aC to co ke nu fw aH lt tr sh cr ct cu ve ta ch aT lt2 tr2 sh2 cr2 ct2 cu2 ve2 ta2 ch2 lo fo si it 2 J S B9 C9 H9 U9 E9) ml_X5_128 rfl rfl rfl (by decide) (by decide) rfl hl.1 (Nat.le_of_ble_eq_true rfl) dX5_copy_99 (fun Hp3 lo4 w => ?_)
                exact hret _ _ _ _ _ _ rfl rfl w dX5_copy_102
          · -- not taken at 65
            exact absurd hc9 c65
        · -- not taken at 46
          exact absurd (Or.inr c46) hf9
    · -- not taken at 11
      exact absurd ⟨3, by decide, rfl⟩ c11
set_option maxHeartbeats 4000000 in
set_option maxRecDepth 100000 in
theorem c_X5_copy_ok03 (aS : Nat → Nat) (aE : Nat → Nat) (la : Int32) (aW : Nat → Nat) (n : Nat) (cl : Nat) (th : Nat → Nat) (ki : Nat → Nat) (va : Nat → Nat) (re : Nat → Nat) (fi : Nat → Nat) (aB : Nat → Nat) (bt : Nat → Nat) (bs : Nat) (aC : Nat → Nat) (to : Nat → Prop) (co : Nat → Nat) (ke : Nat → Int32) (nu : Nat → Int32) (fw : Nat → Nat) (aH : Nat → Nat) (lt : Nat → Option Nat) (tr : Nat → Nat) (sh : Nat → Nat) (cr : Nat → Nat) (ct : Nat → Nat) (cu : Nat → Nat) (ve : Nat → Nat) (ta : Nat → Nat) (ch : Nat) (aT : Nat → Nat) (lt2 : Nat → Option Nat) (tr2 : Nat → Nat) (sh2 : Nat → Nat) (cr2 : Nat → Nat) (ct2 : Nat → Nat) (cu2 : Nat → Nat) (ve2 : Nat → Nat) (ta2 : Nat → Nat) (ch2 : Nat) (lo : Nat → Prop) (fo : Nat → Nat) (si : Nat → Nat) (it : Nat → Nat → Int32) (i : Nat) (j : Nat) (k : Nat) (J : IW n cl th ki va re fi) (S : SW n cl re fi) (B9 : (∀ j, bt j ≤ 255) ∧ bs ≤ 216) (C9 : (∀ j, co j ≤ 400) ∧ (∀ j, fw j ≤ 15)) (H9 : IHd lt tr sh cr ct cu ve ta ch) (U9 : IHd lt2 tr2 sh2 cr2 ct2 cu2 ve2 ta2 ch2) (E9 : (∀ j, fo j ≤ 2) ∧ (∀ j, si j ≤ 60)) (hf9 : ¬ (lo 0 ∨ lo 3)) (hc9 : fo 0 = fo 3) (hi9 : i + k ≤ si 0) (hj9 : j + k ≤ si 3) : CM l D (TY cI cZ cS) yX5_copy cX5_copy 8 (some .int) 1 [.ref (aS 0), .int (nI 0), .int (nI i), .int (nI 3), .int (nI j), .int (nI k)] ((wS cS aS (aW 0) (aB 0) (aC 0) (aH 0) (aT 0) aE la) ++ ((wW cI aW n cl th ki va re fi) ++ ((wB cI aB bt bs) ++ ((wC cI cZ aC (aW 0) (aB 0) to co ke nu fw) ++ ((wH cI aH (aW 0) lt tr sh cr ct cu ve ta ch) ++ ((wH cI aT (aW 0) lt2 tr2 sh2 cr2 ct2 cu2 ve2 ta2 ch2) ++ (wE cI aE lo fo si it))))))) (some (.int (nI 1))) ((wS cS aS (aW 0) (aB 0) (aC 0) (aH 0) (aT 0) aE la) ++ ((wW cI aW n cl th ki va re fi) ++ ((wB cI aB bt bs) ++ ((wC cI cZ aC (aW 0) (aB 0) to co ke nu fw) ++ ((wH cI aH (aW 0) lt tr sh cr ct cu ve ta ch) ++ ((wH cI aT (aW 0) lt2 tr2 sh2 cr2 ct2 cu2 ve2 ta2 ch2) ++ (wE cI aE lo fo si (va_up it 3 (va_cpy (it 0) (it 3) i j k))))))))) := by
  refine CM.ofI (by decide +kernel) (Nat.le_of_ble_eq_true rfl) (nar_int _) ?_
  intro p e s m args below meth c Q A G K hA w hret ls hl
  obtain ⟨hx, hb, hml, hown, hts⟩ := id G
  obtain ⟨hn, hcl, hth, hki, hva, hre, hfi⟩ := id J
  obtain ⟨hbt, hbs⟩ := id B9
  obtain ⟨hco, hfw⟩ := id C9
  obtain ⟨hlt, htr, hsh, hcr, hct, hcu, hve, hta, hch⟩ := id H9
  obtain ⟨hlt2, htr2, hsh2, hcr2, hct2, hcu2, hve2, hta2, hch2⟩ := id U9
  obtain ⟨hfo, hsi⟩ := id E9
  have hs9 := hsi 0
  have ht9 := hsi 3
  have hq1 := hfo 0
  have hq2 := hfo 3
  have hl : lv_has ls 8 [(0, .ref (aS 0)), (1, .int (nI 0)), (2, .int (nI i)), (3, .int (nI 3)), (4, .int (nI j)), (5, .int (nI k))] := hl
  refine lv_iload_n hx hb dX5_copy_0 rfl (lv_at hl 1 rfl) ?_
  refine callPS (rest := []) G K F_X5_isSheet (c_X5_isSheet (nI 0)) (va_P_nil D s.heap) ml_X5_121 (by decide) (by decide) rfl hl.1 (Nat.le_of_ble_eq_true rfl) dX5_copy_1 ?_
  refine b_eq G (tgt := 14) dX5_copy_4 (by decide) (fun c4 => ?_) (fun c4 => ?_)
  · -- taken at 4
    exact absurd ⟨0, by decide, rfl⟩ c4
  · -- not taken at 4
    refine lv_iload_n hx hb dX5_copy_7 rfl (lv_at hl 3 rfl) ?_
    refine callPS (rest := []) G K F_X5_isSheet (c_X5_isSheet (nI 3)) (va_P_nil D s.heap) ml_X5_121 (by decide) (by decide) rfl hl.1 (Nat.le_of_ble_eq_true rfl) dX5_copy_8 ?_
    refine b_ne G (tgt := 17) dX5_copy_11 (by decide) (fun c11 => ?_) (fun c11 => ?_)
    · -- taken at 11
      refine lv_aload_n hx hb dX5_copy_17 rfl (lv_at hl 0 rfl) ?_
      refine f_get G K w.1 inX5 0 (ci := 5) rfl rfl 5 rfl fl_X5_46 (v := .ref (aS 1)) rfl dX5_copy_18 ?_
      refine lv_iload_n hx hb dX5_copy_21 rfl (lv_at hl 1 rfl) ?_
      refine a_ldR G K w.1 1 2 (a := (aS 1)) rfl rfl (by omega) (by decide) dX5_copy_22 ?_
      refine lv_astore (lv' := [(6, .ref (aE 0)), (0, .ref (aS 0)), (1, .int (nI 0)), (2, .int (nI i)), (3, .int (nI 3)), (4, .int (nI j)), (5, .int (nI k))]) hx hb dX5_copy_23 hl (by decide) rfl (fun ls hl => ?_)
      refine lv_aload_n hx hb dX5_copy_25 rfl (lv_at hl 1 rfl) ?_
      refine f_get G K w.1 inX5 0 (ci := 5) rfl rfl 5 rfl fl_X5_46 (v := .ref (aS 1)) rfl dX5_copy_26 ?_
      refine lv_iload_n hx hb dX5_copy_29 rfl (lv_at hl 4 rfl) ?_
      refine a_ldR G K w.1 1 2 (a := (aS 1)) rfl rfl (by omega) (by decide) dX5_copy_30 ?_
      refine lv_astore (lv' := [(7, .ref (aE 3)), (6, .ref (aE 0)), (0, .ref (aS 0)), (1, .int (nI 0)), (2, .int (nI i)), (3, .int (nI 3)), (4, .int (nI j)), (5, .int (nI k))]) hx hb dX5_copy_31 hl (by decide) rfl (fun ls hl => ?_)
      refine lv_aload hx hb dX5_copy_33 (lv_at hl 1 rfl) ?_
      refine f_get G K w.1 inX3 34 (ci := 3) rfl rfl 1 rfl fl_X5_124 (v := .int (bI (lo 0))) rfl dX5_copy_35 ?_
      refine b_ne G (tgt := 49) dX5_copy_38 (by decide) (fun c38 => ?_) (fun c38 => ?_)
      · -- taken at 38
        exact absurd (Or.inl c38) hf9
      · -- not taken at 38
        refine lv_aload hx hb dX5_copy_41 (lv_at hl 0 rfl) ?_
        refine f_get G K w.1 inX3 37 (ci := 3) rfl rfl 1 rfl fl_X5_124 (v := .int (bI (lo 3))) rfl dX5_copy_43 ?_
        refine b_eq G (tgt := 55) dX5_copy_46 (by decide) (fun c46 => ?_) (fun c46 => ?_)
        · -- taken at 46
          refine lv_aload hx hb dX5_copy_55 (lv_at hl 1 rfl) ?_
          refine f_get G K w.1 inX3 34 (ci := 3) rfl rfl 2 rfl fl_X5_247 (v := .int (nI (fo 0))) rfl dX5_copy_57 ?_
          refine lv_aload hx hb dX5_copy_60 (lv_at hl 0 rfl) ?_
          refine f_get G K w.1 inX3 37 (ci := 3) rfl rfl 2 rfl fl_X5_247 (v := .int (nI (fo 3))) rfl dX5_copy_62 ?_
          refine c_eq G (tgt := 74) (by omega) (by omega) dX5_copy_65 (by decide) (fun c65 => ?_) (fun c65 => ?_)
          · -- taken at 65
            refine lv_aload hx hb dX5_copy_74 (lv_at hl 1 rfl) ?_
            refine lv_iload_n hx hb dX5_copy_76 rfl (lv_at hl 4 rfl) ?_
            refine lv_iload hx hb dX5_copy_77 (lv_at hl 7 rfl) ?_
            refine callPV (As := [.int (nI i), .int (nI k)]) (rest := []) (q0 := 0) (ci := 3) G K F_X3_hasItems (c_X3_hasItems (aE 0) (aE 4) (lo 0) (fo 0) (si 0) (it 0) (nI i) (nI k) ⟨hfo 0, hsi 0⟩) (w.1.sub (ws' := (wT cI (aE 0) (aE 4) (lo 0) (fo 0) (si 0) (it 0))) [34, 38] rfl) ml_X5_250 rfl rfl rfl (by decide) (by decide) rfl hl.1 (Nat.le_of_ble_eq_true rfl) dX5_copy_79 ?_
            refine b_eq G (tgt := 97) dX5_copy_82 (by decide) (fun c82 => ?_) (fun c82 => ?_)
            · -- taken at 82
              exact absurd ⟨i, k, hi9, rfl, rfl⟩ c82
            · -- not taken at 82
              refine lv_aload hx hb dX5_copy_85 (lv_at hl 0 rfl) ?_
              refine lv_iload hx hb dX5_copy_87 (lv_at hl 6 rfl) ?_
              refine lv_iload hx hb dX5_copy_89 (lv_at hl 7 rfl) ?_
              refine callPV (As := [.int (nI j), .int (nI k)]) (rest := []) (q0 := 0) (ci := 3) G K F_X3_hasItems (c_X3_hasItems (aE 3) (aE 7) (lo 3) (fo 3) (si 3) (it 3) (nI j) (nI k) ⟨hfo 3, hsi 3⟩) (w.1.sub (ws' := (wT cI (aE 3) (aE 7) (lo 3) (fo 3) (si 3) (it 3))) [37, 41] rfl) ml_X5_250 rfl rfl rfl (by decide) (by decide) rfl hl.1 (Nat.le_of_ble_eq_true rfl) dX5_copy_91 ?_
              refine b_ne G (tgt := 103) dX5_copy_94 (by decide) (fun c94 => ?_) (fun c94 => ?_)
              · -- taken at 94
                refine lv_aload hx hb dX5_copy_103 (lv_at hl 1 rfl) ?_
                refine f_get G K w.1 inX3 34 (ci := 3) rfl rfl 0 rfl fl_X5_132 (v := .ref (aE 4)) rfl dX5_copy_105 ?_
                refine lv_iload_n hx hb dX5_copy_108 rfl (lv_at hl 4 rfl) ?_
                refine lv_aload hx hb dX5_copy_109 (lv_at hl 0 rfl) ?_
                refine f_get G K w.1 inX3 37 (ci := 3) rfl rfl 0 rfl fl_X5_132 (v := .ref (aE 7)) rfl dX5_copy_111 ?_
                refine lv_iload hx hb dX5_copy_114 (lv_at hl 6 rfl) ?_
                refine lv_iload hx hb dX5_copy_116 (lv_at hl 7 rfl) ?_
                refine acp (f := (it 0)) (g := (it 3)) (sp := i) (dp := j) (k := k) G K w (hml.trans hl.1.symm) ml_X5_253 38 41 rfl rfl (by omega) (by omega) (by decide) (Nat.le_of_ble_eq_true rfl) (Nat.le_of_ble_eq_true rfl) dX5_copy_118 (w2 := ((wS cS aS (aW 0) (aB 0) (aC 0) (aH 0) (aT 0) aE la) ++ ((wW cI aW n cl th ki va re fi) ++ ((wB cI aB bt bs) ++ ((wC cI cZ aC (aW 0) (aB 0) to co ke nu fw) ++ ((wH cI aH (aW 0) lt tr sh cr ct cu ve ta ch) ++ ((wH cI aT (aW 0) lt2 tr2 sh2 cr2 ct2 cu2 ve2 ta2 ch2) ++ (wE cI aE lo fo si (va_up it 3 (va_cpy (it 0) (it 3) i j k)))))))))) rfl (fun Hp1 lo2 w => ?_)
                refine lv_iconst (v := (nI 1)) hx hb dX5_copy_121 (by decide) ?_
                exact hret _ _ _ _ _ _ rfl rfl w dX5_copy_122
              · -- not taken at 94
                exact absurd ⟨j, k, hj9, rfl, rfl⟩ c94
          · -- not taken at 65
            exact absurd hc9 c65
        · -- not taken at 46
          exact absurd (Or.inr c46) hf9
    · -- not taken at 11
      exact absurd ⟨3, by decide, rfl⟩ c11
set_option maxHeartbeats 4000000 in
set_option maxRecDepth 100000 in
theorem c_X5_copy_nul10 (aS : Nat → Nat) (aE : Nat → Nat) (la : Int32) (aW : Nat → Nat) (n : Nat) (cl : Nat) (th : Nat → Nat) (ki : Nat → Nat) (va : Nat → Nat) (re : Nat → Nat) (fi : Nat → Nat) (aB : Nat → Nat) (bt : Nat → Nat) (bs : Nat) (aC : Nat → Nat) (to : Nat → Prop) (co : Nat → Nat) (ke : Nat → Int32) (nu : Nat → Int32) (fw : Nat → Nat) (aH : Nat → Nat) (lt : Nat → Option Nat) (tr : Nat → Nat) (sh : Nat → Nat) (cr : Nat → Nat) (ct : Nat → Nat) (cu : Nat → Nat) (ve : Nat → Nat) (ta : Nat → Nat) (ch : Nat) (aT : Nat → Nat) (lt2 : Nat → Option Nat) (tr2 : Nat → Nat) (sh2 : Nat → Nat) (cr2 : Nat → Nat) (ct2 : Nat → Nat) (cu2 : Nat → Nat) (ve2 : Nat → Nat) (ta2 : Nat → Nat) (ch2 : Nat) (lo : Nat → Prop) (fo : Nat → Nat) (si : Nat → Nat) (it : Nat → Nat → Int32) (i : Int32) (j : Int32) (k : Int32) (J : IW n cl th ki va re fi) (S : SW n cl re fi) (B9 : (∀ j, bt j ≤ 255) ∧ bs ≤ 216) (C9 : (∀ j, co j ≤ 400) ∧ (∀ j, fw j ≤ 15)) (H9 : IHd lt tr sh cr ct cu ve ta ch) (U9 : IHd lt2 tr2 sh2 cr2 ct2 cu2 ve2 ta2 ch2) (E9 : (∀ j, fo j ≤ 2) ∧ (∀ j, si j ≤ 60)) (hf9 : lo 1 ∨ lo 0) : CM l D (TY cI cZ cS) yX5_copy cX5_copy 8 (some .int) 1 [.ref (aS 0), .int (nI 1), .int i, .int (nI 0), .int j, .int k] ((wS cS aS (aW 0) (aB 0) (aC 0) (aH 0) (aT 0) aE la) ++ ((wW cI aW n cl th ki va re fi) ++ ((wB cI aB bt bs) ++ ((wC cI cZ aC (aW 0) (aB 0) to co ke nu fw) ++ ((wH cI aH (aW 0) lt tr sh cr ct cu ve ta ch) ++ ((wH cI aT (aW 0) lt2 tr2 sh2 cr2 ct2 cu2 ve2 ta2 ch2) ++ (wE cI aE lo fo si it))))))) (some (.int ((-10) - (nI 1)))) ((wS cS aS (aW 0) (aB 0) (aC 0) (aH 0) (aT 0) aE (nI 1)) ++ ((wW cI aW n cl th ki va re fi) ++ ((wB cI aB bt bs) ++ ((wC cI cZ aC (aW 0) (aB 0) to co ke nu fw) ++ ((wH cI aH (aW 0) lt tr sh cr ct cu ve ta ch) ++ ((wH cI aT (aW 0) lt2 tr2 sh2 cr2 ct2 cu2 ve2 ta2 ch2) ++ (wE cI aE lo fo si it))))))) := by
  refine CM.ofI (by decide +kernel) (Nat.le_of_ble_eq_true rfl) (nar_int _) ?_
  intro p e s m args below meth c Q A G K hA w hret ls hl
  obtain ⟨hx, hb, hml, hown, hts⟩ := id G
  obtain ⟨hn, hcl, hth, hki, hva, hre, hfi⟩ := id J
  obtain ⟨hbt, hbs⟩ := id B9
  obtain ⟨hco, hfw⟩ := id C9
  obtain ⟨hlt, htr, hsh, hcr, hct, hcu, hve, hta, hch⟩ := id H9
  obtain ⟨hlt2, htr2, hsh2, hcr2, hct2, hcu2, hve2, hta2, hch2⟩ := id U9
  obtain ⟨hfo, hsi⟩ := id E9
  have hl : lv_has ls 8 [(0, .ref (aS 0)), (1, .int (nI 1)), (2, .int i), (3, .int (nI 0)), (4, .int j), (5, .int k)] := hl
  refine lv_iload_n hx hb dX5_copy_0 rfl (lv_at hl 1 rfl) ?_
  refine callPS (rest := []) G K F_X5_isSheet (c_X5_isSheet (nI 1)) (va_P_nil D s.heap) ml_X5_121 (by decide) (by decide) rfl hl.1 (Nat.le_of_ble_eq_true rfl) dX5_copy_1 ?_
  refine b_eq G (tgt := 14) dX5_copy_4 (by decide) (fun c4 => ?_) (fun c4 => ?_)
  · -- taken at 4
    exact absurd ⟨1, by decide, rfl⟩ c4
  · -- not taken at 4
    refine lv_iload_n hx hb dX5_copy_7 rfl (lv_at hl 3 rfl) ?_
    refine callPS (rest := []) G K F_X5_isSheet (c_X5_isSheet (nI 0)) (va_P_nil D s.heap) ml_X5_121 (by decide) (by decide) rfl hl.1 (Nat.le_of_ble_eq_true rfl) dX5_copy_8 ?_
    refine b_ne G (tgt := 17) dX5_copy_11 (by decide) (fun c11 => ?_) (fun c11 => ?_)
    · -- taken at 11
      refine lv_aload_n hx hb dX5_copy_17 rfl (lv_at hl 0 rfl) ?_
      refine f_get G K w.1 inX5 0 (ci := 5) rfl rfl 5 rfl fl_X5_46 (v := .ref (aS 1)) rfl dX5_copy_18 ?_
      refine lv_iload_n hx hb dX5_copy_21 rfl (lv_at hl 1 rfl) ?_
      refine a_ldR G K w.1 1 2 (a := (aS 1)) rfl rfl (by omega) (by decide) dX5_copy_22 ?_
      refine lv_astore (lv' := [(6, .ref (aE 1)), (0, .ref (aS 0)), (1, .int (nI 1)), (2, .int i), (3, .int (nI 0)), (4, .int j), (5, .int k)]) hx hb dX5_copy_23 hl (by decide) rfl (fun ls hl => ?_)
      refine lv_aload_n hx hb dX5_copy_25 rfl (lv_at hl 1 rfl) ?_
      refine f_get G K w.1 inX5 0 (ci := 5) rfl rfl 5 rfl fl_X5_46 (v := .ref (aS 1)) rfl dX5_copy_26 ?_
      refine lv_iload_n hx hb dX5_copy_29 rfl (lv_at hl 4 rfl) ?_
      refine a_ldR G K w.1 1 2 (a := (aS 1)) rfl rfl (by omega) (by decide) dX5_copy_30 ?_
      refine lv_astore (lv' := [(7, .ref (aE 0)), (6, .ref (aE 1)), (0, .ref (aS 0)), (1, .int (nI 1)), (2, .int i), (3, .int (nI 0)), (4, .int j), (5, .int k)]) hx hb dX5_copy_31 hl (by decide) rfl (fun ls hl => ?_)
      refine lv_aload hx hb dX5_copy_33 (lv_at hl 1 rfl) ?_
      refine f_get G K w.1 inX3 35 (ci := 3) rfl rfl 1 rfl fl_X5_124 (v := .int (bI (lo 1))) rfl dX5_copy_35 ?_
      refine b_ne G (tgt := 49) dX5_copy_38 (by decide) (fun c38 => ?_) (fun c38 => ?_)
      · -- taken at 38
        refine lv_aload_n hx hb dX5_copy_49 rfl (lv_at hl 2 rfl) ?_
        refine lv_iconst (v := (nI 1)) hx hb dX5_copy_50 (by decide) ?_
        refine callMF (As := [.int (nI 1)]) (rest := []) (q0 := 0) (ci := 5) (ws' := ((wS cS aS (aW 0) (aB 0) (aC 0) (aH 0) (aT 0) aE (nI 1)) ++ ((wW cI aW n cl th ki va re fi) ++ ((wB cI aB bt bs) ++ ((wC cI cZ aC (aW 0) (aB 0) to co ke nu fw) ++ ((wH cI aH (aW 0) lt tr sh cr ct cu ve ta ch) ++ ((wH cI aT (aW 0) lt2 tr2 sh2 cr2 ct2 cu2 ve2 ta2 ch2) ++ (wE cI aE lo fo si it)))))))) G K hA w F_X5_find (c_X5_find aS aE la aW n cl th ki va re fi aB bt bs aC to co ke nu fw aH lt tr sh cr ct cu ve ta ch aT lt2 tr2 sh2 cr2 ct2 cu2 ve2 ta2 ch2 lo fo si it 1 J S B9 C9 H9 U9 E9) ml_X5_128 rfl rfl rfl (by decide) (by decide) rfl hl.1 (Nat.le_of_ble_eq_true rfl) dX5_copy_51 (fun Hp1 lo2 w => ?_)
        exact hret _ _ _ _ _ _ rfl rfl w dX5_copy_54
      · -- not taken at 38
        refine lv_aload hx hb dX5_copy_41 (lv_at hl 0 rfl) ?_
        refine f_get G K w.1 inX3 34 (ci := 3) rfl rfl 1 rfl fl_X5_124 (v := .int (bI (lo 0))) rfl dX5_copy_43 ?_
        refine b_eq G (tgt := 55) dX5_copy_46 (by decide) (fun c46 => ?_) (fun c46 => ?_)
        · -- taken at 46
          exact absurd hf9 (fun h => h.elim c38 c46)
        · -- not taken at 46
          refine lv_aload_n hx hb dX5_copy_49 rfl (lv_at hl 2 rfl) ?_
          refine lv_iconst (v := (nI 1)) hx hb dX5_copy_50 (by decide) ?_
          refine callMF (As := [.int (nI 1)]) (rest := []) (q0 := 0) (ci := 5) (ws' := ((wS cS aS (aW 0) (aB 0) (aC 0) (aH 0) (aT 0) aE (nI 1)) ++ ((wW cI aW n cl th ki va re fi) ++ ((wB cI aB bt bs) ++ ((wC cI cZ aC (aW 0) (aB 0) to co ke nu fw) ++ ((wH cI aH (aW 0) lt tr sh cr ct cu ve ta ch) ++ ((wH cI aT (aW 0) lt2 tr2 sh2 cr2 ct2 cu2 ve2 ta2 ch2) ++ (wE cI aE lo fo si it)))))))) G K hA w F_X5_find (c_X5_find aS aE la aW n cl th ki va re fi aB bt bs aC to co ke nu fw aH lt tr sh cr ct cu ve ta ch aT lt2 tr2 sh2 cr2 ct2 cu2 ve2 ta2 ch2 lo fo si it 1 J S B9 C9 H9 U9 E9) ml_X5_128 rfl rfl rfl (by decide) (by decide) rfl hl.1 (Nat.le_of_ble_eq_true rfl) dX5_copy_51 (fun Hp3 lo4 w => ?_)
          exact hret _ _ _ _ _ _ rfl rfl w dX5_copy_54
    · -- not taken at 11
      exact absurd ⟨0, by decide, rfl⟩ c11
set_option maxHeartbeats 4000000 in
set_option maxRecDepth 100000 in
theorem c_X5_copy_sto10 (aS : Nat → Nat) (aE : Nat → Nat) (la : Int32) (aW : Nat → Nat) (n : Nat) (cl : Nat) (th : Nat → Nat) (ki : Nat → Nat) (va : Nat → Nat) (re : Nat → Nat) (fi : Nat → Nat) (aB : Nat → Nat) (bt : Nat → Nat) (bs : Nat) (aC : Nat → Nat) (to : Nat → Prop) (co : Nat → Nat) (ke : Nat → Int32) (nu : Nat → Int32) (fw : Nat → Nat) (aH : Nat → Nat) (lt : Nat → Option Nat) (tr : Nat → Nat) (sh : Nat → Nat) (cr : Nat → Nat) (ct : Nat → Nat) (cu : Nat → Nat) (ve : Nat → Nat) (ta : Nat → Nat) (ch : Nat) (aT : Nat → Nat) (lt2 : Nat → Option Nat) (tr2 : Nat → Nat) (sh2 : Nat → Nat) (cr2 : Nat → Nat) (ct2 : Nat → Nat) (cu2 : Nat → Nat) (ve2 : Nat → Nat) (ta2 : Nat → Nat) (ch2 : Nat) (lo : Nat → Prop) (fo : Nat → Nat) (si : Nat → Nat) (it : Nat → Nat → Int32) (i : Int32) (j : Int32) (k : Int32) (J : IW n cl th ki va re fi) (S : SW n cl re fi) (B9 : (∀ j, bt j ≤ 255) ∧ bs ≤ 216) (C9 : (∀ j, co j ≤ 400) ∧ (∀ j, fw j ≤ 15)) (H9 : IHd lt tr sh cr ct cu ve ta ch) (U9 : IHd lt2 tr2 sh2 cr2 ct2 cu2 ve2 ta2 ch2) (E9 : (∀ j, fo j ≤ 2) ∧ (∀ j, si j ≤ 60)) (hf9 : ¬ (lo 1 ∨ lo 0)) (hc9 : fo 1 ≠ fo 0) : CM l D (TY cI cZ cS) yX5_copy cX5_copy 8 (some .int) 1 [.ref (aS 0), .int (nI 1), .int i, .int (nI 0), .int j, .int k] ((wS cS aS (aW 0) (aB 0) (aC 0) (aH 0) (aT 0) aE la) ++ ((wW cI aW n cl th ki va re fi) ++ ((wB cI aB bt bs) ++ ((wC cI cZ aC (aW 0) (aB 0) to co ke nu fw) ++ ((wH cI aH (aW 0) lt tr sh cr ct cu ve ta ch) ++ ((wH cI aT (aW 0) lt2 tr2 sh2 cr2 ct2 cu2 ve2 ta2 ch2) ++ (wE cI aE lo fo si it))))))) (some (.int ((-10) - (nI 4)))) ((wS cS aS (aW 0) (aB 0) (aC 0) (aH 0) (aT 0) aE (nI 4)) ++ ((wW cI aW n cl th ki va re fi) ++ ((wB cI aB bt bs) ++ ((wC cI cZ aC (aW 0) (aB 0) to co ke nu fw) ++ ((wH cI aH (aW 0) lt tr sh cr ct cu ve ta ch) ++ ((wH cI aT (aW 0) lt2 tr2 sh2 cr2 ct2 cu2 ve2 ta2 ch2) ++ (wE cI aE lo fo si it))))))) := by
  refine CM.ofI (by decide +kernel) (Nat.le_of_ble_eq_true rfl) (nar_int _) ?_
  intro p e s m args below meth c Q A G K hA w hret ls hl
  obtain ⟨hx, hb, hml, hown, hts⟩ := id G
  obtain ⟨hn, hcl, hth, hki, hva, hre, hfi⟩ := id J
  obtain ⟨hbt, hbs⟩ := id B9
  obtain ⟨hco, hfw⟩ := id C9
  obtain ⟨hlt, htr, hsh, hcr, hct, hcu, hve, hta, hch⟩ := id H9
  obtain ⟨hlt2, htr2, hsh2, hcr2, hct2, hcu2, hve2, hta2, hch2⟩ := id U9
  obtain ⟨hfo, hsi⟩ := id E9
  have hq1 := hfo 1
  have hq2 := hfo 0
  have hl : lv_has ls 8 [(0, .ref (aS 0)), (1, .int (nI 1)), (2, .int i), (3, .int (nI 0)), (4, .int j), (5, .int k)] := hl
  refine lv_iload_n hx hb dX5_copy_0 rfl (lv_at hl 1 rfl) ?_
  refine callPS (rest := []) G K F_X5_isSheet (c_X5_isSheet (nI 1)) (va_P_nil D s.heap) ml_X5_121 (by decide) (by decide) rfl hl.1 (Nat.le_of_ble_eq_true rfl) dX5_copy_1 ?_
  refine b_eq G (tgt := 14) dX5_copy_4 (by decide) (fun c4 => ?_) (fun c4 => ?_)
  · -- taken at 4
    exact absurd ⟨1, by decide, rfl⟩ c4
  · -- not taken at 4
    refine lv_iload_n hx hb dX5_copy_7 rfl (lv_at hl 3 rfl) ?_
    refine callPS (rest := []) G K F_X5_isSheet (c_X5_isSheet (nI 0)) (va_P_nil D s.heap) ml_X5_121 (by decide) (by decide) rfl hl.1 (Nat.le_of_ble_eq_true rfl) dX5_copy_8 ?_
    refine b_ne G (tgt := 17) dX5_copy_11 (by decide) (fun c11 => ?_) (fun c11 => ?_)
    · -- taken at 11
      refine lv_aload_n hx hb dX5_copy_17 rfl (lv_at hl 0 rfl) ?_
      refine f_get G K w.1 inX5 0 (ci := 5) rfl rfl 5 rfl fl_X5_46 (v := .ref (aS 1)) rfl dX5_copy_18 ?_
      refine lv_iload_n hx hb dX5_copy_21 rfl (lv_at hl 1 rfl) ?_
      refine a_ldR G K w.1 1 2 (a := (aS 1)) rfl rfl (by omega) (by decide) dX5_copy_22 ?_
      refine lv_astore (lv' := [(6, .ref (aE 1)), (0, .ref (aS 0)), (1, .int (nI 1)), (2, .int i), (3, .int (nI 0)), (4, .int j), (5, .int k)]) hx hb dX5_copy_23 hl (by decide) rfl (fun ls hl => ?_)
      refine lv_aload_n hx hb dX5_copy_25 rfl (lv_at hl 1 rfl) ?_
      refine f_get G K w.1 inX5 0 (ci := 5) rfl rfl 5 rfl fl_X5_46 (v := .ref (aS 1)) rfl dX5_copy_26 ?_
      refine lv_iload_n hx hb dX5_copy_29 rfl (lv_at hl 4 rfl) ?_
      refine a_ldR G K w.1 1 2 (a := (aS 1)) rfl rfl (by omega) (by decide) dX5_copy_30 ?_
      refine lv_astore (lv' := [(7, .ref (aE 0)), (6, .ref (aE 1)), (0, .ref (aS 0)), (1, .int (nI 1)), (2, .int i), (3, .int (nI 0)), (4, .int j), (5, .int k)]) hx hb dX5_copy_31 hl (by decide) rfl (fun ls hl => ?_)
      refine lv_aload hx hb dX5_copy_33 (lv_at hl 1 rfl) ?_
      refine f_get G K w.1 inX3 35 (ci := 3) rfl rfl 1 rfl fl_X5_124 (v := .int (bI (lo 1))) rfl dX5_copy_35 ?_
      refine b_ne G (tgt := 49) dX5_copy_38 (by decide) (fun c38 => ?_) (fun c38 => ?_)
      · -- taken at 38
        exact absurd (Or.inl c38) hf9
      · -- not taken at 38
        refine lv_aload hx hb dX5_copy_41 (lv_at hl 0 rfl) ?_
        refine f_get G K w.1 inX3 34 (ci := 3) rfl rfl 1 rfl fl_X5_124 (v := .int (bI (lo 0))) rfl dX5_copy_43 ?_
        refine b_eq G (tgt := 55) dX5_copy_46 (by decide) (fun c46 => ?_) (fun c46 => ?_)
        · -- taken at 46
          refine lv_aload hx hb dX5_copy_55 (lv_at hl 1 rfl) ?_
          refine f_get G K w.1 inX3 35 (ci := 3) rfl rfl 2 rfl fl_X5_247 (v := .int (nI (fo 1))) rfl dX5_copy_57 ?_
          refine lv_aload hx hb dX5_copy_60 (lv_at hl 0 rfl) ?_
          refine f_get G K w.1 inX3 34 (ci := 3) rfl rfl 2 rfl fl_X5_247 (v := .int (nI (fo 0))) rfl dX5_copy_62 ?_
          refine c_eq G (tgt := 74) (by omega) (by omega) dX5_copy_65 (by decide) (fun c65 => ?_) (fun c65 => ?_)
          · -- taken at 65
            exact absurd c65 hc9
          · -- not taken at 65
            refine lv_aload_n hx hb dX5_copy_68 rfl (lv_at hl 2 rfl) ?_
            refine lv_iconst (v := (nI 4)) hx hb dX5_copy_69 (by decide) ?_
            refine callMF (As := [.int (nI 4)]) (rest := []) (q0 := 0) (ci := 5) (ws' := ((wS cS aS (aW 0) (aB 0) (aC 0) (aH 0) (aT 0) aE (nI 4)) ++ ((wW cI aW n cl th ki va re fi) ++ ((wB cI aB bt bs) ++ ((wC cI cZ aC (aW 0) (aB 0) to co ke nu fw) ++ ((wH cI aH (aW 0) lt tr sh cr ct cu ve ta ch) ++ ((wH cI aT (aW 0) lt2 tr2 sh2 cr2 ct2 cu2 ve2 ta2 ch2) ++ (wE cI aE lo fo si it)))))))) G K hA w F_X5_find (c_X5_find aS aE la aW n cl th ki va re fi aB bt bs aC to co ke nu fw aH lt tr sh cr ct cu ve ta ch aT lt2 tr2 sh2 cr2 ct2 cu2 ve2 ta2 ch2 lo fo si it 4 J S B9 C9 H9 U9 E9) ml_X5_128 rfl rfl rfl (by decide) (by decide) rfl hl.1 (Nat.le_of_ble_eq_true rfl) dX5_copy_70 (fun Hp1 lo2 w => ?_)
            exact hret _ _ _ _ _ _ rfl rfl w dX5_copy_73
        · -- not taken at 46
          exact absurd (Or.inr c46) hf9
    · -- not taken at 11
      exact absurd ⟨0, by decide, rfl⟩ c11
set_option maxHeartbeats 4000000 in
set_option maxRecDepth 100000 in
theorem c_X5_copy_idx10 (aS : Nat → Nat) (aE : Nat → Nat) (la : Int32) (aW : Nat → Nat) (n : Nat) (cl : Nat) (th : Nat → Nat) (ki : Nat → Nat) (va : Nat → Nat) (re : Nat → Nat) (fi : Nat → Nat) (aB : Nat → Nat) (bt : Nat → Nat) (bs : Nat) (aC : Nat → Nat) (to : Nat → Prop) (co : Nat → Nat) (ke : Nat → Int32) (nu : Nat → Int32) (fw : Nat → Nat) (aH : Nat → Nat) (lt : Nat → Option Nat) (tr : Nat → Nat) (sh : Nat → Nat) (cr : Nat → Nat) (ct : Nat → Nat) (cu : Nat → Nat) (ve : Nat → Nat) (ta : Nat → Nat) (ch : Nat) (aT : Nat → Nat) (lt2 : Nat → Option Nat) (tr2 : Nat → Nat) (sh2 : Nat → Nat) (cr2 : Nat → Nat) (ct2 : Nat → Nat) (cu2 : Nat → Nat) (ve2 : Nat → Nat) (ta2 : Nat → Nat) (ch2 : Nat) (lo : Nat → Prop) (fo : Nat → Nat) (si : Nat → Nat) (it : Nat → Nat → Int32) (i : Int32) (j : Int32) (k : Int32) (J : IW n cl th ki va re fi) (S : SW n cl re fi) (B9 : (∀ j, bt j ≤ 255) ∧ bs ≤ 216) (C9 : (∀ j, co j ≤ 400) ∧ (∀ j, fw j ≤ 15)) (H9 : IHd lt tr sh cr ct cu ve ta ch) (U9 : IHd lt2 tr2 sh2 cr2 ct2 cu2 ve2 ta2 ch2) (E9 : (∀ j, fo j ≤ 2) ∧ (∀ j, si j ≤ 60)) (hf9 : ¬ (lo 1 ∨ lo 0)) (hc9 : fo 1 = fo 0) (hk9 : ¬ (okH (si 1) i k ∧ okH (si 0) j k)) : CM l D (TY cI cZ cS) yX5_copy cX5_copy 8 (some .int) 1 [.ref (aS 0), .int (nI 1), .int i, .int (nI 0), .int j, .int k] ((wS cS aS (aW 0) (aB 0) (aC 0) (aH 0) (aT 0) aE la) ++ ((wW cI aW n cl th ki va re fi) ++ ((wB cI aB bt bs) ++ ((wC cI cZ aC (aW 0) (aB 0) to co ke nu fw) ++ ((wH cI aH (aW 0) lt tr sh cr ct cu ve ta ch) ++ ((wH cI aT (aW 0) lt2 tr2 sh2 cr2 ct2 cu2 ve2 ta2 ch2) ++ (wE cI aE lo fo si it))))))) (some (.int ((-10) - (nI 2)))) ((wS cS aS (aW 0) (aB 0) (aC 0) (aH 0) (aT 0) aE (nI 2)) ++ ((wW cI aW n cl th ki va re fi) ++ ((wB cI aB bt bs) ++ ((wC cI cZ aC (aW 0) (aB 0) to co ke nu fw) ++ ((wH cI aH (aW 0) lt tr sh cr ct cu ve ta ch) ++ ((wH cI aT (aW 0) lt2 tr2 sh2 cr2 ct2 cu2 ve2 ta2 ch2) ++ (wE cI aE lo fo si it))))))) := by
  refine CM.ofI (by decide +kernel) (Nat.le_of_ble_eq_true rfl) (nar_int _) ?_
  intro p e s m args below meth c Q A G K hA w hret ls hl
  obtain ⟨hx, hb, hml, hown, hts⟩ := id G
  obtain ⟨hn, hcl, hth, hki, hva, hre, hfi⟩ := id J
  obtain ⟨hbt, hbs⟩ := id B9
  obtain ⟨hco, hfw⟩ := id C9
  obtain ⟨hlt, htr, hsh, hcr, hct, hcu, hve, hta, hch⟩ := id H9
  obtain ⟨hlt2, htr2, hsh2, hcr2, hct2, hcu2, hve2, hta2, hch2⟩ := id U9
  obtain ⟨hfo, hsi⟩ := id E9
  have hq1 := hfo 1
  have hq2 := hfo 0
  have hl : lv_has ls 8 [(0, .ref (aS 0)), (1, .int (nI 1)), (2, .int i), (3, .int (nI 0)), (4, .int j), (5, .int k)] := hl
  refine lv_iload_n hx hb dX5_copy_0 rfl (lv_at hl 1 rfl) ?_
  refine callPS (rest := []) G K F_X5_isSheet (c_X5_isSheet (nI 1)) (va_P_nil D s.heap) ml_X5_121 (by decide) (by decide) rfl hl.1 (Nat.le_of_ble_eq_true rfl) dX5_copy_1 ?_
  refine b_eq G (tgt := 14) dX5_copy_4 (by decide) (fun c4 => ?_) (fun c4 => ?_)
  · -- taken at 4
    exact absurd ⟨1, by decide, rfl⟩ c4
  · -- not taken at 4
    refine lv_iload_n hx hb dX5_copy_7 rfl (lv_at hl 3 rfl) ?_
    refine callPS (rest := []) G K F_X5_isSheet (c_X5_isSheet (nI 0)) (va_P_nil D s.heap) ml_X5_121 (by decide) (by decide) rfl hl.1 (Nat.le_of_ble_eq_true rfl) dX5_copy_8 ?_
    refine b_ne G (tgt := 17) dX5_copy_11 (by decide) (fun c11 => ?_) (fun c11 => ?_)
    · -- taken at 11
      refine lv_aload_n hx hb dX5_copy_17 rfl (lv_at hl 0 rfl) ?_
      refine f_get G K w.1 inX5 0 (ci := 5) rfl rfl 5 rfl fl_X5_46 (v := .ref (aS 1)) rfl dX5_copy_18 ?_
      refine lv_iload_n hx hb dX5_copy_21 rfl (lv_at hl 1 rfl) ?_
      refine a_ldR G K w.1 1 2 (a := (aS 1)) rfl rfl (by omega) (by decide) dX5_copy_22 ?_
      refine lv_astore (lv' := [(6, .ref (aE 1)), (0, .ref (aS 0)), (1, .int (nI 1)), (2, .int i), (3, .int (nI 0)), (4, .int j), (5, .int k)]) hx hb dX5_copy_23 hl (by decide) rfl (fun ls hl => ?_)
      refine lv_aload_n hx hb dX5_copy_25 rfl (lv_at hl 1 rfl) ?_
      refine f_get G K w.1 inX5 0 (ci := 5) rfl rfl 5 rfl fl_X5_46 (v := .ref (aS 1)) rfl dX5_copy_26 ?_
      refine lv_iload_n hx hb dX5_copy_29 rfl (lv_at hl 4 rfl) ?_
      refine a_ldR G K w.1 1 2 (a := (aS 1)) rfl rfl (by omega) (by decide) dX5_copy_30 ?_
      refine lv_astore (lv' := [(7, .ref (aE 0)), (6, .ref (aE 1)), (0, .ref (aS 0)), (1, .int (nI 1)), (2, .int i), (3, .int (nI 0)), (4, .int j), (5, .int k)]) hx hb dX5_copy_31 hl (by decide) rfl (fun ls hl => ?_)
      refine lv_aload hx hb dX5_copy_33 (lv_at hl 1 rfl) ?_
      refine f_get G K w.1 inX3 35 (ci := 3) rfl rfl 1 rfl fl_X5_124 (v := .int (bI (lo 1))) rfl dX5_copy_35 ?_
      refine b_ne G (tgt := 49) dX5_copy_38 (by decide) (fun c38 => ?_) (fun c38 => ?_)
      · -- taken at 38
        exact absurd (Or.inl c38) hf9
      · -- not taken at 38
        refine lv_aload hx hb dX5_copy_41 (lv_at hl 0 rfl) ?_
        refine f_get G K w.1 inX3 34 (ci := 3) rfl rfl 1 rfl fl_X5_124 (v := .int (bI (lo 0))) rfl dX5_copy_43 ?_
        refine b_eq G (tgt := 55) dX5_copy_46 (by decide) (fun c46 => ?_) (fun c46 => ?_)
        · -- taken at 46
          refine lv_aload hx hb dX5_copy_55 (lv_at hl 1 rfl) ?_
          refine f_get G K w.1 inX3 35 (ci := 3) rfl rfl 2 rfl fl_X5_247 (v := .int (nI (fo 1))) rfl dX5_copy_57 ?_
          refine lv_aload hx hb dX5_copy_60 (lv_at hl 0 rfl) ?_
          refine f_get G K w.1 inX3 34 (ci := 3) rfl rfl 2 rfl fl_X5_247 (v := .int (nI (fo 0))) rfl dX5_copy_62 ?_
          refine c_eq G (tgt := 74) (by omega) (by omega) dX5_copy_65 (by decide) (fun c65 => ?_) (fun c65 => ?_)
          · -- taken at 65
            refine lv_aload hx hb dX5_copy_74 (lv_at hl 1 rfl) ?_
            refine lv_iload_n hx hb dX5_copy_76 rfl (lv_at hl 4 rfl) ?_
            refine lv_iload hx hb dX5_copy_77 (lv_at hl 7 rfl) ?_
            refine callPV (As := [.int i, .int k]) (rest := []) (q0 := 0) (ci := 3) G K F_X3_hasItems (c_X3_hasItems (aE 1) (aE 5) (lo 1) (fo 1) (si 1) (it 1) i k ⟨hfo 1, hsi 1⟩) (w.1.sub (ws' := (wT cI (aE 1) (aE 5) (lo 1) (fo 1) (si 1) (it 1))) [35, 39] rfl) ml_X5_250 rfl rfl rfl (by decide) (by decide) rfl hl.1 (Nat.le_of_ble_eq_true rfl) dX5_copy_79 ?_
            refine b_eq G (tgt := 97) dX5_copy_82 (by decide) (fun c82 => ?_) (fun c82 => ?_)
            · -- taken at 82
              refine lv_aload_n hx hb dX5_copy_97 rfl (lv_at hl 2 rfl) ?_
              refine lv_iconst (v := (nI 2)) hx hb dX5_copy_98 (by decide) ?_
              refine callMF (As := [.int (nI 2)]) (rest := []) (q0 := 0) (ci := 5) (ws' := ((wS cS aS (aW 0) (aB 0) (aC 0) (aH 0) (aT 0) aE (nI 2)) ++ ((wW cI aW n cl th ki va re fi) ++ ((wB cI aB bt bs) ++ ((wC cI cZ aC (aW 0) (aB 0) to co ke nu fw) ++ ((wH cI aH (aW 0) lt tr sh cr ct cu ve ta ch) ++ ((wH cI aT (aW 0) lt2 tr2 sh2 cr2 ct2 cu2 ve2 ta2 ch2) ++ (wE cI aE lo fo si it)))))))) G K hA w F_X5_find (c_X5_find aS aE la aW n cl th ki va re fi aB bt bs aC to co ke nu fw aH lt tr sh cr ct cu ve ta ch aT lt2 tr2 sh2 cr2 ct2 cu2 ve2 ta2 ch2 lo fo si it 2 J S B9 C9 H9 U9 E9) ml_X5_128 rfl rfl rfl (by decide) (by decide) rfl hl.1 (Nat.le_of_ble_eq_true rfl) dX5_copy_99 (fun Hp1 lo2 w => ?_)
              exact hret _ _ _ _ _ _ rfl rfl w dX5_copy_102
            · -- not taken at 82
              refine lv_aload hx hb dX5_copy_85 (lv_at hl 0 rfl) ?_
              refine lv_iload hx hb dX5_copy_87 (lv_at hl 6 rfl) ?_
              refine lv_iload hx hb dX5_copy_89 (lv_at hl 7 rfl) ?_
              refine callPV (As := [.int j, .int k]) (rest := []) (q0 := 0) (ci := 3) G K F_X3_hasItems (c_X3_hasItems (aE 0) (aE 4) (lo 0) (fo 0) (si 0) (it 0) j k ⟨hfo 0, hsi 0⟩) (w.1.sub (ws' := (wT cI (aE 0) (aE 4) (lo 0) (fo 0) (si 0) (it 0))) [34, 38] rfl) ml_X5_250 rfl rfl rfl (by decide) (by decide) rfl hl.1 (Nat.le_of_ble_eq_true rfl) dX5_copy_91 ?_
              refine b_ne G (tgt := 103) dX5_copy_94 (by decide) (fun c94 => ?_) (fun c94 => ?_)
              · -- taken at 94
                exact absurd ⟨c82, c94⟩ hk9
              · -- not taken at 94
                refine lv_aload_n hx hb dX5_copy_97 rfl (lv_at hl 2 rfl) ?_
                refine lv_iconst (v := (nI 2)) hx hb dX5_copy_98 (by decide) ?_
                refine callMF (As := [.int (nI 2)]) (rest := []) (q0 := 0) (ci := 5) (ws' := ((wS cS aS (aW 0) (aB 0) (aC 0) (aH 0) (aT 0) aE (nI 2)) ++ ((wW cI aW n cl th ki va re fi) ++ ((wB cI aB bt bs) ++ ((wC cI cZ aC (aW 0) (aB 0) to co ke nu fw) ++ ((wH cI aH (aW 0) lt tr sh cr ct cu ve ta ch) ++ ((wH cI aT (aW 0) lt2 tr2 sh2 cr2 ct2 cu2 ve2 ta2 ch2) ++ (wE cI aE lo fo si it)))))))) G K hA w F_X5_find (c_X5_find aS aE la aW n cl th ki va re fi aB bt bs aC to co ke nu fw aH lt tr sh cr ct cu ve ta ch aT lt2 tr2 sh2 cr2 ct2 cu2 ve2 ta2 ch2 lo fo si it 2 J S B9 C9 H9 U9 E9) ml_X5_128 rfl rfl rfl (by decide) (by decide) rfl hl.1 (Nat.le_of_ble_eq_true rfl) dX5_copy_99 (fun Hp3 lo4 w => ?_)
                exact hret _ _ _ _ _ _ rfl rfl w dX5_copy_102
          · -- not taken at 65
            exact absurd hc9 c65
        · -- not taken at 46
          exact absurd (Or.inr c46) hf9
    · -- not taken at 11
      exact absurd ⟨0, by decide, rfl⟩ c11
set_option maxHeartbeats 4000000 in
set_option maxRecDepth 100000 in
theorem c_X5_copy_ok10 (aS : Nat → Nat) (aE : Nat → Nat) (la : Int32) (aW : Nat → Nat) (n : Nat) (cl : Nat) (th : Nat → Nat) (ki : Nat → Nat) (va : Nat → Nat) (re : Nat → Nat) (fi : Nat → Nat) (aB : Nat → Nat) (bt : Nat → Nat) (bs : Nat) (aC : Nat → Nat) (to : Nat → Prop) (co : Nat → Nat) (ke : Nat → Int32) (nu : Nat → Int32) (fw : Nat → Nat) (aH : Nat → Nat) (lt : Nat → Option Nat) (tr : Nat → Nat) (sh : Nat → Nat) (cr : Nat → Nat) (ct : Nat → Nat) (cu : Nat → Nat) (ve : Nat → Nat) (ta : Nat → Nat) (ch : Nat) (aT : Nat → Nat) (lt2 : Nat → Option Nat) (tr2 : Nat → Nat) (sh2 : Nat → Nat) (cr2 : Nat → Nat) (ct2 : Nat → Nat) (cu2 : Nat → Nat) (ve2 : Nat → Nat) (ta2 : Nat → Nat) (ch2 : Nat) (lo : Nat → Prop) (fo : Nat → Nat) (si : Nat → Nat) (it : Nat → Nat → Int32) (i : Nat) (j : Nat) (k : Nat) (J : IW n cl th ki va re fi) (S : SW n cl re fi) (B9 : (∀ j, bt j ≤ 255) ∧ bs ≤ 216) (C9 : (∀ j, co j ≤ 400) ∧ (∀ j, fw j ≤ 15)) (H9 : IHd lt tr sh cr ct cu ve ta ch) (U9 : IHd lt2 tr2 sh2 cr2 ct2 cu2 ve2 ta2 ch2) (E9 : (∀ j, fo j ≤ 2) ∧ (∀ j, si j ≤ 60)) (hf9 : ¬ (lo 1 ∨ lo 0)) (hc9 : fo 1 = fo 0) (hi9 : i + k ≤ si 1) (hj9 : j + k ≤ si 0) : CM l D (TY cI cZ cS) yX5_copy cX5_copy 8 (some .int) 1 [.ref (aS 0), .int (nI 1), .int (nI i), .int (nI 0), .int (nI j), .int (nI k)] ((wS cS aS (aW 0) (aB 0) (aC 0) (aH 0) (aT 0) aE la) ++ ((wW cI aW n cl th ki va re fi) ++ ((wB cI aB bt bs) ++ ((wC cI cZ aC (aW 0) (aB 0) to co ke nu fw) ++ ((wH cI aH (aW 0) lt tr sh cr ct cu ve ta ch) ++ ((wH cI aT (aW 0) lt2 tr2 sh2 cr2 ct2 cu2 ve2 ta2 ch2) ++ (wE cI aE lo fo si it))))))) (some (.int (nI 1))) ((wS cS aS (aW 0) (aB 0) (aC 0) (aH 0) (aT 0) aE la) ++ ((wW cI aW n cl th ki va re fi) ++ ((wB cI aB bt bs) ++ ((wC cI cZ aC (aW 0) (aB 0) to co ke nu fw) ++ ((wH cI aH (aW 0) lt tr sh cr ct cu ve ta ch) ++ ((wH cI aT (aW 0) lt2 tr2 sh2 cr2 ct2 cu2 ve2 ta2 ch2) ++ (wE cI aE lo fo si (va_up it 0 (va_cpy (it 1) (it 0) i j k))))))))) := by
  refine CM.ofI (by decide +kernel) (Nat.le_of_ble_eq_true rfl) (nar_int _) ?_
  intro p e s m args below meth c Q A G K hA w hret ls hl
  obtain ⟨hx, hb, hml, hown, hts⟩ := id G
  obtain ⟨hn, hcl, hth, hki, hva, hre, hfi⟩ := id J
  obtain ⟨hbt, hbs⟩ := id B9
  obtain ⟨hco, hfw⟩ := id C9
  obtain ⟨hlt, htr, hsh, hcr, hct, hcu, hve, hta, hch⟩ := id H9
  obtain ⟨hlt2, htr2, hsh2, hcr2, hct2, hcu2, hve2, hta2, hch2⟩ := id U9
  obtain ⟨hfo, hsi⟩ := id E9
  have hs9 := hsi 1
  have ht9 := hsi 0
  have hq1 := hfo 1
  have hq2 := hfo 0
  have hl : lv_has ls 8 [(0, .ref (aS 0)), (1, .int (nI 1)), (2, .int (nI i)), (3, .int (nI 0)), (4, .int (nI j)), (5, .int (nI k))] := hl
  refine lv_iload_n hx hb dX5_copy_0 rfl (lv_at hl 1 rfl) ?_
  refine callPS (rest := []) G K F_X5_isSheet (c_X5_isSheet (nI 1)) (va_P_nil D s.heap) ml_X5_121 (by decide) (by decide) rfl hl.1 (Nat.le_of_ble_eq_true rfl) dX5_copy_1 ?_
  refine b_eq G (tgt := 14) dX5_copy_4 (by decide) (fun c4 => ?_) (fun c4 => ?_)
  · -- taken at 4
    exact absurd ⟨1, by decide, rfl⟩ c4
  · -- not taken at 4
    refine lv_iload_n hx hb dX5_copy_7 rfl (lv_at hl 3 rfl) ?_
    refine callPS (rest := []) G K F_X5_isSheet (c_X5_isSheet (nI 0)) (va_P_nil D s.heap) ml_X5_121 (by decide) (by decide) rfl hl.1 (Nat.le_of_ble_eq_true rfl) dX5_copy_8 ?_
    refine b_ne G (tgt := 17) dX5_copy_11 (by decide) (fun c11 => ?_) (fun c11 => ?_)
    · -- taken at 11
      refine lv_aload_n hx hb dX5_copy_17 rfl (lv_at hl 0 rfl) ?_
      refine f_get G K w.1 inX5 0 (ci := 5) rfl rfl 5 rfl fl_X5_46 (v := .ref (aS 1)) rfl dX5_copy_18 ?_
      refine lv_iload_n hx hb dX5_copy_21 rfl (lv_at hl 1 rfl) ?_
      refine a_ldR G K w.1 1 2 (a := (aS 1)) rfl rfl (by omega) (by decide) dX5_copy_22 ?_
      refine lv_astore (lv' := [(6, .ref (aE 1)), (0, .ref (aS 0)), (1, .int (nI 1)), (2, .int (nI i)), (3, .int (nI 0)), (4, .int (nI j)), (5, .int (nI k))]) hx hb dX5_copy_23 hl (by decide) rfl (fun ls hl => ?_)
      refine lv_aload_n hx hb dX5_copy_25 rfl (lv_at hl 1 rfl) ?_
      refine f_get G K w.1 inX5 0 (ci := 5) rfl rfl 5 rfl fl_X5_46 (v := .ref (aS 1)) rfl dX5_copy_26 ?_
      refine lv_iload_n hx hb dX5_copy_29 rfl (lv_at hl 4 rfl) ?_
      refine a_ldR G K w.1 1 2 (a := (aS 1)) rfl rfl (by omega) (by decide) dX5_copy_30 ?_
      refine lv_astore (lv' := [(7, .ref (aE 0)), (6, .ref (aE 1)), (0, .ref (aS 0)), (1, .int (nI 1)), (2, .int (nI i)), (3, .int (nI 0)), (4, .int (nI j)), (5, .int (nI k))]) hx hb dX5_copy_31 hl (by decide) rfl (fun ls hl => ?_)
      refine lv_aload hx hb dX5_copy_33 (lv_at hl 1 rfl) ?_
      refine f_get G K w.1 inX3 35 (ci := 3) rfl rfl 1 rfl fl_X5_124 (v := .int (bI (lo 1))) rfl dX5_copy_35 ?_
      refine b_ne G (tgt := 49) dX5_copy_38 (by decide) (fun c38 => ?_) (fun c38 => ?_)
      · -- taken at 38
        exact absurd (Or.inl c38) hf9
      · -- not taken at 38
        refine lv_aload hx hb dX5_copy_41 (lv_at hl 0 rfl) ?_
        refine f_get G K w.1 inX3 34 (ci := 3) rfl rfl 1 rfl fl_X5_124 (v := .int (bI (lo 0))) rfl dX5_copy_43 ?_
        refine b_eq G (tgt := 55) dX5_copy_46 (by decide) (fun c46 => ?_) (fun c46 => ?_)
        · -- taken at 46
          refine lv_aload hx hb dX5_copy_55 (lv_at hl 1 rfl) ?_
          refine f_get G K w.1 inX3 35 (ci := 3) rfl rfl 2 rfl fl_X5_247 (v := .int (nI (fo 1))) rfl dX5_copy_57 ?_
          refine lv_aload hx hb dX5_copy_60 (lv_at hl 0 rfl) ?_
          refine f_get G K w.1 inX3 34 (ci := 3) rfl rfl 2 rfl fl_X5_247 (v := .int (nI (fo 0))) rfl dX5_copy_62 ?_
          refine c_eq G (tgt := 74) (by omega) (by omega) dX5_copy_65 (by decide) (fun c65 => ?_) (fun c65 => ?_)
          · -- taken at 65
            refine lv_aload hx hb dX5_copy_74 (lv_at hl 1 rfl) ?_
            refine lv_iload_n hx hb dX5_copy_76 rfl (lv_at hl 4 rfl) ?_
            refine lv_iload hx hb dX5_copy_77 (lv_at hl 7 rfl) ?_
            refine callPV (As := [.int (nI i), .int (nI k)]) (rest := []) (q0 := 0) (ci := 3) G K F_X3_hasItems (c_X3_hasItems (aE 1) (aE 5) (lo 1) (fo 1) (si 1) (it 1) (nI i) (nI k) ⟨hfo 1, hsi 1⟩) (w.1.sub (ws' := (wT cI (aE 1) (aE 5) (lo 1) (fo 1) (si 1) (it 1))) [35, 39] rfl) ml_X5_250 rfl rfl rfl (by decide) (by decide) rfl hl.1 (Nat.le_of_ble_eq_true rfl) dX5_copy_79 ?_
            refine b_eq G (tgt := 97) dX5_copy_82 (by decide) (fun c82 => ?_) (fun c82 => ?_)
            · -- taken at 82
              exact absurd ⟨i, k, hi9, rfl, rfl⟩ c82
            · -- not taken at 82
              refine lv_aload hx hb dX5_copy_85 (lv_at hl 0 rfl) ?_
              refine lv_iload hx hb dX5_copy_87 (lv_at hl 6 rfl) ?_
              refine lv_iload hx hb dX5_copy_89 (lv_at hl 7 rfl) ?_
              refine callPV (As := [.int (nI j), .int (nI k)]) (rest := []) (q0 := 0) (ci := 3) G K F_X3_hasItems (c_X3_hasItems (aE 0) (aE 4) (lo 0) (fo 0) (si 0) (it 0) (nI j) (nI k) ⟨hfo 0, hsi 0⟩) (w.1.sub (ws' := (wT cI (aE 0) (aE 4) (lo 0) (fo 0) (si 0) (it 0))) [34, 38] rfl) ml_X5_250 rfl rfl rfl (by decide) (by decide) rfl hl.1 (Nat.le_of_ble_eq_true rfl) dX5_copy_91 ?_
              refine b_ne G (tgt := 103) dX5_copy_94 (by decide) (fun c94 => ?_) (fun c94 => ?_)
              · -- taken at 94
                refine lv_aload hx hb dX5_copy_103 (lv_at hl 1 rfl) ?_
                refine f_get G K w.1 inX3 35 (ci := 3) rfl rfl 0 rfl fl_X5_132 (v := .ref (aE 5)) rfl dX5_copy_105 ?_
                refine lv_iload_n hx hb dX5_copy_108 rfl (lv_at hl 4 rfl) ?_
                refine lv_aload hx hb dX5_copy_109 (lv_at hl 0 rfl) ?_
                refine f_get G K w.1 inX3 34 (ci := 3) rfl rfl 0 rfl fl_X5_132 (v := .ref (aE 4)) rfl dX5_copy_111 ?_
                refine lv_iload hx hb dX5_copy_114 (lv_at hl 6 rfl) ?_
                refine lv_iload hx hb dX5_copy_116 (lv_at hl 7 rfl) ?_
                refine acp (f := (it 1)) (g := (it 0)) (sp := i) (dp := j) (k := k) G K w (hml.trans hl.1.symm) ml_X5_253 39 38 rfl rfl (by omega) (by omega) (by decide) (Nat.le_of_ble_eq_true rfl) (Nat.le_of_ble_eq_true rfl) dX5_copy_118 (w2 := ((wS cS aS (aW 0) (aB 0) (aC 0) (aH 0) (aT 0) aE la) ++ ((wW cI aW n cl th ki va re fi) ++ ((wB cI aB bt bs) ++ ((wC cI cZ aC (aW 0) (aB 0) to co ke nu fw) ++ ((wH cI aH (aW 0) lt tr sh cr ct cu ve ta ch) ++ ((wH cI aT (aW 0) lt2 tr2 sh2 cr2 ct2 cu2 ve2 ta2 ch2) ++ (wE cI aE lo fo si (va_up it 0 (va_cpy (it 1) (it 0) i j k)))))))))) rfl (fun Hp1 lo2 w => ?_)
                refine lv_iconst (v := (nI 1)) hx hb dX5_copy_121 (by decide) ?_
                exact hret _ _ _ _ _ _ rfl rfl w dX5_copy_122
              · -- not taken at 94
                exact absurd ⟨j, k, hj9, rfl, rfl⟩ c94
          · -- not taken at 65
            exact absurd hc9 c65
        · -- not taken at 46
          exact absurd (Or.inr c46) hf9
    · -- not taken at 11
      exact absurd ⟨0, by decide, rfl⟩ c11
set_option maxHeartbeats 4000000 in
set_option maxRecDepth 100000 in
theorem c_X5_copy_nul11 (aS : Nat → Nat) (aE : Nat → Nat) (la : Int32) (aW : Nat → Nat) (n : Nat) (cl : Nat) (th : Nat → Nat) (ki : Nat → Nat) (va : Nat → Nat) (re : Nat → Nat) (fi : Nat → Nat) (aB : Nat → Nat) (bt : Nat → Nat) (bs : Nat) (aC : Nat → Nat) (to : Nat → Prop) (co : Nat → Nat) (ke : Nat → Int32) (nu : Nat → Int32) (fw : Nat → Nat) (aH : Nat → Nat) (lt : Nat → Option Nat) (tr : Nat → Nat) (sh : Nat → Nat) (cr : Nat → Nat) (ct : Nat → Nat) (cu : Nat → Nat) (ve : Nat → Nat) (ta : Nat → Nat) (ch : Nat) (aT : Nat → Nat) (lt2 : Nat → Option Nat) (tr2 : Nat → Nat) (sh2 : Nat → Nat) (cr2 : Nat → Nat) (ct2 : Nat → Nat) (cu2 : Nat → Nat) (ve2 : Nat → Nat) (ta2 : Nat → Nat) (ch2 : Nat) (lo : Nat → Prop) (fo : Nat → Nat) (si : Nat → Nat) (it : Nat → Nat → Int32) (i : Int32) (j : Int32) (k : Int32) (J : IW n cl th ki va re fi) (S : SW n cl re fi) (B9 : (∀ j, bt j ≤ 255) ∧ bs ≤ 216) (C9 : (∀ j, co j ≤ 400) ∧ (∀ j, fw j ≤ 15)) (H9 : IHd lt tr sh cr ct cu ve ta ch) (U9 : IHd lt2 tr2 sh2 cr2 ct2 cu2 ve2 ta2 ch2) (E9 : (∀ j, fo j ≤ 2) ∧ (∀ j, si j ≤ 60)) (hf9 : lo 1 ∨ lo 1) : CM l D (TY cI cZ cS) yX5_copy cX5_copy 8 (some .int) 1 [.ref (aS 0), .int (nI 1), .int i, .int (nI 1), .int j, .int k] ((wS cS aS (aW 0) (aB 0) (aC 0) (aH 0) (aT 0) aE la) ++ ((wW cI aW n cl th ki va re fi) ++ ((wB cI aB bt bs) ++ ((wC cI cZ aC (aW 0) (aB 0) to co ke nu fw) ++ ((wH cI aH (aW 0) lt tr sh cr ct cu ve ta ch) ++ ((wH cI aT (aW 0) lt2 tr2 sh2 cr2 ct2 cu2 ve2 ta2 ch2) ++ (wE cI aE lo fo si it))))))) (some (.int ((-10) - (nI 1)))) ((wS cS aS (aW 0) (aB 0) (aC 0) (aH 0) (aT 0) aE (nI 1)) ++ ((wW cI aW n cl th ki va re fi) ++ ((wB cI aB bt bs) ++ ((wC cI cZ aC (aW 0) (aB 0) to co ke nu fw) ++ ((wH cI aH (aW 0) lt tr sh cr ct cu ve ta ch) ++ ((wH cI aT (aW 0) lt2 tr2 sh2 cr2 ct2 cu2 ve2 ta2 ch2) ++ (wE cI aE lo fo si it))))))) := by
  refine CM.ofI (by decide +kernel) (Nat.le_of_ble_eq_true rfl) (nar_int _) ?_
  intro p e s m args below meth c Q A G K hA w hret ls hl
  obtain ⟨hx, hb, hml, hown, hts⟩ := id G
  obtain ⟨hn, hcl, hth, hki, hva, hre, hfi⟩ := id J
  obtain ⟨hbt, hbs⟩ := id B9
  obtain ⟨hco, hfw⟩ := id C9
  obtain ⟨hlt, htr, hsh, hcr, hct, hcu, hve, hta, hch⟩ := id H9
  obtain ⟨hlt2, htr2, hsh2, hcr2, hct2, hcu2, hve2, hta2, hch2⟩ := id U9
  obtain ⟨hfo, hsi⟩ := id E9
  have hl : lv_has ls 8 [(0, .ref (aS 0)), (1, .int (nI 1)), (2, .int i), (3, .int (nI 1)), (4, .int j), (5, .int k)] := hl
  refine lv_iload_n hx hb dX5_copy_0 rfl (lv_at hl 1 rfl) ?_
  refine callPS (rest := []) G K F_X5_isSheet (c_X5_isSheet (nI 1)) (va_P_nil D s.heap) ml_X5_121 (by decide) (by decide) rfl hl.1 (Nat.le_of_ble_eq_true rfl) dX5_copy_1 ?_
  refine b_eq G (tgt := 14) dX5_copy_4 (by decide) (fun c4 => ?_) (fun c4 => ?_)
  · -- taken at 4
    exact absurd ⟨1, by decide, rfl⟩ c4
  · -- not taken at 4
    refine lv_iload_n hx hb dX5_copy_7 rfl (lv_at hl 3 rfl) ?_
    refine callPS (rest := []) G K F_X5_isSheet (c_X5_isSheet (nI 1)) (va_P_nil D s.heap) ml_X5_121 (by decide) (by decide) rfl hl.1 (Nat.le_of_ble_eq_true rfl) dX5_copy_8 ?_
    refine b_ne G (tgt := 17) dX5_copy_11 (by decide) (fun c11 => ?_) (fun c11 => ?_)
    · -- taken at 11
      refine lv_aload_n hx hb dX5_copy_17 rfl (lv_at hl 0 rfl) ?_
      refine f_get G K w.1 inX5 0 (ci := 5) rfl rfl 5 rfl fl_X5_46 (v := .ref (aS 1)) rfl dX5_copy_18 ?_
      refine lv_iload_n hx hb dX5_copy_21 rfl (lv_at hl 1 rfl) ?_
      refine a_ldR G K w.1 1 2 (a := (aS 1)) rfl rfl (by omega) (by decide) dX5_copy_22 ?_
      refine lv_astore (lv' := [(6, .ref (aE 1)), (0, .ref (aS 0)), (1, .int (nI 1)), (2, .int i), (3, .int (nI 1)), (4, .int j), (5, .int k)]) hx hb dX5_copy_23 hl (by decide) rfl (fun ls hl => ?_)
      refine lv_aload_n hx hb dX5_copy_25 rfl (lv_at hl 1 rfl) ?_
      refine f_get G K w.1 inX5 0 (ci := 5) rfl rfl 5 rfl fl_X5_46 (v := .ref (aS 1)) rfl dX5_copy_26 ?_
      refine lv_iload_n hx hb dX5_copy_29 rfl (lv_at hl 4 rfl) ?_
      refine a_ldR G K w.1 1 2 (a := (aS 1)) rfl rfl (by omega) (by decide) dX5_copy_30 ?_
      refine lv_astore (lv' := [(7, .ref (aE 1)), (6, .ref (aE 1)), (0, .ref (aS 0)), (1, .int (nI 1)), (2, .int i), (3, .int (nI 1)), (4, .int j), (5, .int k)]) hx hb dX5_copy_31 hl (by decide) rfl (fun ls hl => ?_)
      refine lv_aload hx hb dX5_copy_33 (lv_at hl 1 rfl) ?_
      refine f_get G K w.1 inX3 35 (ci := 3) rfl rfl 1 rfl fl_X5_124 (v := .int (bI (lo 1))) rfl dX5_copy_35 ?_
      refine b_ne G (tgt := 49) dX5_copy_38 (by decide) (fun c38 => ?_) (fun c38 => ?_)
      · -- taken at 38
        refine lv_aload_n hx hb dX5_copy_49 rfl (lv_at hl 2 rfl) ?_
        refine lv_iconst (v := (nI 1)) hx hb dX5_copy_50 (by decide) ?_
        refine callMF (As := [.int (nI 1)]) (rest := []) (q0 := 0) (ci := 5) (ws' := ((wS cS aS (aW 0) (aB 0) (aC 0) (aH 0) (aT 0) aE (nI 1)) ++ ((wW cI aW n cl th ki va re fi) ++ ((wB cI aB bt bs) ++ ((wC cI cZ aC (aW 0) (aB 0) to co ke nu fw) ++ ((wH cI aH (aW 0) lt tr sh cr ct cu ve ta ch) ++ ((wH cI aT (aW 0) lt2 tr2 sh2 cr2 ct2 cu2 ve2 ta2 ch2) ++ (wE cI aE lo fo si it)))))))) G K hA w F_X5_find (c_X5_find aS aE la aW n cl th ki va re fi aB bt bs aC to co ke nu fw aH lt tr sh cr ct cu ve ta ch aT lt2 tr2 sh2 cr2 ct2 cu2 ve2 ta2 ch2 lo fo si it 1 J S B9 C9 H9 U9 E9) ml_X5_128 rfl rfl rfl (by decide) (by decide) rfl hl.1 (Nat.le_of_ble_eq_true rfl) dX5_copy_51 (fun Hp1 lo2 w => ?_)
        exact hret _ _ _ _ _ _ rfl rfl w dX5_copy_54
      · -- not taken at 38
        refine lv_aload hx hb dX5_copy_41 (lv_at hl 0 rfl) ?_
        refine f_get G K w.1 inX3 35 (ci := 3) rfl rfl 1 rfl fl_X5_124 (v := .int (bI (lo 1))) rfl dX5_copy_43 ?_
        refine b_eq G (tgt := 55) dX5_copy_46 (by decide) (fun c46 => ?_) (fun c46 => ?_)
        · -- taken at 46
          exact absurd hf9 (fun h => h.elim c38 c46)
        · -- not taken at 46
          refine lv_aload_n hx hb dX5_copy_49 rfl (lv_at hl 2 rfl) ?_
          refine lv_iconst (v := (nI 1)) hx hb dX5_copy_50 (by decide) ?_
          refine callMF (As := [.int (nI 1)]) (rest := []) (q0 := 0) (ci := 5) (ws' := ((wS cS aS (aW 0) (aB 0) (aC 0) (aH 0) (aT 0) aE (nI 1)) ++ ((wW cI aW n cl th ki va re fi) ++ ((wB cI aB bt bs) ++ ((wC cI cZ aC (aW 0) (aB 0) to co ke nu fw) ++ ((wH cI aH (aW 0) lt tr sh cr ct cu ve ta ch) ++ ((wH cI aT (aW 0) lt2 tr2 sh2 cr2 ct2 cu2 ve2 ta2 ch2) ++ (wE cI aE lo fo si it)))))))) G K hA w F_X5_find (c_X5_find aS aE la aW n cl th ki va re fi aB bt bs aC to co ke nu fw aH lt tr sh cr ct cu ve ta ch aT lt2 tr2 sh2 cr2 ct2 cu2 ve2 ta2 ch2 lo fo si it 1 J S B9 C9 H9 U9 E9) ml_X5_128 rfl rfl rfl (by decide) (by decide) rfl hl.1 (Nat.le_of_ble_eq_true rfl) dX5_copy_51 (fun Hp3 lo4 w => ?_)
          exact hret _ _ _ _ _ _ rfl rfl w dX5_copy_54
    · -- not taken at 11
      exact absurd ⟨1, by decide, rfl⟩ c11
set_option maxHeartbeats 4000000 in
set_option maxRecDepth 100000 in
theorem c_X5_copy_sto11 (aS : Nat → Nat) (aE : Nat → Nat) (la : Int32) (aW : Nat → Nat) (n : Nat) (cl : Nat) (th : Nat → Nat) (ki : Nat → Nat) (va : Nat → Nat) (re : Nat → Nat) (fi : Nat → Nat) (aB : Nat → Nat) (bt : Nat → Nat) (bs : Nat) (aC : Nat → Nat) (to : Nat → Prop) (co : Nat → Nat) (ke : Nat → Int32) (nu : Nat → Int32) (fw : Nat → Nat) (aH : Nat → Nat) (lt : Nat → Option Nat) (tr : Nat → Nat) (sh : Nat → Nat) (cr : Nat → Nat) (ct : Nat → Nat) (cu : Nat → Nat) (ve : Nat → Nat) (ta : Nat → Nat) (ch : Nat) (aT : Nat → Nat) (lt2 : Nat → Option Nat) (tr2 : Nat → Nat) (sh2 : Nat → Nat) (cr2 : Nat → Nat) (ct2 : Nat → Nat) (cu2 : Nat → Nat) (ve2 : Nat → Nat) (ta2 : Nat → Nat) (ch2 : Nat) (lo : Nat → Prop) (fo : Nat → Nat) (si : Nat → Nat) (it : Nat → Nat → Int32) (i : Int32) (j : Int32) (k : Int32) (J : IW n cl th ki va re fi) (S : SW n cl re fi) (B9 : (∀ j, bt j ≤ 255) ∧ bs ≤ 216) (C9 : (∀ j, co j ≤ 400) ∧ (∀ j, fw j ≤ 15)) (H9 : IHd lt tr sh cr ct cu ve ta ch) (U9 : IHd lt2 tr2 sh2 cr2 ct2 cu2 ve2 ta2 ch2) (E9 : (∀ j, fo j ≤ 2) ∧ (∀ j, si j ≤ 60)) (hf9 : ¬ (lo 1 ∨ lo 1)) (hc9 : fo 1 ≠ fo 1) : CM l D (TY cI cZ cS) yX5_copy cX5_copy 8 (some .int) 1 [.ref (aS 0), .int (nI 1), .int i, .int (nI 1), .int j, .int k] ((wS cS aS (aW 0) (aB 0) (aC 0) (aH 0) (aT 0) aE la) ++ ((wW cI aW n cl th ki va re fi) ++ ((wB cI aB bt bs) ++ ((wC cI cZ aC (aW 0) (aB 0) to co ke nu fw) ++ ((wH cI aH (aW 0) lt tr sh cr ct cu ve ta ch) ++ ((wH cI aT (aW 0) lt2 tr2 sh2 cr2 ct2 cu2 ve2 ta2 ch2) ++ (wE cI aE lo fo si it))))))) (some (.int ((-10) - (nI 4)))) ((wS cS aS (aW 0) (aB 0) (aC 0) (aH 0) (aT 0) aE (nI 4)) ++ ((wW cI aW n cl th ki va re fi) ++ ((wB cI aB bt bs) ++ ((wC cI cZ aC (aW 0) (aB 0) to co ke nu fw) ++ ((wH cI aH (aW 0) lt tr sh cr ct cu ve ta ch) ++ ((wH cI aT (aW 0) lt2 tr2 sh2 cr2 ct2 cu2 ve2 ta2 ch2) ++ (wE cI aE lo fo si it))))))) := by
  refine CM.ofI (by decide +kernel) (Nat.le_of_ble_eq_true rfl) (nar_int _) ?_
  intro p e s m args below meth c Q A G K hA w hret ls hl
  obtain ⟨hx, hb, hml, hown, hts⟩ := id G
  obtain ⟨hn, hcl, hth, hki, hva, hre, hfi⟩ := id J
  obtain ⟨hbt, hbs⟩ := id B9
  obtain ⟨hco, hfw⟩ := id C9
  obtain ⟨hlt, htr, hsh, hcr, hct, hcu, hve, hta, hch⟩ := id H9
  obtain ⟨hlt2, htr2, hsh2, hcr2, hct2, hcu2, hve2, hta2, hch2⟩ := id U9
  obtain ⟨hfo, hsi⟩ := id E9
  have hq1 := hfo 1
  have hq2 := hfo 1
  have hl : lv_has ls 8 [(0, .ref (aS 0)), (1, .int (nI 1)), (2, .int i), (3, .int (nI 1)), (4, .int j), (5, .int k)] := hl
  refine lv_iload_n hx hb dX5_copy_0 rfl (lv_at hl 1 rfl) ?_
  refine callPS (rest := []) G K F_X5_isSheet (c_X5_isSheet (nI 1)) (va_P_nil D s.heap) ml_X5_121 (by decide) (by decide) rfl hl.1 (Nat.le_of_ble_eq_true rfl) dX5_copy_1 ?_
  refine b_eq G (tgt := 14) dX5_copy_4 (by decide) (fun c4 => ?_) (fun c4 => ?_)
  · -- taken at 4
    exact absurd ⟨1, by decide, rfl⟩ c4
  · -- not taken at 4
    refine lv_iload_n hx hb dX5_copy_7 rfl (lv_at hl 3 rfl) ?_
    refine callPS (rest := []) G K F_X5_isSheet (c_X5_isSheet (nI 1)) (va_P_nil D s.heap) ml_X5_121 (by decide) (by decide) rfl hl.1 (Nat.le_of_ble_eq_true rfl) dX5_copy_8 ?_
    refine b_ne G (tgt := 17) dX5_copy_11 (by decide) (fun c11 => ?_) (fun c11 => ?_)
    · -- taken at 11
      refine lv_aload_n hx hb dX5_copy_17 rfl (lv_at hl 0 rfl) ?_
      refine f_get G K w.1 inX5 0 (ci := 5) rfl rfl 5 rfl fl_X5_46 (v := .ref (aS 1)) rfl dX5_copy_18 ?_
      refine lv_iload_n hx hb dX5_copy_21 rfl (lv_at hl 1 rfl) ?_
      refine a_ldR G K w.1 1 2 (a := (aS 1)) rfl rfl (by omega) (by decide) dX5_copy_22 ?_
      refine lv_astore (lv' := [(6, .ref (aE 1)), (0, .ref (aS 0)), (1, .int (nI 1)), (2, .int i), (3, .int (nI 1)), (4, .int j), (5, .int k)]) hx hb dX5_copy_23 hl (by decide) rfl (fun ls hl => ?_)
      refine lv_aload_n hx hb dX5_copy_25 rfl (lv_at hl 1 rfl) ?_
      refine f_get G K w.1 inX5 0 (ci := 5) rfl rfl 5 rfl fl_X5_46 (v := .ref (aS 1)) rfl dX5_copy_26 ?_
      refine lv_iload_n hx hb dX5_copy_29 rfl (lv_at hl 4 rfl) ?_
      refine a_ldR G K w.1 1 2 (a := (aS 1)) rfl rfl (by omega) (by decide) dX5_copy_30 ?_
      refine lv_astore (lv' := [(7, .ref (aE 1)), (6, .ref (aE 1)), (0, .ref (aS 0)), (1, .int (nI 1)), (2, .int i), (3, .int (nI 1)), (4, .int j), (5, .int k)]) hx hb dX5_copy_31 hl (by decide) rfl (fun ls hl => ?_)
      refine lv_aload hx hb dX5_copy_33 (lv_at hl 1 rfl) ?_
      refine f_get G K w.1 inX3 35 (ci := 3) rfl rfl 1 rfl fl_X5_124 (v := .int (bI (lo 1))) rfl dX5_copy_35 ?_
      refine b_ne G (tgt := 49) dX5_copy_38 (by decide) (fun c38 => ?_) (fun c38 => ?_)
      · -- taken at 38
        exact absurd (Or.inl c38) hf9
      · -- not taken at 38
        refine lv_aload hx hb dX5_copy_41 (lv_at hl 0 rfl) ?_
        refine f_get G K w.1 inX3 35 (ci := 3) rfl rfl 1 rfl fl_X5_124 (v := .int (bI (lo 1))) rfl dX5_copy_43 ?_
        refine b_eq G (tgt := 55) dX5_copy_46 (by decide) (fun c46 => ?_) (fun c46 => ?_)
        · -- taken at 46
          refine lv_aload hx hb dX5_copy_55 (lv_at hl 1 rfl) ?_
          refine f_get G K w.1 inX3 35 (ci := 3) rfl rfl 2 rfl fl_X5_247 (v := .int (nI (fo 1))) rfl dX5_copy_57 ?_
          refine lv_aload hx hb dX5_copy_60 (lv_at hl 0 rfl) ?_
          refine f_get G K w.1 inX3 35 (ci := 3) rfl rfl 2 rfl fl_X5_247 (v := .int (nI (fo 1))) rfl dX5_copy_62 ?_
          refine c_eq G (tgt := 74) (by omega) (by omega) dX5_copy_65 (by decide) (fun c65 => ?_) (fun c65 => ?_)
          · -- taken at 65
            exact absurd c65 hc9
          · -- not taken at 65
            refine lv_aload_n hx hb dX5_copy_68 rfl (lv_at hl 2 rfl) ?_
            refine lv_iconst (v := (nI 4)) hx hb dX5_copy_69 (by decide) ?_
            refine callMF (As := [.int (nI 4)]) (rest := []) (q0 := 0) (ci := 5) (ws' := ((wS cS aS (aW 0) (aB 0) (aC 0) (aH 0) (aT 0) aE (nI 4)) ++ ((wW cI aW n cl th ki va re fi) ++ ((wB cI aB bt bs) ++ ((wC cI cZ aC (aW 0) (aB 0) to co ke nu fw) ++ ((wH cI aH (aW 0) lt tr sh cr ct cu ve ta ch) ++ ((wH cI aT (aW 0) lt2 tr2 sh2 cr2 ct2 cu2 ve2 ta2 ch2) ++ (wE cI aE lo fo si it)))))))) G K hA w F_X5_find (c_X5_find aS aE la aW n cl th ki va re fi aB bt bs aC to co ke nu fw aH lt tr sh cr ct cu ve ta ch aT lt2 tr2 sh2 cr2 ct2 cu2 ve2 ta2 ch2 lo fo si it 4 J S B9 C9 H9 U9 E9) ml_X5_128 rfl rfl rfl (by decide) (by decide) rfl hl.1 (Nat.le_of_ble_eq_true rfl) dX5_copy_70 (fun Hp1 lo2 w => ?_)
            exact hret _ _ _ _ _ _ rfl rfl w dX5_copy_73
        · -- not taken at 46
          exact absurd (Or.inr c46) hf9
    · -- not taken at 11
      exact absurd ⟨1, by decide, rfl⟩ c11
set_option maxHeartbeats 4000000 in
set_option maxRecDepth 100000 in
theorem c_X5_copy_idx11 (aS : Nat → Nat) (aE : Nat → Nat) (la : Int32) (aW : Nat → Nat) (n : Nat) (cl : Nat) (th : Nat → Nat) (ki : Nat → Nat) (va : Nat → Nat) (re : Nat → Nat) (fi : Nat → Nat) (aB : Nat → Nat) (bt : Nat → Nat) (bs : Nat) (aC : Nat → Nat) (to : Nat → Prop) (co : Nat → Nat) (ke : Nat → Int32) (nu : Nat → Int32) (fw : Nat → Nat) (aH : Nat → Nat) (lt : Nat → Option Nat) (tr : Nat → Nat) (sh : Nat → Nat) (cr : Nat → Nat) (ct : Nat → Nat) (cu : Nat → Nat) (ve : Nat → Nat) (ta : Nat → Nat) (ch : Nat) (aT : Nat → Nat) (lt2 : Nat → Option Nat) (tr2 : Nat → Nat) (sh2 : Nat → Nat) (cr2 : Nat → Nat) (ct2 : Nat → Nat) (cu2 : Nat → Nat) (ve2 : Nat → Nat) (ta2 : Nat → Nat) (ch2 : Nat) (lo : Nat → Prop) (fo : Nat → Nat) (si : Nat → Nat) (it : Nat → Nat → Int32) (i : Int32) (j : Int32) (k : Int32) (J : IW n cl th ki va re fi) (S : SW n cl re fi) (B9 : (∀ j, bt j ≤ 255) ∧ bs ≤ 216) (C9 : (∀ j, co j ≤ 400) ∧ (∀ j, fw j ≤ 15)) (H9 : IHd lt tr sh cr ct cu ve ta ch) (U9 : IHd lt2 tr2 sh2 cr2 ct2 cu2 ve2 ta2 ch2) (E9 : (∀ j, fo j ≤ 2) ∧ (∀ j, si j ≤ 60)) (hf9 : ¬ (lo 1 ∨ lo 1)) (hc9 : fo 1 = fo 1) (hk9 : ¬ (okH (si 1) i k ∧ okH (si 1) j k)) : CM l D (TY cI cZ cS) yX5_copy cX5_copy 8 (some .int) 1 [.ref (aS 0), .int (nI 1), .int i, .int (nI 1), .int j, .int k] ((wS cS aS (aW 0) (aB 0) (aC 0) (aH 0) (aT 0) aE la) ++ ((wW cI aW n cl th ki va re fi) ++ ((wB cI aB bt bs) ++ ((wC cI cZ aC (aW 0) (aB 0) to co ke nu fw) ++ ((wH cI aH (aW 0) lt tr sh cr ct cu ve ta ch) ++ ((wH cI aT (aW 0) lt2 tr2 sh2 cr2 ct2 cu2 ve2 ta2 ch2) ++ (wE cI aE lo fo si it))))))) (some (.int ((-10) - (nI 2)))) ((wS cS aS (aW 0) (aB 0) (aC 0) (aH 0) (aT 0) aE (nI 2)) ++ ((wW cI aW n cl th ki va re fi) ++ ((wB cI aB bt bs) ++ ((wC cI cZ aC (aW 0) (aB 0) to co ke nu fw) ++ ((wH cI aH (aW 0) lt tr sh cr ct cu ve ta ch) ++ ((wH cI aT (aW 0) lt2 tr2 sh2 cr2 ct2 cu2 ve2 ta2 ch2) ++ (wE cI aE lo fo si it))))))) := by
  refine CM.ofI (by decide +kernel) (Nat.le_of_ble_eq_true rfl) (nar_int _) ?_
  intro p e s m args below meth c Q A G K hA w hret ls hl
  obtain ⟨hx, hb, hml, hown, hts⟩ := id G
  obtain ⟨hn, hcl, hth, hki, hva, hre, hfi⟩ := id J
  obtain ⟨hbt, hbs⟩ := id B9
  obtain ⟨hco, hfw⟩ := id C9
  obtain ⟨hlt, htr, hsh, hcr, hct, hcu, hve, hta, hch⟩ := id H9
  obtain ⟨hlt2, htr2, hsh2, hcr2, hct2, hcu2, hve2, hta2, hch2⟩ := id U9
  obtain ⟨hfo, hsi⟩ := id E9
  have hq1 := hfo 1
  have hq2 := hfo 1
  have hl : lv_has ls 8 [(0, .ref (aS 0)), (1, .int (nI 1)), (2, .int i), (3, .int (nI 1)), (4, .int j), (5, .int k)] := hl
  refine lv_iload_n hx hb dX5_copy_0 rfl (lv_at hl 1 rfl) ?_
  refine callPS (rest := []) G K F_X5_isSheet (c_X5_isSheet (nI 1)) (va_P_nil D s.heap) ml_X5_121 (by decide) (by decide) rfl hl.1 (Nat.le_of_ble_eq_true rfl) dX5_copy_1 ?_
  refine b_eq G (tgt := 14) dX5_copy_4 (by decide) (fun c4 => ?_) (fun c4 => ?_)
  · -- taken at 4
    exact absurd ⟨1, by decide, rfl⟩ c4
  · -- not taken at 4
    refine lv_iload_n hx hb dX5_copy_7 rfl (lv_at hl 3 rfl) ?_
    refine callPS (rest := []) G K F_X5_isSheet (c_X5_isSheet (nI 1)) (va_P_nil D s.heap) ml_X5_121 (by decide) (by decide) rfl hl.1 (Nat.le_of_ble_eq_true rfl) dX5_copy_8 ?_
    refine b_ne G (tgt := 17) dX5_copy_11 (by decide) (fun c11 => ?_) (fun c11 => ?_)
    · -- taken at 11
      refine lv_aload_n hx hb dX5_copy_17 rfl (lv_at hl 0 rfl) ?_
      refine f_get G K w.1 inX5 0 (ci := 5) rfl rfl 5 rfl fl_X5_46 (v := .ref (aS 1)) rfl dX5_copy_18 ?_
      refine lv_iload_n hx hb dX5_copy_21 rfl (lv_at hl 1 rfl) ?_
      refine a_ldR G K w.1 1 2 (a := (aS 1)) rfl rfl (by omega) (by decide) dX5_copy_22 ?_
      refine lv_astore (lv' := [(6, .ref (aE 1)), (0, .ref (aS 0)), (1, .int (nI 1)), (2, .int i), (3, .int (nI 1)), (4, .int j), (5, .int k)]) hx hb dX5_copy_23 hl (by decide) rfl (fun ls hl => ?_)
      refine lv_aload_n hx hb dX5_copy_25 rfl (lv_at hl 1 rfl) ?_
      refine f_get G K w.1 inX5 0 (ci := 5) rfl rfl 5 rfl fl_X5_46 (v := .ref (aS 1)) rfl dX5_copy_26 ?_
      refine lv_iload_n hx hb dX5_copy_29 rfl (lv_at hl 4 rfl) ?_
      refine a_ldR G K w.1 1 2 (a := (aS 1)) rfl rfl (by omega) (by decide) dX5_copy_30 ?_
      refine lv_astore (lv' := [(7, .ref (aE 1)), (6, .ref (aE 1)), (0, .ref (aS 0)), (1, .int (nI 1)), (2, .int i), (3, .int (nI 1)), (4, .int j), (5, .int k)]) hx hb dX5_copy_31 hl (by decide) rfl (fun ls hl => ?_)
      refine lv_aload hx hb dX5_copy_33 (lv_at hl 1 rfl) ?_
      refine f_get G K w.1 inX3 35 (ci := 3) rfl rfl 1 rfl fl_X5_124 (v := .int (bI (lo 1))) rfl dX5_copy_35 ?_
      refine b_ne G (tgt := 49) dX5_copy_38 (by decide) (fun c38 => ?_) (fun c38 => ?_)
      · -- taken at 38
        exact absurd (Or.inl c38) hf9
      · -- not taken at 38
        refine lv_aload hx hb dX5_copy_41 (lv_at hl 0 rfl) ?_
        refine f_get G K w.1 inX3 35 (ci := 3) rfl rfl 1 rfl fl_X5_124 (v := .int (bI (lo 1))) rfl dX5_copy_43 ?_
        refine b_eq G (tgt := 55) dX5_copy_46 (by decide) (fun c46 => ?_) (fun c46 => ?_)
        · -- taken at 46
          refine lv_aload hx hb dX5_copy_55 (lv_at hl 1 rfl) ?_
          refine f_get G K w.1 inX3 35 (ci := 3) rfl rfl 2 rfl fl_X5_247 (v := .int (nI (fo 1))) rfl dX5_copy_57 ?_
          refine lv_aload hx hb dX5_copy_60 (lv_at hl 0 rfl) ?_
          refine f_get G K w.1 inX3 35 (ci := 3) rfl rfl 2 rfl fl_X5_247 (v := .int (nI (fo 1))) rfl dX5_copy_62 ?_
          refine c_eq G (tgt := 74) (by omega) (by omega) dX5_copy_65 (by decide) (fun c65 => ?_) (fun c65 => ?_)
          · -- taken at 65
            refine lv_aload hx hb dX5_copy_74 (lv_at hl 1 rfl) ?_
            refine lv_iload_n hx hb dX5_copy_76 rfl (lv_at hl 4 rfl) ?_
            refine lv_iload hx hb dX5_copy_77 (lv_at hl 7 rfl) ?_
            refine callPV (As := [.int i, .int k]) (rest := []) (q0 := 0) (ci := 3) G K F_X3_hasItems (c_X3_hasItems (aE 1) (aE 5) (lo 1) (fo 1) (si 1) (it 1) i k ⟨hfo 1, hsi 1⟩) (w.1.sub (ws' := (wT cI (aE 1) (aE 5) (lo 1) (fo 1) (si 1) (it 1))) [35, 39] rfl) ml_X5_250 rfl rfl rfl (by decide) (by decide) rfl hl.1 (Nat.le_of_ble_eq_true rfl) dX5_copy_79 ?_
            refine b_eq G (tgt := 97) dX5_copy_82 (by decide) (fun c82 => ?_) (fun c82 => ?_)
            · -- taken at 82
              refine lv_aload_n hx hb dX5_copy_97 rfl (lv_at hl 2 rfl) ?_
              refine lv_iconst (v := (nI 2)) hx hb dX5_copy_98 (by decide) ?_
              refine callMF (As := [.int (nI 2)]) (rest := []) (q0 := 0) (ci := 5) (ws' := ((wS cS aS (aW 0) (aB 0) (aC 0) (aH 0) (aT 0) aE (nI 2)) ++ ((wW cI aW n cl th ki va re fi) ++ ((wB cI aB bt bs) ++ ((wC cI cZ aC (aW 0) (aB 0) to co ke nu fw) ++ ((wH cI aH (aW 0) lt tr sh cr ct cu ve ta ch) ++ ((wH cI aT (aW 0) lt2 tr2 sh2 cr2 ct2 cu2 ve2 ta2 ch2) ++ (wE cI aE lo fo si it)))))))) G K hA w F_X5_find (c_X5_find aS aE la aW n cl th ki va re fi aB bt bs aC to co ke nu fw aH lt tr sh cr ct cu ve ta ch aT lt2 tr2 sh2 cr2 ct2 cu2 ve2 ta2 ch2 lo fo si it 2 J S B9 C9 H9 U9 E9) ml_X5_128 rfl rfl rfl (by decide) (by decide) rfl hl.1 (Nat.le_of_ble_eq_true rfl) dX5_copy_99 (fun Hp1 lo2 w => ?_)
              exact hret _ _ _ _ _ _ rfl rfl w dX5_copy_102
            · -- not taken at 82
              refine lv_aload hx hb dX5_copy_85 (lv_at hl 0 rfl) ?_
              refine lv_iload hx hb dX5_copy_87 (lv_at hl 6 rfl) ?_
              refine lv_iload hx hb dX5_copy_89 (lv_at hl 7 rfl) ?_
              refine callPV (As := [.int j, .int k]) (rest := []) (q0 := 0) (ci := 3) G K F_X3_hasItems (c_X3_hasItems (aE 1) (aE 5) (lo 1) (fo 1) (si 1) (it 1) j k ⟨hfo 1, hsi 1⟩) (w.1.sub (ws' := (wT cI (aE 1) (aE 5) (lo 1) (fo 1) (si 1) (it 1))) [35, 39] rfl) ml_X5_250 rfl rfl rfl (by decide) (by decide) rfl hl.1 (Nat.le_of_ble_eq_true rfl) dX5_copy_91 ?_
              refine b_ne G (tgt := 103) dX5_copy_94 (by decide) (fun c94 => ?_) (fun c94 => ?_)
              · -- taken at 94
                exact absurd ⟨c82, c94⟩ hk9
              · -- not taken at 94
                refine lv_aload_n hx hb dX5_copy_97 rfl (lv_at hl 2 rfl) ?_
                refine lv_iconst (v := (nI 2)) hx hb dX5_copy_98 (by decide) ?_
                refine callMF (As := [.int (nI 2)]) (rest := []) (q0 := 0) (ci := 5) (ws' := ((wS cS aS (aW 0) (aB 0) (aC 0) (aH 0) (aT 0) aE (nI 2)) ++ ((wW cI aW n cl th ki va re fi) ++ ((wB cI aB bt bs) ++ ((wC cI cZ aC (aW 0) (aB 0) to co ke nu fw) ++ ((wH cI aH (aW 0) lt tr sh cr ct cu ve ta ch) ++ ((wH cI aT (aW 0) lt2 tr2 sh2 cr2 ct2 cu2 ve2 ta2 ch2) ++ (wE cI aE lo fo si it)))))))) G K hA w F_X5_find (c_X5_find aS aE la aW n cl th ki va re fi aB bt bs aC to co ke nu fw aH lt tr sh cr ct cu ve ta ch aT lt2 tr2 sh2 cr2 ct2 cu2 ve2 ta2 ch2 lo fo si it 2 J S B9 C9 H9 U9 E9) ml_X5_128 rfl rfl rfl (by decide) (by decide) rfl hl.1 (Nat.le_of_ble_eq_true rfl) dX5_copy_99 (fun Hp3 lo4 w => ?_)
                exact hret _ _ _ _ _ _ rfl rfl w dX5_copy_102
          · -- not taken at 65
            exact absurd hc9 c65
        · -- not taken at 46
          exact absurd (Or.inr c46) hf9
    · -- not taken at 11
      exact absurd ⟨1, by decide, rfl⟩ c11
set_option maxHeartbeats 4000000 in
set_option maxRecDepth 100000 in
theorem c_X5_copy_ok11 (aS : Nat → Nat) (aE : Nat → Nat) (la : Int32) (aW : Nat → Nat) (n : Nat) (cl : Nat) (th : Nat → Nat) (ki : Nat → Nat) (va : Nat → Nat) (re : Nat → Nat) (fi : Nat → Nat) (aB : Nat → Nat) (bt : Nat → Nat) (bs : Nat) (aC : Nat → Nat) (to : Nat → Prop) (co : Nat → Nat) (ke : Nat → Int32) (nu : Nat → Int32) (fw : Nat → Nat) (aH : Nat → Nat) (lt : Nat → Option Nat) (tr : Nat → Nat) (sh : Nat → Nat) (cr : Nat → Nat) (ct : Nat → Nat) (cu : Nat → Nat) (ve : Nat → Nat) (ta : Nat → Nat) (ch : Nat) (aT : Nat → Nat) (lt2 : Nat → Option Nat) (tr2 : Nat → Nat) (sh2 : Nat → Nat) (cr2 : Nat → Nat) (ct2 : Nat → Nat) (cu2 : Nat → Nat) (ve2 : Nat → Nat) (ta2 : Nat → Nat) (ch2 : Nat) (lo : Nat → Prop) (fo : Nat → Nat) (si : Nat → Nat) (it : Nat → Nat → Int32) (i : Nat) (j : Nat) (k : Nat) (J : IW n cl th ki va re fi) (S : SW n cl re fi) (B9 : (∀ j, bt j ≤ 255) ∧ bs ≤ 216) (C9 : (∀ j, co j ≤ 400) ∧ (∀ j, fw j ≤ 15)) (H9 : IHd lt tr sh cr ct cu ve ta ch) (U9 : IHd lt2 tr2 sh2 cr2 ct2 cu2 ve2 ta2 ch2) (E9 : (∀ j, fo j ≤ 2) ∧ (∀ j, si j ≤ 60)) (hf9 : ¬ (lo 1 ∨ lo 1)) (hc9 : fo 1 = fo 1) (hi9 : i + k ≤ si 1) (hj9 : j + k ≤ si 1) : CM l D (TY cI cZ cS) yX5_copy cX5_copy 8 (some .int) 1 [.ref (aS 0), .int (nI 1), .int (nI i), .int (nI 1), .int (nI j), .int (nI k)] ((wS cS aS (aW 0) (aB 0) (aC 0) (aH 0) (aT 0) aE la) ++ ((wW cI aW n cl th ki va re fi) ++ ((wB cI aB bt bs) ++ ((wC cI cZ aC (aW 0) (aB 0) to co ke nu fw) ++ ((wH cI aH (aW 0) lt tr sh cr ct cu ve ta ch) ++ ((wH cI aT (aW 0) lt2 tr2 sh2 cr2 ct2 cu2 ve2 ta2 ch2) ++ (wE cI aE lo fo si it))))))) (some (.int (nI 1))) ((wS cS aS (aW 0) (aB 0) (aC 0) (aH 0) (aT 0) aE la) ++ ((wW cI aW n cl th ki va re fi) ++ ((wB cI aB bt bs) ++ ((wC cI cZ aC (aW 0) (aB 0) to co ke nu fw) ++ ((wH cI aH (aW 0) lt tr sh cr ct cu ve ta ch) ++ ((wH cI aT (aW 0) lt2 tr2 sh2 cr2 ct2 cu2 ve2 ta2 ch2) ++ (wE cI aE lo fo si (va_up it 1 (va_cpy (it 1) (it 1) i j k))))))))) := by
  refine CM.ofI (by decide +kernel) (Nat.le_of_ble_eq_true rfl) (nar_int _) ?_
  intro p e s m args below meth c Q A G K hA w hret ls hl
  obtain ⟨hx, hb, hml, hown, hts⟩ := id G
  obtain ⟨hn, hcl, hth, hki, hva, hre, hfi⟩ := id J
  obtain ⟨hbt, hbs⟩ := id B9
  obtain ⟨hco, hfw⟩ := id C9
  obtain ⟨hlt, htr, hsh, hcr, hct, hcu, hve, hta, hch⟩ := id H9
  obtain ⟨hlt2, htr2, hsh2, hcr2, hct2, hcu2, hve2, hta2, hch2⟩ := id U9
  obtain ⟨hfo, hsi⟩ := id E9
  have hs9 := hsi 1
  have ht9 := hsi 1
  have hq1 := hfo 1
  have hq2 := hfo 1
  have hl : lv_has ls 8 [(0, .ref (aS 0)), (1, .int (nI 1)), (2, .int (nI i)), (3, .int (nI 1)), (4, .int (nI j)), (5, .int (nI k))] := hl
  refine lv_iload_n hx hb dX5_copy_0 rfl (lv_at hl 1 rfl) ?_
  refine callPS (rest := []) G K F_X5_isSheet (c_X5_isSheet (nI 1)) (va_P_nil D s.heap) ml_X5_121 (by decide) (by decide) rfl hl.1 (Nat.le_of_ble_eq_true rfl) dX5_copy_1 ?_
  refine b_eq G (tgt := 14) dX5_copy_4 (by decide) (fun c4 => ?_) (fun c4 => ?_)
  · -- taken at 4
    exact absurd ⟨1, by decide, rfl⟩ c4
  · -- not taken at 4
    refine lv_iload_n hx hb dX5_copy_7 rfl (lv_at hl 3 rfl) ?_
    refine callPS (rest := []) G K F_X5_isSheet (c_X5_isSheet (nI 1)) (va_P_nil D s.heap) ml_X5_121 (by decide) (by decide) rfl hl.1 (Nat.le_of_ble_eq_true rfl) dX5_copy_8 ?_
    refine b_ne G (tgt := 17) dX5_copy_11 (by decide) (fun c11 => ?_) (fun c11 => ?_)
    · -- taken at 11
      refine lv_aload_n hx hb dX5_copy_17 rfl (lv_at hl 0 rfl) ?_
      refine f_get G K w.1 inX5 0 (ci := 5) rfl rfl 5 rfl fl_X5_46 (v := .ref (aS 1)) rfl dX5_copy_18 ?_
      refine lv_iload_n hx hb dX5_copy_21 rfl (lv_at hl 1 rfl) ?_
      refine a_ldR G K w.1 1 2 (a := (aS 1)) rfl rfl (by omega) (by decide) dX5_copy_22 ?_
      refine lv_astore (lv' := [(6, .ref (aE 1)), (0, .ref (aS 0)), (1, .int (nI 1)), (2, .int (nI i)), (3, .int (nI 1)), (4, .int (nI j)), (5, .int (nI k))]) hx hb dX5_copy_23 hl (by decide) rfl (fun ls hl => ?_)
      refine lv_aload_n hx hb dX5_copy_25 rfl (lv_at hl 1 rfl) ?_
      refine f_get G K w.1 inX5 0 (ci := 5) rfl rfl 5 rfl fl_X5_46 (v := .ref (aS 1)) rfl dX5_copy_26 ?_
      refine lv_iload_n hx hb dX5_copy_29 rfl (lv_at hl 4 rfl) ?_
      refine a_ldR G K w.1 1 2 (a := (aS 1)) rfl rfl (by omega) (by decide) dX5_copy_30 ?_
      refine lv_astore (lv' := [(7, .ref (aE 1)), (6, .ref (aE 1)), (0, .ref (aS 0)), (1, .int (nI 1)), (2, .int (nI i)), (3, .int (nI 1)), (4, .int (nI j)), (5, .int (nI k))]) hx hb dX5_copy_31 hl (by decide) rfl (fun ls hl => ?_)
      refine lv_aload hx hb dX5_copy_33 (lv_at hl 1 rfl) ?_
      refine f_get G K w.1 inX3 35 (ci := 3) rfl rfl 1 rfl fl_X5_124 (v := .int (bI (lo 1))) rfl dX5_copy_35 ?_
      refine b_ne G (tgt := 49) dX5_copy_38 (by decide) (fun c38 => ?_) (fun c38 => ?_)
      · -- taken at 38
        exact absurd (Or.inl c38) hf9
      · -- not taken at 38
        refine lv_aload hx hb dX5_copy_41 (lv_at hl 0 rfl) ?_
        refine f_get G K w.1 inX3 35 (ci := 3) rfl rfl 1 rfl fl_X5_124 (v := .int (bI (lo 1))) rfl dX5_copy_43 ?_
        refine b_eq G (tgt := 55) dX5_copy_46 (by decide) (fun c46 => ?_) (fun c46 => ?_)
        · -- taken at 46
          refine lv_aload hx hb dX5_copy_55 (lv_at hl 1 rfl) ?_
          refine f_get G K w.1 inX3 35 (ci := 3) rfl rfl 2 rfl fl_X5_247 (v := .int (nI (fo 1))) rfl dX5_copy_57 ?_
          refine lv_aload hx hb dX5_copy_60 (lv_at hl 0 rfl) ?_
          refine f_get G K w.1 inX3 35 (ci := 3) rfl rfl 2 rfl fl_X5_247 (v := .int (nI (fo 1))) rfl dX5_copy_62 ?_
          refine c_eq G (tgt := 74) (by omega) (by omega) dX5_copy_65 (by decide) (fun c65 => ?_) (fun c65 => ?_)
          · -- taken at 65
            refine lv_aload hx hb dX5_copy_74 (lv_at hl 1 rfl) ?_
            refine lv_iload_n hx hb dX5_copy_76 rfl (lv_at hl 4 rfl) ?_
            refine lv_iload hx hb dX5_copy_77 (lv_at hl 7 rfl) ?_
            refine callPV (As := [.int (nI i), .int (nI k)]) (rest := []) (q0 := 0) (ci := 3) G K F_X3_hasItems (c_X3_hasItems (aE 1) (aE 5) (lo 1) (fo 1) (si 1) (it 1) (nI i) (nI k) ⟨hfo 1, hsi 1⟩) (w.1.sub (ws' := (wT cI (aE 1) (aE 5) (lo 1) (fo 1) (si 1) (it 1))) [35, 39] rfl) ml_X5_250 rfl rfl rfl (by decide) (by decide) rfl hl.1 (Nat.le_of_ble_eq_true rfl) dX5_copy_79 ?_
            refine b_eq G (tgt := 97) dX5_copy_82 (by decide) (fun c82 => ?_) (fun c82 => ?_)
            · -- taken at 82
              exact absurd ⟨i, k, hi9, rfl, rfl⟩ c82
            · -- not taken at 82
              refine lv_aload hx hb dX5_copy_85 (lv_at hl 0 rfl) ?_
              refine lv_iload hx hb dX5_copy_87 (lv_at hl 6 rfl) ?_
              refine lv_iload hx hb dX5_copy_89 (lv_at hl 7 rfl) ?_
              refine callPV (As := [.int (nI j), .int (nI k)]) (rest := []) (q0 := 0) (ci := 3) G K F_X3_hasItems (c_X3_hasItems (aE 1) (aE 5) (lo 1) (fo 1) (si 1) (it 1) (nI j) (nI k) ⟨hfo 1, hsi 1⟩) (w.1.sub (ws' := (wT cI (aE 1) (aE 5) (lo 1) (fo 1) (si 1) (it 1))) [35, 39] rfl) ml_X5_250 rfl rfl rfl (by decide) (by decide) rfl hl.1 (Nat.le_of_ble_eq_true rfl) dX5_copy_91 ?_
              refine b_ne G (tgt := 103) dX5_copy_94 (by decide) (fun c94 => ?_) (fun c94 => ?_)
              · -- taken at 94
                refine lv_aload hx hb dX5_copy_103 (lv_at hl 1 rfl) ?_
                refine f_get G K w.1 inX3 35 (ci := 3) rfl rfl 0 rfl fl_X5_132 (v := .ref (aE 5)) rfl dX5_copy_105 ?_
                refine lv_iload_n hx hb dX5_copy_108 rfl (lv_at hl 4 rfl) ?_
                refine lv_aload hx hb dX5_copy_109 (lv_at hl 0 rfl) ?_
                refine f_get G K w.1 inX3 35 (ci := 3) rfl rfl 0 rfl fl_X5_132 (v := .ref (aE 5)) rfl dX5_copy_111 ?_
                refine lv_iload hx hb dX5_copy_114 (lv_at hl 6 rfl) ?_
                refine lv_iload hx hb dX5_copy_116 (lv_at hl 7 rfl) ?_
                refine acp (f := (it 1)) (g := (it 1)) (sp := i) (dp := j) (k := k) G K w (hml.trans hl.1.symm) ml_X5_253 39 39 rfl rfl (by omega) (by omega) (by decide) (Nat.le_of_ble_eq_true rfl) (Nat.le_of_ble_eq_true rfl) dX5_copy_118 (w2 := ((wS cS aS (aW 0) (aB 0) (aC 0) (aH 0) (aT 0) aE la) ++ ((wW cI aW n cl th ki va re fi) ++ ((wB cI aB bt bs) ++ ((wC cI cZ aC (aW 0) (aB 0) to co ke nu fw) ++ ((wH cI aH (aW 0) lt tr sh cr ct cu ve ta ch) ++ ((wH cI aT (aW 0) lt2 tr2 sh2 cr2 ct2 cu2 ve2 ta2 ch2) ++ (wE cI aE lo fo si (va_up it 1 (va_cpy (it 1) (it 1) i j k)))))))))) rfl (fun Hp1 lo2 w => ?_)
                refine lv_iconst (v := (nI 1)) hx hb dX5_copy_121 (by decide) ?_
                exact hret _ _ _ _ _ _ rfl rfl w dX5_copy_122
              · -- not taken at 94
                exact absurd ⟨j, k, hj9, rfl, rfl⟩ c94
          · -- not taken at 65
            exact absurd hc9 c65
        · -- not taken at 46
          exact absurd (Or.inr c46) hf9
    · -- not taken at 11
      exact absurd ⟨1, by decide, rfl⟩ c11
set_option maxHeartbeats 4000000 in
set_option maxRecDepth 100000 in
theorem c_X5_copy_nul12 (aS : Nat → Nat) (aE : Nat → Nat) (la : Int32) (aW : Nat → Nat) (n : Nat) (cl : Nat) (th : Nat → Nat) (ki : Nat → Nat) (va : Nat → Nat) (re : Nat → Nat) (fi : Nat → Nat) (aB : Nat → Nat) (bt : Nat → Nat) (bs : Nat) (aC : Nat → Nat) (to : Nat → Prop) (co : Nat → Nat) (ke : Nat → Int32) (nu : Nat → Int32) (fw : Nat → Nat) (aH : Nat → Nat) (lt : Nat → Option Nat) (tr : Nat → Nat) (sh : Nat → Nat) (cr : Nat → Nat) (ct : Nat → Nat) (cu : Nat → Nat) (ve : Nat → Nat) (ta : Nat → Nat) (ch : Nat) (aT : Nat → Nat) (lt2 : Nat → Option Nat) (tr2 : Nat → Nat) (sh2 : Nat → Nat) (cr2 : Nat → Nat) (ct2 : Nat → Nat) (cu2 : Nat → Nat) (ve2 : Nat → Nat) (ta2 : Nat → Nat) (ch2 : Nat) (lo : Nat → Prop) (fo : Nat → Nat) (si : Nat → Nat) (it : Nat → Nat → Int32) (i : Int32) (j : Int32) (k : Int32) (J : IW n cl th ki va re fi) (S : SW n cl re fi) (B9 : (∀ j, bt j ≤ 255) ∧ bs ≤ 216) (C9 : (∀ j, co j ≤ 400) ∧ (∀ j, fw j ≤ 15)) (H9 : IHd lt tr sh cr ct cu ve ta ch) (U9 : IHd lt2 tr2 sh2 cr2 ct2 cu2 ve2 ta2 ch2) (E9 : (∀ j, fo j ≤ 2) ∧ (∀ j, si j ≤ 60)) (hf9 : lo 1 ∨ lo 2) : CM l D (TY cI cZ cS) yX5_copy cX5_copy 8 (some .int) 1 [.ref (aS 0), .int (nI 1), .int i, .int (nI 2), .int j, .int k] ((wS cS aS (aW 0) (aB 0) (aC 0) (aH 0) (aT 0) aE la) ++ ((wW cI aW n cl th ki va re fi) ++ ((wB cI aB bt bs) ++ ((wC cI cZ aC (aW 0) (aB 0) to co ke nu fw) ++ ((wH cI aH (aW 0) lt tr sh cr ct cu ve ta ch) ++ ((wH cI aT (aW 0) lt2 tr2 sh2 cr2 ct2 cu2 ve2 ta2 ch2) ++ (wE cI aE lo fo si it))))))) (some (.int ((-10) - (nI 1)))) ((wS cS aS (aW 0) (aB 0) (aC 0) (aH 0) (aT 0) aE (nI 1)) ++ ((wW cI aW n cl th ki va re fi) ++ ((wB cI aB bt bs) ++ ((wC cI cZ aC (aW 0) (aB 0) to co ke nu fw) ++ ((wH cI aH (aW 0) lt tr sh cr ct cu ve ta ch) ++ ((wH cI aT (aW 0) lt2 tr2 sh2 cr2 ct2 cu2 ve2 ta2 ch2) ++ (wE cI aE lo fo si it))))))) := by
  refine CM.ofI (by decide +kernel) (Nat.le_of_ble_eq_true rfl) (nar_int _) ?_
  intro p e s m args below meth c Q A G K hA w hret ls hl
  obtain ⟨hx, hb, hml, hown, hts⟩ := id G
  obtain ⟨hn, hcl, hth, hki, hva, hre, hfi⟩ := id J
  obtain ⟨hbt, hbs⟩ := id B9
  obtain ⟨hco, hfw⟩ := id C9
  obtain ⟨hlt, htr, hsh, hcr, hct, hcu, hve, hta, hch⟩ := id H9
  obtain ⟨hlt2, htr2, hsh2, hcr2, hct2, hcu2, hve2, hta2, hch2⟩ := id U9
  obtain ⟨hfo, hsi⟩ := id E9
  have hl : lv_has ls 8 [(0, .ref (aS 0)), (1, .int (nI 1)), (2, .int i), (3, .int (nI 2)), (4, .int j), (5, .int k)] := hl
  refine lv_iload_n hx hb dX5_copy_0 rfl (lv_at hl 1 rfl) ?_
  refine callPS (rest := []) G K F_X5_isSheet (c_X5_isSheet (nI 1)) (va_P_nil D s.heap) ml_X5_121 (by decide) (by decide) rfl hl.1 (Nat.le_of_ble_eq_true rfl) dX5_copy_1 ?_
  refine b_eq G (tgt := 14) dX5_copy_4 (by decide) (fun c4 => ?_) (fun c4 => ?_)
  · -- taken at 4
    exact absurd ⟨1, by decide, rfl⟩ c4
  · -- not taken at 4
    refine lv_iload_n hx hb dX5_copy_7 rfl (lv_at hl 3 rfl) ?_
    refine callPS (rest := []) G K F_X5_isSheet (c_X5_isSheet (nI 2)) (va_P_nil D s.heap) ml_X5_121 (by decide) (by decide) rfl hl.1 (Nat.le_of_ble_eq_true rfl) dX5_copy_8 ?_
    refine b_ne G (tgt := 17) dX5_copy_11 (by decide) (fun c11 => ?_) (fun c11 => ?_)
    · -- taken at 11
      refine lv_aload_n hx hb dX5_copy_17 rfl (lv_at hl 0 rfl) ?_
      refine f_get G K w.1 inX5 0 (ci := 5) rfl rfl 5 rfl fl_X5_46 (v := .ref (aS 1)) rfl dX5_copy_18 ?_
      refine lv_iload_n hx hb dX5_copy_21 rfl (lv_at hl 1 rfl) ?_
      refine a_ldR G K w.1 1 2 (a := (aS 1)) rfl rfl (by omega) (by decide) dX5_copy_22 ?_
      refine lv_astore (lv' := [(6, .ref (aE 1)), (0, .ref (aS 0)), (1, .int (nI 1)), (2, .int i), (3, .int (nI 2)), (4, .int j), (5, .int k)]) hx hb dX5_copy_23 hl (by decide) rfl (fun ls hl => ?_)
      refine lv_aload_n hx hb dX5_copy_25 rfl (lv_at hl 1 rfl) ?_
      refine f_get G K w.1 inX5 0 (ci := 5) rfl rfl 5 rfl fl_X5_46 (v := .ref (aS 1)) rfl dX5_copy_26 ?_
      refine lv_iload_n hx hb dX5_copy_29 rfl (lv_at hl 4 rfl) ?_
      refine a_ldR G K w.1 1 2 (a := (aS 1)) rfl rfl (by omega) (by decide) dX5_copy_30 ?_
      refine lv_astore (lv' := [(7, .ref (aE 2)), (6, .ref (aE 1)), (0, .ref (aS 0)), (1, .int (nI 1)), (2, .int i), (3, .int (nI 2)), (4, .int j), (5, .int k)]) hx hb dX5_copy_31 hl (by decide) rfl (fun ls hl => ?_)
      refine lv_aload hx hb dX5_copy_33 (lv_at hl 1 rfl) ?_
      refine f_get G K w.1 inX3 35 (ci := 3) rfl rfl 1 rfl fl_X5_124 (v := .int (bI (lo 1))) rfl dX5_copy_35 ?_
      refine b_ne G (tgt := 49) dX5_copy_38 (by decide) (fun c38 => ?_) (fun c38 => ?_)
      · -- taken at 38
        refine lv_aload_n hx hb dX5_copy_49 rfl (lv_at hl 2 rfl) ?_
        refine lv_iconst (v := (nI 1)) hx hb dX5_copy_50 (by decide) ?_
        refine callMF (As := [.int (nI 1)]) (rest := []) (q0 := 0) (ci := 5) (ws' := ((wS cS aS (aW 0) (aB 0) (aC 0) (aH 0) (aT 0) aE (nI 1)) ++ ((wW cI aW n cl th ki va re fi) ++ ((wB cI aB bt bs) ++ ((wC cI cZ aC (aW 0) (aB 0) to co ke nu fw) ++ ((wH cI aH (aW 0) lt tr sh cr ct cu ve ta ch) ++ ((wH cI aT (aW 0) lt2 tr2 sh2 cr2 ct2 cu2 ve2 ta2 ch2) ++ (wE cI aE lo fo si it)))))))) G K hA w F_X5_find (c_X5_find aS aE la aW n cl th ki va re fi aB bt bs aC to co ke nu fw aH lt tr sh cr ct cu ve ta ch aT lt2 tr2 sh2 cr2 ct2 cu2 ve2 ta2 ch2 lo fo si it 1 J S B9 C9 H9 U9 E9) ml_X5_128 rfl rfl rfl (by decide) (by decide) rfl hl.1 (Nat.le_of_ble_eq_true rfl) dX5_copy_51 (fun Hp1 lo2 w => ?_)
        exact hret _ _ _ _ _ _ rfl rfl w dX5_copy_54
      · -- not taken at 38
        refine lv_aload hx hb dX5_copy_41 (lv_at hl 0 rfl) ?_
        refine f_get G K w.1 inX3 36 (ci := 3) rfl rfl 1 rfl fl_X5_124 (v := .int (bI (lo 2))) rfl dX5_copy_43 ?_
        refine b_eq G (tgt := 55) dX5_copy_46 (by decide) (fun c46 => ?_) (fun c46 => ?_)
        · -- taken at 46
          exact absurd hf9 (fun h => h.elim c38 c46)
        · -- not taken at 46
          refine lv_aload_n hx hb dX5_copy_49 rfl (lv_at hl 2 rfl) ?_
          refine lv_iconst (v := (nI 1)) hx hb dX5_copy_50 (by decide) ?_
          refine callMF (As := [.int (nI 1)]) (rest := []) (q0 := 0) (ci := 5) (ws' := ((wS cS aS (aW 0) (aB 0) (aC 0) (aH 0) (aT 0) aE (nI 1)) ++ ((wW cI aW n cl th ki va re fi) ++ ((wB cI aB bt bs) ++ ((wC cI cZ aC (aW 0) (aB 0) to co ke nu fw) ++ ((wH cI aH (aW 0) lt tr sh cr ct cu ve ta ch) ++ ((wH cI aT (aW 0) lt2 tr2 sh2 cr2 ct2 cu2 ve2 ta2 ch2) ++ (wE cI aE lo fo si it)))))))) G K hA w F_X5_find (c_X5_find aS aE la aW n cl th ki va re fi aB bt bs aC to co ke nu fw aH lt tr sh cr ct cu ve ta ch aT lt2 tr2 sh2 cr2 ct2 cu2 ve2 ta2 ch2 lo fo si it 1 J S B9 C9 H9 U9 E9) ml_X5_128 rfl rfl rfl (by decide) (by decide) rfl hl.1 (Nat.le_of_ble_eq_true rfl) dX5_copy_51 (fun Hp3 lo4 w => ?_)
          exact hret _ _ _ _ _ _ rfl rfl w dX5_copy_54
    · -- not taken at 11
      exact absurd ⟨2, by decide, rfl⟩ c11
set_option maxHeartbeats 4000000 in
set_option maxRecDepth 100000 in
theorem c_X5_copy_sto12 (aS : Nat → Nat) (aE : Nat → Nat) (la : Int32) (aW : Nat → Nat) (n : Nat) (cl : Nat) (th : Nat → Nat) (ki : Nat → Nat) (va : Nat → Nat) (re : Nat → Nat) (fi : Nat → Nat) (aB : Nat → Nat) (bt : Nat → Nat) (bs : Nat) (aC : Nat → Nat) (to : Nat → Prop) (co : Nat → Nat) (ke : Nat → Int32) (nu : Nat → Int32) (fw : Nat → Nat) (aH : Nat → Nat) (lt : Nat → Option Nat) (tr : Nat → Nat) (sh : Nat → Nat) (cr : Nat → Nat) (ct : Nat → Nat) (cu : Nat → Nat) (ve : Nat → Nat) (ta : Nat → Nat) (ch : Nat) (aT : Nat → Nat) (lt2 : Nat → Option Nat) (tr2 : Nat → Nat) (sh2 : Nat → Nat) (cr2 : Nat → Nat) (ct2 : Nat → Nat) (cu2 : Nat → Nat) (ve2 : Nat → Nat) (ta2 : Nat → Nat) (ch2 : Nat) (lo : Nat → Prop) (fo : Nat → Nat) (si : Nat → Nat) (it : Nat → Nat → Int32) (i : Int32) (j : Int32) (k : Int32) (J : IW n cl th ki va re fi) (S : SW n cl re fi) (B9 : (∀ j, bt j ≤ 255) ∧ bs ≤ 216) (C9 : (∀ j, co j ≤ 400) ∧ (∀ j, fw j ≤ 15)) (H9 : IHd lt tr sh cr ct cu ve ta ch) (U9 : IHd lt2 tr2 sh2 cr2 ct2 cu2 ve2 ta2 ch2) (E9 : (∀ j, fo j ≤ 2) ∧ (∀ j, si j ≤ 60)) (hf9 : ¬ (lo 1 ∨ lo 2)) (hc9 : fo 1 ≠ fo 2) : CM l D (TY cI cZ cS) yX5_copy cX5_copy 8 (some .int) 1 [.ref (aS 0), .int (nI 1), .int i, .int (nI 2), .int j, .int k] ((wS cS aS (aW 0) (aB 0) (aC 0) (aH 0) (aT 0) aE la) ++ ((wW cI aW n cl th ki va re fi) ++ ((wB cI aB bt bs) ++ ((wC cI cZ aC (aW 0) (aB 0) to co ke nu fw) ++ ((wH cI aH (aW 0) lt tr sh cr ct cu ve ta ch) ++ ((wH cI aT (aW 0) lt2 tr2 sh2 cr2 ct2 cu2 ve2 ta2 ch2) ++ (wE cI aE lo fo si it))))))) (some (.int ((-10) - (nI 4)))) ((wS cS aS (aW 0) (aB 0) (aC 0) (aH 0) (aT 0) aE (nI 4)) ++ ((wW cI aW n cl th ki va re fi) ++ ((wB cI aB bt bs) ++ ((wC cI cZ aC (aW 0) (aB 0) to co ke nu fw) ++ ((wH cI aH (aW 0) lt tr sh cr ct cu ve ta ch) ++ ((wH cI aT (aW 0) lt2 tr2 sh2 cr2 ct2 cu2 ve2 ta2 ch2) ++ (wE cI aE lo fo si it))))))) := by
  refine CM.ofI (by decide +kernel) (Nat.le_of_ble_eq_true rfl) (nar_int _) ?_
  intro p e s m args below meth c Q A G K hA w hret ls hl
  obtain ⟨hx, hb, hml, hown, hts⟩ := id G
  obtain ⟨hn, hcl, hth, hki, hva, hre, hfi⟩ := id J
  obtain ⟨hbt, hbs⟩ := id B9
  obtain ⟨hco, hfw⟩ := id C9
  obtain ⟨hlt, htr, hsh, hcr, hct, hcu, hve, hta, hch⟩ := id H9
  obtain ⟨hlt2, htr2, hsh2, hcr2, hct2, hcu2, hve2, hta2, hch2⟩ := id U9
  obtain ⟨hfo, hsi⟩ := id E9
  have hq1 := hfo 1
  have hq2 := hfo 2
  have hl : lv_has ls 8 [(0, .ref (aS 0)), (1, .int (nI 1)), (2, .int i), (3, .int (nI 2)), (4, .int j), (5, .int k)] := hl
  refine lv_iload_n hx hb dX5_copy_0 rfl (lv_at hl 1 rfl) ?_
  refine callPS (rest := []) G K F_X5_isSheet (c_X5_isSheet (nI 1)) (va_P_nil D s.heap) ml_X5_121 (by decide) (by decide) rfl hl.1 (Nat.le_of_ble_eq_true rfl) dX5_copy_1 ?_
  refine b_eq G (tgt := 14) dX5_copy_4 (by decide) (fun c4 => ?_) (fun c4 => ?_)
  · -- taken at 4
    exact absurd ⟨1, by decide, rfl⟩ c4
  · -- not taken at 4
    refine lv_iload_n hx hb dX5_copy_7 rfl (lv_at hl 3 rfl) ?_
    refine callPS (rest := []) G K F_X5_isSheet (c_X5_isSheet (nI 2)) (va_P_nil D s.heap) ml_X5_121 (by decide) (by decide) rfl hl.1 (Nat.le_of_ble_eq_true rfl) dX5_copy_8 ?_
    refine b_ne G (tgt := 17) dX5_copy_11 (by decide) (fun c11 => ?_) (fun c11 => ?_)
    · -- taken at 11
      refine lv_aload_n hx hb dX5_copy_17 rfl (lv_at hl 0 rfl) ?_
      refine f_get G K w.1 inX5 0 (ci := 5) rfl rfl 5 rfl fl_X5_46 (v := .ref (aS 1)) rfl dX5_copy_18 ?_
      refine lv_iload_n hx hb dX5_copy_21 rfl (lv_at hl 1 rfl) ?_
      refine a_ldR G K w.1 1 2 (a := (aS 1)) rfl rfl (by omega) (by decide) dX5_copy_22 ?_
      refine lv_astore (lv' := [(6, .ref (aE 1)), (0, .ref (aS 0)), (1, .int (nI 1)), (2, .int i), (3, .int (nI 2)), (4, .int j), (5, .int k)]) hx hb dX5_copy_23 hl (by decide) rfl (fun ls hl => ?_)
      refine lv_aload_n hx hb dX5_copy_25 rfl (lv_at hl 1 rfl) ?_
      refine f_get G K w.1 inX5 0 (ci := 5) rfl rfl 5 rfl fl_X5_46 (v := .ref (aS 1)) rfl dX5_copy_26 ?_
      refine lv_iload_n hx hb dX5_copy_29 rfl (lv_at hl 4 rfl) ?_
      refine a_ldR G K w.1 1 2 (a := (aS 1)) rfl rfl (by omega) (by decide) dX5_copy_30 ?_
      refine lv_astore (lv' := [(7, .ref (aE 2)), (6, .ref (aE 1)), (0, .ref (aS 0)), (1, .int (nI 1)), (2, .int i), (3, .int (nI 2)), (4, .int j), (5, .int k)]) hx hb dX5_copy_31 hl (by decide) rfl (fun ls hl => ?_)
      refine lv_aload hx hb dX5_copy_33 (lv_at hl 1 rfl) ?_
      refine f_get G K w.1 inX3 35 (ci := 3) rfl rfl 1 rfl fl_X5_124 (v := .int (bI (lo 1))) rfl dX5_copy_35 ?_
      refine b_ne G (tgt := 49) dX5_copy_38 (by decide) (fun c38 => ?_) (fun c38 => ?_)
      · -- taken at 38
        exact absurd (Or.inl c38) hf9
      · -- not taken at 38
        refine lv_aload hx hb dX5_copy_41 (lv_at hl 0 rfl) ?_
        refine f_get G K w.1 inX3 36 (ci := 3) rfl rfl 1 rfl fl_X5_124 (v := .int (bI (lo 2))) rfl dX5_copy_43 ?_
        refine b_eq G (tgt := 55) dX5_copy_46 (by decide) (fun c46 => ?_) (fun c46 => ?_)
        · -- taken at 46
          refine lv_aload hx hb dX5_copy_55 (lv_at hl 1 rfl) ?_
          refine f_get G K w.1 inX3 35 (ci := 3) rfl rfl 2 rfl fl_X5_247 (v := .int (nI (fo 1))) rfl dX5_copy_57 ?_
          refine lv_aload hx hb dX5_copy_60 (lv_at hl 0 rfl) ?_
          refine f_get G K w.1 inX3 36 (ci := 3) rfl rfl 2 rfl fl_X5_247 (v := .int (nI (fo 2))) rfl dX5_copy_62 ?_
          refine c_eq G (tgt := 74) (by omega) (by omega) dX5_copy_65 (by decide) (fun c65 => ?_) (fun c65 => ?_)
          · -- taken at 65
            exact absurd c65 hc9
          · -- not taken at 65
            refine lv_aload_n hx hb dX5_copy_68 rfl (lv_at hl 2 rfl) ?_
            refine lv_iconst (v := (nI 4)) hx hb dX5_copy_69 (by decide) ?_
            refine callMF (As := [.int (nI 4)]) (rest := []) (q0 := 0) (ci := 5) (ws' := ((wS cS aS (aW 0) (aB 0) (aC 0) (aH 0) (aT 0) aE (nI 4)) ++ ((wW cI aW n cl th ki va re fi) ++ ((wB cI aB bt bs) ++ ((wC cI cZ aC (aW 0) (aB 0) to co ke nu fw) ++ ((wH cI aH (aW 0) lt tr sh cr ct cu ve ta ch) ++ ((wH cI aT (aW 0) lt2 tr2 sh2 cr2 ct2 cu2 ve2 ta2 ch2) ++ (wE cI aE lo fo si it)))))))) G K hA w F_X5_find (c_X5_find aS aE la aW n cl th ki va re fi aB bt bs aC to co ke nu fw aH lt tr sh cr ct cu ve ta ch aT lt2 tr2 sh2 cr2 ct2 cu2 ve2 ta2 ch2 lo fo si it 4 J S B9 C9 H9 U9 E9) ml_X5_128 rfl rfl rfl (by decide) (by decide) rfl hl.1 (Nat.le_of_ble_eq_true rfl) dX5_copy_70 (fun Hp1 lo2 w => ?_)
            exact hret _ _ _ _ _ _ rfl rfl w dX5_copy_73
        · -- not taken at 46
          exact absurd (Or.inr c46) hf9
    · -- not taken at 11
      exact absurd ⟨2, by decide, rfl⟩ c11
set_option maxHeartbeats 4000000 in
set_option maxRecDepth 100000 in
theorem c_X5_copy_idx12 (aS : Nat → Nat) (aE : Nat → Nat) (la : Int32) (aW : Nat → Nat) (n : Nat) (cl : Nat) (th : Nat → Nat) (ki : Nat → Nat) (va : Nat → Nat) (re : Nat → Nat) (fi : Nat → Nat) (aB : Nat → Nat) (bt : Nat → Nat) (bs : Nat) (aC : Nat → Nat) (to : Nat → Prop) (co : Nat → Nat) (ke : Nat → Int32) (nu : Nat → Int32) (fw : Nat → Nat) (aH : Nat → Nat) (lt : Nat → Option Nat) (tr : Nat → Nat) (sh : Nat → Nat) (cr : Nat → Nat) (ct : Nat → Nat) (cu : Nat → Nat) (ve : Nat → Nat) (ta : Nat → Nat) (ch : Nat) (aT : Nat → Nat) (lt2 : Nat → Option Nat) (tr2 : Nat → Nat) (sh2 : Nat → Nat) (cr2 : Nat → Nat) (ct2 : Nat → Nat) (cu2 : Nat → Nat) (ve2 : Nat → Nat) (ta2 : Nat → Nat) (ch2 : Nat) (lo : Nat → Prop) (fo : Nat → Nat) (si : Nat → Nat) (it : Nat → Nat → Int32) (i : Int32) (j : Int32) (k : Int32) (J : IW n cl th ki va re fi) (S : SW n cl re fi) (B9 : (∀ j, bt j ≤ 255) ∧ bs ≤ 216) (C9 : (∀ j, co j ≤ 400) ∧ (∀ j, fw j ≤ 15)) (H9 : IHd lt tr sh cr ct cu ve ta ch) (U9 : IHd lt2 tr2 sh2 cr2 ct2 cu2 ve2 ta2 ch2) (E9 : (∀ j, fo j ≤ 2) ∧ (∀ j, si j ≤ 60)) (hf9 : ¬ (lo 1 ∨ lo 2)) (hc9 : fo 1 = fo 2) (hk9 : ¬ (okH (si 1) i k ∧ okH (si 2) j k)) : CM l D (TY cI cZ cS) yX5_copy cX5_copy 8 (some .int) 1 [.ref (aS 0), .int (nI 1), .int i, .int (nI 2), .int j, .int k] ((wS cS aS (aW 0) (aB 0) (aC 0) (aH 0) (aT 0) aE la) ++ ((wW cI aW n cl th ki va re fi) ++ ((wB cI aB bt bs) ++ ((wC cI cZ aC (aW 0) (aB 0) to co ke nu fw) ++ ((wH cI aH (aW 0) lt tr sh cr ct cu ve ta ch) ++ ((wH cI aT (aW 0) lt2 tr2 sh2 cr2 ct2 cu2 ve2 ta2 ch2) ++ (wE cI aE lo fo si it))))))) (some (.int ((-10) - (nI 2)))) ((wS cS aS (aW 0) (aB 0) (aC 0) (aH 0) (aT 0) aE (nI 2)) ++ ((wW cI aW n cl th ki va re fi) ++ ((wB cI aB bt bs) ++ ((wC cI cZ aC (aW 0) (aB 0) to co ke nu fw) ++ ((wH cI aH (aW 0) lt tr sh cr ct cu ve ta ch) ++ ((wH cI aT (aW 0) lt2 tr2 sh2 cr2 ct2 cu2 ve2 ta2 ch2) ++ (wE cI aE lo fo si it))))))) := by
  refine CM.ofI (by decide +kernel) (Nat.le_of_ble_eq_true rfl) (nar_int _) ?_
  intro p e s m args below meth c Q A G K hA w hret ls hl
  obtain ⟨hx, hb, hml, hown, hts⟩ := id G
  obtain ⟨hn, hcl, hth, hki, hva, hre, hfi⟩ := id J
  obtain ⟨hbt, hbs⟩ := id B9
  obtain ⟨hco, hfw⟩ := id C9
  obtain ⟨hlt, htr, hsh, hcr, hct, hcu, hve, hta, hch⟩ := id H9
  obtain ⟨hlt2, htr2, hsh2, hcr2, hct2, hcu2, hve2, hta2, hch2⟩ := id U9
  obtain ⟨hfo, hsi⟩ := id E9
  have hq1 := hfo 1
  have hq2 := hfo 2
  have hl : lv_has ls 8 [(0, .ref (aS 0)), (1, .int (nI 1)), (2, .int i), (3, .int (nI 2)), (4, .int j), (5, .int k)] := hl
  refine lv_iload_n hx hb dX5_copy_0 rfl (lv_at hl 1 rfl) ?_
  refine callPS (rest := []) G K F_X5_isSheet (c_X5_isSheet (nI 1)) (va_P_nil D s.heap) ml_X5_121 (by decide) (by decide) rfl hl.1 (Nat.le_of_ble_eq_true rfl) dX5_copy_1 ?_
  refine b_eq G (tgt := 14) dX5_copy_4 (by decide) (fun c4 => ?_) (fun c4 => ?_)
  · -- taken at 4
    exact absurd ⟨1, by decide, rfl⟩ c4
  · -- not taken at 4
    refine lv_iload_n hx hb dX5_copy_7 rfl (lv_at hl 3 rfl) ?_
    refine callPS (rest := []) G K F_X5_isSheet (c_X5_isSheet (nI 2)) (va_P_nil D s.heap) ml_X5_121 (by decide) (by decide) rfl hl.1 (Nat.le_of_ble_eq_true rfl) dX5_copy_8 ?_
    refine b_ne G (tgt := 17) dX5_copy_11 (by decide) (fun c11 => ?_) (fun c11 => ?_)
    · -- taken at 11
      refine lv_aload_n hx hb dX5_copy_17 rfl (lv_at hl 0 rfl) ?_
      refine f_get G K w.1 inX5 0 (ci := 5) rfl rfl 5 rfl fl_X5_46 (v := .ref (aS 1)) rfl dX5_copy_18 ?_
      refine lv_iload_n hx hb dX5_copy_21 rfl (lv_at hl 1 rfl) ?_
      refine a_ldR G K w.1 1 2 (a := (aS 1)) rfl rfl (by omega) (by decide) dX5_copy_22 ?_
      refine lv_astore (lv' := [(6, .ref (aE 1)), (0, .ref (aS 0)), (1, .int (nI 1)), (2, .int i), (3, .int (nI 2)), (4, .int j), (5, .int k)]) hx hb dX5_copy_23 hl (by decide) rfl (fun ls hl => ?_)
      refine lv_aload_n hx hb dX5_copy_25 rfl (lv_at hl 1 rfl) ?_
      refine f_get G K w.1 inX5 0 (ci := 5) rfl rfl 5 rfl fl_X5_46 (v := .ref (aS 1)) rfl dX5_copy_26 ?_
      refine lv_iload_n hx hb dX5_copy_29 rfl (lv_at hl 4 rfl) ?_
      refine a_ldR G K w.1 1 2 (a := (aS 1)) rfl rfl (by omega) (by decide) dX5_copy_30 ?_
      refine lv_astore (lv' := [(7, .ref (aE 2)), (6, .ref (aE 1)), (0, .ref (aS 0)), (1, .int (nI 1)), (2, .int i), (3, .int (nI 2)), (4, .int j), (5, .int k)]) hx hb dX5_copy_31 hl (by decide) rfl (fun ls hl => ?_)
      refine lv_aload hx hb dX5_copy_33 (lv_at hl 1 rfl) ?_
      refine f_get G K w.1 inX3 35 (ci := 3) rfl rfl 1 rfl fl_X5_124 (v := .int (bI (lo 1))) rfl dX5_copy_35 ?_
      refine b_ne G (tgt := 49) dX5_copy_38 (by decide) (fun c38 => ?_) (fun c38 => ?_)
      · -- taken at 38
        exact absurd (Or.inl c38) hf9
      · -- not taken at 38
        refine lv_aload hx hb dX5_copy_41 (lv_at hl 0 rfl) ?_
        refine f_get G K w.1 inX3 36 (ci := 3) rfl rfl 1 rfl fl_X5_124 (v := .int (bI (lo 2))) rfl dX5_copy_43 ?_
        refine b_eq G (tgt := 55) dX5_copy_46 (by decide) (fun c46 => ?_) (fun c46 => ?_)
        · -- taken at 46
          refine lv_aload hx hb dX5_copy_55 (lv_at hl 1 rfl) ?_
          refine f_get G K w.1 inX3 35 (ci := 3) rfl rfl 2 rfl fl_X5_247 (v := .int (nI (fo 1))) rfl dX5_copy_57 ?_
          refine lv_aload hx hb dX5_copy_60 (lv_at hl 0 rfl) ?_
          refine f_get G K w.1 inX3 36 (ci := 3) rfl rfl 2 rfl fl_X5_247 (v := .int (nI (fo 2))) rfl dX5_copy_62 ?_
          refine c_eq G (tgt := 74) (by omega) (by omega) dX5_copy_65 (by decide) (fun c65 => ?_) (fun c65 => ?_)
          · -- taken at 65
            refine lv_aload hx hb dX5_copy_74 (lv_at hl 1 rfl) ?_
            refine lv_iload_n hx hb dX5_copy_76 rfl (lv_at hl 4 rfl) ?_
            refine lv_iload hx hb dX5_copy_77 (lv_at hl 7 rfl) ?_
            refine callPV (As := [.int i, .int k]) (rest := []) (q0 := 0) (ci := 3) G K F_X3_hasItems (c_X3_hasItems (aE 1) (aE 5) (lo 1) (fo 1) (si 1) (it 1) i k ⟨hfo 1, hsi 1⟩) (w.1.sub (ws' := (wT cI (aE 1) (aE 5) (lo 1) (fo 1) (si 1) (it 1))) [35, 39] rfl) ml_X5_250 rfl rfl rfl (by decide) (by decide) rfl hl.1 (Nat.le_of_ble_eq_true rfl) dX5_copy_79 ?_
            refine b_eq G (tgt := 97) dX5_copy_82 (by decide) (fun c82 => ?_) (fun c82 => ?_)
            · -- taken at 82
              refine lv_aload_n hx hb dX5_copy_97 rfl (lv_at hl 2 rfl) ?_
              refine lv_iconst (v := (nI 2)) hx hb dX5_copy_98 (by decide) ?_
              refine callMF (As := [.int (nI 2)]) (rest := []) (q0 := 0) (ci := 5) (ws' := ((wS cS aS (aW 0) (aB 0) (aC 0) (aH 0) (aT 0) aE (nI 2)) ++ ((wW cI aW n cl th ki va re fi) ++ ((wB cI aB bt bs) ++ ((wC cI cZ aC (aW 0) (aB 0) to co ke nu fw) ++ ((wH cI aH (aW 0) lt tr sh cr ct cu ve ta ch) ++ ((wH cI aT (aW 0) lt2 tr2 sh2 cr2 ct2 cu2 ve2 ta2 ch2) ++ (wE cI aE lo fo si it)))))))) G K hA w F_X5_find (c_X5_find aS aE la aW n cl th ki va re fi aB bt bs aC to co ke nu fw aH lt tr sh cr ct cu ve ta ch aT lt2 tr2 sh2 cr2 ct2 cu2 ve2 ta2 ch2 lo fo si it 2 J S B9 C9 H9 U9 E9) ml_X5_128 rfl rfl rfl (by decide) (by decide) rfl hl.1 (Nat.le_of_ble_eq_true rfl) dX5_copy_99 (fun Hp1 lo2 w => ?_)
              exact hret _ _ _ _ _ _ rfl rfl w dX5_copy_102
            · -- not taken at 82
              refine lv_aload hx hb dX5_copy_85 (lv_at hl 0 rfl) ?_
              refine lv_iload hx hb dX5_copy_87 (lv_at hl 6 rfl) ?_
              refine lv_iload hx hb dX5_copy_89 (lv_at hl 7 rfl) ?_
              refine callPV (As := [.int j, .int k]) (rest := []) (q0 := 0) (ci := 3) G K F_X3_hasItems (c_X3_hasItems (aE 2) (aE 6) (lo 2) (fo 2) (si 2) (it 2) j k ⟨hfo 2, hsi 2⟩) (w.1.sub (ws' := (wT cI (aE 2) (aE 6) (lo 2) (fo 2) (si 2) (it 2))) [36, 40] rfl) ml_X5_250 rfl rfl rfl (by decide) (by decide) rfl hl.1 (Nat.le_of_ble_eq_true rfl) dX5_copy_91 ?_
              refine b_ne G (tgt := 103) dX5_copy_94 (by decide) (fun c94 => ?_) (fun c94 => ?_)
              · -- taken at 94
                exact absurd ⟨c82, c94⟩ hk9
              · -- not taken at 94
                refine lv_aload_n hx hb dX5_copy_97 rfl (lv_at hl 2 rfl) ?_
                refine lv_iconst (v := (nI 2)) hx hb dX5_copy_98 (by decide) ?_
                refine callMF (As := [.int (nI 2)]) (rest := []) (q0 := 0) (ci := 5) (ws' := ((wS cS aS (aW 0) (aB 0) (aC 0) (aH 0) (aT 0) aE (nI 2)) ++ ((wW cI aW n cl th ki va re fi) ++ ((wB cI aB bt bs) ++ ((wC cI cZ aC (aW 0) (aB 0) to co ke nu fw) ++ ((wH cI aH (aW 0) lt tr sh cr ct cu ve ta ch) ++ ((wH cI aT (aW 0) lt2 tr2 sh2 cr2 ct2 cu2 ve2 ta2 ch2) ++ (wE cI aE lo fo si it)))))))) G K hA w F_X5_find (c_X5_find aS aE la aW n cl th ki va re fi aB bt bs aC to co ke nu fw aH lt tr sh cr ct cu ve ta ch aT lt2 tr2 sh2 cr2 ct2 cu2 ve2 ta2 ch2 lo fo si it 2 J S B9 C9 H9 U9 E9) ml_X5_128 rfl rfl rfl (by decide) (by decide) rfl hl.1 (Nat.le_of_ble_eq_true rfl) dX5_copy_99 (fun Hp3 lo4 w => ?_)
                exact hret _ _ _ _ _ _ rfl rfl w dX5_copy_102
          · -- not taken at 65
            exact absurd hc9 c65
        · -- not taken at 46
          exact absurd (Or.inr c46) hf9
    · -- not taken at 11
      exact absurd ⟨2, by decide, rfl⟩ c11
set_option maxHeartbeats 4000000 in
set_option maxRecDepth 100000 in
theorem c_X5_copy_ok12 (aS : Nat → Nat) (aE : Nat → Nat) (la : Int32) (aW : Nat → Nat) (n : Nat) (cl : Nat) (th : Nat → Nat) (ki : Nat → Nat) (va : Nat → Nat) (re : Nat → Nat) (fi : Nat → Nat) (aB : Nat → Nat) (bt : Nat → Nat) (bs : Nat) (aC : Nat → Nat) (to : Nat → Prop) (co : Nat → Nat) (ke : Nat → Int32) (nu : Nat → Int32) (fw : Nat → Nat) (aH : Nat → Nat) (lt : Nat → Option Nat) (tr : Nat → Nat) (sh : Nat → Nat) (cr : Nat → Nat) (ct : Nat → Nat) (cu : Nat → Nat) (ve : Nat → Nat) (ta : Nat → Nat) (ch : Nat) (aT : Nat → Nat) (lt2 : Nat → Option Nat) (tr2 : Nat → Nat) (sh2 : Nat → Nat) (cr2 : Nat → Nat) (ct2 : Nat → Nat) (cu2 : Nat → Nat) (ve2 : Nat → Nat) (ta2 : Nat → Nat) (ch2 : Nat) (lo : Nat → Prop) (fo : Nat → Nat) (si : Nat → Nat) (it : Nat → Nat → Int32) (i : Nat) (j : Nat) (k : Nat) (J : IW n cl th ki va re fi) (S : SW n cl re fi) (B9 : (∀ j, bt j ≤ 255) ∧ bs ≤ 216) (C9 : (∀ j, co j ≤ 400) ∧ (∀ j, fw j ≤ 15)) (H9 : IHd lt tr sh cr ct cu ve ta ch) (U9 : IHd lt2 tr2 sh2 cr2 ct2 cu2 ve2 ta2 ch2) (E9 : (∀ j, fo j ≤ 2) ∧ (∀ j, si j ≤ 60)) (hf9 : ¬ (lo 1 ∨ lo 2)) (hc9 : fo 1 = fo 2) (hi9 : i + k ≤ si 1) (hj9 : j + k ≤ si 2) : CM l D (TY cI cZ cS) yX5_copy cX5_copy 8 (some .int) 1 [.ref (aS 0), .int (nI 1), .int (nI i), .int (nI 2), .int (nI j), .int (nI k)] ((wS cS aS (aW 0) (aB 0) (aC 0) (aH 0) (aT 0) aE la) ++ ((wW cI aW n cl th ki va re fi) ++ ((wB cI aB bt bs) ++ ((wC cI cZ aC (aW 0) (aB 0) to co ke nu fw) ++ ((wH cI aH (aW 0) lt tr sh cr ct cu ve ta ch) ++ ((wH cI aT (aW 0) lt2 tr2 sh2 cr2 ct2 cu2 ve2 ta2 ch2) ++ (wE cI aE lo fo si it))))))) (some (.int (nI 1))) ((wS cS aS (aW 0) (aB 0) (aC 0) (aH 0) (aT 0) aE la) ++ ((wW cI aW n cl th ki va re fi) ++ ((wB cI aB bt bs) ++ ((wC cI cZ aC (aW 0) (aB 0) to co ke nu fw) ++ ((wH cI aH (aW 0) lt tr sh cr ct cu ve ta ch) ++ ((wH cI aT (aW 0) lt2 tr2 sh2 cr2 ct2 cu2 ve2 ta2 ch2) ++ (wE cI aE lo fo si (va_up it 2 (va_cpy (it 1) (it 2) i j k))))))))) := by
  refine CM.ofI (by decide +kernel) (Nat.le_of_ble_eq_true rfl) (nar_int _) ?_
  intro p e s m args below meth c Q A G K hA w hret ls hl
  obtain ⟨hx, hb, hml, hown, hts⟩ := id G
  obtain ⟨hn, hcl, hth, hki, hva, hre, hfi⟩ := id J
  obtain ⟨hbt, hbs⟩ := id B9
  obtain ⟨hco, hfw⟩ := id C9
  obtain ⟨hlt, htr, hsh, hcr, hct, hcu, hve, hta, hch⟩ := id H9
  obtain ⟨hlt2, htr2, hsh2, hcr2, hct2, hcu2, hve2, hta2, hch2⟩ := id U9
  obtain ⟨hfo, hsi⟩ := id E9
  have hs9 := hsi 1
  have ht9 := hsi 2
  have hq1 := hfo 1
  have hq2 := hfo 2
  have hl : lv_has ls 8 [(0, .ref (aS 0)), (1, .int (nI 1)), (2, .int (nI i)), (3, .int (nI 2)), (4, .int (nI j)), (5, .int (nI k))] := hl
  refine lv_iload_n hx hb dX5_copy_0 rfl (lv_at hl 1 rfl) ?_
  refine callPS (rest := []) G K F_X5_isSheet (c_X5_isSheet (nI 1)) (va_P_nil D s.heap) ml_X5_121 (by decide) (by decide) rfl hl.1 (Nat.le_of_ble_eq_true rfl) dX5_copy_1 ?_
  refine b_eq G (tgt := 14) dX5_copy_4 (by decide) (fun c4 => ?_) (fun c4 => ?_)
  · -- taken at 4
    exact absurd ⟨1, by decide, rfl⟩ c4
  · -- not taken at 4
    refine lv_iload_n hx hb dX5_copy_7 rfl (lv_at hl 3 rfl) ?_
    refine callPS (rest := []) G K F_X5_isSheet (c_X5_isSheet (nI 2)) (va_P_nil D s.heap) ml_X5_121 (by decide) (by decide) rfl hl.1 (Nat.le_of_ble_eq_true rfl) dX5_copy_8 ?_
    refine b_ne G (tgt := 17) dX5_copy_11 (by decide) (fun c11 => ?_) (fun c11 => ?_)
    · -- taken at 11
      refine lv_aload_n hx hb dX5_copy_17 rfl (lv_at hl 0 rfl) ?_
      refine f_get G K w.1 inX5 0 (ci := 5) rfl rfl 5 rfl fl_X5_46 (v := .ref (aS 1)) rfl dX5_copy_18 ?_
      refine lv_iload_n hx hb dX5_copy_21 rfl (lv_at hl 1 rfl) ?_
      refine a_ldR G K w.1 1 2 (a := (aS 1)) rfl rfl (by omega) (by decide) dX5_copy_22 ?_
      refine lv_astore (lv' := [(6, .ref (aE 1)), (0, .ref (aS 0)), (1, .int (nI 1)), (2, .int (nI i)), (3, .int (nI 2)), (4, .int (nI j)), (5, .int (nI k))]) hx hb dX5_copy_23 hl (by decide) rfl (fun ls hl => ?_)
      refine lv_aload_n hx hb dX5_copy_25 rfl (lv_at hl 1 rfl) ?_
      refine f_get G K w.1 inX5 0 (ci := 5) rfl rfl 5 rfl fl_X5_46 (v := .ref (aS 1)) rfl dX5_copy_26 ?_
      refine lv_iload_n hx hb dX5_copy_29 rfl (lv_at hl 4 rfl) ?_
      refine a_ldR G K w.1 1 2 (a := (aS 1)) rfl rfl (by omega) (by decide) dX5_copy_30 ?_
      refine lv_astore (lv' := [(7, .ref (aE 2)), (6, .ref (aE 1)), (0, .ref (aS 0)), (1, .int (nI 1)), (2, .int (nI i)), (3, .int (nI 2)), (4, .int (nI j)), (5, .int (nI k))]) hx hb dX5_copy_31 hl (by decide) rfl (fun ls hl => ?_)
      refine lv_aload hx hb dX5_copy_33 (lv_at hl 1 rfl) ?_
      refine f_get G K w.1 inX3 35 (ci := 3) rfl rfl 1 rfl fl_X5_124 (v := .int (bI (lo 1))) rfl dX5_copy_35 ?_
      refine b_ne G (tgt := 49) dX5_copy_38 (by decide) (fun c38 => ?_) (fun c38 => ?_)
      · -- taken at 38
        exact absurd (Or.inl c38) hf9
      · -- not taken at 38
        refine lv_aload hx hb dX5_copy_41 (lv_at hl 0 rfl) ?_
        refine f_get G K w.1 inX3 36 (ci := 3) rfl rfl 1 rfl fl_X5_124 (v := .int (bI (lo 2))) rfl dX5_copy_43 ?_
        refine b_eq G (tgt := 55) dX5_copy_46 (by decide) (fun c46 => ?_) (fun c46 => ?_)
        · -- taken at 46
          refine lv_aload hx hb dX5_copy_55 (lv_at hl 1 rfl) ?_
          refine f_get G K w.1 inX3 35 (ci := 3) rfl rfl 2 rfl fl_X5_247 (v := .int (nI (fo 1))) rfl dX5_copy_57 ?_
          refine lv_aload hx hb dX5_copy_60 (lv_at hl 0 rfl) ?_
          refine f_get G K w.1 inX3 36 (ci := 3) rfl rfl 2 rfl fl_X5_247 (v := .int (nI (fo 2))) rfl dX5_copy_62 ?_
          refine c_eq G (tgt := 74) (by omega) (by omega) dX5_copy_65 (by decide) (fun c65 => ?_) (fun c65 => ?_)
          · -- taken at 65
            refine lv_aload hx hb dX5_copy_74 (lv_at hl 1 rfl) ?_
            refine lv_iload_n hx hb dX5_copy_76 rfl (lv_at hl 4 rfl) ?_
            refine lv_iload hx hb dX5_copy_77 (lv_at hl 7 rfl) ?_
            refine callPV (As := [.int (nI i), .int (nI k)]) (rest := []) (q0 := 0) (ci := 3) G K F_X3_hasItems (c_X3_hasItems (aE 1) (aE 5) (lo 1) (fo 1) (si 1) (it 1) (nI i) (nI k) ⟨hfo 1, hsi 1⟩) (w.1.sub (ws' := (wT cI (aE 1) (aE 5) (lo 1) (fo 1) (si 1) (it 1))) [35, 39] rfl) ml_X5_250 rfl rfl rfl (by decide) (by decide) rfl hl.1 (Nat.le_of_ble_eq_true rfl) dX5_copy_79 ?_
            refine b_eq G (tgt := 97) dX5_copy_82 (by decide) (fun c82 => ?_) (fun c82 => ?_)
            · -- taken at 82
              exact absurd ⟨i, k, hi9, rfl, rfl⟩ c82
            · -- not taken at 82
              refine lv_aload hx hb dX5_copy_85 (lv_at hl 0 rfl) ?_
              refine lv_iload hx hb dX5_copy_87 (lv_at hl 6 rfl) ?_
              refine lv_iload hx hb dX5_copy_89 (lv_at hl 7 rfl) ?_
              refine callPV (As := [.int (nI j), .int (nI k)]) (rest := []) (q0 := 0) (ci := 3) G K F_X3_hasItems (c_X3_hasItems (aE 2) (aE 6) (lo 2) (fo 2) (si 2) (it 2) (nI j) (nI k) ⟨hfo 2, hsi 2⟩) (w.1.sub (ws' := (wT cI (aE 2) (aE 6) (lo 2) (fo 2) (si 2) (it 2))) [36, 40] rfl) ml_X5_250 rfl rfl rfl (by decide) (by decide) rfl hl.1 (Nat.le_of_ble_eq_true rfl) dX5_copy_91 ?_
              refine b_ne G (tgt := 103) dX5_copy_94 (by decide) (fun c94 => ?_) (fun c94 => ?_)
              · -- taken at 94
                refine lv_aload hx hb dX5_copy_103 (lv_at hl 1 rfl) ?_
                refine f_get G K w.1 inX3 35 (ci := 3) rfl rfl 0 rfl fl_X5_132 (v := .ref (aE 5)) rfl dX5_copy_105 ?_
                refine lv_iload_n hx hb dX5_copy_108 rfl (lv_at hl 4 rfl) ?_
                refine lv_aload hx hb dX5_copy_109 (lv_at hl 0 rfl) ?_
                refine f_get G K w.1 inX3 36 (ci := 3) rfl rfl 0 rfl fl_X5_132 (v := .ref (aE 6)) rfl dX5_copy_111 ?_
                refine lv_iload hx hb dX5_copy_114 (lv_at hl 6 rfl) ?_
                refine lv_iload hx hb dX5_copy_116 (lv_at hl 7 rfl) ?_
                refine acp (f := (it 1)) (g := (it 2)) (sp := i) (dp := j) (k := k) G K w (hml.trans hl.1.symm) ml_X5_253 39 40 rfl rfl (by omega) (by omega) (by decide) (Nat.le_of_ble_eq_true rfl) (Nat.le_of_ble_eq_true rfl) dX5_copy_118 (w2 := ((wS cS aS (aW 0) (aB 0) (aC 0) (aH 0) (aT 0) aE la) ++ ((wW cI aW n cl th ki va re fi) ++ ((wB cI aB bt bs) ++ ((wC cI cZ aC (aW 0) (aB 0) to co ke nu fw) ++ ((wH cI aH (aW 0) lt tr sh cr ct cu ve ta ch) ++ ((wH cI aT (aW 0) lt2 tr2 sh2 cr2 ct2 cu2 ve2 ta2 ch2) ++ (wE cI aE lo fo si (va_up it 2 (va_cpy (it 1) (it 2) i j k)))))))))) rfl (fun Hp1 lo2 w => ?_)
                refine lv_iconst (v := (nI 1)) hx hb dX5_copy_121 (by decide) ?_
                exact hret _ _ _ _ _ _ rfl rfl w dX5_copy_122
              · -- not taken at 94
                exact absurd ⟨j, k, hj9, rfl, rfl⟩ c94
          · -- not taken at 65
            exact absurd hc9 c65
        · -- not taken at 46
          exact absurd (Or.inr c46) hf9
    · -- not taken at 11
      exact absurd ⟨2, by decide, rfl⟩ c11
set_option maxHeartbeats 4000000 in
set_option maxRecDepth 100000 in
theorem c_X5_copy_nul13 (aS : Nat → Nat) (aE : Nat → Nat) (la : Int32) (aW : Nat → Nat) (n : Nat) (cl : Nat) (th : Nat → Nat) (ki : Nat → Nat) (va : Nat → Nat) (re : Nat → Nat) (fi : Nat → Nat) (aB : Nat → Nat) (bt : Nat → Nat) (bs : Nat) (aC : Nat → Nat) (to : Nat → Prop) (co : Nat → Nat) (ke : Nat → Int32) (nu : Nat → Int32) (fw : Nat → Nat) (aH : Nat → Nat) (lt : Nat → Option Nat) (tr : Nat → Nat) (sh : Nat → Nat) (cr : Nat → Nat) (ct : Nat → Nat) (cu : Nat → Nat) (ve : Nat → Nat) (ta : Nat → Nat) (ch : Nat) (aT : Nat → Nat) (lt2 : Nat → Option Nat) (tr2 : Nat → Nat) (sh2 : Nat → Nat) (cr2 : Nat → Nat) (ct2 : Nat → Nat) (cu2 : Nat → Nat) (ve2 : Nat → Nat) (ta2 : Nat → Nat) (ch2 : Nat) (lo : Nat → Prop) (fo : Nat → Nat) (si : Nat → Nat) (it : Nat → Nat → Int32) (i : Int32) (j : Int32) (k : Int32) (J : IW n cl th ki va re fi) (S : SW n cl re fi) (B9 : (∀ j, bt j ≤ 255) ∧ bs ≤ 216) (C9 : (∀ j, co j ≤ 400) ∧ (∀ j, fw j ≤ 15)) (H9 : IHd lt tr sh cr ct cu ve ta ch) (U9 : IHd lt2 tr2 sh2 cr2 ct2 cu2 ve2 ta2 ch2) (E9 : (∀ j, fo j ≤ 2) ∧ (∀ j, si j ≤ 60)) (hf9 : lo 1 ∨ lo 3) : CM l D (TY cI cZ cS) yX5_copy cX5_copy 8 (some .int) 1 [.ref (aS 0), .int (nI 1), .int i, .int (nI 3), .int j, .int k] ((wS cS aS (aW 0) (aB 0) (aC 0) (aH 0) (aT 0) aE la) ++ ((wW cI aW n cl th ki va re fi) ++ ((wB cI aB bt bs) ++ ((wC cI cZ aC (aW 0) (aB 0) to co ke nu fw) ++ ((wH cI aH (aW 0) lt tr sh cr ct cu ve ta ch) ++ ((wH cI aT (aW 0) lt2 tr2 sh2 cr2 ct2 cu2 ve2 ta2 ch2) ++ (wE cI aE lo fo si it))))))) (some (.int ((-10) - (nI 1)))) ((wS cS aS (aW 0) (aB 0) (aC 0) (aH 0) (aT 0) aE (nI 1)) ++ ((wW cI aW n cl th ki va re fi) ++ ((wB cI aB bt bs) ++ ((wC cI cZ aC (aW 0) (aB 0) to co ke nu fw) ++ ((wH cI aH (aW 0) lt tr sh cr ct cu ve ta ch) ++ ((wH cI aT (aW 0) lt2 tr2 sh2 cr2 ct2 cu2 ve2 ta2 ch2) ++ (wE cI aE lo fo si it))))))) := by
  refine CM.ofI (by decide +kernel) (Nat.le_of_ble_eq_true rfl) (nar_int _) ?_
  intro p e s m args below meth c Q A G K hA w hret ls hl
  obtain ⟨hx, hb, hml, hown, hts⟩ := id G
  obtain ⟨hn, hcl, hth, hki, hva, hre, hfi⟩ := id J
  obtain ⟨hbt, hbs⟩ := id B9
  obtain ⟨hco, hfw⟩ := id C9
  obtain ⟨hlt, htr, hsh, hcr, hct, hcu, hve, hta, hch⟩ := id H9
  obtain ⟨hlt2, htr2, hsh2, hcr2, hct2, hcu2, hve2, hta2, hch2⟩ := id U9
  obtain ⟨hfo, hsi⟩ := id E9
  have hl : lv_has ls 8 [(0, .ref (aS 0)), (1, .int (nI 1)), (2, .int i), (3, .int (nI 3)), (4, .int j), (5, .int k)] := hl
  refine lv_iload_n hx hb dX5_copy_0 rfl (lv_at hl 1 rfl) ?_
  refine callPS (rest := []) G K F_X5_isSheet (c_X5_isSheet (nI 1)) (va_P_nil D s.heap) ml_X5_121 (by decide) (by decide) rfl hl.1 (Nat.le_of_ble_eq_true rfl) dX5_copy_1 ?_
  refine b_eq G (tgt := 14) dX5_copy_4 (by decide) (fun c4 => ?_) (fun c4 => ?_)
  · -- taken at 4
    exact absurd ⟨1, by decide, rfl⟩ c4
  · -- not taken at 4
    refine lv_iload_n hx hb dX5_copy_7 rfl (lv_at hl 3 rfl) ?_
    refine callPS (rest := []) G K F_X5_isSheet (c_X5_isSheet (nI 3)) (va_P_nil D s.heap) ml_X5_121 (by decide) (by decide) rfl hl.1 (Nat.le_of_ble_eq_true rfl) dX5_copy_8 ?_
    refine b_ne G (tgt := 17) dX5_copy_11 (by decide) (fun c11 => ?_) (fun c11 => ?_)
    · -- taken at 11
      refine lv_aload_n hx hb dX5_copy_17 rfl (lv_at hl 0 rfl) ?_
      refine f_get G K w.1 inX5 0 (ci := 5) rfl rfl 5 rfl fl_X5_46 (v := .ref (aS 1)) rfl dX5_copy_18 ?_
      refine lv_iload_n hx hb dX5_copy_21 rfl (lv_at hl 1 rfl) ?_
      refine a_ldR G K w.1 1 2 (a := (aS 1)) rfl rfl (by omega) (by decide) dX5_copy_22 ?_
      refine lv_astore (lv' := [(6, .ref (aE 1)), (0, .ref (aS 0)), (1, .int (nI 1)), (2, .int i), (3, .int (nI 3)), (4, .int j), (5, .int k)]) hx hb dX5_copy_23 hl (by decide) rfl (fun ls hl => ?_)
      refine lv_aload_n hx hb dX5_copy_25 rfl (lv_at hl 1 rfl) ?_
      refine f_get G K w.1 inX5 0 (ci := 5) rfl rfl 5 rfl fl_X5_46 (v := .ref (aS 1)) rfl dX5_copy_26 ?_
      refine lv_iload_n hx hb dX5_copy_29 rfl (lv_at hl 4 rfl) ?_
      refine a_ldR G K w.1 1 2 (a := (aS 1)) rfl rfl (by omega) (by decide) dX5_copy_30 ?_
      refine lv_astore (lv' := [(7, .ref (aE 3)), (6, .ref (aE 1)), (0, .ref (aS 0)), (1, .int (nI 1)), (2, .int i), (3, .int (nI 3)), (4, .int j), (5, .int k)]) hx hb dX5_copy_31 hl (by decide) rfl (fun ls hl => ?_)
      refine lv_aload hx hb dX5_copy_33 (lv_at hl 1 rfl) ?_
      refine f_get G K w.1 inX3 35 (ci := 3) rfl rfl 1 rfl fl_X5_124 (v := .int (bI (lo 1))) rfl dX5_copy_35 ?_
      refine b_ne G (tgt := 49) dX5_copy_38 (by decide) (fun c38 => ?_) (fun c38 => ?_)
      · -- taken at 38
        refine lv_aload_n hx hb dX5_copy_49 rfl (lv_at hl 2 rfl) ?_
        refine lv_iconst (v := (nI 1)) hx hb dX5_copy_50 (by decide) ?_
        refine callMF (As := [.int (nI 1)]) (rest := []) (q0 := 0) (ci := 5) (ws' := ((wS cS aS (aW 0) (aB 0) (aC 0) (aH 0) (aT 0) aE (nI 1)) ++ ((wW cI aW n cl th ki va re fi) ++ ((wB cI aB bt bs) ++ ((wC cI cZ aC (aW 0) (aB 0) to co ke nu fw) ++ ((wH cI aH (aW 0) lt tr sh cr ct cu ve ta ch) ++ ((wH cI aT (aW 0) lt2 tr2 sh2 cr2 ct2 cu2 ve2 ta2 ch2) ++ (wE cI aE lo fo si it)))))))) G K hA w F_X5_find (c_X5_find aS aE la aW n cl th ki va re fi aB bt bs aC to co ke nu fw aH lt tr sh cr ct cu ve ta ch aT lt2 tr2 sh2 cr2 ct2 cu2 ve2 ta2 ch2 lo fo si it 1 J S B9 C9 H9 U9 E9) ml_X5_128 rfl rfl rfl (by decide) (by decide) rfl hl.1 (Nat.le_of_ble_eq_true rfl) dX5_copy_51 (fun Hp1 lo2 w => ?_)
        exact hret _ _ _ _ _ _ rfl rfl w dX5_copy_54
      · -- not taken at 38
        refine lv_aload hx hb dX5_copy_41 (lv_at hl 0 rfl) ?_
        refine f_get G K w.1 inX3 37 (ci := 3) rfl rfl 1 rfl fl_X5_124 (v := .int (bI (lo 3))) rfl dX5_copy_43 ?_
        refine b_eq G (tgt := 55) dX5_copy_46 (by decide) (fun c46 => ?_) (fun c46 => ?_)
        · -- taken at 46
          exact absurd hf9 (fun h => h.elim c38 c46)
        · -- not taken at 46
          refine lv_aload_n hx hb dX5_copy_49 rfl (lv_at hl 2 rfl) ?_
          refine lv_iconst (v := (nI 1)) hx hb dX5_copy_50 (by decide) ?_
          refine callMF (As := [.int (nI 1)]) (rest := []) (q0 := 0) (ci := 5) (ws' := ((wS cS aS (aW 0) (aB 0) (aC 0) (aH 0) (aT 0) aE (nI 1)) ++ ((wW cI aW n cl th ki va re fi) ++ ((wB cI aB bt bs) ++ ((wC cI cZ aC (aW 0) (aB 0) to co ke nu fw) ++ ((wH cI aH (aW 0) lt tr sh cr ct cu ve ta ch) ++ ((wH cI aT (aW 0) lt2 tr2 sh2 cr2 ct2 cu2 ve2 ta2 ch2) ++ (wE cI aE lo fo si it)))))))) G K hA w F_X5_find (c_X5_find aS aE la aW n cl th ki va re fi aB bt bs aC to co ke nu fw aH lt tr sh cr ct cu ve ta ch aT lt2 tr2 sh2 cr2 ct2 cu2 ve2 ta2 ch2 lo fo si it 1 J S B9 C9 H9 U9 E9) ml_X5_128 rfl rfl rfl (by decide) (by decide) rfl hl.1 (Nat.le_of_ble_eq_true rfl) dX5_copy_51 (fun Hp3 lo4 w => ?_)
          exact hret _ _ _ _ _ _ rfl rfl w dX5_copy_54
    · -- not taken at 11
      exact absurd ⟨3, by decide, rfl⟩ c11
set_option maxHeartbeats 4000000 in
set_option maxRecDepth 100000 in
theorem c_X5_copy_sto13 (aS : Nat → Nat) (aE : Nat → Nat) (la : Int32) (aW : Nat → Nat) (n : Nat) (cl : Nat) (th : Nat → Nat) (ki : Nat → Nat) (va : Nat → Nat) (re : Nat → Nat) (fi : Nat → Nat) (aB : Nat → Nat) (bt : Nat → Nat) (bs : Nat) (aC : Nat → Nat) (to : Nat → Prop) (co : Nat → Nat) (ke : Nat → Int32) (nu : Nat → Int32) (fw : Nat → Nat) (aH : Nat → Nat) (lt : Nat → Option Nat) (tr : Nat → Nat) (sh : Nat → Nat) (cr : Nat → Nat) (ct : Nat → Nat) (cu : Nat → Nat) (ve : Nat → Nat) (ta : Nat → Nat) (ch : Nat) (aT : Nat → Nat) (lt2 : Nat → Option Nat) (tr2 : Nat → Nat) (sh2 : Nat → Nat) (cr2 : Nat → Nat) (ct2 : Nat → Nat) (cu2 : Nat → Nat) (ve2 : Nat → Nat) (ta2 : Nat → Nat) (ch2 : Nat) (lo : Nat → Prop) (fo : Nat → Nat) (si : Nat → Nat) (it : Nat → Nat → Int32) (i : Int32) (j : Int32) (k : Int32) (J : IW n cl th ki va re fi) (S : SW n cl re fi) (B9 : (∀ j, bt j ≤ 255) ∧ bs ≤ 216) (C9 : (∀ j, co j ≤ 400) ∧ (∀ j, fw j ≤ 15)) (H9 : IHd lt tr sh cr ct cu ve ta ch) (U9 : IHd lt2 tr2 sh2 cr2 ct2 cu2 ve2 ta2 ch2) (E9 : (∀ j, fo j ≤ 2) ∧ (∀ j, si j ≤ 60)) (hf9 : ¬ (lo 1 ∨ lo 3)) (hc9 : fo 1 ≠ fo 3) : CM l D (TY cI cZ cS) yX5_copy cX5_copy 8 (some .int) 1 [.ref (aS 0), .int (nI 1), .int i, .int (nI 3), .int j, .int k] ((wS cS aS (aW 0) (aB 0) (aC 0) (aH 0) (aT 0) aE la) ++ ((wW cI aW n cl th ki va re fi) ++ ((wB cI aB bt bs) ++ ((wC cI cZ aC (aW 0) (aB 0) to co ke nu fw) ++ ((wH cI aH (aW 0) lt tr sh cr ct cu ve ta ch) ++ ((wH cI aT (aW 0) lt2 tr2 sh2 cr2 ct2 cu2 ve2 ta2 ch2) ++ (wE cI aE lo fo si it))))))) (some (.int ((-10) - (nI 4)))) ((wS cS aS (aW 0) (aB 0) (aC 0) (aH 0) (aT 0) aE (nI 4)) ++ ((wW cI aW n cl th ki va re fi) ++ ((wB cI aB bt bs) ++ ((wC cI cZ aC (aW 0) (aB 0) to co ke nu fw) ++ ((wH cI aH (aW 0) lt tr sh cr ct cu ve ta ch) ++ ((wH cI aT (aW 0) lt2 tr2 sh2 cr2 ct2 cu2 ve2 ta2 ch2) ++ (wE cI aE lo fo si it))))))) := by
  refine CM.ofI (by decide +kernel) (Nat.le_of_ble_eq_true rfl) (nar_int _) ?_
  intro p e s m args below meth c Q A G K hA w hret ls hl
  obtain ⟨hx, hb, hml, hown, hts⟩ := id G
  obtain ⟨hn, hcl, hth, hki, hva, hre, hfi⟩ := id J
  obtain ⟨hbt, hbs⟩ := id B9
  obtain ⟨hco, hfw⟩ := id C9
  obtain ⟨hlt, htr, hsh, hcr, hct, hcu, hve, hta, hch⟩ := id H9
  obtain ⟨hlt2, htr2, hsh2, hcr2, hct2, hcu2, hve2, hta2, hch2⟩ := id U9
  obtain ⟨hfo, hsi⟩ := id E9
  have hq1 := hfo 1
  have hq2 := hfo 3
  have hl : lv_has ls 8 [(0, .ref (aS 0)), (1, .int (nI 1)), (2, .int i), (3, .int (nI 3)), (4, .int j), (5, .int k)] := hl
  refine lv_iload_n hx hb dX5_copy_0 rfl (lv_at hl 1 rfl) ?_
  refine callPS (rest := []) G K F_X5_isSheet (c_X5_isSheet (nI 1)) (va_P_nil D s.heap) ml_X5_121 (by decide) (by decide) rfl hl.1 (Nat.le_of_ble_eq_true rfl) dX5_copy_1 ?_
  refine b_eq G (tgt := 14) dX5_copy_4 (by decide) (fun c4 => ?_) (fun c4 => ?_)
  · -- taken at 4
    exact absurd ⟨1, by decide, rfl⟩ c4
  · -- not taken at 4
    refine lv_iload_n hx hb dX5_copy_7 rfl (lv_at hl 3 rfl) ?_
    refine callPS (rest := []) G K F_X5_isSheet (c_X5_isSheet (nI 3)) (va_P_nil D s.heap) ml_X5_121 (by decide) (by decide) rfl hl.1 (Nat.le_of_ble_eq_true rfl) dX5_copy_8 ?_
    refine b_ne G (tgt := 17) dX5_copy_11 (by decide) (fun c11 => ?_) (fun c11 => ?_)
    · -- taken at 11
      refine lv_aload_n hx hb dX5_copy_17 rfl (lv_at hl 0 rfl) ?_
      refine f_get G K w.1 inX5 0 (ci := 5) rfl rfl 5 rfl fl_X5_46 (v := .ref (aS 1)) rfl dX5_copy_18 ?_
      refine lv_iload_n hx hb dX5_copy_21 rfl (lv_at hl 1 rfl) ?_
      refine a_ldR G K w.1 1 2 (a := (aS 1)) rfl rfl (by omega) (by decide) dX5_copy_22 ?_
      refine lv_astore (lv' := [(6, .ref (aE 1)), (0, .ref (aS 0)), (1, .int (nI 1)), (2, .int i), (3, .int (nI 3)), (4, .int j), (5, .int k)]) hx hb dX5_copy_23 hl (by decide) rfl (fun ls hl => ?_)
      refine lv_aload_n hx hb dX5_copy_25 rfl (lv_at hl 1 rfl) ?_
      refine f_get G K w.1 inX5 0 (ci := 5) rfl rfl 5 rfl fl_X5_46 (v := .ref (aS 1)) rfl dX5_copy_26 ?_
      refine lv_iload_n hx hb dX5_copy_29 rfl (lv_at hl 4 rfl) ?_
      refine a_ldR G K w.1 1 2 (a := (aS 1)) rfl rfl (by omega) (by decide) dX5_copy_30 ?_
      refine lv_astore (lv' := [(7, .ref (aE 3)), (6, .ref (aE 1)), (0, .ref (aS 0)), (1, .int (nI 1)), (2, .int i), (3, .int (nI 3)), (4, .int j), (5, .int k)]) hx hb dX5_copy_31 hl (by decide) rfl (fun ls hl => ?_)
      refine lv_aload hx hb dX5_copy_33 (lv_at hl 1 rfl) ?_
      refine f_get G K w.1 inX3 35 (ci := 3) rfl rfl 1 rfl fl_X5_124 (v := .int (bI (lo 1))) rfl dX5_copy_35 ?_
      refine b_ne G (tgt := 49) dX5_copy_38 (by decide) (fun c38 => ?_) (fun c38 => ?_)
      · -- taken at 38
        exact absurd (Or.inl c38) hf9
      · -- not taken at 38
        refine lv_aload hx hb dX5_copy_41 (lv_at hl 0 rfl) ?_
        refine f_get G K w.1 inX3 37 (ci := 3) rfl rfl 1 rfl fl_X5_124 (v := .int (bI (lo 3))) rfl dX5_copy_43 ?_
        refine b_eq G (tgt := 55) dX5_copy_46 (by decide) (fun c46 => ?_) (fun c46 => ?_)
        · -- taken at 46
          refine lv_aload hx hb dX5_copy_55 (lv_at hl 1 rfl) ?_
          refine f_get G K w.1 inX3 35 (ci := 3) rfl rfl 2 rfl fl_X5_247 (v := .int (nI (fo 1))) rfl dX5_copy_57 ?_
          refine lv_aload hx hb dX5_copy_60 (lv_at hl 0 rfl) ?_
          refine f_get G K w.1 inX3 37 (ci := 3) rfl rfl 2 rfl fl_X5_247 (v := .int (nI (fo 3))) rfl dX5_copy_62 ?_
          refine c_eq G (tgt := 74) (by omega) (by omega) dX5_copy_65 (by decide) (fun c65 => ?_) (fun c65 => ?_)
          · -- taken at 65
            exact absurd c65 hc9
          · -- not taken at 65
            refine lv_aload_n hx hb dX5_copy_68 rfl (lv_at hl 2 rfl) ?_
            refine lv_iconst (v := (nI 4)) hx hb dX5_copy_69 (by decide) ?_
            refine callMF (As := [.int (nI 4)]) (rest := []) (q0 := 0) (ci := 5) (ws' := ((wS cS aS (aW 0) (aB 0) (aC 0) (aH 0) (aT 0) aE (nI 4)) ++ ((wW cI aW n cl th ki va re fi) ++ ((wB cI aB bt bs) ++ ((wC cI cZ aC (aW 0) (aB 0) to co ke nu fw) ++ ((wH cI aH (aW 0) lt tr sh cr ct cu ve ta ch) ++ ((wH cI aT (aW 0) lt2 tr2 sh2 cr2 ct2 cu2 ve2 ta2 ch2) ++ (wE cI aE lo fo si it)))))))) G K hA w F_X5_find (c_X5_find aS aE la aW n cl th ki va re fi aB bt bs aC to co ke nu fw aH lt tr sh cr ct cu ve ta ch aT lt2 tr2 sh2 cr2 ct2 cu2 ve2 ta2 ch2 lo fo si it 4 J S B9 C9 H9 U9 E9) ml_X5_128 rfl rfl rfl (by decide) (by decide) rfl hl.1 (Nat.le_of_ble_eq_true rfl) dX5_copy_70 (fun Hp1 lo2 w => ?_)
            exact hret _ _ _ _ _ _ rfl rfl w dX5_copy_73
        · -- not taken at 46
          exact absurd (Or.inr c46) hf9
    · -- not taken at 11
      exact absurd ⟨3, by decide, rfl⟩ c11
set_option maxHeartbeats 4000000 in
set_option maxRecDepth 100000 in
theorem c_X5_copy_idx13 (aS : Nat → Nat) (aE : Nat → Nat) (la : Int32) (aW : Nat → Nat) (n : Nat) (cl : Nat) (th : Nat → Nat) (ki : Nat → Nat) (va : Nat → Nat) (re : Nat → Nat) (fi : Nat → Nat) (aB : Nat → Nat) (bt : Nat → Nat) (bs : Nat) (aC : Nat → Nat) (to : Nat → Prop) (co : Nat → Nat) (ke : Nat → Int32) (nu : Nat → Int32) (fw : Nat → Nat) (aH : Nat → Nat) (lt : Nat → Option Nat) (tr : Nat → Nat) (sh : Nat → Nat) (cr : Nat → Nat) (ct : Nat → Nat) (cu : Nat → Nat) (ve : Nat → Nat) (ta : Nat → Nat) (ch : Nat) (aT : Nat → Nat) (lt2 : Nat → Option Nat) (tr2 : Nat → Nat) (sh2 : Nat → Nat) (cr2 : Nat → Nat) (ct2 : Nat → Nat) (cu2 : Nat → Nat) (ve2 : Nat → Nat) (ta2 : Nat → Nat) (ch2 : Nat) (lo : Nat → Prop) (fo : Nat → Nat) (si : Nat → Nat) (it : Nat → Nat → Int32) (i : Int32) (j : Int32) (k : Int32) (J : IW n cl th ki va re fi) (S : SW n cl re fi) (B9 : (∀ j, bt j ≤ 255) ∧ bs ≤ 216) (C9 : (∀ j, co j ≤ 400) ∧ (∀ j, fw j ≤ 15)) (H9 : IHd lt tr sh cr ct cu ve ta ch) (U9 : IHd lt2 tr2 sh2 cr2 ct2 cu2 ve2 ta2 ch2) (E9 : (∀ j, fo j ≤ 2) ∧ (∀ j, si j ≤ 60)) (hf9 : ¬ (lo 1 ∨ lo 3)) (hc9 : fo 1 = fo 3) (hk9 : ¬ (okH (si 1) i k ∧ okH (si 3) j k)) : CM l D (TY cI cZ cS) yX5_copy cX5_copy 8 (some .int) 1 [.ref (aS 0), .int (nI 1), .int i, .int (nI 3), .int j, .int k] ((wS cS aS (aW 0) (aB 0) (aC 0) (aH 0) (aT 0) aE la) ++ ((wW cI aW n cl th ki va re fi) ++ ((wB cI aB bt bs) ++ ((wC cI cZ aC (aW 0) (aB 0) to co ke nu fw) ++ ((wH cI aH (aW 0) lt tr sh cr ct cu ve ta ch) ++ ((wH cI aT (aW 0) lt2 tr2 sh2 cr2 ct2 cu2 ve2 ta2 ch2) ++ (wE cI aE lo fo si it))))))) (some (.int ((-10) - (nI 2)))) ((wS cS aS (aW 0) (aB 0) (aC 0) (aH 0) (aT 0) aE (nI 2)) ++ ((wW cI aW n cl th ki va re fi) ++ ((wB cI aB bt bs) ++ ((wC cI cZ aC (aW 0) (aB 0) to co ke nu fw) ++ ((wH cI aH (aW 0) lt tr sh cr ct cu ve ta ch) ++ ((wH cI aT (aW 0) lt2 tr2 sh2 cr2 ct2 cu2 ve2 ta2 ch2) ++ (wE cI aE lo fo si it))))))) := by
  refine CM.ofI (by decide +kernel) (Nat.le_of_ble_eq_true rfl) (nar_int _) ?_
  intro p e s m args below meth c Q A G K hA w hret ls hl
  obtain ⟨hx, hb, hml, hown, hts⟩ := id G
  obtain ⟨hn, hcl, hth, hki, hva, hre, hfi⟩ := id J
  obtain ⟨hbt, hbs⟩ := id B9
  obtain ⟨hco, hfw⟩ := id C9
  obtain ⟨hlt, htr, hsh, hcr, hct, hcu, hve, hta, hch⟩ := id H9
  obtain ⟨hlt2, htr2, hsh2, hcr2, hct2, hcu2, hve2, hta2, hch2⟩ := id U9
  obtain ⟨hfo, hsi⟩ := id E9
  have hq1 := hfo 1
  have hq2 := hfo 3
  have hl : lv_has ls 8 [(0, .ref (aS 0)), (1, .int (nI 1)), (2, .int i), (3, .int (nI 3)), (4, .int j), (5, .int k)] := hl
  refine lv_iload_n hx hb dX5_copy_0 rfl (lv_at hl 1 rfl) ?_
  refine callPS (rest := []) G K F_X5_isSheet (c_X5_isSheet (nI 1)) (va_P_nil D s.heap) ml_X5_121 (by decide) (by decide) rfl hl.1 (Nat.le_of_ble_eq_true rfl) dX5_copy_1 ?_
  refine b_eq G (tgt := 14) dX5_copy_4 (by decide) (fun c4 => ?_) (fun c4 => ?_)
  · -- taken at 4
    exact absurd ⟨1, by decide, rfl⟩ c4
  · -- not taken at 4
    refine lv_iload_n hx hb dX5_copy_7 rfl (lv_at hl 3 rfl) ?_
    refine callPS (rest := []) G K F_X5_isSheet (c_X5_isSheet (nI 3)) (va_P_nil D s.heap) ml_X5_121 (by decide) (by decide) rfl hl.1 (Nat.le_of_ble_eq_true rfl) dX5_copy_8 ?_
    refine b_ne G (tgt := 17) dX5_copy_11 (by decide) (fun c11 => ?_) (fun c11 => ?_)
    · -- taken at 11
      refine lv_aload_n hx hb dX5_copy_17 rfl (lv_at hl 0 rfl) ?_
      refine f_get G K w.1 inX5 0 (ci := 5) rfl rfl 5 rfl fl_X5_46 (v := .ref (aS 1)) rfl dX5_copy_18 ?_
      refine lv_iload_n hx hb dX5_copy_21 rfl (lv_at hl 1 rfl) ?_
      refine a_ldR G K w.1 1 2 (a := (aS 1)) rfl rfl (by omega) (by decide) dX5_copy_22 ?_
      refine lv_astore (lv' := [(6, .ref (aE 1)), (0, .ref (aS 0)), (1, .int (nI 1)), (2, .int i), (3, .int (nI 3)), (4, .int j), (5, .int k)]) hx hb dX5_copy_23 hl (by decide) rfl (fun ls hl => ?_)
      refine lv_aload_n hx hb dX5_copy_25 rfl (lv_at hl 1 rfl) ?_
      refine f_get G K w.1 inX5 0 (ci := 5) rfl rfl 5 rfl fl_X5_46 (v := .ref (aS 1)) rfl dX5_copy_26 ?_
      refine lv_iload_n hx hb dX5_copy_29 rfl (lv_at hl 4 rfl) ?_
      refine a_ldR G K w.1 1 2 (a := (aS 1)) rfl rfl (by omega) (by decide) dX5_copy_30 ?_
      refine lv_astore (lv' := [(7, .ref (aE 3)), (6, .ref (aE 1)), (0, .ref (aS 0)), (1, .int (nI 1)), (2, .int i), (3, .int (nI 3)), (4, .int j), (5, .int k)]) hx hb dX5_copy_31 hl (by decide) rfl (fun ls hl => ?_)
      refine lv_aload hx hb dX5_copy_33 (lv_at hl 1 rfl) ?_
      refine f_get G K w.1 inX3 35 (ci := 3) rfl rfl 1 rfl fl_X5_124 (v := .int (bI (lo 1))) rfl dX5_copy_35 ?_
      refine b_ne G (tgt := 49) dX5_copy_38 (by decide) (fun c38 => ?_) (fun c38 => ?_)
      · -- taken at 38
        exact absurd (Or.inl c38) hf9
      · -- not taken at 38
        refine lv_aload hx hb dX5_copy_41 (lv_at hl 0 rfl) ?_
        refine f_get G K w.1 inX3 37 (ci := 3) rfl rfl 1 rfl fl_X5_124 (v := .int (bI (lo 3))) rfl dX5_copy_43 ?_
        refine b_eq G (tgt := 55) dX5_copy_46 (by decide) (fun c46 => ?_) (fun c46 => ?_)
        · -- taken at 46
          refine lv_aload hx hb dX5_copy_55 (lv_at hl 1 rfl) ?_
          refine f_get G K w.1 inX3 35 (ci := 3) rfl rfl 2 rfl fl_X5_247 (v := .int (nI (fo 1))) rfl dX5_copy_57 ?_
          refine lv_aload hx hb dX5_copy_60 (lv_at hl 0 rfl) ?_
          refine f_get G K w.1 inX3 37 (ci := 3) rfl rfl 2 rfl fl_X5_247 (v := .int (nI (fo 3))) rfl dX5_copy_62 ?_
          refine c_eq G (tgt := 74) (by omega) (by omega) dX5_copy_65 (by decide) (fun c65 => ?_) (fun c65 => ?_)
          · -- taken at 65
            refine lv_aload hx hb dX5_copy_74 (lv_at hl 1 rfl) ?_
            refine lv_iload_n hx hb dX5_copy_76 rfl (lv_at hl 4 rfl) ?_
            refine lv_iload hx hb dX5_copy_77 (lv_at hl 7 rfl) ?_
            refine callPV (As := [.int i, .int k]) (rest := []) (q0 := 0) (ci := 3) G K F_X3_hasItems (c_X3_hasItems (aE 1) (aE 5) (lo 1) (fo 1) (si 1) (it 1) i k ⟨hfo 1, hsi 1⟩) (w.1.sub (ws' := (wT cI (aE 1) (aE 5) (lo 1) (fo 1) (si 1) (it 1))) [35, 39] rfl) ml_X5_250 rfl rfl rfl (by decide) (by decide) rfl hl.1 (Nat.le_of_ble_eq_true rfl) dX5_copy_79 ?_
            refine b_eq G (tgt := 97) dX5_copy_82 (by decide) (fun c82 => ?_) (fun c82 => ?_)
            · -- taken at 82
              refine lv_aload_n hx hb dX5_copy_97 rfl (lv_at hl 2 rfl) ?_
              refine lv_iconst (v := (nI 2)) hx hb dX5_copy_98 (by decide) ?_
              refine callMF (As := [.int (nI 2)]) (rest := []) (q0 := 0) (ci := 5) (ws' := ((wS cS aS (aW 0) (aB 0) (aC 0) (aH 0) (aT 0) aE (nI 2)) ++ ((wW cI aW n cl th ki va re fi) ++ ((wB cI aB bt bs) ++ ((wC cI cZ aC (aW 0) (aB 0) to co ke nu fw) ++ ((wH cI aH (aW 0) lt tr sh cr ct cu ve ta ch) ++ ((wH cI aT (aW 0) lt2 tr2 sh2 cr2 ct2 cu2 ve2 ta2 ch2) ++ (wE cI aE lo fo si it)))))))) G K hA w F_X5_find (c_X5_find aS aE la aW n cl th ki va re fi aB bt bs aC to co ke nu fw aH lt tr sh cr ct cu ve ta ch aT lt2 tr2 sh2 cr2 ct2 cu2 ve2 ta2 ch2 lo fo si it 2 J S B9 C9 H9 U9 E9) ml_X5_128 rfl rfl rfl (by decide) (by decide) rfl hl.1 (Nat.le_of_ble_eq_true rfl) dX5_copy_99 (fun Hp1 lo2 w => ?_)
              exact hret _ _ _ _ _ _ rfl rfl w dX5_copy_102
            · -- not taken at 82
              refine lv_aload hx hb dX5_copy_85 (lv_at hl 0 rfl) ?_
              refine lv_iload hx hb dX5_copy_87 (lv_at hl 6 rfl) ?_
              refine lv_iload hx hb dX5_copy_89 (lv_at hl 7 rfl) ?_
              refine callPV (As := [.int j, .int k]) (rest := []) (q0 := 0) (ci := 3) G K F_X3_hasItems (c_X3_hasItems (aE 3) (aE 7) (lo 3) (fo 3) (si 3) (it 3) j k ⟨hfo 3, hsi 3⟩) (w.1.sub (ws' := (wT cI (aE 3) (aE 7) (lo 3) (fo 3) (si 3) (it 3))) [37, 41] rfl) ml_X5_250 rfl rfl rfl (by decide) (by decide) rfl hl.1 (Nat.le_of_ble_eq_true rfl) dX5_copy_91 ?_
              refine b_ne G (tgt := 103) dX5_copy_94 (by decide) (fun c94 => ?_) (fun c94 => ?_)
              · -- taken at 94
                exact absurd ⟨c82, c94⟩ hk9
              · -- not taken at 94
                refine lv_aload_n hx hb dX5_copy_97 rfl (lv_at hl 2 rfl) ?_
                refine lv_iconst (v := (nI 2)) hx hb dX5_copy_98 (by decide) ?_
                refine callMF (As := [.int (nI 2)]) (rest := []) (q0 := 0) (ci := 5) (ws' := ((wS cS aS (aW 0) (aB 0) (aC 0) (aH 0) (aT 0) aE (nI 2)) ++ ((wW cI aW n cl th ki va re fi) ++ ((wB cI aB bt bs) ++ ((wC cI cZ aC (aW 0) (aB 0) to co ke nu fw) ++ ((wH cI aH (aW 0) lt tr sh cr ct cu ve ta ch) ++ ((wH cI aT (aW 0) lt2 tr2 sh2 cr2 ct2 cu2 ve2 ta2 ch2) ++ (wE cI aE lo fo si it)))))))) G K hA w F_X5_find (c_X5_find aS aE la aW n cl th ki va re fi aB bt bs aC to co ke nu fw aH lt tr sh cr ct cu ve ta ch aT lt2 tr2 sh2 cr2 ct2 cu2 ve2 ta2 ch2 lo fo si it 2 J S B9 C9 H9 U9 E9) ml_X5_128 rfl rfl rfl (by decide) (by decide) rfl hl.1 (Nat.le_of_ble_eq_true rfl) dX5_copy_99 (fun Hp3 lo4 w => ?_)
                exact hret _ _ _ _ _ _ rfl rfl w dX5_copy_102
          · -- not taken at 65
            exact absurd hc9 c65
        · -- not taken at 46
          exact absurd (Or.inr c46) hf9
    · -- not taken at 11
      exact absurd ⟨3, by decide, rfl⟩ c11
set_option maxHeartbeats 4000000 in
set_option maxRecDepth 100000 in
theorem c_X5_copy_ok13 (aS : Nat → Nat) (aE : Nat → Nat) (la : Int32) (aW : Nat → Nat) (n : Nat) (cl : Nat) (th : Nat → Nat) (ki : Nat → Nat) (va : Nat → Nat) (re : Nat → Nat) (fi : Nat → Nat) (aB : Nat → Nat) (bt : Nat → Nat) (bs : Nat) (aC : Nat → Nat) (to : Nat → Prop) (co : Nat → Nat) (ke : Nat → Int32) (nu : Nat → Int32) (fw : Nat → Nat) (aH : Nat → Nat) (lt : Nat → Option Nat) (tr : Nat → Nat) (sh : Nat → Nat) (cr : Nat → Nat) (ct : Nat → Nat) (cu : Nat → Nat) (ve : Nat → Nat) (ta : Nat → Nat) (ch : Nat) (aT : Nat → Nat) (lt2 : Nat → Option Nat) (tr2 : Nat → Nat) (sh2 : Nat → Nat) (cr2 : Nat → Nat) (ct2 : Nat → Nat) (cu2 : Nat → Nat) (ve2 : Nat → Nat) (ta2 : Nat → Nat) (ch2 : Nat) (lo : Nat → Prop) (fo : Nat → Nat) (si : Nat → Nat) (it : Nat → Nat → Int32) (i : Nat) (j : Nat) (k : Nat) (J : IW n cl th ki va re fi) (S : SW n cl re fi) (B9 : (∀ j, bt j ≤ 255) ∧ bs ≤ 216) (C9 : (∀ j, co j ≤ 400) ∧ (∀ j, fw j ≤ 15)) (H9 : IHd lt tr sh cr ct cu ve ta ch) (U9 : IHd lt2 tr2 sh2 cr2 ct2 cu2 ve2 ta2 ch2) (E9 : (∀ j, fo j ≤ 2) ∧ (∀ j, si j ≤ 60)) (hf9 : ¬ (lo 1 ∨ lo 3)) (hc9 : fo 1 = fo 3) (hi9 : i + k ≤ si 1) (hj9 : j + k ≤ si 3) : CM l D (TY cI cZ cS) yX5_copy cX5_copy 8 (some .int) 1 [.ref (aS 0), .int (nI 1), .int (nI i), .int (nI 3), .int (nI j), .int (nI k)] ((wS cS aS (aW 0) (aB 0) (aC 0) (aH 0) (aT 0) aE la) ++ ((wW cI aW n cl th ki va re fi) ++ ((wB cI aB bt bs) ++ ((wC cI cZ aC (aW 0) (aB 0) to co ke nu fw) ++ ((wH cI aH (aW 0) lt tr sh cr ct cu ve ta ch) ++ ((wH cI aT (aW 0) lt2 tr2 sh2 cr2 ct2 cu2 ve2 ta2 ch2) ++ (wE cI aE lo fo si it))))))) (some (.int (nI 1))) ((wS cS aS (aW 0) (aB 0) (aC 0) (aH 0) (aT 0) aE la) ++ ((wW cI aW n cl th ki va re fi) ++ ((wB cI aB bt bs) ++ ((wC cI cZ aC (aW 0) (aB 0) to co ke nu fw) ++ ((wH cI aH (aW 0) lt tr sh cr ct cu ve ta ch) ++ ((wH cI aT (aW 0) lt2 tr2 sh2 cr2 ct2 cu2 ve2 ta2 ch2) ++ (wE cI aE lo fo si (va_up it 3 (va_cpy (it 1) (it 3) i j k))))))))) := by
  refine CM.ofI (by decide +kernel) (Nat.le_of_ble_eq_true rfl) (nar_int _) ?_
  intro p e s m args below meth c Q A G K hA w hret ls hl
  obtain ⟨hx, hb, hml, hown, hts⟩ := id G
  obtain ⟨hn, hcl, hth, hki, hva, hre, hfi⟩ := id J
  obtain ⟨hbt, hbs⟩ := id B9
  obtain ⟨hco, hfw⟩ := id C9
  obtain ⟨hlt, htr, hsh, hcr, hct, hcu, hve, hta, hch⟩ := id H9
  obtain ⟨hlt2, htr2, hsh2, hcr2, hct2, hcu2, hve2, hta2, hch2⟩ := id U9
  obtain ⟨hfo, hsi⟩ := id E9
  have hs9 := hsi 1
  have ht9 := hsi 3
  have hq1 := hfo 1
  have hq2 := hfo 3
  have hl : lv_has ls 8 [(0, .ref (aS 0)), (1, .int (nI 1)), (2, .int (nI i)), (3, .int (nI 3)), (4, .int (nI j)), (5, .int (nI k))] := hl
  refine lv_iload_n hx hb dX5_copy_0 rfl (lv_at hl 1 rfl) ?_
  refine callPS (rest := []) G K F_X5_isSheet (c_X5_isSheet (nI 1)) (va_P_nil D s.heap) ml_X5_121 (by decide) (by decide) rfl hl.1 (Nat.le_of_ble_eq_true rfl) dX5_copy_1 ?_
  refine b_eq G (tgt := 14) dX5_copy_4 (by decide) (fun c4 => ?_) (fun c4 => ?_)
  · -- taken at 4
    exact absurd ⟨1, by decide, rfl⟩ c4
  · -- not taken at 4
    refine lv_iload_n hx hb dX5_copy_7 rfl (lv_at hl 3 rfl) ?_
    refine callPS (rest := []) G K F_X5_isSheet (c_X5_isSheet (nI 3)) (va_P_nil D s.heap) ml_X5_121 (by decide) (by decide) rfl hl.1 (Nat.le_of_ble_eq_true rfl) dX5_copy_8 ?_
    refine b_ne G (tgt := 17) dX5_copy_11 (by decide) (fun c11 => ?_) (fun c11 => ?_)
    · -- taken at 11
      refine lv_aload_n hx hb dX5_copy_17 rfl (lv_at hl 0 rfl) ?_
      refine f_get G K w.1 inX5 0 (ci := 5) rfl rfl 5 rfl fl_X5_46 (v := .ref (aS 1)) rfl dX5_copy_18 ?_
      refine lv_iload_n hx hb dX5_copy_21 rfl (lv_at hl 1 rfl) ?_
      refine a_ldR G K w.1 1 2 (a := (aS 1)) rfl rfl (by omega) (by decide) dX5_copy_22 ?_
      refine lv_astore (lv' := [(6, .ref (aE 1)), (0, .ref (aS 0)), (1, .int (nI 1)), (2, .int (nI i)), (3, .int (nI 3)), (4, .int (nI j)), (5, .int (nI k))]) hx hb dX5_copy_23 hl (by decide) rfl (fun ls hl => ?_)
      refine lv_aload_n hx hb dX5_copy_25 rfl (lv_at hl 1 rfl) ?_
      refine f_get G K w.1 inX5 0 (ci := 5) rfl rfl 5 rfl fl_X5_46 (v := .ref (aS 1)) rfl dX5_copy_26 ?_
      refine lv_iload_n hx hb dX5_copy_29 rfl (lv_at hl 4 rfl) ?_
      refine a_ldR G K w.1 1 2 (a := (aS 1)) rfl rfl (by omega) (by decide) dX5_copy_30 ?_
      refine lv_astore (lv' := [(7, .ref (aE 3)), (6, .ref (aE 1)), (0, .ref (aS 0)), (1, .int (nI 1)), (2, .int (nI i)), (3, .int (nI 3)), (4, .int (nI j)), (5, .int (nI k))]) hx hb dX5_copy_31 hl (by decide) rfl (fun ls hl => ?_)
      refine lv_aload hx hb dX5_copy_33 (lv_at hl 1 rfl) ?_
      refine f_get G K w.1 inX3 35 (ci := 3) rfl rfl 1 rfl fl_X5_124 (v := .int (bI (lo 1))) rfl dX5_copy_35 ?_
      refine b_ne G (tgt := 49) dX5_copy_38 (by decide) (fun c38 => ?_) (fun c38 => ?_)
      · -- taken at 38
        exact absurd (Or.inl c38) hf9
      · -- not taken at 38
        refine lv_aload hx hb dX5_copy_41 (lv_at hl 0 rfl) ?_
        refine f_get G K w.1 inX3 37 (ci := 3) rfl rfl 1 rfl fl_X5_124 (v := .int (bI (lo 3))) rfl dX5_copy_43 ?_
        refine b_eq G (tgt := 55) dX5_copy_46 (by decide) (fun c46 => ?_) (fun c46 => ?_)
        · -- taken at 46
          refine lv_aload hx hb dX5_copy_55 (lv_at hl 1 rfl) ?_
          refine f_get G K w.1 inX3 35 (ci := 3) rfl rfl 2 rfl fl_X5_247 (v := .int (nI (fo 1))) rfl dX5_copy_57 ?_
          refine lv_aload hx hb dX5_copy_60 (lv_at hl 0 rfl) ?_
          refine f_get G K w.1 inX3 37 (ci := 3) rfl rfl 2 rfl fl_X5_247 (v := .int (nI (fo 3))) rfl dX5_copy_62 ?_
          refine c_eq G (tgt := 74) (by omega) (by omega) dX5_copy_65 (by decide) (fun c65 => ?_) (fun c65 => ?_)
          · -- taken at 65
            refine lv_aload hx hb dX5_copy_74 (lv_at hl 1 rfl) ?_
            refine lv_iload_n hx hb dX5_copy_76 rfl (lv_at hl 4 rfl) ?_
            refine lv_iload hx hb dX5_copy_77 (lv_at hl 7 rfl) ?_
            refine callPV (As := [.int (nI i), .int (nI k)]) (rest := []) (q0 := 0) (ci := 3) G K F_X3_hasItems (c_X3_hasItems (aE 1) (aE 5) (lo 1) (fo 1) (si 1) (it 1) (nI i) (nI k) ⟨hfo 1, hsi 1⟩) (w.1.sub (ws' := (wT cI (aE 1) (aE 5) (lo 1) (fo 1) (si 1) (it 1))) [35, 39] rfl) ml_X5_250 rfl rfl rfl (by decide) (by decide) rfl hl.1 (Nat.le_of_ble_eq_true rfl) dX5_copy_79 ?_
            refine b_eq G (tgt := 97) dX5_copy_82 (by decide) (fun c82 => ?_) (fun c82 => ?_)
            · -- taken at 82
              exact absurd ⟨i, k, hi9, rfl, rfl⟩ c82
            · -- not taken at 82
              refine lv_aload hx hb dX5_copy_85 (lv_at hl 0 rfl) ?_
              refine lv_iload hx hb dX5_copy_87 (lv_at hl 6 rfl) ?_
              refine lv_iload hx hb dX5_copy_89 (lv_at hl 7 rfl) ?_
              refine callPV (As := [.int (nI j), .int (nI k)]) (rest := []) (q0 := 0) (ci := 3) G K F_X3_hasItems (c_X3_hasItems (aE 3) (aE 7) (lo 3) (fo 3) (si 3) (it 3) (nI j) (nI k) ⟨hfo 3, hsi 3⟩) (w.1.sub (ws' := (wT cI (aE 3) (aE 7) (lo 3) (fo 3) (si 3) (it 3))) [37, 41] rfl) ml_X5_250 rfl rfl rfl (by decide) (by decide) rfl hl.1 (Nat.le_of_ble_eq_true rfl) dX5_copy_91 ?_
              refine b_ne G (tgt := 103) dX5_copy_94 (by decide) (fun c94 => ?_) (fun c94 => ?_)
              · -- taken at 94
                refine lv_aload hx hb dX5_copy_103 (lv_at hl 1 rfl) ?_
                refine f_get G K w.1 inX3 35 (ci := 3) rfl rfl 0 rfl fl_X5_132 (v := .ref (aE 5)) rfl dX5_copy_105 ?_
                refine lv_iload_n hx hb dX5_copy_108 rfl (lv_at hl 4 rfl) ?_
                refine lv_aload hx hb dX5_copy_109 (lv_at hl 0 rfl) ?_
                refine f_get G K w.1 inX3 37 (ci := 3) rfl rfl 0 rfl fl_X5_132 (v := .ref (aE 7)) rfl dX5_copy_111 ?_
                refine lv_iload hx hb dX5_copy_114 (lv_at hl 6 rfl) ?_
                refine lv_iload hx hb dX5_copy_116 (lv_at hl 7 rfl) ?_
                refine acp (f := (it 1)) (g := (it 3)) (sp := i) (dp := j) (k := k) G K w (hml.trans hl.1.symm) ml_X5_253 39 41 rfl rfl (by omega) (by omega) (by decide) (Nat.le_of_ble_eq_true rfl) (Nat.le_of_ble_eq_true rfl) dX5_copy_118 (w2 := ((wS cS aS (aW 0) (aB 0) (aC 0) (aH 0) (aT 0) aE la) ++ ((wW cI aW n cl th ki va re fi) ++ ((wB cI aB bt bs) ++ ((wC cI cZ aC (aW 0) (aB 0) to co ke nu fw) ++ ((wH cI aH (aW 0) lt tr sh cr ct cu ve ta ch) ++ ((wH cI aT (aW 0) lt2 tr2 sh2 cr2 ct2 cu2 ve2 ta2 ch2) ++ (wE cI aE lo fo si (va_up it 3 (va_cpy (it 1) (it 3) i j k)))))))))) rfl (fun Hp1 lo2 w => ?_)
                refine lv_iconst (v := (nI 1)) hx hb dX5_copy_121 (by decide) ?_
                exact hret _ _ _ _ _ _ rfl rfl w dX5_copy_122
              · -- not taken at 94
                exact absurd ⟨j, k, hj9, rfl, rfl⟩ c94
          · -- not taken at 65
            exact absurd hc9 c65
        · -- not taken at 46
          exact absurd (Or.inr c46) hf9
    · -- not taken at 11
      exact absurd ⟨3, by decide, rfl⟩ c11
set_option maxHeartbeats 4000000 in
set_option maxRecDepth 100000 in
theorem c_X5_copy_nul20 (aS : Nat → Nat) (aE : Nat → Nat) (la : Int32) (aW : Nat → Nat) (n : Nat) (cl : Nat) (th : Nat → Nat) (ki : Nat → Nat) (va : Nat → Nat) (re : Nat → Nat) (fi : Nat → Nat) (aB : Nat → Nat) (bt : Nat → Nat) (bs : Nat) (aC : Nat → Nat) (to : Nat → Prop) (co : Nat → Nat) (ke : Nat → Int32) (nu : Nat → Int32) (fw : Nat → Nat) (aH : Nat → Nat) (lt : Nat → Option Nat) (tr : Nat → Nat) (sh : Nat → Nat) (cr : Nat → Nat) (ct : Nat → Nat) (cu : Nat → Nat) (ve : Nat → Nat) (ta : Nat → Nat) (ch : Nat) (aT : Nat → Nat) (lt2 : Nat → Option Nat) (tr2 : Nat → Nat) (sh2 : Nat → Nat) (cr2 : Nat → Nat) (ct2 : Nat → Nat) (cu2 : Nat → Nat) (ve2 : Nat → Nat) (ta2 : Nat → Nat) (ch2 : Nat) (lo : Nat → Prop) (fo : Nat → Nat) (si : Nat → Nat) (it : Nat → Nat → Int32) (i : Int32) (j : Int32) (k : Int32) (J : IW n cl th ki va re fi) (S : SW n cl re fi) (B9 : (∀ j, bt j ≤ 255) ∧ bs ≤ 216) (C9 : (∀ j, co j ≤ 400) ∧ (∀ j, fw j ≤ 15)) (H9 : IHd lt tr sh cr ct cu ve ta ch) (U9 : IHd lt2 tr2 sh2 cr2 ct2 cu2 ve2 ta2 ch2) (E9 : (∀ j, fo j ≤ 2) ∧ (∀ j, si j ≤ 60)) (hf9 : lo 2 ∨ lo 0) : CM l D (TY cI cZ cS) yX5_copy cX5_copy 8 (some .int) 1 [.ref (aS 0), .int (nI 2), .int i, .int (nI 0), .int j, .int k] ((wS cS aS (aW 0) (aB 0) (aC 0) (aH 0) (aT 0) aE la) ++ ((wW cI aW n cl th ki va re fi) ++ ((wB cI aB bt bs) ++ ((wC cI cZ aC (aW 0) (aB 0) to co ke nu fw) ++ ((wH cI aH (aW 0) lt tr sh cr ct cu ve ta ch) ++ ((wH cI aT (aW 0) lt2 tr2 sh2 cr2 ct2 cu2 ve2 ta2 ch2) ++ (wE cI aE lo fo si it))))))) (some (.int ((-10) - (nI 1)))) ((wS cS aS (aW 0) (aB 0) (aC 0) (aH 0) (aT 0) aE (nI 1)) ++ ((wW cI aW n cl th ki va re fi) ++ ((wB cI aB bt bs) ++ ((wC cI cZ aC (aW 0) (aB 0) to co ke nu fw) ++ ((wH cI aH (aW 0) lt tr sh cr ct cu ve ta ch) ++ ((wH cI aT (aW 0) lt2 tr2 sh2 cr2 ct2 cu2 ve2 ta2 ch2) ++ (wE cI aE lo fo si it))))))) := by
  refine CM.ofI (by decide +kernel) (Nat.le_of_ble_eq_true rfl) (nar_int _) ?_
  intro p e s m args below meth c Q A G K hA w hret ls hl
  obtain ⟨hx, hb, hml, hown, hts⟩ := id G
  obtain ⟨hn, hcl, hth, hki, hva, hre, hfi⟩ := id J
  obtain ⟨hbt, hbs⟩ := id B9
  obtain ⟨hco, hfw⟩ := id C9
  obtain ⟨hlt, htr, hsh, hcr, hct, hcu, hve, hta, hch⟩ := id H9
  obtain ⟨hlt2, htr2, hsh2, hcr2, hct2, hcu2, hve2, hta2, hch2⟩ := id U9
  obtain ⟨hfo, hsi⟩ := id E9
  have hl : lv_has ls 8 [(0, .ref (aS 0)), (1, .int (nI 2)), (2, .int i), (3, .int (nI 0)), (4, .int j), (5, .int k)] := hl
  refine lv_iload_n hx hb dX5_copy_0 rfl (lv_at hl 1 rfl) ?_
  refine callPS (rest := []) G K F_X5_isSheet (c_X5_isSheet (nI 2)) (va_P_nil D s.heap) ml_X5_121 (by decide) (by decide) rfl hl.1 (Nat.le_of_ble_eq_true rfl) dX5_copy_1 ?_
  refine b_eq G (tgt := 14) dX5_copy_4 (by decide) (fun c4 => ?_) (fun c4 => ?_)
  · -- taken at 4
    exact absurd ⟨2, by decide, rfl⟩ c4
  · -- not taken at 4
    refine lv_iload_n hx hb dX5_copy_7 rfl (lv_at hl 3 rfl) ?_
    refine callPS (rest := []) G K F_X5_isSheet (c_X5_isSheet (nI 0)) (va_P_nil D s.heap) ml_X5_121 (by decide) (by decide) rfl hl.1 (Nat.le_of_ble_eq_true rfl) dX5_copy_8 ?_
    refine b_ne G (tgt := 17) dX5_copy_11 (by decide) (fun c11 => ?_) (fun c11 => ?_)
    · -- taken at 11
      refine lv_aload_n hx hb dX5_copy_17 rfl (lv_at hl 0 rfl) ?_
      refine f_get G K w.1 inX5 0 (ci := 5) rfl rfl 5 rfl fl_X5_46 (v := .ref (aS 1)) rfl dX5_copy_18 ?_
      refine lv_iload_n hx hb dX5_copy_21 rfl (lv_at hl 1 rfl) ?_
      refine a_ldR G K w.1 1 2 (a := (aS 1)) rfl rfl (by omega) (by decide) dX5_copy_22 ?_
      refine lv_astore (lv' := [(6, .ref (aE 2)), (0, .ref (aS 0)), (1, .int (nI 2)), (2, .int i), (3, .int (nI 0)), (4, .int j), (5, .int k)]) hx hb dX5_copy_23 hl (by decide) rfl (fun ls hl => ?_)
      refine lv_aload_n hx hb dX5_copy_25 rfl (lv_at hl 1 rfl) ?_
      refine f_get G K w.1 inX5 0 (ci := 5) rfl rfl 5 rfl fl_X5_46 (v := .ref (aS 1)) rfl dX5_copy_26 ?_
      refine lv_iload_n hx hb dX5_copy_29 rfl (lv_at hl 4 rfl) ?_
      refine a_ldR G K w.1 1 2 (a := (aS 1)) rfl rfl (by omega) (by decide) dX5_copy_30 ?_
      refine lv_astore (lv' := [(7, .ref (aE 0)), (6, .ref (aE 2)), (0, .ref (aS 0)), (1, .int (nI 2)), (2, .int i), (3, .int (nI 0)), (4, .int j), (5, .int k)]) hx hb dX5_copy_31 hl (by decide) rfl (fun ls hl => ?_)
      refine lv_aload hx hb dX5_copy_33 (lv_at hl 1 rfl) ?_
      refine f_get G K w.1 inX3 36 (ci := 3) rfl rfl 1 rfl fl_X5_124 (v := .int (bI (lo 2))) rfl dX5_copy_35 ?_
      refine b_ne G (tgt := 49) dX5_copy_38 (by decide) (fun c38 => ?_) (fun c38 => ?_)
      · -- taken at 38
        refine lv_aload_n hx hb dX5_copy_49 rfl (lv_at hl 2 rfl) ?_
        refine lv_iconst (v := (nI 1)) hx hb dX5_copy_50 (by decide) ?_
        refine callMF (As := [.int (nI 1)]) (rest := []) (q0 := 0) (ci := 5) (ws' := ((wS cS aS (aW 0) (aB 0) (aC 0) (aH 0) (aT 0) aE (nI 1)) ++ ((wW cI aW n cl th ki va re fi) ++ ((wB cI aB bt bs) ++ ((wC cI cZ aC (aW 0) (aB 0) to co ke nu fw) ++ ((wH cI aH (aW 0) lt tr sh cr ct cu ve ta ch) ++ ((wH cI aT (aW 0) lt2 tr2 sh2 cr2 ct2 cu2 ve2 ta2 ch2) ++ (wE cI aE lo fo si it)))))))) G K hA w F_X5_find (c_X5_find aS aE la aW n cl th ki va re fi aB bt bs aC to co ke nu fw aH lt tr sh cr ct cu ve ta ch aT lt2 tr2 sh2 cr2 ct2 cu2 ve2 ta2 ch2 lo fo si it 1 J S B9 C9 H9 U9 E9) ml_X5_128 rfl rfl rfl (by decide) (by decide) rfl hl.1 (Nat.le_of_ble_eq_true rfl) dX5_copy_51 (fun Hp1 lo2 w => ?_)
        exact hret _ _ _ _ _ _ rfl rfl w dX5_copy_54
      · -- not taken at 38
        refine lv_aload hx hb dX5_copy_41 (lv_at hl 0 rfl) ?_
        refine f_get G K w.1 inX3 34 (ci := 3) rfl rfl 1 rfl fl_X5_124 (v := .int (bI (lo 0))) rfl dX5_copy_43 ?_
        refine b_eq G (tgt := 55) dX5_copy_46 (by decide) (fun c46 => ?_) (fun c46 => ?_)
        · -- taken at 46
          exact absurd hf9 (fun h => h.elim c38 c46)
        · -- not taken at 46
          refine lv_aload_n hx hb dX5_copy_49 rfl (lv_at hl 2 rfl) ?_
          refine lv_iconst (v := (nI 1)) hx hb dX5_copy_50 (by decide) ?_
          refine callMF (As := [.int (nI 1)]) (rest := []) (q0 := 0) (ci := 5) (ws' := ((wS cS aS (aW 0) (aB 0) (aC 0) (aH 0) (aT 0) aE (nI 1)) ++ ((wW cI aW n cl th ki va re fi) ++ ((wB cI aB bt bs) ++ ((wC cI cZ aC (aW 0) (aB 0) to co ke nu fw) ++ ((wH cI aH (aW 0) lt tr sh cr ct cu ve ta ch) ++ ((wH cI aT (aW 0) lt2 tr2 sh2 cr2 ct2 cu2 ve2 ta2 ch2) ++ (wE cI aE lo fo si it)))))))) G K hA w F_X5_find (c_X5_find aS aE la aW n cl th ki va re fi aB bt bs aC to co ke nu fw aH lt tr sh cr ct cu ve ta ch aT lt2 tr2 sh2 cr2 ct2 cu2 ve2 ta2 ch2 lo fo si it 1 J S B9 C9 H9 U9 E9) ml_X5_128 rfl rfl rfl (by decide) (by decide) rfl hl.1 (Nat.le_of_ble_eq_true rfl) dX5_copy_51 (fun Hp3 lo4 w => ?_)
          exact hret _ _ _ _ _ _ rfl rfl w dX5_copy_54
    · -- not taken at 11
      exact absurd ⟨0, by decide, rfl⟩ c11
set_option maxHeartbeats 4000000 in
set_option maxRecDepth 100000 in
theorem c_X5_copy_sto20 (aS : Nat → Nat) (aE : Nat → Nat) (la : Int32) (aW : Nat → Nat) (n : Nat) (cl : Nat) (th : Nat → Nat) (ki : Nat → Nat) (va : Nat → Nat) (re : Nat → Nat) (fi : Nat → Nat) (aB : Nat → Nat) (bt : Nat → Nat) (bs : Nat) (aC : Nat → Nat) (to : Nat → Prop) (co : Nat → Nat) (ke : Nat → Int32) (nu : Nat → Int32) (fw : Nat → Nat) (aH : Nat → Nat) (lt : Nat → Option Nat) (tr : Nat → Nat) (sh : Nat → Nat) (cr : Nat → Nat) (ct : Nat → Nat) (cu : Nat → Nat) (ve : Nat → Nat) (ta : Nat → Nat) (ch : Nat) (aT : Nat → Nat) (lt2 : Nat → Option Nat) (tr2 : Nat → Nat) (sh2 : Nat → Nat) (cr2 : Nat → Nat) (ct2 : Nat → Nat) (cu2 : Nat → Nat) (ve2 : Nat → Nat) (ta2 : Nat → Nat) (ch2 : Nat) (lo : Nat → Prop) (fo : Nat → Nat) (si : Nat → Nat) (it : Nat → Nat → Int32) (i : Int32) (j : Int32) (k : Int32) (J : IW n cl th ki va re fi) (S : SW n cl re fi) (B9 : (∀ j, bt j ≤ 255) ∧ bs ≤ 216) (C9 : (∀ j, co j ≤ 400) ∧ (∀ j, fw j ≤ 15)) (H9 : IHd lt tr sh cr ct cu ve ta ch) (U9 : IHd lt2 tr2 sh2 cr2 ct2 cu2 ve2 ta2 ch2) (E9 : (∀ j, fo j ≤ 2) ∧ (∀ j, si j ≤ 60)) (hf9 : ¬ (lo 2 ∨ lo 0)) (hc9 : fo 2 ≠ fo 0) : CM l D (TY cI cZ cS) yX5_copy cX5_copy 8 (some .int) 1 [.ref (aS 0), .int (nI 2), .int i, .int (nI 0), .int j, .int k] ((wS cS aS (aW 0) (aB 0) (aC 0) (aH 0) (aT 0) aE la) ++ ((wW cI aW n cl th ki va re fi) ++ ((wB cI aB bt bs) ++ ((wC cI cZ aC (aW 0) (aB 0) to co ke nu fw) ++ ((wH cI aH (aW 0) lt tr sh cr ct cu ve ta ch) ++ ((wH cI aT (aW 0) lt2 tr2 sh2 cr2 ct2 cu2 ve2 ta2 ch2) ++ (wE cI aE lo fo si it))))))) (some (.int ((-10) - (nI 4)))) ((wS cS aS (aW 0) (aB 0) (aC 0) (aH 0) (aT 0) aE (nI 4)) ++ ((wW cI aW n cl th ki va re fi) ++ ((wB cI aB bt bs) ++ ((wC cI cZ aC (aW 0) (aB 0) to co ke nu fw) ++ ((wH cI aH (aW 0) lt tr sh cr ct cu ve ta ch) ++ ((wH cI aT (aW 0) lt2 tr2 sh2 cr2 ct2 cu2 ve2 ta2 ch2) ++ (wE cI aE lo fo si it))))))) := by
  refine CM.ofI (by decide +kernel) (Nat.le_of_ble_eq_true rfl) (nar_int _) ?_
  intro p e s m args below meth c Q A G K hA w hret ls hl
  obtain ⟨hx, hb, hml, hown, hts⟩ := id G
  obtain ⟨hn, hcl, hth, hki, hva, hre, hfi⟩ := id J
  obtain ⟨hbt, hbs⟩ := id B9
  obtain ⟨hco, hfw⟩ := id C9
  obtain ⟨hlt, htr, hsh, hcr, hct, hcu, hve, hta, hch⟩ := id H9
  obtain ⟨hlt2, htr2, hsh2, hcr2, hct2, hcu2, hve2, hta2, hch2⟩ := id U9
  obtain ⟨hfo, hsi⟩ := id E9
  have hq1 := hfo 2
  have hq2 := hfo 0
  have hl : lv_has ls 8 [(0, .ref (aS 0)), (1, .int (nI 2)), (2, .int i), (3, .int (nI 0)), (4, .int j), (5, .int k)] := hl
  refine lv_iload_n hx hb dX5_copy_0 rfl (lv_at hl 1 rfl) ?_
  refine callPS (rest := []) G K F_X5_isSheet (c_X5_isSheet (nI 2)) (va_P_nil D s.heap) ml_X5_121 (by decide) (by decide) rfl hl.1 (Nat.le_of_ble_eq_true rfl) dX5_copy_1 ?_
  refine b_eq G (tgt := 14) dX5_copy_4 (by decide) (fun c4 => ?_) (fun c4 => ?_)
  · -- taken at 4
    exact absurd ⟨2, by decide, rfl⟩ c4
  · -- not taken at 4
    refine lv_iload_n hx hb dX5_copy_7 rfl (lv_at hl 3 rfl) ?_
    refine callPS (rest := []) G K F_X5_isSheet (c_X5_isSheet (nI 0)) (va_P_nil D s.heap) ml_X5_121 (by decide) (by decide) rfl hl.1 (Nat.le_of_ble_eq_true rfl) dX5_copy_8 ?_
    refine b_ne G (tgt := 17) dX5_copy_11 (by decide) (fun c11 => ?_) (fun c11 => ?_)
    · -- taken at 11
      refine lv_aload_n hx hb dX5_copy_17 rfl (lv_at hl 0 rfl) ?_
      refine f_get G K w.1 inX5 0 (ci := 5) rfl rfl 5 rfl fl_X5_46 (v := .ref (aS 1)) rfl dX5_copy_18 ?_
      refine lv_iload_n hx hb dX5_copy_21 rfl (lv_at hl 1 rfl) ?_
      refine a_ldR G K w.1 1 2 (a := (aS 1)) rfl rfl (by omega) (by decide) dX5_copy_22 ?_
      refine lv_astore (lv' := [(6, .ref (aE 2)), (0, .ref (aS 0)), (1, .int (nI 2)), (2, .int i), (3, .int (nI 0)), (4, .int j), (5, .int k)]) hx hb dX5_copy_23 hl (by decide) rfl (fun ls hl => ?_)
      refine lv_aload_n hx hb dX5_copy_25 rfl (lv_at hl 1 rfl) ?_
      refine f_get G K w.1 inX5 0 (ci := 5) rfl rfl 5 rfl fl_X5_46 (v := .ref (aS 1)) rfl dX5_copy_26 ?_
      refine lv_iload_n hx hb dX5_copy_29 rfl (lv_at hl 4 rfl) ?_
      refine a_ldR G K w.1 1 2 (a := (aS 1)) rfl rfl (by omega) (by decide) dX5_copy_30 ?_
      refine lv_astore (lv' := [(7, .ref (aE 0)), (6, .ref (aE 2)), (0, .ref (aS 0)), (1, .int (nI 2)), (2, .int i), (3, .int (nI 0)), (4, .int j), (5, .int k)]) hx hb dX5_copy_31 hl (by decide) rfl (fun ls hl => ?_)
      refine lv_aload hx hb dX5_copy_33 (lv_at hl 1 rfl) ?_
      refine f_get G K w.1 inX3 36 (ci := 3) rfl rfl 1 rfl fl_X5_124 (v := .int (bI (lo 2))) rfl dX5_copy_35 ?_
      refine b_ne G (tgt := 49) dX5_copy_38 (by decide) (fun c38 => ?_) (fun c38 => ?_)
      · -- taken at 38
        exact absurd (Or.inl c38) hf9
      · -- not taken at 38
        refine lv_aload hx hb dX5_copy_41 (lv_at hl 0 rfl) ?_
        refine f_get G K w.1 inX3 34 (ci := 3) rfl rfl 1 rfl fl_X5_124 (v := .int (bI (lo 0))) rfl dX5_copy_43 ?_
        refine b_eq G (tgt := 55) dX5_copy_46 (by decide) (fun c46 => ?_) (fun c46 => ?_)
        · -- taken at 46
          refine lv_aload hx hb dX5_copy_55 (lv_at hl 1 rfl) ?_
          refine f_get G K w.1 inX3 36 (ci := 3) rfl rfl 2 rfl fl_X5_247 (v := .int (nI (fo 2))) rfl dX5_copy_57 ?_
          refine lv_aload hx hb dX5_copy_60 (lv_at hl 0 rfl) ?_
          refine f_get G K w.1 inX3 34 (ci := 3) rfl rfl 2 rfl fl_X5_247 (v := .int (nI (fo 0))) rfl dX5_copy_62 ?_
          refine c_eq G (tgt := 74) (by omega) (by omega) dX5_copy_65 (by decide) (fun c65 => ?_) (fun c65 => ?_)
          · -- taken at 65
            exact absurd c65 hc9
          · -- not taken at 65
            refine lv_aload_n hx hb dX5_copy_68 rfl (lv_at hl 2 rfl) ?_
            refine lv_iconst (v := (nI 4)) hx hb dX5_copy_69 (by decide) ?_
            refine callMF (As := [.int (nI 4)]) (rest := []) (q0 := 0) (ci := 5) (ws' := ((wS cS aS (aW 0) (aB 0) (aC 0) (aH 0) (aT 0) aE (nI 4)) ++ ((wW cI aW n cl th ki va re fi) ++ ((wB cI aB bt bs) ++ ((wC cI cZ aC (aW 0) (aB 0) to co ke nu fw) ++ ((wH cI aH (aW 0) lt tr sh cr ct cu ve ta ch) ++ ((wH cI aT (aW 0) lt2 tr2 sh2 cr2 ct2 cu2 ve2 ta2 ch2) ++ (wE cI aE lo fo si it)))))))) G K hA w F_X5_find (c_X5_find aS aE la aW n cl th ki va re fi aB bt bs aC to co ke nu fw aH lt tr sh cr ct cu ve ta ch aT lt2 tr2 sh2 cr2 ct2 cu2 ve2 ta2 ch2 lo fo si it 4 J S B9 C9 H9 U9 E9) ml_X5_128 rfl rfl rfl (by decide) (by decide) rfl hl.1 (Nat.le_of_ble_eq_true rfl) dX5_copy_70 (fun Hp1 lo2 w => ?_)
            exact hret _ _ _ _ _ _ rfl rfl w dX5_copy_73
        · -- not taken at 46
          exact absurd (Or.inr c46) hf9
    · -- not taken at 11
      exact absurd ⟨0, by decide, rfl⟩ c11
set_option maxHeartbeats 4000000 in
set_option maxRecDepth 100000 in
theorem c_X5_copy_idx20 (aS : Nat → Nat) (aE : Nat → Nat) (la : Int32) (aW : Nat → Nat) (n : Nat) (cl : Nat) (th : Nat → Nat) (ki : Nat → Nat) (va : Nat → Nat) (re : Nat → Nat) (fi : Nat → Nat) (aB : Nat → Nat) (bt : Nat → Nat) (bs : Nat) (aC : Nat → Nat) (to : Nat → Prop) (co : Nat → Nat) (ke : Nat → Int32) (nu : Nat → Int32) (fw : Nat → Nat) (aH : Nat → Nat) (lt : Nat → Option Nat) (tr : Nat → Nat) (sh : Nat → Nat) (cr : Nat → Nat) (ct : Nat → Nat) (cu : Nat → Nat) (ve : Nat → Nat) (ta : Nat → Nat) (ch : Nat) (aT : Nat → Nat) (lt2 : Nat → Option Nat) (tr2 : Nat → Nat) (sh2 : Nat → Nat) (cr2 : Nat → Nat) (ct2 : Nat → Nat) (cu2 : Nat → Nat) (ve2 : Nat → Nat) (ta2 : Nat → Nat) (ch2 : Nat) (lo : Nat → Prop) (fo : Nat → Nat) (si : Nat → Nat) (it : Nat → Nat → Int32) (i : Int32) (j : Int32) (k : Int32) (J : IW n cl th ki va re fi) (S : SW n cl re fi) (B9 : (∀ j, bt j ≤ 255) ∧ bs ≤ 216) (C9 : (∀ j, co j ≤ 400) ∧ (∀ j, fw j ≤ 15)) (H9 : IHd lt tr sh cr ct cu ve ta ch) (U9 : IHd lt2 tr2 sh2 cr2 ct2 cu2 ve2 ta2 ch2) (E9 : (∀ j, fo j ≤ 2) ∧ (∀ j, si j ≤ 60)) (hf9 : ¬ (lo 2 ∨ lo 0)) (hc9 : fo 2 = fo 0) (hk9 : ¬ (okH (si 2) i k ∧ okH (si 0) j k)) : CM l D (TY cI cZ cS) yX5_copy cX5_copy 8 (some .int) 1 [.ref (aS 0), .int (nI 2), .int i, .int (nI 0), .int j, .int k] ((wS cS aS (aW 0) (aB 0) (aC 0) (aH 0) (aT 0) aE la) ++ ((wW cI aW n cl th ki va re fi) ++ ((wB cI aB bt bs) ++ ((wC cI cZ aC (aW 0) (aB 0) to co ke nu fw) ++ ((wH cI aH (aW 0) lt tr sh cr ct cu ve ta ch) ++ ((wH cI aT (aW 0) lt2 tr2 sh2 cr2 ct2 cu2 ve2 ta2 ch2) ++ (wE cI aE lo fo si it))))))) (some (.int ((-10) - (nI 2)))) ((wS cS aS (aW 0) (aB 0) (aC 0) (aH 0) (aT 0) aE (nI 2)) ++ ((wW cI aW n cl th ki va re fi) ++ ((wB cI aB bt bs) ++ ((wC cI cZ aC (aW 0) (aB 0) to co ke nu fw) ++ ((wH cI aH (aW 0) lt tr sh cr ct cu ve ta ch) ++ ((wH cI aT (aW 0) lt2 tr2 sh2 cr2 ct2 cu2 ve2 ta2 ch2) ++ (wE cI aE lo fo si it))))))) := by
  refine CM.ofI (by decide +kernel) (Nat.le_of_ble_eq_true rfl) (nar_int _) ?_
  intro p e s m args below meth c Q A G K hA w hret ls hl
  obtain ⟨hx, hb, hml, hown, hts⟩ := id G
  obtain ⟨hn, hcl, hth, hki, hva, hre, hfi⟩ := id J
  obtain ⟨hbt, hbs⟩ := id B9
  obtain ⟨hco, hfw⟩ := id C9
  obtain ⟨hlt, htr, hsh, hcr, hct, hcu, hve, hta, hch⟩ := id H9
  obtain ⟨hlt2, htr2, hsh2, hcr2, hct2, hcu2, hve2, hta2, hch2⟩ := id U9
  obtain ⟨hfo, hsi⟩ := id E9
  have hq1 := hfo 2
  have hq2 := hfo 0
  have hl : lv_has ls 8 [(0, .ref (aS 0)), (1, .int (nI 2)), (2, .int i), (3, .int (nI 0)), (4, .int j), (5, .int k)] := hl
  refine lv_iload_n hx hb dX5_copy_0 rfl (lv_at hl 1 rfl) ?_
  refine callPS (rest := []) G K F_X5_isSheet (c_X5_isSheet (nI 2)) (va_P_nil D s.heap) ml_X5_121 (by decide) (by decide) rfl hl.1 (Nat.le_of_ble_eq_true rfl) dX5_copy_1 ?_
  refine b_eq G (tgt := 14) dX5_copy_4 (by decide) (fun c4 => ?_) (fun c4 => ?_)
  · -- taken at 4
    exact absurd ⟨2, by decide, rfl⟩ c4
  · -- not taken at 4
    refine lv_iload_n hx hb dX5_copy_7 rfl (lv_at hl 3 rfl) ?_
    refine callPS (rest := []) G K F_X5_isSheet (c_X5_isSheet (nI 0)) (va_P_nil D s.heap) ml_X5_121 (by decide) (by decide) rfl hl.1 (Nat.le_of_ble_eq_true rfl) dX5_copy_8 ?_
    refine b_ne G (tgt := 17) dX5_copy_11 (by decide) (fun c11 => ?_) (fun c11 => ?_)
    · -- taken at 11
      refine lv_aload_n hx hb dX5_copy_17 rfl (lv_at hl 0 rfl) ?_
      refine f_get G K w.1 inX5 0 (ci := 5) rfl rfl 5 rfl fl_X5_46 (v := .ref (aS 1)) rfl dX5_copy_18 ?_
      refine lv_iload_n hx hb dX5_copy_21 rfl (lv_at hl 1 rfl) ?_
      refine a_ldR G K w.1 1 2 (a := (aS 1)) rfl rfl (by omega) (by decide) dX5_copy_22 ?_
      refine lv_astore (lv' := [(6, .ref (aE 2)), (0, .ref (aS 0)), (1, .int (nI 2)), (2, .int i), (3, .int (nI 0)), (4, .int j), (5, .int k)]) hx hb dX5_copy_23 hl (by decide) rfl (fun ls hl => ?_)
      refine lv_aload_n hx hb dX5_copy_25 rfl (lv_at hl 1 rfl) ?_
      refine f_get G K w.1 inX5 0 (ci := 5) rfl rfl 5 rfl fl_X5_46 (v := .ref (aS 1)) rfl dX5_copy_26 ?_
      refine lv_iload_n hx hb dX5_copy_29 rfl (lv_at hl 4 rfl) ?_
      refine a_ldR G K w.1 1 2 (a := (aS 1)) rfl rfl (by omega) (by decide) dX5_copy_30 ?_
      refine lv_astore (lv' := [(7, .ref (aE 0)), (6, .ref (aE 2)), (0, .ref (aS 0)), (1, .int (nI 2)), (2, .int i), (3, .int (nI 0)), (4, .int j), (5, .int k)]) hx hb dX5_copy_31 hl (by decide) rfl (fun ls hl => ?_)
      refine lv_aload hx hb dX5_copy_33 (lv_at hl 1 rfl) ?_
      refine f_get G K w.1 inX3 36 (ci := 3) rfl rfl 1 rfl fl_X5_124 (v := .int (bI (lo 2))) rfl dX5_copy_35 ?_
      refine b_ne G (tgt := 49) dX5_copy_38 (by decide) (fun c38 => ?_) (fun c38 => ?_)
      · -- taken at 38
        exact absurd (Or.inl c38) hf9
      · -- not taken at 38
        refine lv_aload hx hb dX5_copy_41 (lv_at hl 0 rfl) ?_
        refine f_get G K w.1 inX3 34 (ci := 3) rfl rfl 1 rfl fl_X5_124 (v := .int (bI (lo 0))) rfl dX5_copy_43 ?_
        refine b_eq G (tgt := 55) dX5_copy_46 (by decide) (fun c46 => ?_) (fun c46 => ?_)
        · -- taken at 46
          refine lv_aload hx hb dX5_copy_55 (lv_at hl 1 rfl) ?_
          refine f_get G K w.1 inX3 36 (ci := 3) rfl rfl 2 rfl fl_X5_247 (v := .int (nI (fo 2))) rfl dX5_copy_57 ?_
          refine lv_aload hx hb dX5_copy_60 (lv_at hl 0 rfl) ?_
          refine f_get G K w.1 inX3 34 (ci := 3) rfl rfl 2 rfl fl_X5_247 (v := .int (nI (fo 0))) rfl dX5_copy_62 ?_
          refine c_eq G (tgt := 74) (by omega) (by omega) dX5_copy_65 (by decide) (fun c65 => ?_) (fun c65 => ?_)
          · -- taken at 65
            refine lv_aload hx hb dX5_copy_74 (lv_at hl 1 rfl) ?_
            refine lv_iload_n hx hb dX5_copy_76 rfl (lv_at hl 4 rfl) ?_
            refine lv_iload hx hb dX5_copy_77 (lv_at hl 7 rfl) ?_
            refine callPV (As := [.int i, .int k]) (rest := []) (q0 := 0) (ci := 3) G K F_X3_hasItems (c_X3_hasItems (aE 2) (aE 6) (lo 2) (fo 2) (si 2) (it 2) i k ⟨hfo 2, hsi 2⟩) (w.1.sub (ws' := (wT cI (aE 2) (aE 6) (lo 2) (fo 2) (si 2) (it 2))) [36, 40] rfl) ml_X5_250 rfl rfl rfl (by decide) (by decide) rfl hl.1 (Nat.le_of_ble_eq_true rfl) dX5_copy_79 ?_
            refine b_eq G (tgt := 97) dX5_copy_82 (by decide) (fun c82 => ?_) (fun c82 => ?_)
            · -- taken at 82
              refine lv_aload_n hx hb dX5_copy_97 rfl (lv_at hl 2 rfl) ?_
              refine lv_iconst (v := (nI 2)) hx hb dX5_copy_98 (by decide) ?_
              refine callMF (As := [.int (nI 2)]) (rest := []) (q0 := 0) (ci := 5) (ws' := ((wS cS aS (aW 0) (aB 0) (aC 0) (aH 0) (aT 0) aE (nI 2)) ++ ((wW cI aW n cl th ki va re fi) ++ ((wB cI aB bt bs) ++ ((wC cI cZ aC (aW 0) (aB 0) to co ke nu fw) ++ ((wH cI aH (aW 0) lt tr sh cr ct cu ve ta ch) ++ ((wH cI aT (aW 0) lt2 tr2 sh2 cr2 ct2 cu2 ve2 ta2 ch2) ++ (wE cI aE lo fo si it)))))))) G K hA w F_X5_find (c_X5_find aS aE la aW n cl th ki va re fi aB bt bs aC to co ke nu fw aH lt tr sh cr ct cu ve ta ch aT lt2 tr2 sh2 cr2 ct2 cu2 ve2 ta2 ch2 lo fo si it 2 J S B9 C9 H9 U9 E9) ml_X5_128 rfl rfl rfl (by decide) (by decide) rfl hl.1 (Nat.le_of_ble_eq_true rfl) dX5_copy_99 (fun Hp1 lo2 w => ?_)
              exact hret _ _ _ _ _ _ rfl rfl w dX5_copy_102
            · -- not taken at 82
              refine lv_aload hx hb dX5_copy_85 (lv_at hl 0 rfl) ?_
              refine lv_iload hx hb dX5_copy_87 (lv_at hl 6 rfl) ?_
              refine lv_iload hx hb dX5_copy_89 (lv_at hl 7 rfl) ?_
              refine callPV (As := [.int j, .int k]) (rest := []) (q0 := 0) (ci := 3) G K F_X3_hasItems (c_X3_hasItems (aE 0) (aE 4) (lo 0) (fo 0) (si 0) (it 0) j k ⟨hfo 0, hsi 0⟩) (w.1.sub (ws' := (wT cI (aE 0) (aE 4) (lo 0) (fo 0) (si 0) (it 0))) [34, 38] rfl) ml_X5_250 rfl rfl rfl (by decide) (by decide) rfl hl.1 (Nat.le_of_ble_eq_true rfl) dX5_copy_91 ?_
              refine b_ne G (tgt := 103) dX5_copy_94 (by decide) (fun c94 => ?_) (fun c94 => ?_)
              · -- taken at 94
                exact absurd ⟨c82, c94⟩ hk9
              · -- not taken at 94
                refine lv_aload_n hx hb dX5_copy_97 rfl (lv_at hl 2 rfl) ?_
                refine lv_iconst (v := (nI 2)) hx hb dX5_copy_98 (by decide) ?_
                refine callMF (As := [.int (nI 2)]) (rest := []) (q0 := 0) (ci := 5) (ws' := ((wS cS aS (aW 0) (aB 0) (aC 0) (aH 0) (aT 0) aE (nI 2)) ++ ((wW cI aW n cl th ki va re fi) ++ ((wB cI aB bt bs) ++ ((wC cI cZ aC (aW 0) (aB 0) to co ke nu fw) ++ ((wH cI aH (aW 0) lt tr sh cr ct cu ve ta ch) ++ ((wH cI aT (aW 0) lt2 tr2 sh2 cr2 ct2 cu2 ve2 ta2 ch2) ++ (wE cI aE lo fo si it)))))))) G K hA w F_X5_find (c_X5_find aS aE la aW n cl th ki va re fi aB bt bs aC to co ke nu fw aH lt tr sh cr ct cu ve ta ch aT lt2 tr2 sh2 cr2 ct2 cu2 ve2 ta2 ch2 lo fo si it 2 J S B9 C9 H9 U9 E9) ml_X5_128 rfl rfl rfl (by decide) (by decide) rfl hl.1 (Nat.le_of_ble_eq_true rfl) dX5_copy_99 (fun Hp3 lo4 w => ?_)
                exact hret _ _ _ _ _ _ rfl rfl w dX5_copy_102
          · -- not taken at 65
            exact absurd hc9 c65
        · -- not taken at 46
          exact absurd (Or.inr c46) hf9
    · -- not taken at 11
      exact absurd ⟨0, by decide, rfl⟩ c11
set_option maxHeartbeats 4000000 in
set_option maxRecDepth 100000 in
theorem c_X5_copy_ok20 (aS : Nat → Nat) (aE : Nat → Nat) (la : Int32) (aW : Nat → Nat) (n : Nat) (cl : Nat) (th : Nat → Nat) (ki : Nat → Nat) (va : Nat → Nat) (re : Nat → Nat) (fi : Nat → Nat) (aB : Nat → Nat) (bt : Nat → Nat) (bs : Nat) (aC : Nat → Nat) (to : Nat → Prop) (co : Nat → Nat) (ke : Nat → Int32) (nu : Nat → Int32) (fw : Nat → Nat) (aH : Nat → Nat) (lt : Nat → Option Nat) (tr : Nat → Nat) (sh : Nat → Nat) (cr : Nat → Nat) (ct : Nat → Nat) (cu : Nat → Nat) (ve : Nat → Nat) (ta : Nat → Nat) (ch : Nat) (aT : Nat → Nat) (lt2 : Nat → Option Nat) (tr2 : Nat → Nat) (sh2 : Nat → Nat) (cr2 : Nat → Nat) (ct2 : Nat → Nat) (cu2 : Nat → Nat) (ve2 : Nat → Nat) (ta2 : Nat → Nat) (ch2 : Nat) (lo : Nat → Prop) (fo : Nat → Nat) (si : Nat → Nat) (it : Nat → Nat → Int32) (i : Nat) (j : Nat) (k : Nat) (J : IW n cl th ki va re fi) (S : SW n cl re fi) (B9 : (∀ j, bt j ≤ 255) ∧ bs ≤ 216) (C9 : (∀ j, co j ≤ 400) ∧ (∀ j, fw j ≤ 15)) (H9 : IHd lt tr sh cr ct cu ve ta ch) (U9 : IHd lt2 tr2 sh2 cr2 ct2 cu2 ve2 ta2 ch2) (E9 : (∀ j, fo j ≤ 2) ∧ (∀ j, si j ≤ 60)) (hf9 : ¬ (lo 2 ∨ lo 0)) (hc9 : fo 2 = fo 0) (hi9 : i + k ≤ si 2) (hj9 : j + k ≤ si 0) : CM l D (TY cI cZ cS) yX5_copy cX5_copy 8 (some .int) 1 [.ref (aS 0), .int (nI 2), .int (nI i), .int (nI 0), .int (nI j), .int (nI k)] ((wS cS aS (aW 0) (aB 0) (aC 0) (aH 0) (aT 0) aE la) ++ ((wW cI aW n cl th ki va re fi) ++ ((wB cI aB bt bs) ++ ((wC cI cZ aC (aW 0) (aB 0) to co ke nu fw) ++ ((wH cI aH (aW 0) lt tr sh cr ct cu ve ta ch) ++ ((wH cI aT (aW 0) lt2 tr2 sh2 cr2 ct2 cu2 ve2 ta2 ch2) ++ (wE cI aE lo fo si it))))))) (some (.int (nI 1))) ((wS cS aS (aW 0) (aB 0) (aC 0) (aH 0) (aT 0) aE la) ++ ((wW cI aW n cl th ki va re fi) ++ ((wB cI aB bt bs) ++ ((wC cI cZ aC (aW 0) (aB 0) to co ke nu fw) ++ ((wH cI aH (aW 0) lt tr sh cr ct cu ve ta ch) ++ ((wH cI aT (aW 0) lt2 tr2 sh2 cr2 ct2 cu2 ve2 ta2 ch2) ++ (wE cI aE lo fo si (va_up it 0 (va_cpy (it 2) (it 0) i j k))))))))) := by
  refine CM.ofI (by decide +kernel) (Nat.le_of_ble_eq_true rfl) (nar_int _) ?_
  intro p e s m args below meth c Q A G K hA w hret ls hl
  obtain ⟨hx, hb, hml, hown, hts⟩ := id G
  obtain ⟨hn, hcl, hth, hki, hva, hre, hfi⟩ := id J
  obtain ⟨hbt, hbs⟩ := id B9
  obtain ⟨hco, hfw⟩ := id C9
  obtain ⟨hlt, htr, hsh, hcr, hct, hcu, hve, hta, hch⟩ := id H9
  obtain ⟨hlt2, htr2, hsh2, hcr2, hct2, hcu2, hve2, hta2, hch2⟩ := id U9
  obtain ⟨hfo, hsi⟩ := id E9
  have hs9 := hsi 2
  have ht9 := hsi 0
  have hq1 := hfo 2
  have hq2 := hfo 0
  have hl : lv_has ls 8 [(0, .ref (aS 0)), (1, .int (nI 2)), (2, .int (nI i)), (3, .int (nI 0)), (4, .int (nI j)), (5, .int (nI k))] := hl
  refine lv_iload_n hx hb dX5_copy_0 rfl (lv_at hl 1 rfl) ?_
  refine callPS (rest := []) G K F_X5_isSheet (c_X5_isSheet (nI 2)) (va_P_nil D s.heap) ml_X5_121 (by decide) (by decide) rfl hl.1 (Nat.le_of_ble_eq_true rfl) dX5_copy_1 ?_
  refine b_eq G (tgt := 14) dX5_copy_4 (by decide) (fun c4 => ?_) (fun c4 => ?_)
  · -- taken at 4
    exact absurd ⟨2, by decide, rfl⟩ c4
  · -- not taken at 4
    refine lv_iload_n hx hb dX5_copy_7 rfl (lv_at hl 3 rfl) ?_
    refine callPS (rest := []) G K F_X5_isSheet (c_X5_isSheet (nI 0)) (va_P_nil D s.heap) ml_X5_121 (by decide) (by decide) rfl hl.1 (Nat.le_of_ble_eq_true rfl) dX5_copy_8 ?_
    refine b_ne G (tgt := 17) dX5_copy_11 (by decide) (fun c11 => ?_) (fun c11 => ?_)
    · -- taken at 11
      refine lv_aload_n hx hb dX5_copy_17 rfl (lv_at hl 0 rfl) ?_
      refine f_get G K w.1 inX5 0 (ci := 5) rfl rfl 5 rfl fl_X5_46 (v := .ref (aS 1)) rfl dX5_copy_18 ?_
      refine lv_iload_n hx hb dX5_copy_21 rfl (lv_at hl 1 rfl) ?_
      refine a_ldR G K w.1 1 2 (a := (aS 1)) rfl rfl (by omega) (by decide) dX5_copy_22 ?_
      refine lv_astore (lv' := [(6, .ref (aE 2)), (0, .ref (aS 0)), (1, .int (nI 2)), (2, .int (nI i)), (3, .int (nI 0)), (4, .int (nI j)), (5, .int (nI k))]) hx hb dX5_copy_23 hl (by decide) rfl (fun ls hl => ?_)
      refine lv_aload_n hx hb dX5_copy_25 rfl (lv_at hl 1 rfl) ?_
      refine f_get G K w.1 inX5 0 (ci := 5) rfl rfl 5 rfl fl_X5_46 (v := .ref (aS 1)) rfl dX5_copy_26 ?_
      refine lv_iload_n hx hb dX5_copy_29 rfl (lv_at hl 4 rfl) ?_
      refine a_ldR G K w.1 1 2 (a := (aS 1)) rfl rfl (by omega) (by decide) dX5_copy_30 ?_
      refine lv_astore (lv' := [(7, .ref (aE 0)), (6, .ref (aE 2)), (0, .ref (aS 0)), (1, .int (nI 2)), (2, .int (nI i)), (3, .int (nI 0)), (4, .int (nI j)), (5, .int (nI k))]) hx hb dX5_copy_31 hl (by decide) rfl (fun ls hl => ?_)
      refine lv_aload hx hb dX5_copy_33 (lv_at hl 1 rfl) ?_
      refine f_get G K w.1 inX3 36 (ci := 3) rfl rfl 1 rfl fl_X5_124 (v := .int (bI (lo 2))) rfl dX5_copy_35 ?_
      refine b_ne G (tgt := 49) dX5_copy_38 (by decide) (fun c38 => ?_) (fun c38 => ?_)
      · -- taken at 38
        exact absurd (Or.inl c38) hf9
      · -- not taken at 38
        refine lv_aload hx hb dX5_copy_41 (lv_at hl 0 rfl) ?_
        refine f_get G K w.1 inX3 34 (ci := 3) rfl rfl 1 rfl fl_X5_124 (v := .int (bI (lo 0))) rfl dX5_copy_43 ?_
        refine b_eq G (tgt := 55) dX5_copy_46 (by decide) (fun c46 => ?_) (fun c46 => ?_)
        · -- taken at 46
          refine lv_aload hx hb dX5_copy_55 (lv_at hl 1 rfl) ?_
          refine f_get G K w.1 inX3 36 (ci := 3) rfl rfl 2 rfl fl_X5_247 (v := .int (nI (fo 2))) rfl dX5_copy_57 ?_
          refine lv_aload hx hb dX5_copy_60 (lv_at hl 0 rfl) ?_
          refine f_get G K w.1 inX3 34 (ci := 3) rfl rfl 2 rfl fl_X5_247 (v := .int (nI (fo 0))) rfl dX5_copy_62 ?_
          refine c_eq G (tgt := 74) (by omega) (by omega) dX5_copy_65 (by decide) (fun c65 => ?_) (fun c65 => ?_)
          · -- taken at 65
            refine lv_aload hx hb dX5_copy_74 (lv_at hl 1 rfl) ?_
            refine lv_iload_n hx hb dX5_copy_76 rfl (lv_at hl 4 rfl) ?_
            refine lv_iload hx hb dX5_copy_77 (lv_at hl 7 rfl) ?_
            refine callPV (As := [.int (nI i), .int (nI k)]) (rest := []) (q0 := 0) (ci := 3) G K F_X3_hasItems (c_X3_hasItems (aE 2) (aE 6) (lo 2) (fo 2) (si 2) (it 2) (nI i) (nI k) ⟨hfo 2, hsi 2⟩) (w.1.sub (ws' := (wT cI (aE 2) (aE 6) (lo 2) (fo 2) (si 2) (it 2))) [36, 40] rfl) ml_X5_250 rfl rfl rfl (by decide) (by decide) rfl hl.1 (Nat.le_of_ble_eq_true rfl) dX5_copy_79 ?_
            refine b_eq G (tgt := 97) dX5_copy_82 (by decide) (fun c82 => ?_) (fun c82 => ?_)
            · -- taken at 82
              exact absurd ⟨i, k, hi9, rfl, rfl⟩ c82
            · -- not taken at 82
              refine lv_aload hx hb dX5_copy_85 (lv_at hl 0 rfl) ?_
              refine lv_iload hx hb dX5_copy_87 (lv_at hl 6 rfl) ?_
              refine lv_iload hx hb dX5_copy_89 (lv_at hl 7 rfl) ?_
              refine callPV (As := [.int (nI j), .int (nI k)]) (rest := []) (q0 := 0) (ci := 3) G K F_X3_hasItems (c_X3_hasItems (aE 0) (aE 4) (lo 0) (fo 0) (si 0) (it 0) (nI j) (nI k) ⟨hfo 0, hsi 0⟩) (w.1.sub (ws' := (wT cI (aE 0) (aE 4) (lo 0) (fo 0) (si 0) (it 0))) [34, 38] rfl) ml_X5_250 rfl rfl rfl (by decide) (by decide) rfl hl.1 (Nat.le_of_ble_eq_true rfl) dX5_copy_91 ?_
              refine b_ne G (tgt := 103) dX5_copy_94 (by decide) (fun c94 => ?_) (fun c94 => ?_)
              · -- taken at 94
                refine lv_aload hx hb dX5_copy_103 (lv_at hl 1 rfl) ?_
                refine f_get G K w.1 inX3 36 (ci := 3) rfl rfl 0 rfl fl_X5_132 (v := .ref (aE 6)) rfl dX5_copy_105 ?_
                refine lv_iload_n hx hb dX5_copy_108 rfl (lv_at hl 4 rfl) ?_
                refine lv_aload hx hb dX5_copy_109 (lv_at hl 0 rfl) ?_
                refine f_get G K w.1 inX3 34 (ci := 3) rfl rfl 0 rfl fl_X5_132 (v := .ref (aE 4)) rfl dX5_copy_111 ?_
                refine lv_iload hx hb dX5_copy_114 (lv_at hl 6 rfl) ?_
                refine lv_iload hx hb dX5_copy_116 (lv_at hl 7 rfl) ?_
                refine acp (f := (it 2)) (g := (it 0)) (sp := i) (dp := j) (k := k) G K w (hml.trans hl.1.symm) ml_X5_253 40 38 rfl rfl (by omega) (by omega) (by decide) (Nat.le_of_ble_eq_true rfl) (Nat.le_of_ble_eq_true rfl) dX5_copy_118 (w2 := ((wS cS aS (aW 0) (aB 0) (aC 0) (aH 0) (aT 0) aE la) ++ ((wW cI aW n cl th ki va re fi) ++ ((wB cI aB bt bs) ++ ((wC cI cZ aC (aW 0) (aB 0) to co ke nu fw) ++ ((wH cI aH (aW 0) lt tr sh cr ct cu ve ta ch) ++ ((wH cI aT (aW 0) lt2 tr2 sh2 cr2 ct2 cu2 ve2 ta2 ch2) ++ (wE cI aE lo fo si (va_up it 0 (va_cpy (it 2) (it 0) i j k)))))))))) rfl (fun Hp1 lo2 w => ?_)
                refine lv_iconst (v := (nI 1)) hx hb dX5_copy_121 (by decide) ?_
                exact hret _ _ _ _ _ _ rfl rfl w dX5_copy_122
              · -- not taken at 94
                exact absurd ⟨j, k, hj9, rfl, rfl⟩ c94
          · -- not taken at 65
            exact absurd hc9 c65
        · -- not taken at 46
          exact absurd (Or.inr c46) hf9
    · -- not taken at 11
      exact absurd ⟨0, by decide, rfl⟩ c11
set_option maxHeartbeats 4000000 in
set_option maxRecDepth 100000 in
theorem c_X5_copy_nul21 (aS : Nat → Nat) (aE : Nat → Nat) (la : Int32) (aW : Nat → Nat) (n : Nat) (cl : Nat) (th : Nat → Nat) (ki : Nat → Nat) (va : Nat → Nat) (re : Nat → Nat) (fi : Nat → Nat) (aB : Nat → Nat) (bt : Nat → Nat) (bs : Nat) (aC : Nat → Nat) (to : Nat → Prop) (co : Nat → Nat) (ke : Nat → Int32) (nu : Nat → Int32) (fw : Nat → Nat) (aH : Nat → Nat) (lt : Nat → Option Nat) (tr : Nat → Nat) (sh : Nat → Nat) (cr : Nat → Nat) (ct : Nat → Nat) (cu : Nat → Nat) (ve : Nat → Nat) (ta : Nat → Nat) (ch : Nat) (aT : Nat → Nat) (lt2 : Nat → Option Nat) (tr2 : Nat → Nat) (sh2 : Nat → Nat) (cr2 : Nat → Nat) (ct2 : Nat → Nat) (cu2 : Nat → Nat) (ve2 : Nat → Nat) (ta2 : Nat → Nat) (ch2 : Nat) (lo : Nat → Prop) (fo : Nat → Nat) (si : Nat → Nat) (it : Nat → Nat → Int32) (i : Int32) (j : Int32) (k : Int32) (J : IW n cl th ki va re fi) (S : SW n cl re fi) (B9 : (∀ j, bt j ≤ 255) ∧ bs ≤ 216) (C9 : (∀ j, co j ≤ 400) ∧ (∀ j, fw j ≤ 15)) (H9 : IHd lt tr sh cr ct cu ve ta ch) (U9 : IHd lt2 tr2 sh2 cr2 ct2 cu2 ve2 ta2 ch2) (E9 : (∀ j, fo j ≤ 2) ∧ (∀ j, si j ≤ 60)) (hf9 : lo 2 ∨ lo 1) : CM l D (TY cI cZ cS) yX5_copy cX5_copy 8 (some .int) 1 [.ref (aS 0), .int (nI 2), .int i, .int (nI 1), .int j, .int k] ((wS cS aS (aW 0) (aB 0) (aC 0) (aH 0) (aT 0) aE la) ++ ((wW cI aW n cl th ki va re fi) ++ ((wB cI aB bt bs) ++ ((wC cI cZ aC (aW 0) (aB 0) to co ke nu fw) ++ ((wH cI aH (aW 0) lt tr sh cr ct cu ve ta ch) ++ ((wH cI aT (aW 0) lt2 tr2 sh2 cr2 ct2 cu2 ve2 ta2 ch2) ++ (wE cI aE lo fo si it))))))) (some (.int ((-10) - (nI 1)))) ((wS cS aS (aW 0) (aB 0) (aC 0) (aH 0) (aT 0) aE (nI 1)) ++ ((wW cI aW n cl th ki va re fi) ++ ((wB cI aB bt bs) ++ ((wC cI cZ aC (aW 0) (aB 0) to co ke nu fw) ++ ((wH cI aH (aW 0) lt tr sh cr ct cu ve ta ch) ++ ((wH cI aT (aW 0) lt2 tr2 sh2 cr2 ct2 cu2 ve2 ta2 ch2) ++ (wE cI aE lo fo si it))))))) := by
  refine CM.ofI (by decide +kernel) (Nat.le_of_ble_eq_true rfl) (nar_int _) ?_
  intro p e s m args below meth c Q A G K hA w hret ls hl
  obtain ⟨hx, hb, hml, hown, hts⟩ := id G
  obtain ⟨hn, hcl, hth, hki, hva, hre, hfi⟩ := id J
  obtain ⟨hbt, hbs⟩ := id B9
  obtain ⟨hco, hfw⟩ := id C9
  obtain ⟨hlt, htr, hsh, hcr, hct, hcu, hve, hta, hch⟩ := id H9
  obtain ⟨hlt2, htr2, hsh2, hcr2, hct2, hcu2, hve2, hta2, hch2⟩ := id U9
  obtain ⟨hfo, hsi⟩ := id E9
  have hl : lv_has ls 8 [(0, .ref (aS 0)), (1, .int (nI 2)), (2, .int i), (3, .int (nI 1)), (4, .int j), (5, .int k)] := hl
  refine lv_iload_n hx hb dX5_copy_0 rfl (lv_at hl 1 rfl) ?_
  refine callPS (rest := []) G K F_X5_isSheet (c_X5_isSheet (nI 2)) (va_P_nil D s.heap) ml_X5_121 (by decide) (by decide) rfl hl.1 (Nat.le_of_ble_eq_true rfl) dX5_copy_1 ?_
  refine b_eq G (tgt := 14) dX5_copy_4 (by decide) (fun c4 => ?_) (fun c4 => ?_)
  · -- taken at 4
    exact absurd ⟨2, by decide, rfl⟩ c4
  · -- not taken at 4
    refine lv_iload_n hx hb dX5_copy_7 rfl (lv_at hl 3 rfl) ?_
    refine callPS (rest := []) G K F_X5_isSheet (c_X5_isSheet (nI 1)) (va_P_nil D s.heap) ml_X5_121 (by decide) (by decide) rfl hl.1 (Nat.le_of_ble_eq_true rfl) dX5_copy_8 ?_
    refine b_ne G (tgt := 17) dX5_copy_11 (by decide) (fun c11 => ?_) (fun c11 => ?_)
    · -- taken at 11
      refine lv_aload_n hx hb dX5_copy_17 rfl (lv_at hl 0 rfl) ?_
      refine f_get G K w.1 inX5 0 (ci := 5) rfl rfl 5 rfl fl_X5_46 (v := .ref (aS 1)) rfl dX5_copy_18 ?_
      refine lv_iload_n hx hb dX5_copy_21 rfl (lv_at hl 1 rfl) ?_
      refine a_ldR G K w.1 1 2 (a := (aS 1)) rfl rfl (by omega) (by decide) dX5_copy_22 ?_
      refine lv_astore (lv' := [(6, .ref (aE 2)), (0, .ref (aS 0)), (1, .int (nI 2)), (2, .int i), (3, .int (nI 1)), (4, .int j), (5, .int k)]) hx hb dX5_copy_23 hl (by decide) rfl (fun ls hl => ?_)
      refine lv_aload_n hx hb dX5_copy_25 rfl (lv_at hl 1 rfl) ?_
      refine f_get G K w.1 inX5 0 (ci := 5) rfl rfl 5 rfl fl_X5_46 (v := .ref (aS 1)) rfl dX5_copy_26 ?_
      refine lv_iload_n hx hb dX5_copy_29 rfl (lv_at hl 4 rfl) ?_
      refine a_ldR G K w.1 1 2 (a := (aS 1)) rfl rfl (by omega) (by decide) dX5_copy_30 ?_
      refine lv_astore (lv' := [(7, .ref (aE 1)), (6, .ref (aE 2)), (0, .ref (aS 0)), (1, .int (nI 2)), (2, .int i), (3, .int (nI 1)), (4, .int j), (5, .int k)]) hx hb dX5_copy_31 hl (by decide) rfl (fun ls hl => ?_)
      refine lv_aload hx hb dX5_copy_33 (lv_at hl 1 rfl) ?_
      refine f_get G K w.1 inX3 36 (ci := 3) rfl rfl 1 rfl fl_X5_124 (v := .int (bI (lo 2))) rfl dX5_copy_35 ?_
      refine b_ne G (tgt := 49) dX5_copy_38 (by decide) (fun c38 => ?_) (fun c38 => ?_)
      · -- taken at 38
        refine lv_aload_n hx hb dX5_copy_49 rfl (lv_at hl 2 rfl) ?_
        refine lv_iconst (v := (nI 1)) hx hb dX5_copy_50 (by decide) ?_
        refine callMF (As := [.int (nI 1)]) (rest := []) (q0 := 0) (ci := 5) (ws' := ((wS cS aS (aW 0) (aB 0) (aC 0) (aH 0) (aT 0) aE (nI 1)) ++ ((wW cI aW n cl th ki va re fi) ++ ((wB cI aB bt bs) ++ ((wC cI cZ aC (aW 0) (aB 0) to co ke nu fw) ++ ((wH cI aH (aW 0) lt tr sh cr ct cu ve ta ch) ++ ((wH cI aT (aW 0) lt2 tr2 sh2 cr2 ct2 cu2 ve2 ta2 ch2) ++ (wE cI aE lo fo si it)))))))) G K hA w F_X5_find (c_X5_find aS aE la aW n cl th ki va re fi aB bt bs aC to co ke nu fw aH lt tr sh cr ct cu ve ta ch aT lt2 tr2 sh2 cr2 ct2 cu2 ve2 ta2 ch2 lo fo si it 1 J S B9 C9 H9 U9 E9) ml_X5_128 rfl rfl rfl (by decide) (by decide) rfl hl.1 (Nat.le_of_ble_eq_true rfl) dX5_copy_51 (fun Hp1 lo2 w => ?_)
        exact hret _ _ _ _ _ _ rfl rfl w dX5_copy_54
      · -- not taken at 38
        refine lv_aload hx hb dX5_copy_41 (lv_at hl 0 rfl) ?_
        refine f_get G K w.1 inX3 35 (ci := 3) rfl rfl 1 rfl fl_X5_124 (v := .int (bI (lo 1))) rfl dX5_copy_43 ?_
        refine b_eq G (tgt := 55) dX5_copy_46 (by decide) (fun c46 => ?_) (fun c46 => ?_)
        · -- taken at 46
          exact absurd hf9 (fun h => h.elim c38 c46)
        · -- not taken at 46
          refine lv_aload_n hx hb dX5_copy_49 rfl (lv_at hl 2 rfl) ?_
          refine lv_iconst (v := (nI 1)) hx hb dX5_copy_50 (by decide) ?_
          refine callMF (As := [.int (nI 1)]) (rest := []) (q0 := 0) (ci := 5) (ws' := ((wS cS aS (aW 0) (aB 0) (aC 0) (aH 0) (aT 0) aE (nI 1)) ++ ((wW cI aW n cl th ki va re fi) ++ ((wB cI aB bt bs) ++ ((wC cI cZ aC (aW 0) (aB 0) to co ke nu fw) ++ ((wH cI aH (aW 0) lt tr sh cr ct cu ve ta ch) ++ ((wH cI aT (aW 0) lt2 tr2 sh2 cr2 ct2 cu2 ve2 ta2 ch2) ++ (wE cI aE lo fo si it)))))))) G K hA w F_X5_find (c_X5_find aS aE la aW n cl th ki va re fi aB bt bs aC to co ke nu fw aH lt tr sh cr ct cu ve ta ch aT lt2 tr2 sh2 cr2 ct2 cu2 ve2 ta2 ch2 lo fo si it 1 J S B9 C9 H9 U9 E9) ml_X5_128 rfl rfl rfl (by decide) (by decide) rfl hl.1 (Nat.le_of_ble_eq_true rfl) dX5_copy_51 (fun Hp3 lo4 w => ?_)
          exact hret _ _ _ _ _ _ rfl rfl w dX5_copy_54
    · -- not taken at 11
      exact absurd ⟨1, by decide, rfl⟩ c11
set_option maxHeartbeats 4000000 in
set_option maxRecDepth 100000 in
theorem c_X5_copy_sto21 (aS : Nat → Nat) (aE : Nat → Nat) (la : Int32) (aW : Nat → Nat) (n : Nat) (cl : Nat) (th : Nat → Nat) (ki : Nat → Nat) (va : Nat → Nat) (re : Nat → Nat) (fi : Nat → Nat) (aB : Nat → Nat) (bt : Nat → Nat) (bs : Nat) (aC : Nat → Nat) (to : Nat → Prop) (co : Nat → Nat) (ke : Nat → Int32) (nu : Nat → Int32) (fw : Nat → Nat) (aH : Nat → Nat) (lt : Nat → Option Nat) (tr : Nat → Nat) (sh : Nat → Nat) (cr : Nat → Nat) (ct : Nat → Nat) (cu : Nat → Nat) (ve : Nat → Nat) (ta : Nat → Nat) (ch : Nat) (aT : Nat → Nat) (lt2 : Nat → Option Nat) (tr2 : Nat → Nat) (sh2 : Nat → Nat) (cr2 : Nat → Nat) (ct2 : Nat → Nat) (cu2 : Nat → Nat) (ve2 : Nat → Nat) (ta2 : Nat → Nat) (ch2 : Nat) (lo : Nat → Prop) (fo : Nat → Nat) (si : Nat → Nat) (it : Nat → Nat → Int32) (i : Int32) (j : Int32) (k : Int32) (J : IW n cl th ki va re fi) (S : SW n cl re fi) (B9 : (∀ j, bt j ≤ 255) ∧ bs ≤ 216) (C9 : (∀ j, co j ≤ 400) ∧ (∀ j, fw j ≤ 15)) (H9 : IHd lt tr sh cr ct cu ve ta ch) (U9 : IHd lt2 tr2 sh2 cr2 ct2 cu2 ve2 ta2 ch2) (E9 : (∀ j, fo j ≤ 2) ∧ (∀ j, si j ≤ 60)) (hf9 : ¬ (lo 2 ∨ lo 1)) (hc9 : fo 2 ≠ fo 1) : CM l D (TY cI cZ cS) yX5_copy cX5_copy 8 (some .int) 1 [.ref (aS 0), .int (nI 2), .int i, .int (nI 1), .int j, .int k] ((wS cS aS (aW 0) (aB 0) (aC 0) (aH 0) (aT 0) aE la) ++ ((wW cI aW n cl th ki va re fi) ++ ((wB cI aB bt bs) ++ ((wC cI cZ aC (aW 0) (aB 0) to co ke nu fw) ++ ((wH cI aH (aW 0) lt tr sh cr ct cu ve ta ch) ++ ((wH cI aT (aW 0) lt2 tr2 sh2 cr2 ct2 cu2 ve2 ta2 ch2) ++ (wE cI aE lo fo si it))))))) (some (.int ((-10) - (nI 4)))) ((wS cS aS (aW 0) (aB 0) (aC 0) (aH 0) (aT 0) aE (nI 4)) ++ ((wW cI aW n cl th ki va re fi) ++ ((wB cI aB bt bs) ++ ((wC cI cZ aC (aW 0) (aB 0) to co ke nu fw) ++ ((wH cI aH (aW 0) lt tr sh cr ct cu ve ta ch) ++ ((wH cI aT (aW 0) lt2 tr2 sh2 cr2 ct2 cu2 ve2 ta2 ch2) ++ (wE cI aE lo fo si it))))))) := by
  refine CM.ofI (by decide +kernel) (Nat.le_of_ble_eq_true rfl) (nar_int _) ?_
  intro p e s m args below meth c Q A G K hA w hret ls hl
  obtain ⟨hx, hb, hml, hown, hts⟩ := id G
  obtain ⟨hn, hcl, hth, hki, hva, hre, hfi⟩ := id J
  obtain ⟨hbt, hbs⟩ := id B9
  obtain ⟨hco, hfw⟩ := id C9
  obtain ⟨hlt, htr, hsh, hcr, hct, hcu, hve, hta, hch⟩ := id H9
  obtain ⟨hlt2, htr2, hsh2, hcr2, hct2, hcu2, hve2, hta2, hch2⟩ := id U9
  obtain ⟨hfo, hsi⟩ := id E9
  have hq1 := hfo 2
  have hq2 := hfo 1
  have hl : lv_has ls 8 [(0, .ref (aS 0)), (1, .int (nI 2)), (2, .int i), (3, .int (nI 1)), (4, .int j), (5, .int k)] := hl
  refine lv_iload_n hx hb dX5_copy_0 rfl (lv_at hl 1 rfl) ?_
  refine callPS (rest := []) G K F_X5_isSheet (c_X5_isSheet (nI 2)) (va_P_nil D s.heap) ml_X5_121 (by decide) (by decide) rfl hl.1 (Nat.le_of_ble_eq_true rfl) dX5_copy_1 ?_
  refine b_eq G (tgt := 14) dX5_copy_4 (by decide) (fun c4 => ?_) (fun c4 => ?_)
  · -- taken at 4
    exact absurd ⟨2, by decide, rfl⟩ c4
  · -- not taken at 4
    refine lv_iload_n hx hb dX5_copy_7 rfl (lv_at hl 3 rfl) ?_
    refine callPS (rest := []) G K F_X5_isSheet (c_X5_isSheet (nI 1)) (va_P_nil D s.heap) ml_X5_121 (by decide) (by decide) rfl hl.1 (Nat.le_of_ble_eq_true rfl) dX5_copy_8 ?_
    refine b_ne G (tgt := 17) dX5_copy_11 (by decide) (fun c11 => ?_) (fun c11 => ?_)
    · -- taken at 11
      refine lv_aload_n hx hb dX5_copy_17 rfl (lv_at hl 0 rfl) ?_
      refine f_get G K w.1 inX5 0 (ci := 5) rfl rfl 5 rfl fl_X5_46 (v := .ref (aS 1)) rfl dX5_copy_18 ?_
      refine lv_iload_n hx hb dX5_copy_21 rfl (lv_at hl 1 rfl) ?_
      refine a_ldR G K w.1 1 2 (a := (aS 1)) rfl rfl (by omega) (by decide) dX5_copy_22 ?_
      refine lv_astore (lv' := [(6, .ref (aE 2)), (0, .ref (aS 0)), (1, .int (nI 2)), (2, .int i), (3, .int (nI 1)), (4, .int j), (5, .int k)]) hx hb dX5_copy_23 hl (by decide) rfl (fun ls hl => ?_)
      refine lv_aload_n hx hb dX5_copy_25 rfl (lv_at hl 1 rfl) ?_
      refine f_get G K w.1 inX5 0 (ci := 5) rfl rfl 5 rfl fl_X5_46 (v := .ref (aS 1)) rfl dX5_copy_26 ?_
      refine lv_iload_n hx hb dX5_copy_29 rfl (lv_at hl 4 rfl) ?_
      refine a_ldR G K w.1 1 2 (a := (aS 1)) rfl rfl (by omega) (by decide) dX5_copy_30 ?_
      refine lv_astore (lv' := [(7, .ref (aE 1)), (6, .ref (aE 2)), (0, .ref (aS 0)), (1, .int (nI 2)), (2, .int i), (3, .int (nI 1)), (4, .int j), (5, .int k)]) hx hb dX5_copy_31 hl (by decide) rfl (fun ls hl => ?_)
      refine lv_aload hx hb dX5_copy_33 (lv_at hl 1 rfl) ?_
      refine f_get G K w.1 inX3 36 (ci := 3) rfl rfl 1 rfl fl_X5_124 (v := .int (bI (lo 2))) rfl dX5_copy_35 ?_
      refine b_ne G (tgt := 49) dX5_copy_38 (by decide) (fun c38 => ?_) (fun c38 => ?_)
      · -- taken at 38
        exact absurd (Or.inl c38) hf9
      · -- not taken at 38
        refine lv_aload hx hb dX5_copy_41 (lv_at hl 0 rfl) ?_
        refine f_get G K w.1 inX3 35 (ci := 3) rfl rfl 1 rfl fl_X5_124 (v := .int (bI (lo 1))) rfl dX5_copy_43 ?_
        refine b_eq G (tgt := 55) dX5_copy_46 (by decide) (fun c46 => ?_) (fun c46 => ?_)
        · -- taken at 46
          refine lv_aload hx hb dX5_copy_55 (lv_at hl 1 rfl) ?_
          refine f_get G K w.1 inX3 36 (ci := 3) rfl rfl 2 rfl fl_X5_247 (v := .int (nI (fo 2))) rfl dX5_copy_57 ?_
          refine lv_aload hx hb dX5_copy_60 (lv_at hl 0 rfl) ?_
          refine f_get G K w.1 inX3 35 (ci := 3) rfl rfl 2 rfl fl_X5_247 (v := .int (nI (fo 1))) rfl dX5_copy_62 ?_
          refine c_eq G (tgt := 74) (by omega) (by omega) dX5_copy_65 (by decide) (fun c65 => ?_) (fun c65 => ?_)
          · -- taken at 65
            exact absurd c65 hc9
          · -- not taken at 65
            refine lv_aload_n hx hb dX5_copy_68 rfl (lv_at hl 2 rfl) ?_
            refine lv_iconst (v := (nI 4)) hx hb dX5_copy_69 (by decide) ?_
            refine callMF (As := [.int (nI 4)]) (rest := []) (q0 := 0) (ci := 5) (ws' := ((wS cS aS (aW 0) (aB 0) (aC 0) (aH 0) (aT 0) aE (nI 4)) ++ ((wW cI aW n cl th ki va re fi) ++ ((wB cI aB bt bs) ++ ((wC cI cZ aC (aW 0) (aB 0) to co ke nu fw) ++ ((wH cI aH (aW 0) lt tr sh cr ct cu ve ta ch) ++ ((wH cI aT (aW 0) lt2 tr2 sh2 cr2 ct2 cu2 ve2 ta2 ch2) ++ (wE cI aE lo fo si it)))))))) G K hA w F_X5_find (c_X5_find aS aE la aW n cl th ki va re fi aB bt bs aC to co ke nu fw aH lt tr sh cr ct cu ve ta ch aT lt2 tr2 sh2 cr2 ct2 cu2 ve2 ta2 ch2 lo fo si it 4 J S B9 C9 H9 U9 E9) ml_X5_128 rfl rfl rfl (by decide) (by decide) rfl hl.1 (Nat.le_of_ble_eq_true rfl) dX5_copy_70 (fun Hp1 lo2 w => ?_)
            exact hret _ _ _ _ _ _ rfl rfl w dX5_copy_73
        · -- not taken at 46
          exact absurd (Or.inr c46) hf9
    · -- not taken at 11
      exact absurd ⟨1, by decide, rfl⟩ c11
set_option maxHeartbeats 4000000 in
set_option maxRecDepth 100000 in
theorem c_X5_copy_idx21 (aS : Nat → Nat) (aE : Nat → Nat) (la : Int32) (aW : Nat → Nat) (n : Nat) (cl : Nat) (th : Nat → Nat) (ki : Nat → Nat) (va : Nat → Nat) (re : Nat → Nat) (fi : Nat → Nat) (aB : Nat → Nat) (bt : Nat → Nat) (bs : Nat) (aC : Nat → Nat) (to : Nat → Prop) (co : Nat → Nat) (ke : Nat → Int32) (nu : Nat → Int32) (fw : Nat → Nat) (aH : Nat → Nat) (lt : Nat → Option Nat) (tr : Nat → Nat) (sh : Nat → Nat) (cr : Nat → Nat) (ct : Nat → Nat) (cu : Nat → Nat) (ve : Nat → Nat) (ta : Nat → Nat) (ch : Nat) (aT : Nat → Nat) (lt2 : Nat → Option Nat) (tr2 : Nat → Nat) (sh2 : Nat → Nat) (cr2 : Nat → Nat) (ct2 : Nat → Nat) (cu2 : Nat → Nat) (ve2 : Nat → Nat) (ta2 : Nat → Nat) (ch2 : Nat) (lo : Nat → Prop) (fo : Nat → Nat) (si : Nat → Nat) (it : Nat → Nat → Int32) (i : Int32) (j : Int32) (k : Int32) (J : IW n cl th ki va re fi) (S : SW n cl re fi) (B9 : (∀ j, bt j ≤ 255) ∧ bs ≤ 216) (C9 : (∀ j, co j ≤ 400) ∧ (∀ j, fw j ≤ 15)) (H9 : IHd lt tr sh cr ct cu ve ta ch) (U9 : IHd lt2 tr2 sh2 cr2 ct2 cu2 ve2 ta2 ch2) (E9 : (∀ j, fo j ≤ 2) ∧ (∀ j, si j ≤ 60)) (hf9 : ¬ (lo 2 ∨ lo 1)) (hc9 : fo 2 = fo 1) (hk9 : ¬ (okH (si 2) i k ∧ okH (si 1) j k)) : CM l D (TY cI cZ cS) yX5_copy cX5_copy 8 (some .int) 1 [.ref (aS 0), .int (nI 2), .int i, .int (nI 1), .int j, .int k] ((wS cS aS (aW 0) (aB 0) (aC 0) (aH 0) (aT 0) aE la) ++ ((wW cI aW n cl th ki va re fi) ++ ((wB cI aB bt bs) ++ ((wC cI cZ aC (aW 0) (aB 0) to co ke nu fw) ++ ((wH cI aH (aW 0) lt tr sh cr ct cu ve ta ch) ++ ((wH cI aT (aW 0) lt2 tr2 sh2 cr2 ct2 cu2 ve2 ta2 ch2) ++ (wE cI aE lo fo si it))))))) (some (.int ((-10) - (nI 2)))) ((wS cS aS (aW 0) (aB 0) (aC 0) (aH 0) (aT 0) aE (nI 2)) ++ ((wW cI aW n cl th ki va re fi) ++ ((wB cI aB bt bs) ++ ((wC cI cZ aC (aW 0) (aB 0) to co ke nu fw) ++ ((wH cI aH (aW 0) lt tr sh cr ct cu ve ta ch) ++ ((wH cI aT (aW 0) lt2 tr2 sh2 cr2 ct2 cu2 ve2 ta2 ch2) ++ (wE cI aE lo fo si it))))))) := by
  refine CM.ofI (by decide +kernel) (Nat.le_of_ble_eq_true rfl) (nar_int _) ?_
  intro p e s m args below meth c Q A G K hA w hret ls hl
  obtain ⟨hx, hb, hml, hown, hts⟩ := id G
  obtain ⟨hn, hcl, hth, hki, hva, hre, hfi⟩ := id J
  obtain ⟨hbt, hbs⟩ := id B9
  obtain ⟨hco, hfw⟩ := id C9
  obtain ⟨hlt, htr, hsh, hcr, hct, hcu, hve, hta, hch⟩ := id H9
  obtain ⟨hlt2, htr2, hsh2, hcr2, hct2, hcu2, hve2, hta2, hch2⟩ := id U9
  obtain ⟨hfo, hsi⟩ := id E9
  have hq1 := hfo 2
  have hq2 := hfo 1
  have hl : lv_has ls 8 [(0, .ref (aS 0)), (1, .int (nI 2)), (2, .int i), (3, .int (nI 1)), (4, .int j), (5, .int k)] := hl
  refine lv_iload_n hx hb dX5_copy_0 rfl (lv_at hl 1 rfl) ?_
  refine callPS (rest := []) G K F_X5_isSheet (c_X5_isSheet (nI 2)) (va_P_nil D s.heap) ml_X5_121 (by decide) (by decide) rfl hl.1 (Nat.le_of_ble_eq_true rfl) dX5_copy_1 ?_
  refine b_eq G (tgt := 14) dX5_copy_4 (by decide) (fun c4 => ?_) (fun c4 => ?_)
  · -- taken at 4
    exact absurd ⟨2, by decide, rfl⟩ c4
  · -- not taken at 4
    refine lv_iload_n hx hb dX5_copy_7 rfl (lv_at hl 3 rfl) ?_
    refine callPS (rest := []) G K F_X5_isSheet (c_X5_isSheet (nI 1)) (va_P_nil D s.heap) ml_X5_121 (by decide) (by decide) rfl hl.1 (Nat.le_of_ble_eq_true rfl) dX5_copy_8 ?_
    refine b_ne G (tgt := 17) dX5_copy_11 (by decide) (fun c11 => ?_) (fun c11 => ?_)
    · -- taken at 11
      refine lv_aload_n hx hb dX5_copy_17 rfl (lv_at hl 0 rfl) ?_
      refine f_get G K w.1 inX5 0 (ci := 5) rfl rfl 5 rfl fl_X5_46 (v := .ref (aS 1)) rfl dX5_copy_18 ?_
      refine lv_iload_n hx hb dX5_copy_21 rfl (lv_at hl 1 rfl) ?_
      refine a_ldR G K w.1 1 2 (a := (aS 1)) rfl rfl (by omega) (by decide) dX5_copy_22 ?_
      refine lv_astore (lv' := [(6, .ref (aE 2)), (0, .ref (aS 0)), (1, .int (nI 2)), (2, .int i), (3, .int (nI 1)), (4, .int j), (5, .int k)]) hx hb dX5_copy_23 hl (by decide) rfl (fun ls hl => ?_)
      refine lv_aload_n hx hb dX5_copy_25 rfl (lv_at hl 1 rfl) ?_
      refine f_get G K w.1 inX5 0 (ci := 5) rfl rfl 5 rfl fl_X5_46 (v := .ref (aS 1)) rfl dX5_copy_26 ?_
      refine lv_iload_n hx hb dX5_copy_29 rfl (lv_at hl 4 rfl) ?_
      refine a_ldR G K w.1 1 2 (a := (aS 1)) rfl rfl (by omega) (by decide) dX5_copy_30 ?_
      refine lv_astore (lv' := [(7, .ref (aE 1)), (6, .ref (aE 2)), (0, .ref (aS 0)), (1, .int (nI 2)), (2, .int i), (3, .int (nI 1)), (4, .int j), (5, .int k)]) hx hb dX5_copy_31 hl (by decide) rfl (fun ls hl => ?_)
      refine lv_aload hx hb dX5_copy_33 (lv_at hl 1 rfl) ?_
      refine f_get G K w.1 inX3 36 (ci := 3) rfl rfl 1 rfl fl_X5_124 (v := .int (bI (lo 2))) rfl dX5_copy_35 ?_
      refine b_ne G (tgt := 49) dX5_copy_38 (by decide) (fun c38 => ?_) (fun c38 => ?_)
      · -- taken at 38
        exact absurd (Or.inl c38) hf9
      · -- not taken at 38
        refine lv_aload hx hb dX5_copy_41 (lv_at hl 0 rfl) ?_
        refine f_get G K w.1 inX3 35 (ci := 3) rfl rfl 1 rfl fl_X5_124 (v := .int (bI (lo 1))) rfl dX5_copy_43 ?_
        refine b_eq G (tgt := 55) dX5_copy_46 (by decide) (fun c46 => ?_) (fun c46 => ?_)
        · -- taken at 46
          refine lv_aload hx hb dX5_copy_55 (lv_at hl 1 rfl) ?_
          refine f_get G K w.1 inX3 36 (ci := 3) rfl rfl 2 rfl fl_X5_247 (v := .int (nI (fo 2))) rfl dX5_copy_57 ?_
          refine lv_aload hx hb dX5_copy_60 (lv_at hl 0 rfl) ?_
          refine f_get G K w.1 inX3 35 (ci := 3) rfl rfl 2 rfl fl_X5_247 (v := .int (nI (fo 1))) rfl dX5_copy_62 ?_
          refine c_eq G (tgt := 74) (by omega) (by omega) dX5_copy_65 (by decide) (fun c65 => ?_) (fun c65 => ?_)
          · -- taken at 65
            refine lv_aload hx hb dX5_copy_74 (lv_at hl 1 rfl) ?_
            refine lv_iload_n hx hb dX5_copy_76 rfl (lv_at hl 4 rfl) ?_
            refine lv_iload hx hb dX5_copy_77 (lv_at hl 7 rfl) ?_
            refine callPV (As := [.int i, .int k]) (rest := []) (q0 := 0) (ci := 3) G K F_X3_hasItems (c_X3_hasItems (aE 2) (aE 6) (lo 2) (fo 2) (si 2) (it 2) i k ⟨hfo 2, hsi 2⟩) (w.1.sub (ws' := (wT cI (aE 2) (aE 6) (lo 2) (fo 2) (si 2) (it 2))) [36, 40] rfl) ml_X5_250 rfl rfl rfl (by decide) (by decide) rfl hl.1 (Nat.le_of_ble_eq_true rfl) dX5_copy_79 ?_
            refine b_eq G (tgt := 97) dX5_copy_82 (by decide) (fun c82 => ?_) (fun c82 => ?_)
            · -- taken at 82
              refine lv_aload_n hx hb dX5_copy_97 rfl (lv_at hl 2 rfl) ?_
              refine lv_iconst (v := (nI 2)) hx hb dX5_copy_98 (by decide) ?_
              refine callMF (As := [.int (nI 2)]) (rest := []) (q0 := 0) (ci := 5) (ws' := ((wS cS aS (aW 0) (aB 0) (aC 0) (aH 0) (aT 0) aE (nI 2)) ++ ((wW cI aW n cl th ki va re fi) ++ ((wB cI aB bt bs) ++ ((wC cI cZ aC (aW 0) (aB 0) to co ke nu fw) ++ ((wH cI aH (aW 0) lt tr sh cr ct cu ve ta ch) ++ ((wH cI aT (aW 0) lt2 tr2 sh2 cr2 ct2 cu2 ve2 ta2 ch2) ++ (wE cI aE lo fo si it)))))))) G K hA w F_X5_find (c_X5_find aS aE la aW n cl th ki va re fi aB bt bs aC to co ke nu fw aH lt tr sh cr ct cu ve ta ch aT lt2 tr2 sh2 cr2 ct2 cu2 ve2 ta2 ch2 lo fo si it 2 J S B9 C9 H9 U9 E9) ml_X5_128 rfl rfl rfl (by decide) (by decide) rfl hl.1 (Nat.le_of_ble_eq_true rfl) dX5_copy_99 (fun Hp1 lo2 w => ?_)
              exact hret _ _ _ _ _ _ rfl rfl w dX5_copy_102
            · -- not taken at 82
              refine lv_aload hx hb dX5_copy_85 (lv_at hl 0 rfl) ?_
              refine lv_iload hx hb dX5_copy_87 (lv_at hl 6 rfl) ?_
              refine lv_iload hx hb dX5_copy_89 (lv_at hl 7 rfl) ?_
              refine callPV (As := [.int j, .int k]) (rest := []) (q0 := 0) (ci := 3) G K F_X3_hasItems (c_X3_hasItems (aE 1) (aE 5) (lo 1) (fo 1) (si 1) (it 1) j k ⟨hfo 1, hsi 1⟩) (w.1.sub (ws' := (wT cI (aE 1) (aE 5) (lo 1) (fo 1) (si 1) (it 1))) [35, 39] rfl) ml_X5_250 rfl rfl rfl (by decide) (by decide) rfl hl.1 (Nat.le_of_ble_eq_true rfl) dX5_copy_91 ?_
              refine b_ne G (tgt := 103) dX5_copy_94 (by decide) (fun c94 => ?_) (fun c94 => ?_)
              · -- taken at 94
                exact absurd ⟨c82, c94⟩ hk9
              · -- not taken at 94
                refine lv_aload_n hx hb dX5_copy_97 rfl (lv_at hl 2 rfl) ?_
                refine lv_iconst (v := (nI 2)) hx hb dX5_copy_98 (by decide) ?_
                refine callMF (As := [.int (nI 2)]) (rest := []) (q0 := 0) (ci := 5) (ws' := ((wS cS aS (aW 0) (aB 0) (aC 0) (aH 0) (aT 0) aE (nI 2)) ++ ((wW cI aW n cl th ki va re fi) ++ ((wB cI aB bt bs) ++ ((wC cI cZ aC (aW 0) (aB 0) to co ke nu fw) ++ ((wH cI aH (aW 0) lt tr sh cr ct cu ve ta ch) ++ ((wH cI aT (aW 0) lt2 tr2 sh2 cr2 ct2 cu2 ve2 ta2 ch2) ++ (wE cI aE lo fo si it)))))))) G K hA w F_X5_find (c_X5_find aS aE la aW n cl th ki va re fi aB bt bs aC to co ke nu fw aH lt tr sh cr ct cu ve ta ch aT lt2 tr2 sh2 cr2 ct2 cu2 ve2 ta2 ch2 lo fo si it 2 J S B9 C9 H9 U9 E9) ml_X5_128 rfl rfl rfl (by decide) (by decide) rfl hl.1 (Nat.le_of_ble_eq_true rfl) dX5_copy_99 (fun Hp3 lo4 w => ?_)
                exact hret _ _ _ _ _ _ rfl rfl w dX5_copy_102
          · -- not taken at 65
            exact absurd hc9 c65
        · -- not taken at 46
          exact absurd (Or.inr c46) hf9
    · -- not taken at 11
      exact absurd ⟨1, by decide, rfl⟩ c11
set_option maxHeartbeats 4000000 in
set_option maxRecDepth 100000 in
theorem c_X5_copy_ok21 (aS : Nat → Nat) (aE : Nat → Nat) (la : Int32) (aW : Nat → Nat) (n : Nat) (cl : Nat) (th : Nat → Nat) (ki : Nat → Nat) (va : Nat → Nat) (re : Nat → Nat) (fi : Nat → Nat) (aB : Nat → Nat) (bt : Nat → Nat) (bs : Nat) (aC : Nat → Nat) (to : Nat → Prop) (co : Nat → Nat) (ke : Nat → Int32) (nu : Nat → Int32) (fw : Nat → Nat) (aH : Nat → Nat) (lt : Nat → Option Nat) (tr : Nat → Nat) (sh : Nat → Nat) (cr : Nat → Nat) (ct : Nat → Nat) (cu : Nat → Nat) (ve : Nat → Nat) (ta : Nat → Nat) (ch : Nat) (aT : Nat → Nat) (lt2 : Nat → Option Nat) (tr2 : Nat → Nat) (sh2 : Nat → Nat) (cr2 : Nat → Nat) (ct2 : Nat → Nat) (cu2 : Nat → Nat) (ve2 : Nat → Nat) (ta2 : Nat → Nat) (ch2 : Nat) (lo : Nat → Prop) (fo : Nat → Nat) (si : Nat → Nat) (it : Nat → Nat → Int32) (i : Nat) (j : Nat) (k : Nat) (J : IW n cl th ki va re fi) (S : SW n cl re fi) (B9 : (∀ j, bt j ≤ 255) ∧ bs ≤ 216) (C9 : (∀ j, co j ≤ 400) ∧ (∀ j, fw j ≤ 15)) (H9 : IHd lt tr sh cr ct cu ve ta ch) (U9 : IHd lt2 tr2 sh2 cr2 ct2 cu2 ve2 ta2 ch2) (E9 : (∀ j, fo j ≤ 2) ∧ (∀ j, si j ≤ 60)) (hf9 : ¬ (lo 2 ∨ lo 1)) (hc9 : fo 2 = fo 1) (hi9 : i + k ≤ si 2) (hj9 : j + k ≤ si 1) : CM l D (TY cI cZ cS) yX5_copy cX5_copy 8 (some .int) 1 [.ref (aS 0), .int (nI 2), .int (nI i), .int (nI 1), .int (nI j), .int (nI k)] ((wS cS aS (aW 0) (aB 0) (aC 0) (aH 0) (aT 0) aE la) ++ ((wW cI aW n cl th ki va re fi) ++ ((wB cI aB bt bs) ++ ((wC cI cZ aC (aW 0) (aB 0) to co ke nu fw) ++ ((wH cI aH (aW 0) lt tr sh cr ct cu ve ta ch) ++ ((wH cI aT (aW 0) lt2 tr2 sh2 cr2 ct2 cu2 ve2 ta2 ch2) ++ (wE cI aE lo fo si it))))))) (some (.int (nI 1))) ((wS cS aS (aW 0) (aB 0) (aC 0) (aH 0) (aT 0) aE la) ++ ((wW cI aW n cl th ki va re fi) ++ ((wB cI aB bt bs) ++ ((wC cI cZ aC (aW 0) (aB 0) to co ke nu fw) ++ ((wH cI aH (aW 0) lt tr sh cr ct cu ve ta ch) ++ ((wH cI aT (aW 0) lt2 tr2 sh2 cr2 ct2 cu2 ve2 ta2 ch2) ++ (wE cI aE lo fo si (va_up it 1 (va_cpy (it 2) (it 1) i j k))))))))) := by
  refine CM.ofI (by decide +kernel) (Nat.le_of_ble_eq_true rfl) (nar_int _) ?_
  intro p e s m args below meth c Q A G K hA w hret ls hl
  obtain ⟨hx, hb, hml, hown, hts⟩ := id G
  obtain ⟨hn, hcl, hth, hki, hva, hre, hfi⟩ := id J
  obtain ⟨hbt, hbs⟩ := id B9
  obtain ⟨hco, hfw⟩ := id C9
  obtain ⟨hlt, htr, hsh, hcr, hct, hcu, hve, hta, hch⟩ := id H9
  obtain ⟨hlt2, htr2, hsh2, hcr2, hct2, hcu2, hve2, hta2, hch2⟩ := id U9
  obtain ⟨hfo, hsi⟩ := id E9
  have hs9 := hsi 2
  have ht9 := hsi 1
  have hq1 := hfo 2
  have hq2 := hfo 1
  have hl : lv_has ls 8 [(0, .ref (aS 0)), (1, .int (nI 2)), (2, .int (nI i)), (3, .int (nI 1)), (4, .int (nI j)), (5, .int (nI k))] := hl
  refine lv_iload_n hx hb dX5_copy_0 rfl (lv_at hl 1 rfl) ?_
  refine callPS (rest := []) G K F_X5_isSheet (c_X5_isSheet (nI 2)) (va_P_nil D s.heap) ml_X5_121 (by decide) (by decide) rfl hl.1 (Nat.le_of_ble_eq_true rfl) dX5_copy_1 ?_
  refine b_eq G (tgt := 14) dX5_copy_4 (by decide) (fun c4 => ?_) (fun c4 => ?_)
  · -- taken at 4
    exact absurd ⟨2, by decide, rfl⟩ c4
  · -- not taken at 4
    refine lv_iload_n hx hb dX5_copy_7 rfl (lv_at hl 3 rfl) ?_
    refine callPS (rest := []) G K F_X5_isSheet (c_X5_isSheet (nI 1)) (va_P_nil D s.heap) ml_X5_121 (by decide) (by decide) rfl hl.1 (Nat.le_of_ble_eq_true rfl) dX5_copy_8 ?_
    refine b_ne G (tgt := 17) dX5_copy_11 (by decide) (fun c11 => ?_) (fun c11 => ?_)
    · -- taken at 11
      refine lv_aload_n hx hb dX5_copy_17 rfl (lv_at hl 0 rfl) ?_
      refine f_get G K w.1 inX5 0 (ci := 5) rfl rfl 5 rfl fl_X5_46 (v := .ref (aS 1)) rfl dX5_copy_18 ?_
      refine lv_iload_n hx hb dX5_copy_21 rfl (lv_at hl 1 rfl) ?_
      refine a_ldR G K w.1 1 2 (a := (aS 1)) rfl rfl (by omega) (by decide) dX5_copy_22 ?_
      refine lv_astore (lv' := [(6, .ref (aE 2)), (0, .ref (aS 0)), (1, .int (nI 2)), (2, .int (nI i)), (3, .int (nI 1)), (4, .int (nI j)), (5, .int (nI k))]) hx hb dX5_copy_23 hl (by decide) rfl (fun ls hl => ?_)
      refine lv_aload_n hx hb dX5_copy_25 rfl (lv_at hl 1 rfl) ?_
      refine f_get G K w.1 inX5 0 (ci := 5) rfl rfl 5 rfl fl_X5_46 (v := .ref (aS 1)) rfl dX5_copy_26 ?_
      refine lv_iload_n hx hb dX5_copy_29 rfl (lv_at hl 4 rfl) ?_
      refine a_ldR G K w.1 1 2 (a := (aS 1)) rfl rfl (by omega) (by decide) dX5_copy_30 ?_
      refine lv_astore (lv' := [(7, .ref (aE 1)), (6, .ref (aE 2)), (0, .ref (aS 0)), (1, .int (nI 2)), (2, .int (nI i)), (3, .int (nI 1)), (4, .int (nI j)), (5, .int (nI k))]) hx hb dX5_copy_31 hl (by decide) rfl (fun ls hl => ?_)
      refine lv_aload hx hb dX5_copy_33 (lv_at hl 1 rfl) ?_
      refine f_get G K w.1 inX3 36 (ci := 3) rfl rfl 1 rfl fl_X5_124 (v := .int (bI (lo 2))) rfl dX5_copy_35 ?_
      refine b_ne G (tgt := 49) dX5_copy_38 (by decide) (fun c38 => ?_) (fun c38 => ?_)
      · -- taken at 38
        exact absurd (Or.inl c38) hf9
      · -- not taken at 38
        refine lv_aload hx hb dX5_copy_41 (lv_at hl 0 rfl) ?_
        refine f_get G K w.1 inX3 35 (ci := 3) rfl rfl 1 rfl fl_X5_124 (v := .int (bI (lo 1))) rfl dX5_copy_43 ?_
        refine b_eq G (tgt := 55) dX5_copy_46 (by decide) (fun c46 => ?_) (fun c46 => ?_)
        · -- taken at 46
          refine lv_aload hx hb dX5_copy_55 (lv_at hl 1 rfl) ?_
          refine f_get G K w.1 inX3 36 (ci := 3) rfl rfl 2 rfl fl_X5_247 (v := .int (nI (fo 2))) rfl dX5_copy_57 ?_
          refine lv_aload hx hb dX5_copy_60 (lv_at hl 0 rfl) ?_
          refine f_get G K w.1 inX3 35 (ci := 3) rfl rfl 2 rfl fl_X5_247 (v := .int (nI (fo 1))) rfl dX5_copy_62 ?_
          refine c_eq G (tgt := 74) (by omega) (by omega) dX5_copy_65 (by decide) (fun c65 => ?_) (fun c65 => ?_)
          · -- taken at 65
            refine lv_aload hx hb dX5_copy_74 (lv_at hl 1 rfl) ?_
            refine lv_iload_n hx hb dX5_copy_76 rfl (lv_at hl 4 rfl) ?_
            refine lv_iload hx hb dX5_copy_77 (lv_at hl 7 rfl) ?_
            refine callPV (As := [.int (nI i), .int (nI k)]) (rest := []) (q0 := 0) (ci := 3) G K F_X3_hasItems (c_X3_hasItems (aE 2) (aE 6) (lo 2) (fo 2) (si 2) (it 2) (nI i) (nI k) ⟨hfo 2, hsi 2⟩) (w.1.sub (ws' := (wT cI (aE 2) (aE 6) (lo 2) (fo 2) (si 2) (it 2))) [36, 40] rfl) ml_X5_250 rfl rfl rfl (by decide) (by decide) rfl hl.1 (Nat.le_of_ble_eq_true rfl) dX5_copy_79 ?_
            refine b_eq G (tgt := 97) dX5_copy_82 (by decide) (fun c82 => ?_) (fun c82 => ?_)
            · -- taken at 82
              exact absurd ⟨i, k, hi9, rfl, rfl⟩ c82
            · -- not taken at 82
              refine lv_aload hx hb dX5_copy_85 (lv_at hl 0 rfl) ?_
              refine lv_iload hx hb dX5_copy_87 (lv_at hl 6 rfl) ?_
              refine lv_iload hx hb dX5_copy_89 (lv_at hl 7 rfl) ?_
              refine callPV (As := [.int (nI j), .int (nI k)]) (rest := []) (q0 := 0) (ci := 3) G K F_X3_hasItems (c_X3_hasItems (aE 1) (aE 5) (lo 1) (fo 1) (si 1) (it 1) (nI j) (nI k) ⟨hfo 1, hsi 1⟩) (w.1.sub (ws' := (wT cI (aE 1) (aE 5) (lo 1) (fo 1) (si 1) (it 1))) [35, 39] rfl) ml_X5_250 rfl rfl rfl (by decide) (by decide) rfl hl.1 (Nat.le_of_ble_eq_true rfl) dX5_copy_91 ?_
              refine b_ne G (tgt := 103) dX5_copy_94 (by decide) (fun c94 => ?_) (fun c94 => ?_)
              · -- taken at 94
                refine lv_aload hx hb dX5_copy_103 (lv_at hl 1 rfl) ?_
                refine f_get G K w.1 inX3 36 (ci := 3) rfl rfl 0 rfl fl_X5_132 (v := .ref (aE 6)) rfl dX5_copy_105 ?_
                refine lv_iload_n hx hb dX5_copy_108 rfl (lv_at hl 4 rfl) ?_
                refine lv_aload hx hb dX5_copy_109 (lv_at hl 0 rfl) ?_
                refine f_get G K w.1 inX3 35 (ci := 3) rfl rfl 0 rfl fl_X5_132 (v := .ref (aE 5)) rfl dX5_copy_111 ?_
                refine lv_iload hx hb dX5_copy_114 (lv_at hl 6 rfl) ?_
                refine lv_iload hx hb dX5_copy_116 (lv_at hl 7 rfl) ?_
                refine acp (f := (it 2)) (g := (it 1)) (sp := i) (dp := j) (k := k) G K w (hml.trans hl.1.symm) ml_X5_253 40 39 rfl rfl (by omega) (by omega) (by decide) (Nat.le_of_ble_eq_true rfl) (Nat.le_of_ble_eq_true rfl) dX5_copy_118 (w2 := ((wS cS aS (aW 0) (aB 0) (aC 0) (aH 0) (aT 0) aE la) ++ ((wW cI aW n cl th ki va re fi) ++ ((wB cI aB bt bs) ++ ((wC cI cZ aC (aW 0) (aB 0) to co ke nu fw) ++ ((wH cI aH (aW 0) lt tr sh cr ct cu ve ta ch) ++ ((wH cI aT (aW 0) lt2 tr2 sh2 cr2 ct2 cu2 ve2 ta2 ch2) ++ (wE cI aE lo fo si (va_up it 1 (va_cpy (it 2) (it 1) i j k)))))))))) rfl (fun Hp1 lo2 w => ?_)
                refine lv_iconst (v := (nI 1)) hx hb dX5_copy_121 (by decide) ?_
                exact hret _ _ _ _ _ _ rfl rfl w dX5_copy_122
              · -- not taken at 94
                exact absurd ⟨j, k, hj9, rfl, rfl⟩ c94
          · -- not taken at 65
            exact absurd hc9 c65
        · -- not taken at 46
          exact absurd (Or.inr c46) hf9
    · -- not taken at 11
      exact absurd ⟨1, by decide, rfl⟩ c11
set_option maxHeartbeats 4000000 in
set_option maxRecDepth 100000 in
theorem c_X5_copy_nul22 (aS : Nat → Nat) (aE : Nat → Nat) (la : Int32) (aW : Nat → Nat) (n : Nat) (cl : Nat) (th : Nat → Nat) (ki : Nat → Nat) (va : Nat → Nat) (re : Nat → Nat) (fi : Nat → Nat) (aB : Nat → Nat) (bt : Nat → Nat) (bs : Nat) (aC : Nat → Nat) (to : Nat → Prop) (co : Nat → Nat) (ke : Nat → Int32) (nu : Nat → Int32) (fw : Nat → Nat) (aH : Nat → Nat) (lt : Nat → Option Nat) (tr : Nat → Nat) (sh : Nat → Nat) (cr : Nat → Nat) (ct : Nat → Nat) (cu : Nat → Nat) (ve : Nat → Nat) (ta : Nat → Nat) (ch : Nat) (aT : Nat → Nat) (lt2 : Nat → Option Nat) (tr2 : Nat → Nat) (sh2 : Nat → Nat) (cr2 : Nat → Nat) (ct2 : Nat → Nat) (cu2 : Nat → Nat) (ve2 : Nat → Nat) (ta2 : Nat → Nat) (ch2 : Nat) (lo : Nat → Prop) (fo : Nat → Nat) (si : Nat → Nat) (it : Nat → Nat → Int32) (i : Int32) (j : Int32) (k : Int32) (J : IW n cl th ki va re fi) (S : SW n cl re fi) (B9 : (∀ j, bt j ≤ 255) ∧ bs ≤ 216) (C9 : (∀ j, co j ≤ 400) ∧ (∀ j, fw j ≤ 15)) (H9 : IHd lt tr sh cr ct cu ve ta ch) (U9 : IHd lt2 tr2 sh2 cr2 ct2 cu2 ve2 ta2 ch2) (E9 : (∀ j, fo j ≤ 2) ∧ (∀ j, si j ≤ 60)) (hf9 : lo 2 ∨ lo 2) : CM l D (TY cI cZ cS) yX5_copy cX5_copy 8 (some .int) 1 [.ref (aS 0), .int (nI 2), .int i, .int (nI 2), .int j, .int k] ((wS cS aS (aW 0) (aB 0) (aC 0) (aH 0) (aT 0) aE la) ++ ((wW cI aW n cl th ki va re fi) ++ ((wB cI aB bt bs) ++ ((wC cI cZ aC (aW 0) (aB 0) to co ke nu fw) ++ ((wH cI aH (aW 0) lt tr sh cr ct cu ve ta ch) ++ ((wH cI aT (aW 0) lt2 tr2 sh2 cr2 ct2 cu2 ve2 ta2 ch2) ++ (wE cI aE lo fo si it))))))) (some (.int ((-10) - (nI 1)))) ((wS cS aS (aW 0) (aB 0) (aC 0) (aH 0) (aT 0) aE (nI 1)) ++ ((wW cI aW n cl th ki va re fi) ++ ((wB cI aB bt bs) ++ ((wC cI cZ aC (aW 0) (aB 0) to co ke nu fw) ++ ((wH cI aH (aW 0) lt tr sh cr ct cu ve ta ch) ++ ((wH cI aT (aW 0) lt2 tr2 sh2 cr2 ct2 cu2 ve2 ta2 ch2) ++ (wE cI aE lo fo si it))))))) := by
  refine CM.ofI (by decide +kernel) (Nat.le_of_ble_eq_true rfl) (nar_int _) ?_
  intro p e s m args below meth c Q A G K hA w hret ls hl
  obtain ⟨hx, hb, hml, hown, hts⟩ := id G
  obtain ⟨hn, hcl, hth, hki, hva, hre, hfi⟩ := id J
  obtain ⟨hbt, hbs⟩ := id B9
  obtain ⟨hco, hfw⟩ := id C9
  obtain ⟨hlt, htr, hsh, hcr, hct, hcu, hve, hta, hch⟩ := id H9
  obtain ⟨hlt2, htr2, hsh2, hcr2, hct2, hcu2, hve2, hta2, hch2⟩ := id U9
  obtain ⟨hfo, hsi⟩ := id E9
  have hl : lv_has ls 8 [(0, .ref (aS 0)), (1, .int (nI 2)), (2, .int i), (3, .int (nI 2)), (4, .int j), (5, .int k)] := hl
  refine lv_iload_n hx hb dX5_copy_0 rfl (lv_at hl 1 rfl) ?_
  refine callPS (rest := []) G K F_X5_isSheet (c_X5_isSheet (nI 2)) (va_P_nil D s.heap) ml_X5_121 (by decide) (by decide) rfl hl.1 (Nat.le_of_ble_eq_true rfl) dX5_copy_1 ?_
  refine b_eq G (tgt := 14) dX5_copy_4 (by decide) (fun c4 => ?_) (fun c4 => ?_)
  · -- taken at 4
    exact absurd ⟨2, by decide, rfl⟩ c4
  · -- not taken at 4
    refine lv_iload_n hx hb dX5_copy_7 rfl (lv_at hl 3 rfl) ?_
    refine callPS (rest := []) G K F_X5_isSheet (c_X5_isSheet (nI 2)) (va_P_nil D s.heap) ml_X5_121 (by decide) (by decide) rfl hl.1 (Nat.le_of_ble_eq_true rfl) dX5_copy_8 ?_
    refine b_ne G (tgt := 17) dX5_copy_11 (by decide) (fun c11 => ?_) (fun c11 => ?_)
    · -- taken at 11
      refine lv_aload_n hx hb dX5_copy_17 rfl (lv_at hl 0 rfl) ?_
      refine f_get G K w.1 inX5 0 (ci := 5) rfl rfl 5 rfl fl_X5_46 (v := .ref (aS 1)) rfl dX5_copy_18 ?_
      refine lv_iload_n hx hb dX5_copy_21 rfl (lv_at hl 1 rfl) ?_
      refine a_ldR G K w.1 1 2 (a := (aS 1)) rfl rfl (by omega) (by decide) dX5_copy_22 ?_
      refine lv_astore (lv' := [(6, .ref (aE 2)), (0, .ref (aS 0)), (1, .int (nI 2)), (2, .int i), (3, .int (nI 2)), (4, .int j), (5, .int k)]) hx hb dX5_copy_23 hl (by decide) rfl (fun ls hl => ?_)
      refine lv_aload_n hx hb dX5_copy_25 rfl (lv_at hl 1 rfl) ?_
      refine f_get G K w.1 inX5 0 (ci := 5) rfl rfl 5 rfl fl_X5_46 (v := .ref (aS 1)) rfl dX5_copy_26 ?_
      refine lv_iload_n hx hb dX5_copy_29 rfl (lv_at hl 4 rfl) ?_
      refine a_ldR G K w.1 1 2 (a := (aS 1)) rfl rfl (by omega) (by decide) dX5_copy_30 ?_
      refine lv_astore (lv' := [(7, .ref (aE 2)), (6, .ref (aE 2)), (0, .ref (aS 0)), (1, .int (nI 2)), (2, .int i), (3, .int (nI 2)), (4, .int j), (5, .int k)]) hx hb dX5_copy_31 hl (by decide) rfl (fun ls hl => ?_)
      refine lv_aload hx hb dX5_copy_33 (lv_at hl 1 rfl) ?_
      refine f_get G K w.1 inX3 36 (ci := 3) rfl rfl 1 rfl fl_X5_124 (v := .int (bI (lo 2))) rfl dX5_copy_35 ?_
      refine b_ne G (tgt := 49) dX5_copy_38 (by decide) (fun c38 => ?_) (fun c38 => ?_)
      · -- taken at 38
        refine lv_aload_n hx hb dX5_copy_49 rfl (lv_at hl 2 rfl) ?_
        refine lv_iconst (v := (nI 1)) hx hb dX5_copy_50 (by decide) ?_
        refine callMF (As := [.int (nI 1)]) (rest := []) (q0 := 0) (ci := 5) (ws' := ((wS cS aS (aW 0) (aB 0) (aC 0) (aH 0) (aT 0) aE (nI 1)) ++ ((wW cI aW n cl th ki va re fi) ++ ((wB cI aB bt bs) ++ ((wC cI cZ aC (aW 0) (aB 0) to co ke nu fw) ++ ((wH cI aH (aW 0) lt tr sh cr ct cu ve ta ch) ++ ((wH cI aT (aW 0) lt2 tr2 sh2 cr2 ct2 cu2 ve2 ta2 ch2) ++ (wE cI aE lo fo si it)))))))) G K hA w F_X5_find (c_X5_find aS aE la aW n cl th ki va re fi aB bt bs aC to co ke nu fw aH lt tr sh cr ct cu ve ta ch aT lt2 tr2 sh2 cr2 ct2 cu2 ve2 ta2 ch2 lo fo si it 1 J S B9 C9 H9 U9 E9) ml_X5_128 rfl rfl rfl (by decide) (by decide) rfl hl.1 (Nat.le_of_ble_eq_true rfl) dX5_copy_51 (fun Hp1 lo2 w => ?_)
        exact hret _ _ _ _ _ _ rfl rfl w dX5_copy_54
      · -- not taken at 38
        refine lv_aload hx hb dX5_copy_41 (lv_at hl 0 rfl) ?_
        refine f_get G K w.1 inX3 36 (ci := 3) rfl rfl 1 rfl fl_X5_124 (v := .int (bI (lo 2))) rfl dX5_copy_43 ?_
        refine b_eq G (tgt := 55) dX5_copy_46 (by decide) (fun c46 => ?_) (fun c46 => ?_)
        · -- taken at 46
          exact absurd hf9 (fun h => h.elim c38 c46)
        · -- not taken at 46
          refine lv_aload_n hx hb dX5_copy_49 rfl (lv_at hl 2 rfl) ?_
          refine lv_iconst (v := (nI 1)) hx hb dX5_copy_50 (by decide) ?_
          refine callMF (As := [.int (nI 1)]) (rest := []) (q0 := 0) (ci := 5) (ws' := ((wS cS aS (aW 0) (aB 0) (aC 0) (aH 0) (aT 0) aE (nI 1)) ++ ((wW cI aW n cl th ki va re fi) ++ ((wB cI aB bt bs) ++ ((wC cI cZ aC (aW 0) (aB 0) to co ke nu fw) ++ ((wH cI aH (aW 0) lt tr sh cr ct cu ve ta ch) ++ ((wH cI aT (aW 0) lt2 tr2 sh2 cr2 ct2 cu2 ve2 ta2 ch2) ++ (wE cI aE lo fo si it)))))))) G K hA w F_X5_find (c_X5_find aS aE la aW n cl th ki va re fi aB bt bs aC to co ke nu fw aH lt tr sh cr ct cu ve ta ch aT lt2 tr2 sh2 cr2 ct2 cu2 ve2 ta2 ch2 lo fo si it 1 J S B9 C9 H9 U9 E9) ml_X5_128 rfl rfl rfl (by decide) (by decide) rfl hl.1 (Nat.le_of_ble_eq_true rfl) dX5_copy_51 (fun Hp3 lo4 w => ?_)
          exact hret _ _ _ _ _ _ rfl rfl w dX5_copy_54
    · -- not taken at 11
      exact absurd ⟨2, by decide, rfl⟩ c11
set_option maxHeartbeats 4000000 in
set_option maxRecDepth 100000 in
theorem c_X5_copy_sto22 (aS : Nat → Nat) (aE : Nat → Nat) (la : Int32) (aW : Nat → Nat) (n : Nat) (cl : Nat) (th : Nat → Nat) (ki : Nat → Nat) (va : Nat → Nat) (re : Nat → Nat) (fi : Nat → Nat) (aB : Nat → Nat) (bt : Nat → Nat) (bs : Nat) (aC : Nat → Nat) (to : Nat → Prop) (co : Nat → Nat) (ke : Nat → Int32) (nu : Nat → Int32) (fw : Nat → Nat) (aH : Nat → Nat) (lt : Nat → Option Nat) (tr : Nat → Nat) (sh : Nat → Nat) (cr : Nat → Nat) (ct : Nat → Nat) (cu : Nat → Nat) (ve : Nat → Nat) (ta : Nat → Nat) (ch : Nat) (aT : Nat → Nat) (lt2 : Nat → Option Nat) (tr2 : Nat → Nat) (sh2 : Nat → Nat) (cr2 : Nat → Nat) (ct2 : Nat → Nat) (cu2 : Nat → Nat) (ve2 : Nat → Nat) (ta2 : Nat → Nat) (ch2 : Nat) (lo : Nat → Prop) (fo : Nat → Nat) (si : Nat → Nat) (it : Nat → Nat → Int32) (i : Int32) (j : Int32) (k : Int32) (J : IW n cl th ki va re fi) (S : SW n cl re fi) (B9 : (∀ j, bt j ≤ 255) ∧ bs ≤ 216) (C9 : (∀ j, co j ≤ 400) ∧ (∀ j, fw j ≤ 15)) (H9 : IHd lt tr sh cr ct cu ve ta ch) (U9 : IHd lt2 tr2 sh2 cr2 ct2 cu2 ve2 ta2 ch2) (E9 : (∀ j, fo j ≤ 2) ∧ (∀ j, si j ≤ 60)) (hf9 : ¬ (lo 2 ∨ lo 2)) (hc9 : fo 2 ≠ fo 2) : CM l D (TY cI cZ cS) yX5_copy cX5_copy 8 (some .int) 1 [.ref (aS 0), .int (nI 2), .int i, .int (nI 2), .int j, .int k] ((wS cS aS (aW 0) (aB 0) (aC 0) (aH 0) (aT 0) aE la) ++ ((wW cI aW n cl th ki va re fi) ++ ((wB cI aB bt bs) ++ ((wC cI cZ aC (aW 0) (aB 0) to co ke nu fw) ++ ((wH cI aH (aW 0) lt tr sh cr ct cu ve ta ch) ++ ((wH cI aT (aW 0) lt2 tr2 sh2 cr2 ct2 cu2 ve2 ta2 ch2) ++ (wE cI aE lo fo si it))))))) (some (.int ((-10) - (nI 4)))) ((wS cS aS (aW 0) (aB 0) (aC 0) (aH 0) (aT 0) aE (nI 4)) ++ ((wW cI aW n cl th ki va re fi) ++ ((wB cI aB bt bs) ++ ((wC cI cZ aC (aW 0) (aB 0) to co ke nu fw) ++ ((wH cI aH (aW 0) lt tr sh cr ct cu ve ta ch) ++ ((wH cI aT (aW 0) lt2 tr2 sh2 cr2 ct2 cu2 ve2 ta2 ch2) ++ (wE cI aE lo fo si it))))))) := by
  refine CM.ofI (by decide +kernel) (Nat.le_of_ble_eq_true rfl) (nar_int _) ?_
  intro p e s m args below meth c Q A G K hA w hret ls hl
  obtain ⟨hx, hb, hml, hown, hts⟩ := id G
  obtain ⟨hn, hcl, hth, hki, hva, hre, hfi⟩ := id J
  obtain ⟨hbt, hbs⟩ := id B9
  obtain ⟨hco, hfw⟩ := id C9
  obtain ⟨hlt, htr, hsh, hcr, hct, hcu, hve, hta, hch⟩ := id H9
  obtain ⟨hlt2, htr2, hsh2, hcr2, hct2, hcu2, hve2, hta2, hch2⟩ := id U9
  obtain ⟨hfo, hsi⟩ := id E9
  have hq1 := hfo 2
  have hq2 := hfo 2
  have hl : lv_has ls 8 [(0, .ref (aS 0)), (1, .int (nI 2)), (2, .int i), (3, .int (nI 2)), (4, .int j), (5, .int k)] := hl
  refine lv_iload_n hx hb dX5_copy_0 rfl (lv_at hl 1 rfl) ?_
  refine callPS (rest := []) G K F_X5_isSheet (c_X5_isSheet (nI 2)) (va_P_nil D s.heap) ml_X5_121 (by decide) (by decide) rfl hl.1 (Nat.le_of_ble_eq_true rfl) dX5_copy_1 ?_
  refine b_eq G (tgt := 14) dX5_copy_4 (by decide) (fun c4 => ?_) (fun c4 => ?_)
  · -- taken at 4
    exact absurd ⟨2, by decide, rfl⟩ c4
  · -- not taken at 4
    refine lv_iload_n hx hb dX5_copy_7 rfl (lv_at hl 3 rfl) ?_
    refine callPS (rest := []) G K F_X5_isSheet (c_X5_isSheet (nI 2)) (va_P_nil D s.heap) ml_X5_121 (by decide) (by decide) rfl hl.1 (Nat.le_of_ble_eq_true rfl) dX5_copy_8 ?_
    refine b_ne G (tgt := 17) dX5_copy_11 (by decide) (fun c11 => ?_) (fun c11 => ?_)
    · -- taken at 11
      refine lv_aload_n hx hb dX5_copy_17 rfl (lv_at hl 0 rfl) ?_
      refine f_get G K w.1 inX5 0 (ci := 5) rfl rfl 5 rfl fl_X5_46 (v := .ref (aS 1)) rfl dX5_copy_18 ?_
      refine lv_iload_n hx hb dX5_copy_21 rfl (lv_at hl 1 rfl) ?_
      refine a_ldR G K w.1 1 2 (a := (aS 1)) rfl rfl (by omega) (by decide) dX5_copy_22 ?_
      refine lv_astore (lv' := [(6, .ref (aE 2)), (0, .ref (aS 0)), (1, .int (nI 2)), (2, .int i), (3, .int (nI 2)), (4, .int j), (5, .int k)]) hx hb dX5_copy_23 hl (by decide) rfl (fun ls hl => ?_)
      refine lv_aload_n hx hb dX5_copy_25 rfl (lv_at hl 1 rfl) ?_
      refine f_get G K w.1 inX5 0 (ci := 5) rfl rfl 5 rfl fl_X5_46 (v := .ref (aS 1)) rfl dX5_copy_26 ?_
      refine lv_iload_n hx hb dX5_copy_29 rfl (lv_at hl 4 rfl) ?_
      refine a_ldR G K w.1 1 2 (a := (aS 1)) rfl rfl (by omega) (by decide) dX5_copy_30 ?_
      refine lv_astore (lv' := [(7, .ref (aE 2)), (6, .ref (aE 2)), (0, .ref (aS 0)), (1, .int (nI 2)), (2, .int i), (3, .int (nI 2)), (4, .int j), (5, .int k)]) hx hb dX5_copy_31 hl (by decide) rfl (fun ls hl => ?_)
      refine lv_aload hx hb dX5_copy_33 (lv_at hl 1 rfl) ?_
      refine f_get G K w.1 inX3 36 (ci := 3) rfl rfl 1 rfl fl_X5_124 (v := .int (bI (lo 2))) rfl dX5_copy_35 ?_
      refine b_ne G (tgt := 49) dX5_copy_38 (by decide) (fun c38 => ?_) (fun c38 => ?_)
      · -- taken at 38
        exact absurd (Or.inl c38) hf9
      · -- not taken at 38
        refine lv_aload hx hb dX5_copy_41 (lv_at hl 0 rfl) ?_
        refine f_get G K w.1 inX3 36 (ci := 3) rfl rfl 1 rfl fl_X5_124 (v := .int (bI (lo 2))) rfl dX5_copy_43 ?_
        refine b_eq G (tgt := 55) dX5_copy_46 (by decide) (fun c46 => ?_) (fun c46 => ?_)
        · -- taken at 46
          refine lv_aload hx hb dX5_copy_55 (lv_at hl 1 rfl) ?_
          refine f_get G K w.1 inX3 36 (ci := 3) rfl rfl 2 rfl fl_X5_247 (v := .int (nI (fo 2))) rfl dX5_copy_57 ?_
          refine lv_aload hx hb dX5_copy_60 (lv_at hl 0 rfl) ?_
          refine f_get G K w.1 inX3 36 (ci := 3) rfl rfl 2 rfl fl_X5_247 (v := .int (nI (fo 2))) rfl dX5_copy_62 ?_
          refine c_eq G (tgt := 74) (by omega) (by omega) dX5_copy_65 (by decide) (fun c65 => ?_) (fun c65 => ?_)
          · -- taken at 65
            exact absurd c65 hc9
          · -- not taken at 65
            refine lv_aload_n hx hb dX5_copy_68 rfl (lv_at hl 2 rfl) ?_
            refine lv_iconst (v := (nI 4)) hx hb dX5_copy_69 (by decide) ?_
            refine callMF (As := [.int (nI 4)]) (rest := []) (q0 := 0) (ci := 5) (ws' := ((wS cS aS (aW 0) (aB 0) (aC 0) (aH 0) (aT 0) aE (nI 4)) ++ ((wW cI aW n cl th ki va re fi) ++ ((wB cI aB bt bs) ++ ((wC cI cZ aC (aW 0) (aB 0) to co ke nu fw) ++ ((wH cI aH (aW 0) lt tr sh cr ct cu ve ta ch) ++ ((wH cI aT (aW 0) lt2 tr2 sh2 cr2 ct2 cu2 ve2 ta2 ch2) ++ (wE cI aE lo fo si it)))))))) G K hA w F_X5_find (c_X5_find aS aE la aW n cl th ki va re fi aB bt bs aC to co ke nu fw aH lt tr sh cr ct cu ve ta ch aT lt2 tr2 sh2 cr2 ct2 cu2 ve2 ta2 ch2 lo fo si it 4 J S B9 C9 H9 U9 E9) ml_X5_128 rfl rfl rfl (by decide) (by decide) rfl hl.1 (Nat.le_of_ble_eq_true rfl) dX5_copy_70 (fun Hp1 lo2 w => ?_)
            exact hret _ _ _ _ _ _ rfl rfl w dX5_copy_73
        · -- not taken at 46
          exact absurd (Or.inr c46) hf9
    · -- not taken at 11
      exact absurd ⟨2, by decide, rfl⟩ c11
set_option maxHeartbeats 4000000 in
set_option maxRecDepth 100000 in
theorem c_X5_copy_idx22 (aS : Nat → Nat) (aE : Nat → Nat) (la : Int32) (aW : Nat → Nat) (n : Nat) (cl : Nat) (th : Nat → Nat) (ki : Nat → Nat) (va : Nat → Nat) (re : Nat → Nat) (fi : Nat → Nat) (aB : Nat → Nat) (bt : Nat → Nat) (bs : Nat) (aC : Nat → Nat) (to : Nat → Prop) (co : Nat → Nat) (ke : Nat → Int32) (nu : Nat → Int32) (fw : Nat → Nat) (aH : Nat → Nat) (lt : Nat → Option Nat) (tr : Nat → Nat) (sh : Nat → Nat) (cr : Nat → Nat) (ct : Nat → Nat) (cu : Nat → Nat) (ve : Nat → Nat) (ta : Nat → Nat) (ch : Nat) (aT : Nat → Nat) (lt2 : Nat → Option Nat) (tr2 : Nat → Nat) (sh2 : Nat → Nat) (cr2 : Nat → Nat) (ct2 : Nat → Nat) (cu2 : Nat → Nat) (ve2 : Nat → Nat) (ta2 : Nat → Nat) (ch2 : Nat) (lo : Nat → Prop) (fo : Nat → Nat) (si : Nat → Nat) (it : Nat → Nat → Int32) (i : Int32) (j : Int32) (k : Int32) (J : IW n cl th ki va re fi) (S : SW n cl re fi) (B9 : (∀ j, bt j ≤ 255) ∧ bs ≤ 216) (C9 : (∀ j, co j ≤ 400) ∧ (∀ j, fw j ≤ 15)) (H9 : IHd lt tr sh cr ct cu ve ta ch) (U9 : IHd lt2 tr2 sh2 cr2 ct2 cu2 ve2 ta2 ch2) (E9 : (∀ j, fo j ≤ 2) ∧ (∀ j, si j ≤ 60)) (hf9 : ¬ (lo 2 ∨ lo 2)) (hc9 : fo 2 = fo 2) (hk9 : ¬ (okH (si 2) i k ∧ okH (si 2) j k)) : CM l D (TY cI cZ cS) yX5_copy cX5_copy 8 (some .int) 1 [.ref (aS 0), .int (nI 2), .int i, .int (nI 2), .int j, .int k] ((wS cS aS (aW 0) (aB 0) (aC 0) (aH 0) (aT 0) aE la) ++ ((wW cI aW n cl th ki va re fi) ++ ((wB cI aB bt bs) ++ ((wC cI cZ aC (aW 0) (aB 0) to co ke nu fw) ++ ((wH cI aH (aW 0) lt tr sh cr ct cu ve ta ch) ++ ((wH cI aT (aW 0) lt2 tr2 sh2 cr2 ct2 cu2 ve2 ta2 ch2) ++ (wE cI aE lo fo si it))))))) (some (.int ((-10) - (nI 2)))) ((wS cS aS (aW 0) (aB 0) (aC 0) (aH 0) (aT 0) aE (nI 2)) ++ ((wW cI aW n cl th ki va re fi) ++ ((wB cI aB bt bs) ++ ((wC cI cZ aC (aW 0) (aB 0) to co ke nu fw) ++ ((wH cI aH (aW 0) lt tr sh cr ct cu ve ta ch) ++ ((wH cI aT (aW 0) lt2 tr2 sh2 cr2 ct2 cu2 ve2 ta2 ch2) ++ (wE cI aE lo fo si it))))))) := by
  refine CM.ofI (by decide +kernel) (Nat.le_of_ble_eq_true rfl) (nar_int _) ?_
  intro p e s m args below meth c Q A G K hA w hret ls hl
  obtain ⟨hx, hb, hml, hown, hts⟩ := id G
  obtain ⟨hn, hcl, hth, hki, hva, hre, hfi⟩ := id J
  obtain ⟨hbt, hbs⟩ := id B9
  obtain ⟨hco, hfw⟩ := id C9
  obtain ⟨hlt, htr, hsh, hcr, hct, hcu, hve, hta, hch⟩ := id H9
  obtain ⟨hlt2, htr2, hsh2, hcr2, hct2, hcu2, hve2, hta2, hch2⟩ := id U9
  obtain ⟨hfo, hsi⟩ := id E9
  have hq1 := hfo 2
  have hq2 := hfo 2
  have hl : lv_has ls 8 [(0, .ref (aS 0)), (1, .int (nI 2)), (2, .int i), (3, .int (nI 2)), (4, .int j), (5, .int k)] := hl
  refine lv_iload_n hx hb dX5_copy_0 rfl (lv_at hl 1 rfl) ?_
  refine callPS (rest := []) G K F_X5_isSheet (c_X5_isSheet (nI 2)) (va_P_nil D s.heap) ml_X5_121 (by decide) (by decide) rfl hl.1 (Nat.le_of_ble_eq_true rfl) dX5_copy_1 ?_
  refine b_eq G (tgt := 14) dX5_copy_4 (by decide) (fun c4 => ?_) (fun c4 => ?_)
  · -- taken at 4
    exact absurd ⟨2, by decide, rfl⟩ c4
  · -- not taken at 4
    refine lv_iload_n hx hb dX5_copy_7 rfl (lv_at hl 3 rfl) ?_
    refine callPS (rest := []) G K F_X5_isSheet (c_X5_isSheet (nI 2)) (va_P_nil D s.heap) ml_X5_121 (by decide) (by decide) rfl hl.1 (Nat.le_of_ble_eq_true rfl) dX5_copy_8 ?_
    refine b_ne G (tgt := 17) dX5_copy_11 (by decide) (fun c11 => ?_) (fun c11 => ?_)
    · -- taken at 11
      refine lv_aload_n hx hb dX5_copy_17 rfl (lv_at hl 0 rfl) ?_
      refine f_get G K w.1 inX5 0 (ci := 5) rfl rfl 5 rfl fl_X5_46 (v := .ref (aS 1)) rfl dX5_copy_18 ?_
      refine lv_iload_n hx hb dX5_copy_21 rfl (lv_at hl 1 rfl) ?_
      refine a_ldR G K w.1 1 2 (a := (aS 1)) rfl rfl (by omega) (by decide) dX5_copy_22 ?_
      refine lv_astore (lv' := [(6, .ref (aE 2)), (0, .ref (aS 0)), (1, .int (nI 2)), (2, .int i), (3, .int (nI 2)), (4, .int j), (5, .int k)]) hx hb dX5_copy_23 hl (by decide) rfl (fun ls hl => ?_)
      refine lv_aload_n hx hb dX5_copy_25 rfl (lv_at hl 1 rfl) ?_
      refine f_get G K w.1 inX5 0 (ci := 5) rfl rfl 5 rfl fl_X5_46 (v := .ref (aS 1)) rfl dX5_copy_26 ?_
      refine lv_iload_n hx hb dX5_copy_29 rfl (lv_at hl 4 rfl) ?_
      refine a_ldR G K w.1 1 2 (a := (aS 1)) rfl rfl (by omega) (by decide) dX5_copy_30 ?_
      refine lv_astore (lv' := [(7, .ref (aE 2)), (6, .ref (aE 2)), (0, .ref (aS 0)), (1, .int (nI 2)), (2, .int i), (3, .int (nI 2)), (4, .int j), (5, .int k)]) hx hb dX5_copy_31 hl (by decide) rfl (fun ls hl => ?_)
      refine lv_aload hx hb dX5_copy_33 (lv_at hl 1 rfl) ?_
      refine f_get G K w.1 inX3 36 (ci := 3) rfl rfl 1 rfl fl_X5_124 (v := .int (bI (lo 2))) rfl dX5_copy_35 ?_
      refine b_ne G (tgt := 49) dX5_copy_38 (by decide) (fun c38 => ?_) (fun c38 => ?_)
      · -- taken at 38
        exact absurd (Or.inl c38) hf9
      · -- not taken at 38
        refine lv_aload hx hb dX5_copy_41 (lv_at hl 0 rfl) ?_
        refine f_get G K w.1 inX3 36 (ci := 3) rfl rfl 1 rfl fl_X5_124 (v := .int (bI (lo 2))) rfl dX5_copy_43 ?_
        refine b_eq G (tgt := 55) dX5_copy_46 (by decide) (fun c46 => ?_) (fun c46 => ?_)
        · -- taken at 46
          refine lv_aload hx hb dX5_copy_55 (lv_at hl 1 rfl) ?_
          refine f_get G K w.1 inX3 36 (ci := 3) rfl rfl 2 rfl fl_X5_247 (v := .int (nI (fo 2))) rfl dX5_copy_57 ?_
          refine lv_aload hx hb dX5_copy_60 (lv_at hl 0 rfl) ?_
          refine f_get G K w.1 inX3 36 (ci := 3) rfl rfl 2 rfl fl_X5_247 (v := .int (nI (fo 2))) rfl dX5_copy_62 ?_
          refine c_eq G (tgt := 74) (by omega) (by omega) dX5_copy_65 (by decide) (fun c65 => ?_) (fun c65 => ?_)
          · -- taken at 65
            refine lv_aload hx hb dX5_copy_74 (lv_at hl 1 rfl) ?_
            refine lv_iload_n hx hb dX5_copy_76 rfl (lv_at hl 4 rfl) ?_
            refine lv_iload hx hb dX5_copy_77 (lv_at hl 7 rfl) ?_
            refine callPV (As := [.int i, .int k]) (rest := []) (q0 := 0) (ci := 3) G K F_X3_hasItems (c_X3_hasItems (aE 2) (aE 6) (lo 2) (fo 2) (si 2) (it 2) i k ⟨hfo 2, hsi 2⟩) (w.1.sub (ws' := (wT cI (aE 2) (aE 6) (lo 2) (fo 2) (si 2) (it 2))) [36, 40] rfl) ml_X5_250 rfl rfl rfl (by decide) (by decide) rfl hl.1 (Nat.le_of_ble_eq_true rfl) dX5_copy_79 ?_
            refine b_eq G (tgt := 97) dX5_copy_82 (by decide) (fun c82 => ?_) (fun c82 => ?_)
            · -- taken at 82
              refine lv_aload_n hx hb dX5_copy_97 rfl (lv_at hl 2 rfl) ?_
              refine lv_iconst (v := (nI 2)) hx hb dX5_copy_98 (by decide) ?_
              refine callMF (As := [.int (nI 2)]) (rest := []) (q0 := 0) (ci := 5) (ws' := ((wS cS aS (aW 0) (aB 0) (aC 0) (aH 0) (aT 0) aE (nI 2)) ++ ((wW cI aW n cl th ki va re fi) ++ ((wB cI aB bt bs) ++ ((wC cI cZ aC (aW 0) (aB 0) to co ke nu fw) ++ ((wH cI aH (aW 0) lt tr sh cr ct cu ve ta ch) ++ ((wH cI aT (aW 0) lt2 tr2 sh2 cr2 ct2 cu2 ve2 ta2 ch2) ++ (wE cI aE lo fo si it)))))))) G K hA w F_X5_find (c_X5_find aS aE la aW n cl th ki va re fi aB bt bs aC to co ke nu fw aH lt tr sh cr ct cu ve ta ch aT lt2 tr2 sh2 cr2 ct2 cu2 ve2 ta2 ch2 lo fo si it 2 J S B9 C9 H9 U9 E9) ml_X5_128 rfl rfl rfl (by decide) (by decide) rfl hl.1 (Nat.le_of_ble_eq_true rfl) dX5_copy_99 (fun Hp1 lo2 w => ?_)
              exact hret _ _ _ _ _ _ rfl rfl w dX5_copy_102
            · -- not taken at 82
              refine lv_aload hx hb dX5_copy_85 (lv_at hl 0 rfl) ?_
              refine lv_iload hx hb dX5_copy_87 (lv_at hl 6 rfl) ?_
              refine lv_iload hx hb dX5_copy_89 (lv_at hl 7 rfl) ?_
              refine callPV (As := [.int j, .int k]) (rest := []) (q0 := 0) (ci := 3) G K F_X3_hasItems (c_X3_hasItems (aE 2) (aE 6) (lo 2) (fo 2) (si 2) (it 2) j k ⟨hfo 2, hsi 2⟩) (w.1.sub (ws' := (wT cI (aE 2) (aE 6) (lo 2) (fo 2) (si 2) (it 2))) [36, 40] rfl) ml_X5_250 rfl rfl rfl (by decide) (by decide) rfl hl.1 (Nat.le_of_ble_eq_true rfl) dX5_copy_91 ?_
              refine b_ne G (tgt := 103) dX5_copy_94 (by decide) (fun c94 => ?_) (fun c94 => ?_)
              · -- taken at 94
                exact absurd ⟨c82, c94⟩ hk9
              · -- not taken at 94
                refine lv_aload_n hx hb dX5_copy_97 rfl (lv_at hl 2 rfl) ?_
                refine lv_iconst (v := (nI 2)) hx hb dX5_copy_98 (by decide) ?_
                refine callMF (As := [.int (nI 2)]) (rest := []) (q0 := 0) (ci := 5) (ws' := ((wS cS aS (aW 0) (aB 0) (aC 0) (aH 0) (aT 0) aE (nI 2)) ++ ((wW cI aW n cl th ki va re fi) ++ ((wB cI aB bt bs) ++ ((wC cI cZ aC (aW 0) (aB 0) to co ke nu fw) ++ ((wH cI aH (aW 0) lt tr sh cr ct cu ve ta ch) ++ ((wH cI aT (aW 0) lt2 tr2 sh2 cr2 ct2 cu2 ve2 ta2 ch2) ++ (wE cI aE lo fo si it)))))))) G K hA w F_X5_find (c_X5_find aS aE la aW n cl th ki va re fi aB bt bs aC to co ke nu fw aH lt tr sh cr ct cu ve ta ch aT lt2 tr2 sh2 cr2 ct2 cu2 ve2 ta2 ch2 lo fo si it 2 J S B9 C9 H9 U9 E9) ml_X5_128 rfl rfl rfl (by decide) (by decide) rfl hl.1 (Nat.le_of_ble_eq_true rfl) dX5_copy_99 (fun Hp3 lo4 w => ?_)
                exact hret _ _ _ _ _ _ rfl rfl w dX5_copy_102
          · -- not taken at 65
            exact absurd hc9 c65
        · -- not taken at 46
          exact absurd (Or.inr c46) hf9
    · -- not taken at 11
      exact absurd ⟨2, by decide, rfl⟩ c11
set_option maxHeartbeats 4000000 in
set_option maxRecDepth 100000 in
theorem c_X5_copy_ok22 (aS : Nat → Nat) (aE : Nat → Nat) (la : Int32) (aW : Nat → Nat) (n : Nat) (cl : Nat) (th : Nat → Nat) (ki : Nat → Nat) (va : Nat → Nat) (re : Nat → Nat) (fi : Nat → Nat) (aB : Nat → Nat) (bt : Nat → Nat) (bs : Nat) (aC : Nat → Nat) (to : Nat → Prop) (co : Nat → Nat) (ke : Nat → Int32) (nu : Nat → Int32) (fw : Nat → Nat) (aH : Nat → Nat) (lt : Nat → Option Nat) (tr : Nat → Nat) (sh : Nat → Nat) (cr : Nat → Nat) (ct : Nat → Nat) (cu : Nat → Nat) (ve : Nat → Nat) (ta : Nat → Nat) (ch : Nat) (aT : Nat → Nat) (lt2 : Nat → Option Nat) (tr2 : Nat → Nat) (sh2 : Nat → Nat) (cr2 : Nat → Nat) (ct2 : Nat → Nat) (cu2 : Nat → Nat) (ve2 : Nat → Nat) (ta2 : Nat → Nat) (ch2 : Nat) (lo : Nat → Prop) (fo : Nat → Nat) (si : Nat → Nat) (it : Nat → Nat → Int32) (i : Nat) (j : Nat) (k : Nat) (J : IW n cl th ki va re fi) (S : SW n cl re fi) (B9 : (∀ j, bt j ≤ 255) ∧ bs ≤ 216) (C9 : (∀ j, co j ≤ 400) ∧ (∀ j, fw j ≤ 15)) (H9 : IHd lt tr sh cr ct cu ve ta ch) (U9 : IHd lt2 tr2 sh2 cr2 ct2 cu2 ve2 ta2 ch2) (E9 : (∀ j, fo j ≤ 2) ∧ (∀ j, si j ≤ 60)) (hf9 : ¬ (lo 2 ∨ lo 2)) (hc9 : fo 2 = fo 2) (hi9 : i + k ≤ si 2) (hj9 : j + k ≤ si 2) : CM l D (TY cI cZ cS) yX5_copy cX5_copy 8 (some .int) 1 [.ref (aS 0), .int (nI 2), .int (nI i), .int (nI 2), .int (nI j), .int (nI k)] ((wS cS aS (aW 0) (aB 0) (aC 0) (aH 0) (aT 0) aE la) ++ ((wW cI aW n cl th ki va re fi) ++ ((wB cI aB bt bs) ++ ((wC cI cZ aC (aW 0) (aB 0) to co ke nu fw) ++ ((wH cI aH (aW 0) lt tr sh cr ct cu ve ta ch) ++ ((wH cI aT (aW 0) lt2 tr2 sh2 cr2 ct2 cu2 ve2 ta2 ch2) ++ (wE cI aE lo fo si it))))))) (some (.int (nI 1))) ((wS cS aS (aW 0) (aB 0) (aC 0) (aH 0) (aT 0) aE la) ++ ((wW cI aW n cl th ki va re fi) ++ ((wB cI aB bt bs) ++ ((wC cI cZ aC (aW 0) (aB 0) to co ke nu fw) ++ ((wH cI aH (aW 0) lt tr sh cr ct cu ve ta ch) ++ ((wH cI aT (aW 0) lt2 tr2 sh2 cr2 ct2 cu2 ve2 ta2 ch2) ++ (wE cI aE lo fo si (va_up it 2 (va_cpy (it 2) (it 2) i j k))))))))) := by
  refine CM.ofI (by decide +kernel) (Nat.le_of_ble_eq_true rfl) (nar_int _) ?_
  intro p e s m args below meth c Q A G K hA w hret ls hl
  obtain ⟨hx, hb, hml, hown, hts⟩ := id G
  obtain ⟨hn, hcl, hth, hki, hva, hre, hfi⟩ := id J
  obtain ⟨hbt, hbs⟩ := id B9
  obtain ⟨hco, hfw⟩ := id C9
  obtain ⟨hlt, htr, hsh, hcr, hct, hcu, hve, hta, hch⟩ := id H9
  obtain ⟨hlt2, htr2, hsh2, hcr2, hct2, hcu2, hve2, hta2, hch2⟩ := id U9
  obtain ⟨hfo, hsi⟩ := id E9
  have hs9 := hsi 2
  have ht9 := hsi 2
  have hq1 := hfo 2
  have hq2 := hfo 2
  have hl : lv_has ls 8 [(0, .ref (aS 0)), (1, .int (nI 2)), (2, .int (nI i)), (3, .int (nI 2)), (4, .int (nI j)), (5, .int (nI k))] := hl
  refine lv_iload_n hx hb dX5_copy_0 rfl (lv_at hl 1 rfl) ?_
  refine callPS (rest := []) G K F_X5_isSheet (c_X5_isSheet (nI 2)) (va_P_nil D s.heap) ml_X5_121 (by decide) (by decide) rfl hl.1 (Nat.le_of_ble_eq_true rfl) dX5_copy_1 ?_
  refine b_eq G (tgt := 14) dX5_copy_4 (by decide) (fun c4 => ?_) (fun c4 => ?_)
  · -- taken at 4
    exact absurd ⟨2, by decide, rfl⟩ c4
  · -- not taken at 4
    refine lv_iload_n hx hb dX5_copy_7 rfl (lv_at hl 3 rfl) ?_
    refine callPS (rest := []) G K F_X5_isSheet (c_X5_isSheet (nI 2)) (va_P_nil D s.heap) ml_X5_121 (by decide) (by decide) rfl hl.1 (Nat.le_of_ble_eq_true rfl) dX5_copy_8 ?_
    refine b_ne G (tgt := 17) dX5_copy_11 (by decide) (fun c11 => ?_) (fun c11 => ?_)
    · -- taken at 11
      refine lv_aload_n hx hb dX5_copy_17 rfl (lv_at hl 0 rfl) ?_
      refine f_get G K w.1 inX5 0 (ci := 5) rfl rfl 5 rfl fl_X5_46 (v := .ref (aS 1)) rfl dX5_copy_18 ?_
      refine lv_iload_n hx hb dX5_copy_21 rfl (lv_at hl 1 rfl) ?_
      refine a_ldR G K w.1 1 2 (a := (aS 1)) rfl rfl (by omega) (by decide) dX5_copy_22 ?_
      refine lv_astore (lv' := [(6, .ref (aE 2)), (0, .ref (aS 0)), (1, .int (nI 2)), (2, .int (nI i)), (3, .int (nI 2)), (4, .int (nI j)), (5, .int (nI k))]) hx hb dX5_copy_23 hl (by decide) rfl (fun ls hl => ?_)
      refine lv_aload_n hx hb dX5_copy_25 rfl (lv_at hl 1 rfl) ?_
      refine f_get G K w.1 inX5 0 (ci := 5) rfl rfl 5 rfl fl_X5_46 (v := .ref (aS 1)) rfl dX5_copy_26 ?_
      refine lv_iload_n hx hb dX5_copy_29 rfl (lv_at hl 4 rfl) ?_
      refine a_ldR G K w.1 1 2 (a := (aS 1)) rfl rfl (by omega) (by decide) dX5_copy_30 ?_
      refine lv_astore (lv' := [(7, .ref (aE 2)), (6, .ref (aE 2)), (0, .ref (aS 0)), (1, .int (nI 2)), (2, .int (nI i)), (3, .int (nI 2)), (4, .int (nI j)), (5, .int (nI k))]) hx hb dX5_copy_31 hl (by decide) rfl (fun ls hl => ?_)
      refine lv_aload hx hb dX5_copy_33 (lv_at hl 1 rfl) ?_
      refine f_get G K w.1 inX3 36 (ci := 3) rfl rfl 1 rfl fl_X5_124 (v := .int (bI (lo 2))) rfl dX5_copy_35 ?_
      refine b_ne G (tgt := 49) dX5_copy_38 (by decide) (fun c38 => ?_) (fun c38 => ?_)
      · -- taken at 38
        exact absurd (Or.inl c38) hf9
      · -- not taken at 38
        refine lv_aload hx hb dX5_copy_41 (lv_at hl 0 rfl) ?_
        refine f_get G K w.1 inX3 36 (ci := 3) rfl rfl 1 rfl fl_X5_124 (v := .int (bI (lo 2))) rfl dX5_copy_43 ?_
        refine b_eq G (tgt := 55) dX5_copy_46 (by decide) (fun c46 => ?_) (fun c46 => ?_)
        · -- taken at 46
          refine lv_aload hx hb dX5_copy_55 (lv_at hl 1 rfl) ?_
          refine f_get G K w.1 inX3 36 (ci := 3) rfl rfl 2 rfl fl_X5_247 (v := .int (nI (fo 2))) rfl dX5_copy_57 ?_
          refine lv_aload hx hb dX5_copy_60 (lv_at hl 0 rfl) ?_
          refine f_get G K w.1 inX3 36 (ci := 3) rfl rfl 2 rfl fl_X5_247 (v := .int (nI (fo 2))) rfl dX5_copy_62 ?_
          refine c_eq G (tgt := 74) (by omega) (by omega) dX5_copy_65 (by decide) (fun c65 => ?_) (fun c65 => ?_)
          · -- taken at 65
            refine lv_aload hx hb dX5_copy_74 (lv_at hl 1 rfl) ?_
            refine lv_iload_n hx hb dX5_copy_76 rfl (lv_at hl 4 rfl) ?_
            refine lv_iload hx hb dX5_copy_77 (lv_at hl 7 rfl) ?_
            refine callPV (As := [.int (nI i), .int (nI k)]) (rest := []) (q0 := 0) (ci := 3) G K F_X3_hasItems (c_X3_hasItems (aE 2) (aE 6) (lo 2) (fo 2) (si 2) (it 2) (nI i) (nI k) ⟨hfo 2, hsi 2⟩) (w.1.sub (ws' := (wT cI (aE 2) (aE 6) (lo 2) (fo 2) (si 2) (it 2))) [36, 40] rfl) ml_X5_250 rfl rfl rfl (by decide) (by decide) rfl hl.1 (Nat.le_of_ble_eq_true rfl) dX5_copy_79 ?_
            refine b_eq G (tgt := 97) dX5_copy_82 (by decide) (fun c82 => ?_) (fun c82 => ?_)
            · -- taken at 82
              exact absurd ⟨i, k, hi9, rfl, rfl⟩ c82
            · -- not taken at 82
              refine lv_aload hx hb dX5_copy_85 (lv_at hl 0 rfl) ?_
              refine lv_iload hx hb dX5_copy_87 (lv_at hl 6 rfl) ?_
              refine lv_iload hx hb dX5_copy_89 (lv_at hl 7 rfl) ?_
              refine callPV (As := [.int (nI j), .int (nI k)]) (rest := []) (q0 := 0) (ci := 3) G K F_X3_hasItems (c_X3_hasItems (aE 2) (aE 6) (lo 2) (fo 2) (si 2) (it 2) (nI j) (nI k) ⟨hfo 2, hsi 2⟩) (w.1.sub (ws' := (wT cI (aE 2) (aE 6) (lo 2) (fo 2) (si 2) (it 2))) [36, 40] rfl) ml_X5_250 rfl rfl rfl (by decide) (by decide) rfl hl.1 (Nat.le_of_ble_eq_true rfl) dX5_copy_91 ?_
              refine b_ne G (tgt := 103) dX5_copy_94 (by decide) (fun c94 => ?_) (fun c94 => ?_)
              · -- taken at 94
                refine lv_aload hx hb dX5_copy_103 (lv_at hl 1 rfl) ?_
                refine f_get G K w.1 inX3 36 (ci := 3) rfl rfl 0 rfl fl_X5_132 (v := .ref (aE 6)) rfl dX5_copy_105 ?_
                refine lv_iload_n hx hb dX5_copy_108 rfl (lv_at hl 4 rfl) ?_
                refine lv_aload hx hb dX5_copy_109 (lv_at hl 0 rfl) ?_
                refine f_get G K w.1 inX3 36 (ci := 3) rfl rfl 0 rfl fl_X5_132 (v := .ref (aE 6)) rfl dX5_copy_111 ?_
                refine lv_iload hx hb dX5_copy_114 (lv_at hl 6 rfl) ?_
                refine lv_iload hx hb dX5_copy_116 (lv_at hl 7 rfl) ?_
                refine acp (f := (it 2)) (g := (it 2)) (sp := i) (dp := j) (k := k) G K w (hml.trans hl.1.symm) ml_X5_253 40 40 rfl rfl (by omega) (by omega) (by decide) (Nat.le_of_ble_eq_true rfl) (Nat.le_of_ble_eq_true rfl) dX5_copy_118 (w2 := ((wS cS aS (aW 0) (aB 0) (aC 0) (aH 0) (aT 0) aE la) ++ ((wW cI aW n cl th ki va re fi) ++ ((wB cI aB bt bs) ++ ((wC cI cZ aC (aW 0) (aB 0) to co ke nu fw) ++ ((wH cI aH (aW 0) lt tr sh cr ct cu ve ta ch) ++ ((wH cI aT (aW 0) lt2 tr2 sh2 cr2 ct2 cu2 ve2 ta2 ch2) ++ (wE cI aE lo fo si (va_up it 2 (va_cpy (it 2) (it 2) i j k)))))))))) rfl (fun Hp1 lo2 w => ?_)
                refine lv_iconst (v := (nI 1)) hx hb dX5_copy_121 (by decide) ?_
                exact hret _ _ _ _ _ _ rfl rfl w dX5_copy_122
              · -- not taken at 94
                exact absurd ⟨j, k, hj9, rfl, rfl⟩ c94
          · -- not taken at 65
            exact absurd hc9 c65
        · -- not taken at 46
          exact absurd (Or.inr c46) hf9
    · -- not taken at 11
      exact absurd ⟨2, by decide, rfl⟩ c11
set_option maxHeartbeats 4000000 in
set_option maxRecDepth 100000 in
theorem c_X5_copy_nul23 (aS : Nat → Nat) (aE : Nat → Nat) (la : Int32) (aW : Nat → Nat) (n : Nat) (cl : Nat) (th : Nat → Nat) (ki : Nat → Nat) (va : Nat → Nat) (re : Nat → Nat) (fi : Nat → Nat) (aB : Nat → Nat) (bt : Nat → Nat) (bs : Nat) (aC : Nat → Nat) (to : Nat → Prop) (co : Nat → Nat) (ke : Nat → Int32) (nu : Nat → Int32) (fw : Nat → Nat) (aH : Nat → Nat) (lt : Nat → Option Nat) (tr : Nat → Nat) (sh : Nat → Nat) (cr : Nat → Nat) (ct : Nat → Nat) (cu : Nat → Nat) (ve : Nat → Nat) (ta : Nat → Nat) (ch : Nat) (aT : Nat → Nat) (lt2 : Nat → Option Nat) (tr2 : Nat → Nat) (sh2 : Nat → Nat) (cr2 : Nat → Nat) (ct2 : Nat → Nat) (cu2 : Nat → Nat) (ve2 : Nat → Nat) (ta2 : Nat → Nat) (ch2 : Nat) (lo : Nat → Prop) (fo : Nat → Nat) (si : Nat → Nat) (it : Nat → Nat → Int32) (i : Int32) (j : Int32) (k : Int32) (J : IW n cl th ki va re fi) (S : SW n cl re fi) (B9 : (∀ j, bt j ≤ 255) ∧ bs ≤ 216) (C9 : (∀ j, co j ≤ 400) ∧ (∀ j, fw j ≤ 15)) (H9 : IHd lt tr sh cr ct cu ve ta ch) (U9 : IHd lt2 tr2 sh2 cr2 ct2 cu2 ve2 ta2 ch2) (E9 : (∀ j, fo j ≤ 2) ∧ (∀ j, si j ≤ 60)) (hf9 : lo 2 ∨ lo 3) : CM l D (TY cI cZ cS) yX5_copy cX5_copy 8 (some .int) 1 [.ref (aS 0), .int (nI 2), .int i, .int (nI 3), .int j, .int k] ((wS cS aS (aW 0) (aB 0) (aC 0) (aH 0) (aT 0) aE la) ++ ((wW cI aW n cl th ki va re fi) ++ ((wB cI aB bt bs) ++ ((wC cI cZ aC (aW 0) (aB 0) to co ke nu fw) ++ ((wH cI aH (aW 0) lt tr sh cr ct cu ve ta ch) ++ ((wH cI aT (aW 0) lt2 tr2 sh2 cr2 ct2 cu2 ve2 ta2 ch2) ++ (wE cI aE lo fo si it))))))) (some (.int ((-10) - (nI 1)))) ((wS cS aS (aW 0) (aB 0) (aC 0) (aH 0) (aT 0) aE (nI 1)) ++ ((wW cI aW n cl th ki va re fi) ++ ((wB cI aB bt bs) ++ ((wC cI cZ aC (aW 0) (aB 0) to co ke nu fw) ++ ((wH cI aH (aW 0) lt tr sh cr ct cu ve ta ch) ++ ((wH cI aT (aW 0) lt2 tr2 sh2 cr2 ct2 cu2 ve2 ta2 ch2) ++ (wE cI aE lo fo si it))))))) := by
  refine CM.ofI (by decide +kernel) (Nat.le_of_ble_eq_true rfl) (nar_int _) ?_
  intro p e s m args below meth c Q A G K hA w hret ls hl
  obtain ⟨hx, hb, hml, hown, hts⟩ := id G
  obtain ⟨hn, hcl, hth, hki, hva, hre, hfi⟩ := id J
  obtain ⟨hbt, hbs⟩ := id B9
  obtain ⟨hco, hfw⟩ := id C9
  obtain ⟨hlt, htr, hsh, hcr, hct, hcu, hve, hta, hch⟩ := id H9
  obtain ⟨hlt2, htr2, hsh2, hcr2, hct2, hcu2, hve2, hta2, hch2⟩ := id U9
  obtain ⟨hfo, hsi⟩ := id E9
  have hl : lv_has ls 8 [(0, .ref (aS 0)), (1, .int (nI 2)), (2, .int i), (3, .int (nI 3)), (4, .int j), (5, .int k)] := hl
  refine lv_iload_n hx hb dX5_copy_0 rfl (lv_at hl 1 rfl) ?_
  refine callPS (rest := []) G K F_X5_isSheet (c_X5_isSheet (nI 2)) (va_P_nil D s.heap) ml_X5_121 (by decide) (by decide) rfl hl.1 (Nat.le_of_ble_eq_true rfl) dX5_copy_1 ?_
  refine b_eq G (tgt := 14) dX5_copy_4 (by decide) (fun c4 => ?_) (fun c4 => ?_)
  · -- taken at 4
    exact absurd ⟨2, by decide, rfl⟩ c4
  · -- not taken at 4
    refine lv_iload_n hx hb dX5_copy_7 rfl (lv_at hl 3 rfl) ?_
    refine callPS (rest := []) G K F_X5_isSheet (c_X5_isSheet (nI 3)) (va_P_nil D s.heap) ml_X5_121 (by decide) (by decide) rfl hl.1 (Nat.le_of_ble_eq_true rfl) dX5_copy_8 ?_
    refine b_ne G (tgt := 17) dX5_copy_11 (by decide) (fun c11 => ?_) (fun c11 => ?_)
    · -- taken at 11
      refine lv_aload_n hx hb dX5_copy_17 rfl (lv_at hl 0 rfl) ?_
      refine f_get G K w.1 inX5 0 (ci := 5) rfl rfl 5 rfl fl_X5_46 (v := .ref (aS 1)) rfl dX5_copy_18 ?_
      refine lv_iload_n hx hb dX5_copy_21 rfl (lv_at hl 1 rfl) ?_
      refine a_ldR G K w.1 1 2 (a := (aS 1)) rfl rfl (by omega) (by decide) dX5_copy_22 ?_
      refine lv_astore (lv' := [(6, .ref (aE 2)), (0, .ref (aS 0)), (1, .int (nI 2)), (2, .int i), (3, .int (nI 3)), (4, .int j), (5, .int k)]) hx hb dX5_copy_23 hl (by decide) rfl (fun ls hl => ?_)
      refine lv_aload_n hx hb dX5_copy_25 rfl (lv_at hl 1 rfl) ?_
      refine f_get G K w.1 inX5 0 (ci := 5) rfl rfl 5 rfl fl_X5_46 (v := .ref (aS 1)) rfl dX5_copy_26 ?_
      refine lv_iload_n hx hb dX5_copy_29 rfl (lv_at hl 4 rfl) ?_
      refine a_ldR G K w.1 1 2 (a := (aS 1)) rfl rfl (by omega) (by decide) dX5_copy_30 ?_
      refine lv_astore (lv' := [(7, .ref (aE 3)), (6, .ref (aE 2)), (0, .ref (aS 0)), (1, .int (nI 2)), (2, .int i), (3, .int (nI 3)), (4, .int j), (5, .int k)]) hx hb dX5_copy_31 hl (by decide) rfl (fun ls hl => ?_)
      refine lv_aload hx hb dX5_copy_33 (lv_at hl 1 rfl) ?_
      refine f_get G K w.1 inX3 36 (ci := 3) rfl rfl 1 rfl fl_X5_124 (v := .int (bI (lo 2))) rfl dX5_copy_35 ?_
      refine b_ne G (tgt := 49) dX5_copy_38 (by decide) (fun c38 => ?_) (fun c38 => ?_)
      · -- taken at 38
        refine lv_aload_n hx hb dX5_copy_49 rfl (lv_at hl 2 rfl) ?_
        refine lv_iconst (v := (nI 1)) hx hb dX5_copy_50 (by decide) ?_
        refine callMF (As := [.int (nI 1)]) (rest := []) (q0 := 0) (ci := 5) (ws' := ((wS cS aS (aW 0) (aB 0) (aC 0) (aH 0) (aT 0) aE (nI 1)) ++ ((wW cI aW n cl th ki va re fi) ++ ((wB cI aB bt bs) ++ ((wC cI cZ aC (aW 0) (aB 0) to co ke nu fw) ++ ((wH cI aH (aW 0) lt tr sh cr ct cu ve ta ch) ++ ((wH cI aT (aW 0) lt2 tr2 sh2 cr2 ct2 cu2 ve2 ta2 ch2) ++ (wE cI aE lo fo si it)))))))) G K hA w F_X5_find (c_X5_find aS aE la aW n cl th ki va re fi aB bt bs aC to co ke nu fw aH lt tr sh cr ct cu ve ta ch aT lt2 tr2 sh2 cr2 ct2 cu2 ve2 ta2 ch2 lo fo si it 1 J S B9 C9 H9 U9 E9) ml_X5_128 rfl rfl rfl (by decide) (by decide) rfl hl.1 (Nat.le_of_ble_eq_true rfl) dX5_copy_51 (fun Hp1 lo2 w => ?_)
        exact hret _ _ _ _ _ _ rfl rfl w dX5_copy_54
      · -- not taken at 38
        refine lv_aload hx hb dX5_copy_41 (lv_at hl 0 rfl) ?_
        refine f_get G K w.1 inX3 37 (ci := 3) rfl rfl 1 rfl fl_X5_124 (v := .int (bI (lo 3))) rfl dX5_copy_43 ?_
        refine b_eq G (tgt := 55) dX5_copy_46 (by decide) (fun c46 => ?_) (fun c46 => ?_)
        · -- taken at 46
          exact absurd hf9 (fun h => h.elim c38 c46)
        · -- not taken at 46
          refine lv_aload_n hx hb dX5_copy_49 rfl (lv_at hl 2 rfl) ?_
          refine lv_iconst (v := (nI 1)) hx hb dX5_copy_50 (by decide) ?_
          refine callMF (As := [.int (nI 1)]) (rest := []) (q0 := 0) (ci := 5) (ws' := ((wS cS aS (aW 0) (aB 0) (aC 0) (aH 0) (aT 0) aE (nI 1)) ++ ((wW cI aW n cl th ki va re fi) ++ ((wB cI aB bt bs) ++ ((wC cI cZ aC (aW 0) (aB 0) to co ke nu fw) ++ ((wH cI aH (aW 0) lt tr sh cr ct cu ve ta ch) ++ ((wH cI aT (aW 0) lt2 tr2 sh2 cr2 ct2 cu2 ve2 ta2 ch2) ++ (wE cI aE lo fo si it)))))))) G K hA w F_X5_find (c_X5_find aS aE la aW n cl th ki va re fi aB bt bs aC to co ke nu fw aH lt tr sh cr ct cu ve ta ch aT lt2 tr2 sh2 cr2 ct2 cu2 ve2 ta2 ch2 lo fo si it 1 J S B9 C9 H9 U9 E9) ml_X5_128 rfl rfl rfl (by decide) (by decide) rfl hl.1 (Nat.le_of_ble_eq_true rfl) dX5_copy_51 (fun Hp3 lo4 w => ?_)
          exact hret _ _ _ _ _ _ rfl rfl w dX5_copy_54
    · -- not taken at 11
      exact absurd ⟨3, by decide, rfl⟩ c11
set_option maxHeartbeats 4000000 in
set_option maxRecDepth 100000 in
theorem c_X5_copy_sto23 (aS : Nat → Nat) (aE : Nat → Nat) (la : Int32) (aW : Nat → Nat) (n : Nat) (cl : Nat) (th : Nat → Nat) (ki : Nat → Nat) (va : Nat → Nat) (re : Nat → Nat) (fi : Nat → Nat) (aB : Nat → Nat) (bt : Nat → Nat) (bs : Nat) (aC : Nat → Nat) (to : Nat → Prop) (co : Nat → Nat) (ke : Nat → Int32) (nu : Nat → Int32) (fw : Nat → Nat) (aH : Nat → Nat) (lt : Nat → Option Nat) (tr : Nat → Nat) (sh : Nat → Nat) (cr : Nat → Nat) (ct : Nat → Nat) (cu : Nat → Nat) (ve : Nat → Nat) (ta : Nat → Nat) (ch : Nat) (aT : Nat → Nat) (lt2 : Nat → Option Nat) (tr2 : Nat → Nat) (sh2 : Nat → Nat) (cr2 : Nat → Nat) (ct2 : Nat → Nat) (cu2 : Nat → Nat) (ve2 : Nat → Nat) (ta2 : Nat → Nat) (ch2 : Nat) (lo : Nat → Prop) (fo : Nat → Nat) (si : Nat → Nat) (it : Nat → Nat → Int32) (i : Int32) (j : Int32) (k : Int32) (J : IW n cl th ki va re fi) (S : SW n cl re fi) (B9 : (∀ j, bt j ≤ 255) ∧ bs ≤ 216) (C9 : (∀ j, co j ≤ 400) ∧ (∀ j, fw j ≤ 15)) (H9 : IHd lt tr sh cr ct cu ve ta ch) (U9 : IHd lt2 tr2 sh2 cr2 ct2 cu2 ve2 ta2 ch2) (E9 : (∀ j, fo j ≤ 2) ∧ (∀ j, si j ≤ 60)) (hf9 : ¬ (lo 2 ∨ lo 3)) (hc9 : fo 2 ≠ fo 3) : CM l D (TY cI cZ cS) yX5_copy cX5_copy 8 (some .int) 1 [.ref (aS 0), .int (nI 2), .int i, .int (nI 3), .int j, .int k] ((wS cS aS (aW 0) (aB 0) (aC 0) (aH 0) (aT 0) aE la) ++ ((wW cI aW n cl th ki va re fi) ++ ((wB cI aB bt bs) ++ ((wC cI cZ aC (aW 0) (aB 0) to co ke nu fw) ++ ((wH cI aH (aW 0) lt tr sh cr ct cu ve ta ch) ++ ((wH cI aT (aW 0) lt2 tr2 sh2 cr2 ct2 cu2 ve2 ta2 ch2) ++ (wE cI aE lo fo si it))))))) (some (.int ((-10) - (nI 4)))) ((wS cS aS (aW 0) (aB 0) (aC 0) (aH 0) (aT 0) aE (nI 4)) ++ ((wW cI aW n cl th ki va re fi) ++ ((wB cI aB bt bs) ++ ((wC cI cZ aC (aW 0) (aB 0) to co ke nu fw) ++ ((wH cI aH (aW 0) lt tr sh cr ct cu ve ta ch) ++ ((wH cI aT (aW 0) lt2 tr2 sh2 cr2 ct2 cu2 ve2 ta2 ch2) ++ (wE cI aE lo fo si it))))))) := by
  refine CM.ofI (by decide +kernel) (Nat.le_of_ble_eq_true rfl) (nar_int _) ?_
  intro p e s m args below meth c Q A G K hA w hret ls hl
  obtain ⟨hx, hb, hml, hown, hts⟩ := id G
  obtain ⟨hn, hcl, hth, hki, hva, hre, hfi⟩ := id J
  obtain ⟨hbt, hbs⟩ := id B9
  obtain ⟨hco, hfw⟩ := id C9
  obtain ⟨hlt, htr, hsh, hcr, hct, hcu, hve, hta, hch⟩ := id H9
  obtain ⟨hlt2, htr2, hsh2, hcr2, hct2, hcu2, hve2, hta2, hch2⟩ := id U9
  obtain ⟨hfo, hsi⟩ := id E9
  have hq1 := hfo 2
  have hq2 := hfo 3
  have hl : lv_has ls 8 [(0, .ref (aS 0)), (1, .int (nI 2)), (2, .int i), (3, .int (nI 3)), (4, .int j), (5, .int k)] := hl
  refine lv_iload_n hx hb dX5_copy_0 rfl (lv_at hl 1 rfl) ?_
  refine callPS (rest := []) G K F_X5_isSheet (c_X5_isSheet (nI 2)) (va_P_nil D s.heap) ml_X5_121 (by decide) (by decide) rfl hl.1 (Nat.le_of_ble_eq_true rfl) dX5_copy_1 ?_
  refine b_eq G (tgt := 14) dX5_copy_4 (by decide) (fun c4 => ?_) (fun c4 => ?_)
  · -- taken at 4
    exact absurd ⟨2, by decide, rfl⟩ c4
  · -- not taken at 4
    refine lv_iload_n hx hb dX5_copy_7 rfl (lv_at hl 3 rfl) ?_
    refine callPS (rest := []) G K F_X5_isSheet (c_X5_isSheet (nI 3)) (va_P_nil D s.heap) ml_X5_121 (by decide) (by decide) rfl hl.1 (Nat.le_of_ble_eq_true rfl) dX5_copy_8 ?_
    refine b_ne G (tgt := 17) dX5_copy_11 (by decide) (fun c11 => ?_) (fun c11 => ?_)
    · -- taken at 11
      refine lv_aload_n hx hb dX5_copy_17 rfl (lv_at hl 0 rfl) ?_
      refine f_get G K w.1 inX5 0 (ci := 5) rfl rfl 5 rfl fl_X5_46 (v := .ref (aS 1)) rfl dX5_copy_18 ?_
      refine lv_iload_n hx hb dX5_copy_21 rfl (lv_at hl 1 rfl) ?_
      refine a_ldR G K w.1 1 2 (a := (aS 1)) rfl rfl (by omega) (by decide) dX5_copy_22 ?_
      refine lv_astore (lv' := [(6, .ref (aE 2)), (0, .ref (aS 0)), (1, .int (nI 2)), (2, .int i), (3, .int (nI 3)), (4, .int j), (5, .int k)]) hx hb dX5_copy_23 hl (by decide) rfl (fun ls hl => ?_)
      refine lv_aload_n hx hb dX5_copy_25 rfl (lv_at hl 1 rfl) ?_
      refine f_get G K w.1 inX5 0 (ci := 5) rfl rfl 5 rfl fl_X5_46 (v := .ref (aS 1)) rfl dX5_copy_26 ?_
      refine lv_iload_n hx hb dX5_copy_29 rfl (lv_at hl 4 rfl) ?_
      refine a_ldR G K w.1 1 2 (a := (aS 1)) rfl rfl (by omega) (by decide) dX5_copy_30 ?_
      refine lv_astore (lv' := [(7, .ref (aE 3)), (6, .ref (aE 2)), (0, .ref (aS 0)), (1, .int (nI 2)), (2, .int i), (3, .int (nI 3)), (4, .int j), (5, .int k)]) hx hb dX5_copy_31 hl (by decide) rfl (fun ls hl => ?_)
      refine lv_aload hx hb dX5_copy_33 (lv_at hl 1 rfl) ?_
      refine f_get G K w.1 inX3 36 (ci := 3) rfl rfl 1 rfl fl_X5_124 (v := .int (bI (lo 2))) rfl dX5_copy_35 ?_
      refine b_ne G (tgt := 49) dX5_copy_38 (by decide) (fun c38 => ?_) (fun c38 => ?_)
      · -- taken at 38
        exact absurd (Or.inl c38) hf9
      · -- not taken at 38
        refine lv_aload hx hb dX5_copy_41 (lv_at hl 0 rfl) ?_
        refine f_get G K w.1 inX3 37 (ci := 3) rfl rfl 1 rfl fl_X5_124 (v := .int (bI (lo 3))) rfl dX5_copy_43 ?_
        refine b_eq G (tgt := 55) dX5_copy_46 (by decide) (fun c46 => ?_) (fun c46 => ?_)
        · -- taken at 46
          refine lv_aload hx hb dX5_copy_55 (lv_at hl 1 rfl) ?_
          refine f_get G K w.1 inX3 36 (ci := 3) rfl rfl 2 rfl fl_X5_247 (v := .int (nI (fo 2))) rfl dX5_copy_57 ?_
          refine lv_aload hx hb dX5_copy_60 (lv_at hl 0 rfl) ?_
          refine f_get G K w.1 inX3 37 (ci := 3) rfl rfl 2 rfl fl_X5_247 (v := .int (nI (fo 3))) rfl dX5_copy_62 ?_
          refine c_eq G (tgt := 74) (by omega) (by omega) dX5_copy_65 (by decide) (fun c65 => ?_) (fun c65 => ?_)
          · -- taken at 65
            exact absurd c65 hc9
          · -- not taken at 65
            refine lv_aload_n hx hb dX5_copy_68 rfl (lv_at hl 2 rfl) ?_
            refine lv_iconst (v := (nI 4)) hx hb dX5_copy_69 (by decide) ?_
            refine callMF (As := [.int (nI 4)]) (rest := []) (q0 := 0) (ci := 5) (ws' := ((wS cS aS (aW 0) (aB 0) (aC 0) (aH 0) (aT 0) aE (nI 4)) ++ ((wW cI aW n cl th ki va re fi) ++ ((wB cI aB bt bs) ++ ((wC cI cZ aC (aW 0) (aB 0) to co ke nu fw) ++ ((wH cI aH (aW 0) lt tr sh cr ct cu ve ta ch) ++ ((wH cI aT (aW 0) lt2 tr2 sh2 cr2 ct2 cu2 ve2 ta2 ch2) ++ (wE cI aE lo fo si it)))))))) G K hA w F_X5_find (c_X5_find aS aE la aW n cl th ki va re fi aB bt bs aC to co ke nu fw aH lt tr sh cr ct cu ve ta ch aT lt2 tr2 sh2 cr2 ct2 cu2 ve2 ta2 ch2 lo fo si it 4 J S B9 C9 H9 U9 E9) ml_X5_128 rfl rfl rfl (by decide) (by decide) rfl hl.1 (Nat.le_of_ble_eq_true rfl) dX5_copy_70 (fun Hp1 lo2 w => ?_)
            exact hret _ _ _ _ _ _ rfl rfl w dX5_copy_73
        · -- not taken at 46
          exact absurd (Or.inr c46) hf9
    · -- not taken at 11
      exact absurd ⟨3, by decide, rfl⟩ c11
set_option maxHeartbeats 4000000 in
set_option maxRecDepth 100000 in
theorem c_X5_copy_idx23 (aS : Nat → Nat) (aE : Nat → Nat) (la : Int32) (aW : Nat → Nat) (n : Nat) (cl : Nat) (th : Nat → Nat) (ki : Nat → Nat) (va : Nat → Nat) (re : Nat → Nat) (fi : Nat → Nat) (aB : Nat → Nat) (bt : Nat → Nat) (bs : Nat) (aC : Nat → Nat) (to : Nat → Prop) (co : Nat → Nat) (ke : Nat → Int32) (nu : Nat → Int32) (fw : Nat → Nat) (aH : Nat → Nat) (lt : Nat → Option Nat) (tr : Nat → Nat) (sh : Nat → Nat) (cr : Nat → Nat) (ct : Nat → Nat) (cu : Nat → Nat) (ve : Nat → Nat) (ta : Nat → Nat) (ch : Nat) (aT : Nat → Nat) (lt2 : Nat → Option Nat) (tr2 : Nat → Nat) (sh2 : Nat → Nat) (cr2 : Nat → Nat) (ct2 : Nat → Nat) (cu2 : Nat → Nat) (ve2 : Nat → Nat) (ta2 : Nat → Nat) (ch2 : Nat) (lo : Nat → Prop) (fo : Nat → Nat) (si : Nat → Nat) (it : Nat → Nat → Int32) (i : Int32) (j : Int32) (k : Int32) (J : IW n cl th ki va re fi) (S : SW n cl re fi) (B9 : (∀ j, bt j ≤ 255) ∧ bs ≤ 216) (C9 : (∀ j, co j ≤ 400) ∧ (∀ j, fw j ≤ 15)) (H9 : IHd lt tr sh cr ct cu ve ta ch) (U9 : IHd lt2 tr2 sh2 cr2 ct2 cu2 ve2 ta2 ch2) (E9 : (∀ j, fo j ≤ 2) ∧ (∀ j, si j ≤ 60)) (hf9 : ¬ (lo 2 ∨ lo 3)) (hc9 : fo 2 = fo 3) (hk9 : ¬ (okH (si 2) i k ∧ okH (si 3) j k)) : CM l D (TY cI cZ cS) yX5_copy cX5_copy 8 (some .int) 1 [.ref (aS 0), .int (nI 2), .int i, .int (nI 3), .int j, .int k] ((wS cS aS (aW 0) (aB 0) (aC 0) (aH 0) (aT 0) aE la) ++ ((wW cI aW n cl th ki va re fi) ++ ((wB cI aB bt bs) ++ ((wC cI cZ aC (aW 0) (aB 0) to co ke nu fw) ++ ((wH cI aH (aW 0) lt tr sh cr ct cu ve ta ch) ++ ((wH cI aT (aW 0) lt2 tr2 sh2 cr2 ct2 cu2 ve2 ta2 ch2) ++ (wE cI aE lo fo si it))))))) (some (.int ((-10) - (nI 2)))) ((wS cS aS (aW 0) (aB 0) (aC 0) (aH 0) (aT 0) aE (nI 2)) ++ ((wW cI aW n cl th ki va re fi) ++ ((wB cI aB bt bs) ++ ((wC cI cZ aC (aW 0) (aB 0) to co ke nu fw) ++ ((wH cI aH (aW 0) lt tr sh cr ct cu ve ta ch) ++ ((wH cI aT (aW 0) lt2 tr2 sh2 cr2 ct2 cu2 ve2 ta2 ch2) ++ (wE cI aE lo fo si it))))))) := by
  refine CM.ofI (by decide +kernel) (Nat.le_of_ble_eq_true rfl) (nar_int _) ?_
  intro p e s m args below meth c Q A G K hA w hret ls hl
  obtain ⟨hx, hb, hml, hown, hts⟩ := id G
  obtain ⟨hn, hcl, hth, hki, hva, hre, hfi⟩ := id J
  obtain ⟨hbt, hbs⟩ := id B9
  obtain ⟨hco, hfw⟩ := id C9
  obtain ⟨hlt, htr, hsh, hcr, hct, hcu, hve, hta, hch⟩ := id H9
  obtain ⟨hlt2, htr2, hsh2, hcr2, hct2, hcu2, hve2, hta2, hch2⟩ := id U9
  obtain ⟨hfo, hsi⟩ := id E9
  have hq1 := hfo 2
  have hq2 := hfo 3
  have hl : lv_has ls 8 [(0, .ref (aS 0)), (1, .int (nI 2)), (2, .int i), (3, .int (nI 3)), (4, .int j), (5, .int k)] := hl
  refine lv_iload_n hx hb dX5_copy_0 rfl (lv_at hl 1 rfl) ?_
  refine callPS (rest := []) G K F_X5_isSheet (c_X5_isSheet (nI 2)) (va_P_nil D s.heap) ml_X5_121 (by decide) (by decide) rfl hl.1 (Nat.le_of_ble_eq_true rfl) dX5_copy_1 ?_
  refine b_eq G (tgt := 14) dX5_copy_4 (by decide) (fun c4 => ?_) (fun c4 => ?_)
  · -- taken at 4
    exact absurd ⟨2, by decide, rfl⟩ c4
  · -- not taken at 4
    refine lv_iload_n hx hb dX5_copy_7 rfl (lv_at hl 3 rfl) ?_
    refine callPS (rest := []) G K F_X5_isSheet (c_X5_isSheet (nI 3)) (va_P_nil D s.heap) ml_X5_121 (by decide) (by decide) rfl hl.1 (Nat.le_of_ble_eq_true rfl) dX5_copy_8 ?_
    refine b_ne G (tgt := 17) dX5_copy_11 (by decide) (fun c11 => ?_) (fun c11 => ?_)
    · -- taken at 11
      refine lv_aload_n hx hb dX5_copy_17 rfl (lv_at hl 0 rfl) ?_
      refine f_get G K w.1 inX5 0 (ci := 5) rfl rfl 5 rfl fl_X5_46 (v := .ref (aS 1)) rfl dX5_copy_18 ?_
      refine lv_iload_n hx hb dX5_copy_21 rfl (lv_at hl 1 rfl) ?_
      refine a_ldR G K w.1 1 2 (a := (aS 1)) rfl rfl (by omega) (by decide) dX5_copy_22 ?_
      refine lv_astore (lv' := [(6, .ref (aE 2)), (0, .ref (aS 0)), (1, .int (nI 2)), (2, .int i), (3, .int (nI 3)), (4, .int j), (5, .int k)]) hx hb dX5_copy_23 hl (by decide) rfl (fun ls hl => ?_)
      refine lv_aload_n hx hb dX5_copy_25 rfl (lv_at hl 1 rfl) ?_
      refine f_get G K w.1 inX5 0 (ci := 5) rfl rfl 5 rfl fl_X5_46 (v := .ref (aS 1)) rfl dX5_copy_26 ?_
      refine lv_iload_n hx hb dX5_copy_29 rfl (lv_at hl 4 rfl) ?_
      refine a_ldR G K w.1 1 2 (a := (aS 1)) rfl rfl (by omega) (by decide) dX5_copy_30 ?_
      refine lv_astore (lv' := [(7, .ref (aE 3)), (6, .ref (aE 2)), (0, .ref (aS 0)), (1, .int (nI 2)), (2, .int i), (3, .int (nI 3)), (4, .int j), (5, .int k)]) hx hb dX5_copy_31 hl (by decide) rfl (fun ls hl => ?_)
      refine lv_aload hx hb dX5_copy_33 (lv_at hl 1 rfl) ?_
      refine f_get G K w.1 inX3 36 (ci := 3) rfl rfl 1 rfl fl_X5_124 (v := .int (bI (lo 2))) rfl dX5_copy_35 ?_
      refine b_ne G (tgt := 49) dX5_copy_38 (by decide) (fun c38 => ?_) (fun c38 => ?_)
      · -- taken at 38
        exact absurd (Or.inl c38) hf9
      · -- not taken at 38
        refine lv_aload hx hb dX5_copy_41 (lv_at hl 0 rfl) ?_
        refine f_get G K w.1 inX3 37 (ci := 3) rfl rfl 1 rfl fl_X5_124 (v := .int (bI (lo 3))) rfl dX5_copy_43 ?_
        refine b_eq G (tgt := 55) dX5_copy_46 (by decide) (fun c46 => ?_) (fun c46 => ?_)
        · -- taken at 46
          refine lv_aload hx hb dX5_copy_55 (lv_at hl 1 rfl) ?_
          refine f_get G K w.1 inX3 36 (ci := 3) rfl rfl 2 rfl fl_X5_247 (v := .int (nI (fo 2))) rfl dX5_copy_57 ?_
          refine lv_aload hx hb dX5_copy_60 (lv_at hl 0 rfl) ?_
          refine f_get G K w.1 inX3 37 (ci := 3) rfl rfl 2 rfl fl_X5_247 (v := .int (nI (fo 3))) rfl dX5_copy_62 ?_
          refine c_eq G (tgt := 74) (by omega) (by omega) dX5_copy_65 (by decide) (fun c65 => ?_) (fun c65 => ?_)
          · -- taken at 65
            refine lv_aload hx hb dX5_copy_74 (lv_at hl 1 rfl) ?_
            refine lv_iload_n hx hb dX5_copy_76 rfl (lv_at hl 4 rfl) ?_
            refine lv_iload hx hb dX5_copy_77 (lv_at hl 7 rfl) ?_
            refine callPV (As := [.int i, .int k]) (rest := []) (q0 := 0) (ci := 3) G K F_X3_hasItems (c_X3_hasItems (aE 2) (aE 6) (lo 2) (fo 2) (si 2) (it 2) i k ⟨hfo 2, hsi 2⟩) (w.1.sub (ws' := (wT cI (aE 2) (aE 6) (lo 2) (fo 2) (si 2) (it 2))) [36, 40] rfl) ml_X5_250 rfl rfl rfl (by decide) (by decide) rfl hl.1 (Nat.le_of_ble_eq_true rfl) dX5_copy_79 ?_
            refine b_eq G (tgt := 97) dX5_copy_82 (by decide) (fun c82 => ?_) (fun c82 => ?_)
            · -- taken at 82
              refine lv_aload_n hx hb dX5_copy_97 rfl (lv_at hl 2 rfl) ?_
              refine lv_iconst (v := (nI 2)) hx hb dX5_copy_98 (by decide) ?_
              refine callMF (As := [.int (nI 2)]) (rest := []) (q0 := 0) (ci := 5) (ws' := ((wS cS aS (aW 0) (aB 0) (aC 0) (aH 0) (aT 0) aE (nI 2)) ++ ((wW cI aW n cl th ki va re fi) ++ ((wB cI aB bt bs) ++ ((wC cI cZ aC (aW 0) (aB 0) to co ke nu fw) ++ ((wH cI aH (aW 0) lt tr sh cr ct cu ve ta ch) ++ ((wH cI aT (aW 0) lt2 tr2 sh2 cr2 ct2 cu2 ve2 ta2 ch2) ++ (wE cI aE lo fo si it)))))))) G K hA w F_X5_find (c_X5_find aS aE la aW n cl th ki va re fi aB bt bs aC to co ke nu fw aH lt tr sh cr ct cu ve ta ch aT lt2 tr2 sh2 cr2 ct2 cu2 ve2 ta2 ch2 lo fo si it 2 J S B9 C9 H9 U9 E9) ml_X5_128 rfl rfl rfl (by decide) (by decide) rfl hl.1 (Nat.le_of_ble_eq_true rfl) dX5_copy_99 (fun Hp1 lo2 w => ?_)
              exact hret _ _ _ _ _ _ rfl rfl w dX5_copy_102
            · -- not taken at 82
              refine lv_aload hx hb dX5_copy_85 (lv_at hl 0 rfl) ?_
              refine lv_iload hx hb dX5_copy_87 (lv_at hl 6 rfl) ?_
              refine lv_iload hx hb dX5_copy_89 (lv_at hl 7 rfl) ?_
              refine callPV (As := [.int j, .int k]) (rest := []) (q0 := 0) (ci := 3) G K F_X3_hasItems (c_X3_hasItems (aE 3) (aE 7) (lo 3) (fo 3) (si 3) (it 3) j k ⟨hfo 3, hsi 3⟩) (w.1.sub (ws' := (wT cI (aE 3) (aE 7) (lo 3) (fo 3) (si 3) (it 3))) [37, 41] rfl) ml_X5_250 rfl rfl rfl (by decide) (by decide) rfl hl.1 (Nat.le_of_ble_eq_true rfl) dX5_copy_91 ?_
              refine b_ne G (tgt := 103) dX5_copy_94 (by decide) (fun c94 => ?_) (fun c94 => ?_)
              · -- taken at 94
                exact absurd ⟨c82, c94⟩ hk9
              · -- not taken at 94
                refine lv_aload_n hx hb dX5_copy_97 rfl (lv_at hl 2 rfl) ?_
                refine lv_iconst (v := (nI 2)) hx hb dX5_copy_98 (by decide) ?_
                refine callMF (As := [.int (nI 2)]) (rest := []) (q0 := 0) (ci := 5) (ws' := ((wS cS aS (aW 0) (aB 0) (aC 0) (aH 0) (aT 0) aE (nI 2)) ++ ((wW cI aW n cl th ki va re fi) ++ ((wB cI aB bt bs) ++ ((wC cI cZ aC (aW 0) (aB 0) to co ke nu fw) ++ ((wH cI aH (aW 0) lt tr sh cr ct cu ve ta ch) ++ ((wH cI aT (aW 0) lt2 tr2 sh2 cr2 ct2 cu2 ve2 ta2 ch2) ++ (wE cI aE lo fo si it)))))))) G K hA w F_X5_find (c_X5_find aS aE la aW n cl th ki va re fi aB bt bs aC to co ke nu fw aH lt tr sh cr ct cu ve ta ch aT lt2 tr2 sh2 cr2 ct2 cu2 ve2 ta2 ch2 lo fo si it 2 J S B9 C9 H9 U9 E9) ml_X5_128 rfl rfl rfl (by decide) (by decide) rfl hl.1 (Nat.le_of_ble_eq_true rfl) dX5_copy_99 (fun Hp3 lo4 w => ?_)
                exact hret _ _ _ _ _ _ rfl rfl w dX5_copy_102
          · -- not taken at 65
            exact absurd hc9 c65
        · -- not taken at 46
          exact absurd (Or.inr c46) hf9
    · -- not taken at 11
      exact absurd ⟨3, by decide, rfl⟩ c11
set_option maxHeartbeats 4000000 in
set_option maxRecDepth 100000 in
theorem c_X5_copy_ok23 (aS : Nat → Nat) (aE : Nat → Nat) (la : Int32) (aW : Nat → Nat) (n : Nat) (cl : Nat) (th : Nat → Nat) (ki : Nat → Nat) (va : Nat → Nat) (re : Nat → Nat) (fi : Nat → Nat) (aB : Nat → Nat) (bt : Nat → Nat) (bs : Nat) (aC : Nat → Nat) (to : Nat → Prop) (co : Nat → Nat) (ke : Nat → Int32) (nu : Nat → Int32) (fw : Nat → Nat) (aH : Nat → Nat) (lt : Nat → Option Nat) (tr : Nat → Nat) (sh : Nat → Nat) (cr : Nat → Nat) (ct : Nat → Nat) (cu : Nat → Nat) (ve : Nat → Nat) (ta : Nat → Nat) (ch : Nat) (aT : Nat → Nat) (lt2 : Nat → Option Nat) (tr2 : Nat → Nat) (sh2 : Nat → Nat) (cr2 : Nat → Nat) (ct2 : Nat → Nat) (cu2 : Nat → Nat) (ve2 : Nat → Nat) (ta2 : Nat → Nat) (ch2 : Nat) (lo : Nat → Prop) (fo : Nat → Nat) (si : Nat → Nat) (it : Nat → Nat → Int32) (i : Nat) (j : Nat) (k : Nat) (J : IW n cl th ki va re fi) (S : SW n cl re fi) (B9 : (∀ j, bt j ≤ 255) ∧ bs ≤ 216) (C9 : (∀ j, co j ≤ 400) ∧ (∀ j, fw j ≤ 15)) (H9 : IHd lt tr sh cr ct cu ve ta ch) (U9 : IHd lt2 tr2 sh2 cr2 ct2 cu2 ve2 ta2 ch2) (E9 : (∀ j, fo j ≤ 2) ∧ (∀ j, si j ≤ 60)) (hf9 : ¬ (lo 2 ∨ lo 3)) (hc9 : fo 2 = fo 3) (hi9 : i + k ≤ si 2) (hj9 : j + k ≤ si 3) : CM l D (TY cI cZ cS) yX5_copy cX5_copy 8 (some .int) 1 [.ref (aS 0), .int (nI 2), .int (nI i), .int (nI 3), .int (nI j), .int (nI k)] ((wS cS aS (aW 0) (aB 0) (aC 0) (aH 0) (aT 0) aE la) ++ ((wW cI aW n cl th ki va re fi) ++ ((wB cI aB bt bs) ++ ((wC cI cZ aC (aW 0) (aB 0) to co ke nu fw) ++ ((wH cI aH (aW 0) lt tr sh cr ct cu ve ta ch) ++ ((wH cI aT (aW 0) lt2 tr2 sh2 cr2 ct2 cu2 ve2 ta2 ch2) ++ (wE cI aE lo fo si it))))))) (some (.int (nI 1))) ((wS cS aS (aW 0) (aB 0) (aC 0) (aH 0) (aT 0) aE la) ++ ((wW cI aW n cl th ki va re fi) ++ ((wB cI aB bt bs) ++ ((wC cI cZ aC (aW 0) (aB 0) to co ke nu fw) ++ ((wH cI aH (aW 0) lt tr sh cr ct cu ve ta ch) ++ ((wH cI aT (aW 0) lt2 tr2 sh2 cr2 ct2 cu2 ve2 ta2 ch2) ++ (wE cI aE lo fo si (va_up it 3 (va_cpy (it 2) (it 3) i j k))))))))) := by
  refine CM.ofI (by decide +kernel) (Nat.le_of_ble_eq_true rfl) (nar_int _) ?_
  intro p e s m args below meth c Q A G K hA w hret ls hl
  obtain ⟨hx, hb, hml, hown, hts⟩ := id G
  obtain ⟨hn, hcl, hth, hki, hva, hre, hfi⟩ := id J
  obtain ⟨hbt, hbs⟩ := id B9
  obtain ⟨hco, hfw⟩ := id C9
  obtain ⟨hlt, htr, hsh, hcr, hct, hcu, hve, hta, hch⟩ := id H9
  obtain ⟨hlt2, htr2, hsh2, hcr2, hct2, hcu2, hve2, hta2, hch2⟩ := id U9
  obtain ⟨hfo, hsi⟩ := id E9
  have hs9 := hsi 2
  have ht9 := hsi 3
  have hq1 := hfo 2
  have hq2 := hfo 3
  have hl : lv_has ls 8 [(0, .ref (aS 0)), (1, .int (nI 2)), (2, .int (nI i)), (3, .int (nI 3)), (4, .int (nI j)), (5, .int (nI k))] := hl
  refine lv_iload_n hx hb dX5_copy_0 rfl (lv_at hl 1 rfl) ?_
  refine callPS (rest := []) G K F_X5_isSheet (c_X5_isSheet (nI 2)) (va_P_nil D s.heap) ml_X5_121 (by decide) (by decide) rfl hl.1 (Nat.le_of_ble_eq_true rfl) dX5_copy_1 ?_
  refine b_eq G (tgt := 14) dX5_copy_4 (by decide) (fun c4 => ?_) (fun c4 => ?_)
  · -- taken at 4
    exact absurd ⟨2, by decide, rfl⟩ c4
  · -- not taken at 4
    refine lv_iload_n hx hb dX5_copy_7 rfl (lv_at hl 3 rfl) ?_
    refine callPS (rest := []) G K F_X5_isSheet (c_X5_isSheet (nI 3)) (va_P_nil D s.heap) ml_X5_121 (by decide) (by decide) rfl hl.1 (Nat.le_of_ble_eq_true rfl) dX5_copy_8 ?_
    refine b_ne G (tgt := 17) dX5_copy_11 (by decide) (fun c11 => ?_) (fun c11 => ?_)
    · -- taken at 11
      refine lv_aload_n hx hb dX5_copy_17 rfl (lv_at hl 0 rfl) ?_
      refine f_get G K w.1 inX5 0 (ci := 5) rfl rfl 5 rfl fl_X5_46 (v := .ref (aS 1)) rfl dX5_copy_18 ?_
      refine lv_iload_n hx hb dX5_copy_21 rfl (lv_at hl 1 rfl) ?_
      refine a_ldR G K w.1 1 2 (a := (aS 1)) rfl rfl (by omega) (by decide) dX5_copy_22 ?_
      refine lv_astore (lv' := [(6, .ref (aE 2)), (0, .ref (aS 0)), (1, .int (nI 2)), (2, .int (nI i)), (3, .int (nI 3)), (4, .int (nI j)), (5, .int (nI k))]) hx hb dX5_copy_23 hl (by decide) rfl (fun ls hl => ?_)
      refine lv_aload_n hx hb dX5_copy_25 rfl (lv_at hl 1 rfl) ?_
      refine f_get G K w.1 inX5 0 (ci := 5) rfl rfl 5 rfl fl_X5_46 (v := .ref (aS 1)) rfl dX5_copy_26 ?_
      refine lv_iload_n hx hb dX5_copy_29 rfl (lv_at hl 4 rfl) ?_
      refine a_ldR G K w.1 1 2 (a := (aS 1)) rfl rfl (by omega) (by decide) dX5_copy_30 ?_
      refine lv_astore (lv' := [(7, .ref (aE 3)), (6, .ref (aE 2)), (0, .ref (aS 0)), (1, .int (nI 2)), (2, .int (nI i)), (3, .int (nI 3)), (4, .int (nI j)), (5, .int (nI k))]) hx hb dX5_copy_31 hl (by decide) rfl (fun ls hl => ?_)
      refine lv_aload hx hb dX5_copy_33 (lv_at hl 1 rfl) ?_
      refine f_get G K w.1 inX3 36 (ci := 3) rfl rfl 1 rfl fl_X5_124 (v := .int (bI (lo 2))) rfl dX5_copy_35 ?_
      refine b_ne G (tgt := 49) dX5_copy_38 (by decide) (fun c38 => ?_) (fun c38 => ?_)
      · -- taken at 38
        exact absurd (Or.inl c38) hf9
      · -- not taken at 38
        refine lv_aload hx hb dX5_copy_41 (lv_at hl 0 rfl) ?_
        refine f_get G K w.1 inX3 37 (ci := 3) rfl rfl 1 rfl fl_X5_124 (v := .int (bI (lo 3))) rfl dX5_copy_43 ?_
        refine b_eq G (tgt := 55) dX5_copy_46 (by decide) (fun c46 => ?_) (fun c46 => ?_)
        · -- taken at 46
          refine lv_aload hx hb dX5_copy_55 (lv_at hl 1 rfl) ?_
          refine f_get G K w.1 inX3 36 (ci := 3) rfl rfl 2 rfl fl_X5_247 (v := .int (nI (fo 2))) rfl dX5_copy_57 ?_
          refine lv_aload hx hb dX5_copy_60 (lv_at hl 0 rfl) ?_
          refine f_get G K w.1 inX3 37 (ci := 3) rfl rfl 2 rfl fl_X5_247 (v := .int (nI (fo 3))) rfl dX5_copy_62 ?_
          refine c_eq G (tgt := 74) (by omega) (by omega) dX5_copy_65 (by decide) (fun c65 => ?_) (fun c65 => ?_)
          · -- taken at 65
            refine lv_aload hx hb dX5_copy_74 (lv_at hl 1 rfl) ?_
            refine lv_iload_n hx hb dX5_copy_76 rfl (lv_at hl 4 rfl) ?_
            refine lv_iload hx hb dX5_copy_77 (lv_at hl 7 rfl) ?_
            refine callPV (As := [.int (nI i), .int (nI k)]) (rest := []) (q0 := 0) (ci := 3) G K F_X3_hasItems (c_X3_hasItems (aE 2) (aE 6) (lo 2) (fo 2) (si 2) (it 2) (nI i) (nI k) ⟨hfo 2, hsi 2⟩) (w.1.sub (ws' := (wT cI (aE 2) (aE 6) (lo 2) (fo 2) (si 2) (it 2))) [36, 40] rfl) ml_X5_250 rfl rfl rfl (by decide) (by decide) rfl hl.1 (Nat.le_of_ble_eq_true rfl) dX5_copy_79 ?_
            refine b_eq G (tgt := 97) dX5_copy_82 (by decide) (fun c82 => ?_) (fun c82 => ?_)
            · -- taken at 82
              exact absurd ⟨i, k, hi9, rfl, rfl⟩ c82
            · -- not taken at 82
              refine lv_aload hx hb dX5_copy_85 (lv_at hl 0 rfl) ?_
              refine lv_iload hx hb dX5_copy_87 (lv_at hl 6 rfl) ?_
              refine lv_iload hx hb dX5_copy_89 (lv_at hl 7 rfl) ?_
              refine callPV (As := [.int (nI j), .int (nI k)]) (rest := []) (q0 := 0) (ci := 3) G K F_X3_hasItems (c_X3_hasItems (aE 3) (aE 7) (lo 3) (fo 3) (si 3) (it 3) (nI j) (nI k) ⟨hfo 3, hsi 3⟩) (w.1.sub (ws' := (wT cI (aE 3) (aE 7) (lo 3) (fo 3) (si 3) (it 3))) [37, 41] rfl) ml_X5_250 rfl rfl rfl (by decide) (by decide) rfl hl.1 (Nat.le_of_ble_eq_true rfl) dX5_copy_91 ?_
              refine b_ne G (tgt := 103) dX5_copy_94 (by decide) (fun c94 => ?_) (fun c94 => ?_)
              · -- taken at 94
                refine lv_aload hx hb dX5_copy_103 (lv_at hl 1 rfl) ?_
                refine f_get G K w.1 inX3 36 (ci := 3) rfl rfl 0 rfl fl_X5_132 (v := .ref (aE 6)) rfl dX5_copy_105 ?_
                refine lv_iload_n hx hb dX5_copy_108 rfl (lv_at hl 4 rfl) ?_
                refine lv_aload hx hb dX5_copy_109 (lv_at hl 0 rfl) ?_
                refine f_get G K w.1 inX3 37 (ci := 3) rfl rfl 0 rfl fl_X5_132 (v := .ref (aE 7)) rfl dX5_copy_111 ?_
                refine lv_iload hx hb dX5_copy_114 (lv_at hl 6 rfl) ?_
                refine lv_iload hx hb dX5_copy_116 (lv_at hl 7 rfl) ?_
                refine acp (f := (it 2)) (g := (it 3)) (sp := i) (dp := j) (k := k) G K w (hml.trans hl.1.symm) ml_X5_253 40 41 rfl rfl (by omega) (by omega) (by decide) (Nat.le_of_ble_eq_true rfl) (Nat.le_of_ble_eq_true rfl) dX5_copy_118 (w2 := ((wS cS aS (aW 0) (aB 0) (aC 0) (aH 0) (aT 0) aE la) ++ ((wW cI aW n cl th ki va re fi) ++ ((wB cI aB bt bs) ++ ((wC cI cZ aC (aW 0) (aB 0) to co ke nu fw) ++ ((wH cI aH (aW 0) lt tr sh cr ct cu ve ta ch) ++ ((wH cI aT (aW 0) lt2 tr2 sh2 cr2 ct2 cu2 ve2 ta2 ch2) ++ (wE cI aE lo fo si (va_up it 3 (va_cpy (it 2) (it 3) i j k)))))))))) rfl (fun Hp1 lo2 w => ?_)
                refine lv_iconst (v := (nI 1)) hx hb dX5_copy_121 (by decide) ?_
                exact hret _ _ _ _ _ _ rfl rfl w dX5_copy_122
              · -- not taken at 94
                exact absurd ⟨j, k, hj9, rfl, rfl⟩ c94
          · -- not taken at 65
            exact absurd hc9 c65
        · -- not taken at 46
          exact absurd (Or.inr c46) hf9
    · -- not taken at 11
      exact absurd ⟨3, by decide, rfl⟩ c11
set_option maxHeartbeats 4000000 in
set_option maxRecDepth 100000 in
theorem c_X5_copy_nul30 (aS : Nat → Nat) (aE : Nat → Nat) (la : Int32) (aW : Nat → Nat) (n : Nat) (cl : Nat) (th : Nat → Nat) (ki : Nat → Nat) (va : Nat → Nat) (re : Nat → Nat) (fi : Nat → Nat) (aB : Nat → Nat) (bt : Nat → Nat) (bs : Nat) (aC : Nat → Nat) (to : Nat → Prop) (co : Nat → Nat) (ke : Nat → Int32) (nu : Nat → Int32) (fw : Nat → Nat) (aH : Nat → Nat) (lt : Nat → Option Nat) (tr : Nat → Nat) (sh : Nat → Nat) (cr : Nat → Nat) (ct : Nat → Nat) (cu : Nat → Nat) (ve : Nat → Nat) (ta : Nat → Nat) (ch : Nat) (aT : Nat → Nat) (lt2 : Nat → Option Nat) (tr2 : Nat → Nat) (sh2 : Nat → Nat) (cr2 : Nat → Nat) (ct2 : Nat → Nat) (cu2 : Nat → Nat) (ve2 : Nat → Nat) (ta2 : Nat → Nat) (ch2 : Nat) (lo : Nat → Prop) (fo : Nat → Nat) (si : Nat → Nat) (it : Nat → Nat → Int32) (i : Int32) (j : Int32) (k : Int32) (J : IW n cl th ki va re fi) (S : SW n cl re fi) (B9 : (∀ j, bt j ≤ 255) ∧ bs ≤ 216) (C9 : (∀ j, co j ≤ 400) ∧ (∀ j, fw j ≤ 15)) (H9 : IHd lt tr sh cr ct cu ve ta ch) (U9 : IHd lt2 tr2 sh2 cr2 ct2 cu2 ve2 ta2 ch2) (E9 : (∀ j, fo j ≤ 2) ∧ (∀ j, si j ≤ 60)) (hf9 : lo 3 ∨ lo 0) : CM l D (TY cI cZ cS) yX5_copy cX5_copy 8 (some .int) 1 [.ref (aS 0), .int (nI 3), .int i, .int (nI 0), .int j, .int k] ((wS cS aS (aW 0) (aB 0) (aC 0) (aH 0) (aT 0) aE la) ++ ((wW cI aW n cl th ki va re fi) ++ ((wB cI aB bt bs) ++ ((wC cI cZ aC (aW 0) (aB 0) to co ke nu fw) ++ ((wH cI aH (aW 0) lt tr sh cr ct cu ve ta ch) ++ ((wH cI aT (aW 0) lt2 tr2 sh2 cr2 ct2 cu2 ve2 ta2 ch2) ++ (wE cI aE lo fo si it))))))) (some (.int ((-10) - (nI 1)))) ((wS cS aS (aW 0) (aB 0) (aC 0) (aH 0) (aT 0) aE (nI 1)) ++ ((wW cI aW n cl th ki va re fi) ++ ((wB cI aB bt bs) ++ ((wC cI cZ aC (aW 0) (aB 0) to co ke nu fw) ++ ((wH cI aH (aW 0) lt tr sh cr ct cu ve ta ch) ++ ((wH cI aT (aW 0) lt2 tr2 sh2 cr2 ct2 cu2 ve2 ta2 ch2) ++ (wE cI aE lo fo si it))))))) := by
  refine CM.ofI (by decide +kernel) (Nat.le_of_ble_eq_true rfl) (nar_int _) ?_
  intro p e s m args below meth c Q A G K hA w hret ls hl
  obtain ⟨hx, hb, hml, hown, hts⟩ := id G
  obtain ⟨hn, hcl, hth, hki, hva, hre, hfi⟩ := id J
  obtain ⟨hbt, hbs⟩ := id B9
  obtain ⟨hco, hfw⟩ := id C9
  obtain ⟨hlt, htr, hsh, hcr, hct, hcu, hve, hta, hch⟩ := id H9
  obtain ⟨hlt2, htr2, hsh2, hcr2, hct2, hcu2, hve2, hta2, hch2⟩ := id U9
  obtain ⟨hfo, hsi⟩ := id E9
  have hl : lv_has ls 8 [(0, .ref (aS 0)), (1, .int (nI 3)), (2, .int i), (3, .int (nI 0)), (4, .int j), (5, .int k)] := hl
  refine lv_iload_n hx hb dX5_copy_0 rfl (lv_at hl 1 rfl) ?_
  refine callPS (rest := []) G K F_X5_isSheet (c_X5_isSheet (nI 3)) (va_P_nil D s.heap) ml_X5_121 (by decide) (by decide) rfl hl.1 (Nat.le_of_ble_eq_true rfl) dX5_copy_1 ?_
  refine b_eq G (tgt := 14) dX5_copy_4 (by decide) (fun c4 => ?_) (fun c4 => ?_)
  · -- taken at 4
    exact absurd ⟨3, by decide, rfl⟩ c4
  · -- not taken at 4
    refine lv_iload_n hx hb dX5_copy_7 rfl (lv_at hl 3 rfl) ?_
    refine callPS (rest := []) G K F_X5_isSheet (c_X5_isSheet (nI 0)) (va_P_nil D s.heap) ml_X5_121 (by decide) (by decide) rfl hl.1 (Nat.le_of_ble_eq_true rfl) dX5_copy_8 ?_
    refine b_ne G (tgt := 17) dX5_copy_11 (by decide) (fun c11 => ?_) (fun c11 => ?_)
    · -- taken at 11
      refine lv_aload_n hx hb dX5_copy_17 rfl (lv_at hl 0 rfl) ?_
      refine f_get G K w.1 inX5 0 (ci := 5) rfl rfl 5 rfl fl_X5_46 (v := .ref (aS 1)) rfl dX5_copy_18 ?_
      refine lv_iload_n hx hb dX5_copy_21 rfl (lv_at hl 1 rfl) ?_
      refine a_ldR G K w.1 1 2 (a := (aS 1)) rfl rfl (by omega) (by decide) dX5_copy_22 ?_
      refine lv_astore (lv' := [(6, .ref (aE 3)), (0, .ref (aS 0)), (1, .int (nI 3)), (2, .int i), (3, .int (nI 0)), (4, .int j), (5, .int k)]) hx hb dX5_copy_23 hl (by decide) rfl (fun ls hl => ?_)
      refine lv_aload_n hx hb dX5_copy_25 rfl (lv_at hl 1 rfl) ?_
      refine f_get G K w.1 inX5 0 (ci := 5) rfl rfl 5 rfl fl_X5_46 (v := .ref (aS 1)) rfl dX5_copy_26 ?_
      refine lv_iload_n hx hb dX5_copy_29 rfl (lv_at hl 4 rfl) ?_
      refine a_ldR G K w.1 1 2 (a := (aS 1)) rfl rfl (by omega) (by decide) dX5_copy_30 ?_
      refine lv_astore (lv' := [(7, .ref (aE 0)), (6, .ref (aE 3)), (0, .ref (aS 0)), (1, .int (nI 3)), (2, .int i), (3, .int (nI 0)), (4, .int j), (5, .int k)]) hx hb dX5_copy_31 hl (by decide) rfl (fun ls hl => ?_)
      refine lv_aload hx hb dX5_copy_33 (lv_at hl 1 rfl) ?_
      refine f_get G K w.1 inX3 37 (ci := 3) rfl rfl 1 rfl fl_X5_124 (v := .int (bI (lo 3))) rfl dX5_copy_35 ?_
      refine b_ne G (tgt := 49) dX5_copy_38 (by decide) (fun c38 => ?_) (fun c38 => ?_)
      · -- taken at 38
        refine lv_aload_n hx hb dX5_copy_49 rfl (lv_at hl 2 rfl) ?_
        refine lv_iconst (v := (nI 1)) hx hb dX5_copy_50 (by decide) ?_
        refine callMF (As := [.int (nI 1)]) (rest := []) (q0 := 0) (ci := 5) (ws' := ((wS cS aS (aW 0) (aB 0) (aC 0) (aH 0) (aT 0) aE (nI 1)) ++ ((wW cI aW n cl th ki va re fi) ++ ((wB cI aB bt bs) ++ ((wC cI cZ aC (aW 0) (aB 0) to co ke nu fw) ++ ((wH cI aH (aW 0) lt tr sh cr ct cu ve ta ch) ++ ((wH cI aT (aW 0) lt2 tr2 sh2 cr2 ct2 cu2 ve2 ta2 ch2) ++ (wE cI aE lo fo si it)))))))) G K hA w F_X5_find (c_X5_find aS aE la aW n cl th ki va re fi aB bt bs aC to co ke nu fw aH lt tr sh cr ct cu ve ta ch aT lt2 tr2 sh2 cr2 ct2 cu2 ve2 ta2 ch2 lo fo si it 1 J S B9 C9 H9 U9 E9) ml_X5_128 rfl rfl rfl (by decide) (by decide) rfl hl.1 (Nat.le_of_ble_eq_true rfl) dX5_copy_51 (fun Hp1 lo2 w => ?_)
        exact hret _ _ _ _ _ _ rfl rfl w dX5_copy_54
      · -- not taken at 38
        refine lv_aload hx hb dX5_copy_41 (lv_at hl 0 rfl) ?_
        refine f_get G K w.1 inX3 34 (ci := 3) rfl rfl 1 rfl fl_X5_124 (v := .int (bI (lo 0))) rfl dX5_copy_43 ?_
        refine b_eq G (tgt := 55) dX5_copy_46 (by decide) (fun c46 => ?_) (fun c46 => ?_)
        · -- taken at 46
          exact absurd hf9 (fun h => h.elim c38 c46)
        · -- not taken at 46
          refine lv_aload_n hx hb dX5_copy_49 rfl (lv_at hl 2 rfl) ?_
          refine lv_iconst (v := (nI 1)) hx hb dX5_copy_50 (by decide) ?_
          refine callMF (As := [.int (nI 1)]) (rest := []) (q0 := 0) (ci := 5) (ws' := ((wS cS aS (aW 0) (aB 0) (aC 0) (aH 0) (aT 0) aE (nI 1)) ++ ((wW cI aW n cl th ki va re fi) ++ ((wB cI aB bt bs) ++ ((wC cI cZ aC (aW 0) (aB 0) to co ke nu fw) ++ ((wH cI aH (aW 0) lt tr sh cr ct cu ve ta ch) ++ ((wH cI aT (aW 0) lt2 tr2 sh2 cr2 ct2 cu2 ve2 ta2 ch2) ++ (wE cI aE lo fo si it)))))))) G K hA w F_X5_find (c_X5_find aS aE la aW n cl th ki va re fi aB bt bs aC to co ke nu fw aH lt tr sh cr ct cu ve ta ch aT lt2 tr2 sh2 cr2 ct2 cu2 ve2 ta2 ch2 lo fo si it 1 J S B9 C9 H9 U9 E9) ml_X5_128 rfl rfl rfl (by decide) (by decide) rfl hl.1 (Nat.le_of_ble_eq_true rfl) dX5_copy_51 (fun Hp3 lo4 w => ?_)
          exact hret _ _ _ _ _ _ rfl rfl w dX5_copy_54
    · -- not taken at 11
      exact absurd ⟨0, by decide, rfl⟩ c11
set_option maxHeartbeats 4000000 in
set_option maxRecDepth 100000 in
theorem c_X5_copy_sto30 (aS : Nat → Nat) (aE : Nat → Nat) (la : Int32) (aW : Nat → Nat) (n : Nat) (cl : Nat) (th : Nat → Nat) (ki : Nat → Nat) (va : Nat → Nat) (re : Nat → Nat) (fi : Nat → Nat) (aB : Nat → Nat) (bt : Nat → Nat) (bs : Nat) (aC : Nat → Nat) (to : Nat → Prop) (co : Nat → Nat) (ke : Nat → Int32) (nu : Nat → Int32) (fw : Nat → Nat) (aH : Nat → Nat) (lt : Nat → Option Nat) (tr : Nat → Nat) (sh : Nat → Nat) (cr : Nat → Nat) (ct : Nat → Nat) (cu : Nat → Nat) (ve : Nat → Nat) (ta : Nat → Nat) (ch : Nat) (aT : Nat → Nat) (lt2 : Nat → Option Nat) (tr2 : Nat → Nat) (sh2 : Nat → Nat) (cr2 : Nat → Nat) (ct2 : Nat → Nat) (cu2 : Nat → Nat) (ve2 : Nat → Nat) (ta2 : Nat → Nat) (ch2 : Nat) (lo : Nat → Prop) (fo : Nat → Nat) (si : Nat → Nat) (it : Nat → Nat → Int32) (i : Int32) (j : Int32) (k : Int32) (J : IW n cl th ki va re fi) (S : SW n cl re fi) (B9 : (∀ j, bt j ≤ 255) ∧ bs ≤ 216) (C9 : (∀ j, co j ≤ 400) ∧ (∀ j, fw j ≤ 15)) (H9 : IHd lt tr sh cr ct cu ve ta ch) (U9 : IHd lt2 tr2 sh2 cr2 ct2 cu2 ve2 ta2 ch2) (E9 : (∀ j, fo j ≤ 2) ∧ (∀ j, si j ≤ 60)) (hf9 : ¬ (lo 3 ∨ lo 0)) (hc9 : fo 3 ≠ fo 0) : CM l D (TY cI cZ cS) yX5_copy cX5_copy 8 (some .int) 1 [.ref (aS 0), .int (nI 3), .int i, .int (nI 0), .int j, .int k] ((wS cS aS (aW 0) (aB 0) (aC 0) (aH 0) (aT 0) aE la) ++ ((wW cI aW n cl th ki va re fi) ++ ((wB cI aB bt bs) ++ ((wC cI cZ aC (aW 0) (aB 0) to co ke nu fw) ++ ((wH cI aH (aW 0) lt tr sh cr ct cu ve ta ch) ++ ((wH cI aT (aW 0) lt2 tr2 sh2 cr2 ct2 cu2 ve2 ta2 ch2) ++ (wE cI aE lo fo si it))))))) (some (.int ((-10) - (nI 4)))) ((wS cS aS (aW 0) (aB 0) (aC 0) (aH 0) (aT 0) aE (nI 4)) ++ ((wW cI aW n cl th ki va re fi) ++ ((wB cI aB bt bs) ++ ((wC cI cZ aC (aW 0) (aB 0) to co ke nu fw) ++ ((wH cI aH (aW 0) lt tr sh cr ct cu ve ta ch) ++ ((wH cI aT (aW 0) lt2 tr2 sh2 cr2 ct2 cu2 ve2 ta2 ch2) ++ (wE cI aE lo fo si it))))))) := by
  refine CM.ofI (by decide +kernel) (Nat.le_of_ble_eq_true rfl) (nar_int _) ?_
  intro p e s m args below meth c Q A G K hA w hret ls hl
  obtain ⟨hx, hb, hml, hown, hts⟩ := id G
  obtain ⟨hn, hcl, hth, hki, hva, hre, hfi⟩ := id J
  obtain ⟨hbt, hbs⟩ := id B9
  obtain ⟨hco, hfw⟩ := id C9
  obtain ⟨hlt, htr, hsh, hcr, hct, hcu, hve, hta, hch⟩ := id H9
  obtain ⟨hlt2, htr2, hsh2, hcr2, hct2, hcu2, hve2, hta2, hch2⟩ := id U9
  obtain ⟨hfo, hsi⟩ := id E9
  have hq1 := hfo 3
  have hq2 := hfo 0
  have hl : lv_has ls 8 [(0, .ref (aS 0)), (1, .int (nI 3)), (2, .int i), (3, .int (nI 0)), (4, .int j), (5, .int k)] := hl
  refine lv_iload_n hx hb dX5_copy_0 rfl (lv_at hl 1 rfl) ?_
  refine callPS (rest := []) G K F_X5_isSheet (c_X5_isSheet (nI 3)) (va_P_nil D s.heap) ml_X5_121 (by decide) (by decide) rfl hl.1 (Nat.le_of_ble_eq_true rfl) dX5_copy_1 ?_
  refine b_eq G (tgt := 14) dX5_copy_4 (by decide) (fun c4 => ?_) (fun c4 => ?_)
  · -- taken at 4
    exact absurd ⟨3, by decide, rfl⟩ c4
  · -- not taken at 4
    refine lv_iload_n hx hb dX5_copy_7 rfl (lv_at hl 3 rfl) ?_
    refine callPS (rest := []) G K F_X5_isSheet (c_X5_isSheet (nI 0)) (va_P_nil D s.heap) ml_X5_121 (by decide) (by decide) rfl hl.1 (Nat.le_of_ble_eq_true rfl) dX5_copy_8 ?_
    refine b_ne G (tgt := 17) dX5_copy_11 (by decide) (fun c11 => ?_) (fun c11 => ?_)
    · -- taken at 11
      refine lv_aload_n hx hb dX5_copy_17 rfl (lv_at hl 0 rfl) ?_
      refine f_get G K w.1 inX5 0 (ci := 5) rfl rfl 5 rfl fl_X5_46 (v := .ref (aS 1)) rfl dX5_copy_18 ?_
      refine lv_iload_n hx hb dX5_copy_21 rfl (lv_at hl 1 rfl) ?_
      refine a_ldR G K w.1 1 2 (a := (aS 1)) rfl rfl (by omega) (by decide) dX5_copy_22 ?_
      refine lv_astore (lv' := [(6, .ref (aE 3)), (0, .ref (aS 0)), (1, .int (nI 3)), (2, .int i), (3, .int (nI 0)), (4, .int j), (5, .int k)]) hx hb dX5_copy_23 hl (by decide) rfl (fun ls hl => ?_)
      refine lv_aload_n hx hb dX5_copy_25 rfl (lv_at hl 1 rfl) ?_
      refine f_get G K w.1 inX5 0 (ci := 5) rfl rfl 5 rfl fl_X5_46 (v := .ref (aS 1)) rfl dX5_copy_26 ?_
      refine lv_iload_n hx hb dX5_copy_29 rfl (lv_at hl 4 rfl) ?_
      refine a_ldR G K w.1 1 2 (a := (aS 1)) rfl rfl (by omega) (by decide) dX5_copy_30 ?_
      refine lv_astore (lv' := [(7, .ref (aE 0)), (6, .ref (aE 3)), (0, .ref (aS 0)), (1, .int (nI 3)), (2, .int i), (3, .int (nI 0)), (4, .int j), (5, .int k)]) hx hb dX5_copy_31 hl (by decide) rfl (fun ls hl => ?_)
      refine lv_aload hx hb dX5_copy_33 (lv_at hl 1 rfl) ?_
      refine f_get G K w.1 inX3 37 (ci := 3) rfl rfl 1 rfl fl_X5_124 (v := .int (bI (lo 3))) rfl dX5_copy_35 ?_
      refine b_ne G (tgt := 49) dX5_copy_38 (by decide) (fun c38 => ?_) (fun c38 => ?_)
      · -- taken at 38
        exact absurd (Or.inl c38) hf9
      · -- not taken at 38
        refine lv_aload hx hb dX5_copy_41 (lv_at hl 0 rfl) ?_
        refine f_get G K w.1 inX3 34 (ci := 3) rfl rfl 1 rfl fl_X5_124 (v := .int (bI (lo 0))) rfl dX5_copy_43 ?_
        refine b_eq G (tgt := 55) dX5_copy_46 (by decide) (fun c46 => ?_) (fun c46 => ?_)
        · -- taken at 46
          refine lv_aload hx hb dX5_copy_55 (lv_at hl 1 rfl) ?_
          refine f_get G K w.1 inX3 37 (ci := 3) rfl rfl 2 rfl fl_X5_247 (v := .int (nI (fo 3))) rfl dX5_copy_57 ?_
          refine lv_aload hx hb dX5_copy_60 (lv_at hl 0 rfl) ?_
          refine f_get G K w.1 inX3 34 (ci := 3) rfl rfl 2 rfl fl_X5_247 (v := .int (nI (fo 0))) rfl dX5_copy_62 ?_
          refine c_eq G (tgt := 74) (by omega) (by omega) dX5_copy_65 (by decide) (fun c65 => ?_) (fun c65 => ?_)
          · -- taken at 65
            exact absurd c65 hc9
          · -- not taken at 65
            refine lv_aload_n hx hb dX5_copy_68 rfl (lv_at hl 2 rfl) ?_
            refine lv_iconst (v := (nI 4)) hx hb dX5_copy_69 (by decide) ?_
            refine callMF (As := [.int (nI 4)]) (rest := []) (q0 := 0) (ci := 5) (ws' := ((wS cS aS (aW 0) (aB 0) (aC 0) (aH 0) (aT 0) aE (nI 4)) ++ ((wW cI aW n cl th ki va re fi) ++ ((wB cI aB bt bs) ++ ((wC cI cZ aC (aW 0) (aB 0) to co ke nu fw) ++ ((wH cI aH (aW 0) lt tr sh cr ct cu ve ta ch) ++ ((wH cI aT (aW 0) lt2 tr2 sh2 cr2 ct2 cu2 ve2 ta2 ch2) ++ (wE cI aE lo fo si it)))))))) G K hA w F_X5_find (c_X5_find aS aE la aW n cl th ki va re fi aB bt bs aC to co ke nu fw aH lt tr sh cr ct cu ve ta ch aT lt2 tr2 sh2 cr2 ct2 cu2 ve2 ta2 ch2 lo fo si it 4 J S B9 C9 H9 U9 E9) ml_X5_128 rfl rfl rfl (by decide) (by decide) rfl hl.1 (Nat.le_of_ble_eq_true rfl) dX5_copy_70 (fun Hp1 lo2 w => ?_)
            exact hret _ _ _ _ _ _ rfl rfl w dX5_copy_73
        · -- not taken at 46
          exact absurd (Or.inr c46) hf9
    · -- not taken at 11
      exact absurd ⟨0, by decide, rfl⟩ c11
set_option maxHeartbeats 4000000 in
set_option maxRecDepth 100000 in
theorem c_X5_copy_idx30 (aS : Nat → Nat) (aE : Nat → Nat) (la : Int32) (aW : Nat → Nat) (n : Nat) (cl : Nat) (th : Nat → Nat) (ki : Nat → Nat) (va : Nat → Nat) (re : Nat → Nat) (fi : Nat → Nat) (aB : Nat → Nat) (bt : Nat → Nat) (bs : Nat) (aC : Nat → Nat) (to : Nat → Prop) (co : Nat → Nat) (ke : Nat → Int32) (nu : Nat → Int32) (fw : Nat → Nat) (aH : Nat → Nat) (lt : Nat → Option Nat) (tr : Nat → Nat) (sh : Nat → Nat) (cr : Nat → Nat) (ct : Nat → Nat) (cu : Nat → Nat) (ve : Nat → Nat) (ta : Nat → Nat) (ch : Nat) (aT : Nat → Nat) (lt2 : Nat → Option Nat) (tr2 : Nat → Nat) (sh2 : Nat → Nat) (cr2 : Nat → Nat) (ct2 : Nat → Nat) (cu2 : Nat → Nat) (ve2 : Nat → Nat) (ta2 : Nat → Nat) (ch2 : Nat) (lo : Nat → Prop) (fo : Nat → Nat) (si : Nat → Nat) (it : Nat → Nat → Int32) (i : Int32) (j : Int32) (k : Int32) (J : IW n cl th ki va re fi) (S : SW n cl re fi) (B9 : (∀ j, bt j ≤ 255) ∧ bs ≤ 216) (C9 : (∀ j, co j ≤ 400) ∧ (∀ j, fw j ≤ 15)) (H9 : IHd lt tr sh cr ct cu ve ta ch) (U9 : IHd lt2 tr2 sh2 cr2 ct2 cu2 ve2 ta2 ch2) (E9 : (∀ j, fo j ≤ 2) ∧ (∀ j, si j ≤ 60)) (hf9 : ¬ (lo 3 ∨ lo 0)) (hc9 : fo 3 = fo 0) (hk9 : ¬ (okH (si 3) i k ∧ okH (si 0) j k)) : CM l D (TY cI cZ cS) yX5_copy cX5_copy 8 (some .int) 1 [.ref (aS 0), .int (nI 3), .int i, .int (nI 0), .int j, .int k] ((wS cS aS (aW 0) (aB 0) (aC 0) (aH 0) (aT 0) aE la) ++ ((wW cI aW n cl th ki va re fi) ++ ((wB cI aB bt bs) ++ ((wC cI cZ aC (aW 0) (aB 0) to co ke nu fw) ++ ((wH cI aH (aW 0) lt tr sh cr ct cu ve ta ch) ++ ((wH cI aT (aW 0) lt2 tr2 sh2 cr2 ct2 cu2 ve2 ta2 ch2) ++ (wE cI aE lo fo si it))))))) (some (.int ((-10) - (nI 2)))) ((wS cS aS (aW 0) (aB 0) (aC 0) (aH 0) (aT 0) aE (nI 2)) ++ ((wW cI aW n cl th ki va re fi) ++ ((wB cI aB bt bs) ++ ((wC cI cZ aC (aW 0) (aB 0) to co ke nu fw) ++ ((wH cI aH (aW 0) lt tr sh cr ct cu ve ta ch) ++ ((wH cI aT (aW 0) lt2 tr2 sh2 cr2 ct2 cu2 ve2 ta2 ch2) ++ (wE cI aE lo fo si it))))))) := by
  refine CM.ofI (by decide +kernel) (Nat.le_of_ble_eq_true rfl) (nar_int _) ?_
  intro p e s m args below meth c Q A G K hA w hret ls hl
  obtain ⟨hx, hb, hml, hown, hts⟩ := id G
  obtain ⟨hn, hcl, hth, hki, hva, hre, hfi⟩ := id J
  obtain ⟨hbt, hbs⟩ := id B9
  obtain ⟨hco, hfw⟩ := id C9
  obtain ⟨hlt, htr, hsh, hcr, hct, hcu, hve, hta, hch⟩ := id H9
  obtain ⟨hlt2, htr2, hsh2, hcr2, hct2, hcu2, hve2, hta2, hch2⟩ := id U9
  obtain ⟨hfo, hsi⟩ := id E9
  have hq1 := hfo 3
  have hq2 := hfo 0
  have hl : lv_has ls 8 [(0, .ref (aS 0)), (1, .int (nI 3)), (2, .int i), (3, .int (nI 0)), (4, .int j), (5, .int k)] := hl
  refine lv_iload_n hx hb dX5_copy_0 rfl (lv_at hl 1 rfl) ?_
  refine callPS (rest := []) G K F_X5_isSheet (c_X5_isSheet (nI 3)) (va_P_nil D s.heap) ml_X5_121 (by decide) (by decide) rfl hl.1 (Nat.le_of_ble_eq_true rfl) dX5_copy_1 ?_
  refine b_eq G (tgt := 14) dX5_copy_4 (by decide) (fun c4 => ?_) (fun c4 => ?_)
  · -- taken at 4
    exact absurd ⟨3, by decide, rfl⟩ c4
  · -- not taken at 4
    refine lv_iload_n hx hb dX5_copy_7 rfl (lv_at hl 3 rfl) ?_
    refine callPS (rest := []) G K F_X5_isSheet (c_X5_isSheet (nI 0)) (va_P_nil D s.heap) ml_X5_121 (by decide) (by decide) rfl hl.1 (Nat.le_of_ble_eq_true rfl) dX5_copy_8 ?_
    refine b_ne G (tgt := 17) dX5_copy_11 (by decide) (fun c11 => ?_) (fun c11 => ?_)
    · -- taken at 11
      refine lv_aload_n hx hb dX5_copy_17 rfl (lv_at hl 0 rfl) ?_
      refine f_get G K w.1 inX5 0 (ci := 5) rfl rfl 5 rfl fl_X5_46 (v := .ref (aS 1)) rfl dX5_copy_18 ?_
      refine lv_iload_n hx hb dX5_copy_21 rfl (lv_at hl 1 rfl) ?_
      refine a_ldR G K w.1 1 2 (a := (aS 1)) rfl rfl (by omega) (by decide) dX5_copy_22 ?_
      refine lv_astore (lv' := [(6, .ref (aE 3)), (0, .ref (aS 0)), (1, .int (nI 3)), (2, .int i), (3, .int (nI 0)), (4, .int j), (5, .int k)]) hx hb dX5_copy_23 hl (by decide) rfl (fun ls hl => ?_)
      refine lv_aload_n hx hb dX5_copy_25 rfl (lv_at hl 1 rfl) ?_
      refine f_get G K w.1 inX5 0 (ci := 5) rfl rfl 5 rfl fl_X5_46 (v := .ref (aS 1)) rfl dX5_copy_26 ?_
      refine lv_iload_n hx hb dX5_copy_29 rfl (lv_at hl 4 rfl) ?_
      refine a_ldR G K w.1 1 2 (a := (aS 1)) rfl rfl (by omega) (by decide) dX5_copy_30 ?_
      refine lv_astore (lv' := [(7, .ref (aE 0)), (6, .ref (aE 3)), (0, .ref (aS 0)), (1, .int (nI 3)), (2, .int i), (3, .int (nI 0)), (4, .int j), (5, .int k)]) hx hb dX5_copy_31 hl (by decide) rfl (fun ls hl => ?_)
      refine lv_aload hx hb dX5_copy_33 (lv_at hl 1 rfl) ?_
      refine f_get G K w.1 inX3 37 (ci := 3) rfl rfl 1 rfl fl_X5_124 (v := .int (bI (lo 3))) rfl dX5_copy_35 ?_
      refine b_ne G (tgt := 49) dX5_copy_38 (by decide) (fun c38 => ?_) (fun c38 => ?_)
      · -- taken at 38
        exact absurd (Or.inl c38) hf9
      · -- not taken at 38
        refine lv_aload hx hb dX5_copy_41 (lv_at hl 0 rfl) ?_
        refine f_get G K w.1 inX3 34 (ci := 3) rfl rfl 1 rfl fl_X5_124 (v := .int (bI (lo 0))) rfl dX5_copy_43 ?_
        refine b_eq G (tgt := 55) dX5_copy_46 (by decide) (fun c46 => ?_) (fun c46 => ?_)
        · -- taken at 46
          refine lv_aload hx hb dX5_copy_55 (lv_at hl 1 rfl) ?_
          refine f_get G K w.1 inX3 37 (ci := 3) rfl rfl 2 rfl fl_X5_247 (v := .int (nI (fo 3))) rfl dX5_copy_57 ?_
          refine lv_aload hx hb dX5_copy_60 (lv_at hl 0 rfl) ?_
          refine f_get G K w.1 inX3 34 (ci := 3) rfl rfl 2 rfl fl_X5_247 (v := .int (nI (fo 0))) rfl dX5_copy_62 ?_
          refine c_eq G (tgt := 74) (by omega) (by omega) dX5_copy_65 (by decide) (fun c65 => ?_) (fun c65 => ?_)
          · -- taken at 65
            refine lv_aload hx hb dX5_copy_74 (lv_at hl 1 rfl) ?_
            refine lv_iload_n hx hb dX5_copy_76 rfl (lv_at hl 4 rfl) ?_
            refine lv_iload hx hb dX5_copy_77 (lv_at hl 7 rfl) ?_
            refine callPV (As := [.int i, .int k]) (rest := []) (q0 := 0) (ci := 3) G K F_X3_hasItems (c_X3_hasItems (aE 3) (aE 7) (lo 3) (fo 3) (si 3) (it 3) i k ⟨hfo 3, hsi 3⟩) (w.1.sub (ws' := (wT cI (aE 3) (aE 7) (lo 3) (fo 3) (si 3) (it 3))) [37, 41] rfl) ml_X5_250 rfl rfl rfl (by decide) (by decide) rfl hl.1 (Nat.le_of_ble_eq_true rfl) dX5_copy_79 ?_
            refine b_eq G (tgt := 97) dX5_copy_82 (by decide) (fun c82 => ?_) (fun c82 => ?_)
            · -- taken at 82
              refine lv_aload_n hx hb dX5_copy_97 rfl (lv_at hl 2 rfl) ?_
              refine lv_iconst (v := (nI 2)) hx hb dX5_copy_98 (by decide) ?_
              refine callMF (As := [.int (nI 2)]) (rest := []) (q0 := 0) (ci := 5) (ws' := ((wS cS aS (aW 0) (aB 0) (aC 0) (aH 0) (aT 0) aE (nI 2)) ++ ((wW cI aW n cl th ki va re fi) ++ ((wB cI aB bt bs) ++ ((wC cI cZ aC (aW 0) (aB 0) to co ke nu fw) ++ ((wH cI aH (aW 0) lt tr sh cr ct cu ve ta ch) ++ ((wH cI aT (aW 0) lt2 tr2 sh2 cr2 ct2 cu2 ve2 ta2 ch2) ++ (wE cI aE lo fo si it)))))))) G K hA w F_X5_find (c_X5_find aS aE la aW n cl th ki va re fi aB bt bs aC to co ke nu fw aH lt tr sh cr ct cu ve ta ch aT lt2 tr2 sh2 cr2 ct2 cu2 ve2 ta2 ch2 lo fo si it 2 J S B9 C9 H9 U9 E9) ml_X5_128 rfl rfl rfl (by decide) (by decide) rfl hl.1 (Nat.le_of_ble_eq_true rfl) dX5_copy_99 (fun Hp1 lo2 w => ?_)
              exact hret _ _ _ _ _ _ rfl rfl w dX5_copy_102
            · -- not taken at 82
              refine lv_aload hx hb dX5_copy_85 (lv_at hl 0 rfl) ?_
              refine lv_iload hx hb dX5_copy_87 (lv_at hl 6 rfl) ?_
              refine lv_iload hx hb dX5_copy_89 (lv_at hl 7 rfl) ?_
              refine callPV (As := [.int j, .int k]) (rest := []) (q0 := 0) (ci := 3) G K F_X3_hasItems (c_X3_hasItems (aE 0) (aE 4) (lo 0) (fo 0) (si 0) (it 0) j k ⟨hfo 0, hsi 0⟩) (w.1.sub (ws' := (wT cI (aE 0) (aE 4) (lo 0) (fo 0) (si 0) (it 0))) [34, 38] rfl) ml_X5_250 rfl rfl rfl (by decide) (by decide) rfl hl.1 (Nat.le_of_ble_eq_true rfl) dX5_copy_91 ?_
              refine b_ne G (tgt := 103) dX5_copy_94 (by decide) (fun c94 => ?_) (fun c94 => ?_)
              · -- taken at 94
                exact absurd ⟨c82, c94⟩ hk9
              · -- not taken at 94
                refine lv_aload_n hx hb dX5_copy_97 rfl (lv_at hl 2 rfl) ?_
                refine lv_iconst (v := (nI 2)) hx hb dX5_copy_98 (by decide) ?_
                refine callMF (As := [.int (nI 2)]) (rest := []) (q0 := 0) (ci := 5) (ws' := ((wS cS aS (aW 0) (aB 0) (aC 0) (aH 0) (aT 0) aE (nI 2)) ++ ((wW cI aW n cl th ki va re fi) ++ ((wB cI aB bt bs) ++ ((wC cI cZ aC (aW 0) (aB 0) to co ke nu fw) ++ ((wH cI aH (aW 0) lt tr sh cr ct cu ve ta ch) ++ ((wH cI aT (aW 0) lt2 tr2 sh2 cr2 ct2 cu2 ve2 ta2 ch2) ++ (wE cI aE lo fo si it)))))))) G K hA w F_X5_find (c_X5_find aS aE la aW n cl th ki va re fi aB bt bs aC to co ke nu fw aH lt tr sh cr ct cu ve ta ch aT lt2 tr2 sh2 cr2 ct2 cu2 ve2 ta2 ch2 lo fo si it 2 J S B9 C9 H9 U9 E9) ml_X5_128 rfl rfl rfl (by decide) (by decide) rfl hl.1 (Nat.le_of_ble_eq_true rfl) dX5_copy_99 (fun Hp3 lo4 w => ?_)
                exact hret _ _ _ _ _ _ rfl rfl w dX5_copy_102
          · -- not taken at 65
            exact absurd hc9 c65
        · -- not taken at 46
          exact absurd (Or.inr c46) hf9
    · -- not taken at 11
      exact absurd ⟨0, by decide, rfl⟩ c11
set_option maxHeartbeats 4000000 in
set_option maxRecDepth 100000 in
theorem c_X5_copy_ok30 (aS : Nat → Nat) (aE : Nat → Nat) (la : Int32) (aW : Nat → Nat) (n : Nat) (cl : Nat) (th : Nat → Nat) (ki : Nat → Nat) (va : Nat → Nat) (re : Nat → Nat) (fi : Nat → Nat) (aB : Nat → Nat) (bt : Nat → Nat) (bs : Nat) (aC : Nat → Nat) (to : Nat → Prop) (co : Nat → Nat) (ke : Nat → Int32) (nu : Nat → Int32) (fw : Nat → Nat) (aH : Nat → Nat) (lt : Nat → Option Nat) (tr : Nat → Nat) (sh : Nat → Nat) (cr : Nat → Nat) (ct : Nat → Nat) (cu : Nat → Nat) (ve : Nat → Nat) (ta : Nat → Nat) (ch : Nat) (aT : Nat → Nat) (lt2 : Nat → Option Nat) (tr2 : Nat → Nat) (sh2 : Nat → Nat) (cr2 : Nat → Nat) (ct2 : Nat → Nat) (cu2 : Nat → Nat) (ve2 : Nat → Nat) (ta2 : Nat → Nat) (ch2 : Nat) (lo : Nat → Prop) (fo : Nat → Nat) (si : Nat → Nat) (it : Nat → Nat → Int32) (i : Nat) (j : Nat) (k : Nat) (J : IW n cl th ki va re fi) (S : SW n cl re fi) (B9 : (∀ j, bt j ≤ 255) ∧ bs ≤ 216) (C9 : (∀ j, co j ≤ 400) ∧ (∀ j, fw j ≤ 15)) (H9 : IHd lt tr sh cr ct cu ve ta ch) (U9 : IHd lt2 tr2 sh2 cr2 ct2 cu2 ve2 ta2 ch2) (E9 : (∀ j, fo j ≤ 2) ∧ (∀ j, si j ≤ 60)) (hf9 : ¬ (lo 3 ∨ lo 0)) (hc9 : fo 3 = fo 0) (hi9 : i + k ≤ si 3) (hj9 : j + k ≤ si 0) : CM l D (TY cI cZ cS) yX5_copy cX5_copy 8 (some .int) 1 [.ref (aS 0), .int (nI 3), .int (nI i), .int (nI 0), .int (nI j), .int (nI k)] ((wS cS aS (aW 0) (aB 0) (aC 0) (aH 0) (aT 0) aE la) ++ ((wW cI aW n cl th ki va re fi) ++ ((wB cI aB bt bs) ++ ((wC cI cZ aC (aW 0) (aB 0) to co ke nu fw) ++ ((wH cI aH (aW 0) lt tr sh cr ct cu ve ta ch) ++ ((wH cI aT (aW 0) lt2 tr2 sh2 cr2 ct2 cu2 ve2 ta2 ch2) ++ (wE cI aE lo fo si it))))))) (some (.int (nI 1))) ((wS cS aS (aW 0) (aB 0) (aC 0) (aH 0) (aT 0) aE la) ++ ((wW cI aW n cl th ki va re fi) ++ ((wB cI aB bt bs) ++ ((wC cI cZ aC (aW 0) (aB 0) to co ke nu fw) ++ ((wH cI aH (aW 0) lt tr sh cr ct cu ve ta ch) ++ ((wH cI aT (aW 0) lt2 tr2 sh2 cr2 ct2 cu2 ve2 ta2 ch2) ++ (wE cI aE lo fo si (va_up it 0 (va_cpy (it 3) (it 0) i j k))))))))) := by
  refine CM.ofI (by decide +kernel) (Nat.le_of_ble_eq_true rfl) (nar_int _) ?_
  intro p e s m args below meth c Q A G K hA w hret ls hl
  obtain ⟨hx, hb, hml, hown, hts⟩ := id G
  obtain ⟨hn, hcl, hth, hki, hva, hre, hfi⟩ := id J
  obtain ⟨hbt, hbs⟩ := id B9
  obtain ⟨hco, hfw⟩ := id C9
  obtain ⟨hlt, htr, hsh, hcr, hct, hcu, hve, hta, hch⟩ := id H9
  obtain ⟨hlt2, htr2, hsh2, hcr2, hct2, hcu2, hve2, hta2, hch2⟩ := id U9
  obtain ⟨hfo, hsi⟩ := id E9
  have hs9 := hsi 3
  have ht9 := hsi 0
  have hq1 := hfo 3
  have hq2 := hfo 0
  have hl : lv_has ls 8 [(0, .ref (aS 0)), (1, .int (nI 3)), (2, .int (nI i)), (3, .int (nI 0)), (4, .int (nI j)), (5, .int (nI k))] := hl
  refine lv_iload_n hx hb dX5_copy_0 rfl (lv_at hl 1 rfl) ?_
  refine callPS (rest := []) G K F_X5_isSheet (c_X5_isSheet (nI 3)) (va_P_nil D s.heap) ml_X5_121 (by decide) (by decide) rfl hl.1 (Nat.le_of_ble_eq_true rfl) dX5_copy_1 ?_
  refine b_eq G (tgt := 14) dX5_copy_4 (by decide) (fun c4 => ?_) (fun c4 => ?_)
  · -- taken at 4
    exact absurd ⟨3, by decide, rfl⟩ c4
  · -- not taken at 4
    refine lv_iload_n hx hb dX5_copy_7 rfl (lv_at hl 3 rfl) ?_
    refine callPS (rest := []) G K F_X5_isSheet (c_X5_isSheet (nI 0)) (va_P_nil D s.heap) ml_X5_121 (by decide) (by decide) rfl hl.1 (Nat.le_of_ble_eq_true rfl) dX5_copy_8 ?_
    refine b_ne G (tgt := 17) dX5_copy_11 (by decide) (fun c11 => ?_) (fun c11 => ?_)
    · -- taken at 11
      refine lv_aload_n hx hb dX5_copy_17 rfl (lv_at hl 0 rfl) ?_
      refine f_get G K w.1 inX5 0 (ci := 5) rfl rfl 5 rfl fl_X5_46 (v := .ref (aS 1)) rfl dX5_copy_18 ?_
      refine lv_iload_n hx hb dX5_copy_21 rfl (lv_at hl 1 rfl) ?_
      refine a_ldR G K w.1 1 2 (a := (aS 1)) rfl rfl (by omega) (by decide) dX5_copy_22 ?_
      refine lv_astore (lv' := [(6, .ref (aE 3)), (0, .ref (aS 0)), (1, .int (nI 3)), (2, .int (nI i)), (3, .int (nI 0)), (4, .int (nI j)), (5, .int (nI k))]) hx hb dX5_copy_23 hl (by decide) rfl (fun ls hl => ?_)
      refine lv_aload_n hx hb dX5_copy_25 rfl (lv_at hl 1 rfl) ?_
      refine f_get G K w.1 inX5 0 (ci := 5) rfl rfl 5 rfl fl_X5_46 (v := .ref (aS 1)) rfl dX5_copy_26 ?_
      refine lv_iload_n hx hb dX5_copy_29 rfl (lv_at hl 4 rfl) ?_
      refine a_ldR G K w.1 1 2 (a := (aS 1)) rfl rfl (by omega) (by decide) dX5_copy_30 ?_
      refine lv_astore (lv' := [(7, .ref (aE 0)), (6, .ref (aE 3)), (0, .ref (aS 0)), (1, .int (nI 3)), (2, .int (nI i)), (3, .int (nI 0)), (4, .int (nI j)), (5, .int (nI k))]) hx hb dX5_copy_31 hl (by decide) rfl (fun ls hl => ?_)
      refine lv_aload hx hb dX5_copy_33 (lv_at hl 1 rfl) ?_
      refine f_get G K w.1 inX3 37 (ci := 3) rfl rfl 1 rfl fl_X5_124 (v := .int (bI (lo 3))) rfl dX5_copy_35 ?_
      refine b_ne G (tgt := 49) dX5_copy_38 (by decide) (fun c38 => ?_) (fun c38 => ?_)
      · -- taken at 38
        exact absurd (Or.inl c38) hf9
      · -- not taken at 38
        refine lv_aload hx hb dX5_copy_41 (lv_at hl 0 rfl) ?_
        refine f_get G K w.1 inX3 34 (ci := 3) rfl rfl 1 rfl fl_X5_124 (v := .int (bI (lo 0))) rfl dX5_copy_43 ?_
        refine b_eq G (tgt := 55) dX5_copy_46 (by decide) (fun c46 => ?_) (fun c46 => ?_)
        · -- taken at 46
          refine lv_aload hx hb dX5_copy_55 (lv_at hl 1 rfl) ?_
          refine f_get G K w.1 inX3 37 (ci := 3) rfl rfl 2 rfl fl_X5_247 (v := .int (nI (fo 3))) rfl dX5_copy_57 ?_
          refine lv_aload hx hb dX5_copy_60 (lv_at hl 0 rfl) ?_
          refine f_get G K w.1 inX3 34 (ci := 3) rfl rfl 2 rfl fl_X5_247 (v := .int (nI (fo 0))) rfl dX5_copy_62 ?_
          refine c_eq G (tgt := 74) (by omega) (by omega) dX5_copy_65 (by decide) (fun c65 => ?_) (fun c65 => ?_)
          · -- taken at 65
            refine lv_aload hx hb dX5_copy_74 (lv_at hl 1 rfl) ?_
            refine lv_iload_n hx hb dX5_copy_76 rfl (lv_at hl 4 rfl) ?_
            refine lv_iload hx hb dX5_copy_77 (lv_at hl 7 rfl) ?_
            refine callPV (As := [.int (nI i), .int (nI k)]) (rest := []) (q0 := 0) (ci := 3) G K F_X3_hasItems (c_X3_hasItems (aE 3) (aE 7) (lo 3) (fo 3) (si 3) (it 3) (nI i) (nI k) ⟨hfo 3, hsi 3⟩) (w.1.sub (ws' := (wT cI (aE 3) (aE 7) (lo 3) (fo 3) (si 3) (it 3))) [37, 41] rfl) ml_X5_250 rfl rfl rfl (by decide) (by decide) rfl hl.1 (Nat.le_of_ble_eq_true rfl) dX5_copy_79 ?_
            refine b_eq G (tgt := 97) dX5_copy_82 (by decide) (fun c82 => ?_) (fun c82 => ?_)
            · -- taken at 82
              exact absurd ⟨i, k, hi9, rfl, rfl⟩ c82
            · -- not taken at 82
              refine lv_aload hx hb dX5_copy_85 (lv_at hl 0 rfl) ?_
              refine lv_iload hx hb dX5_copy_87 (lv_at hl 6 rfl) ?_
              refine lv_iload hx hb dX5_copy_89 (lv_at hl 7 rfl) ?_
              refine callPV (As := [.int (nI j), .int (nI k)]) (rest := []) (q0 := 0) (ci := 3) G K F_X3_hasItems (c_X3_hasItems (aE 0) (aE 4) (lo 0) (fo 0) (si 0) (it 0) (nI j) (nI k) ⟨hfo 0, hsi 0⟩) (w.1.sub (ws' := (wT cI (aE 0) (aE 4) (lo 0) (fo 0) (si 0) (it 0))) [34, 38] rfl) ml_X5_250 rfl rfl rfl (by decide) (by decide) rfl hl.1 (Nat.le_of_ble_eq_true rfl) dX5_copy_91 ?_
              refine b_ne G (tgt := 103) dX5_copy_94 (by decide) (fun c94 => ?_) (fun c94 => ?_)
              · -- taken at 94
                refine lv_aload hx hb dX5_copy_103 (lv_at hl 1 rfl) ?_
                refine f_get G K w.1 inX3 37 (ci := 3) rfl rfl 0 rfl fl_X5_132 (v := .ref (aE 7)) rfl dX5_copy_105 ?_
                refine lv_iload_n hx hb dX5_copy_108 rfl (lv_at hl 4 rfl) ?_
                refine lv_aload hx hb dX5_copy_109 (lv_at hl 0 rfl) ?_
                refine f_get G K w.1 inX3 34 (ci := 3) rfl rfl 0 rfl fl_X5_132 (v := .ref (aE 4)) rfl dX5_copy_111 ?_
                refine lv_iload hx hb dX5_copy_114 (lv_at hl 6 rfl) ?_
                refine lv_iload hx hb dX5_copy_116 (lv_at hl 7 rfl) ?_
                refine acp (f := (it 3)) (g := (it 0)) (sp := i) (dp := j) (k := k) G K w (hml.trans hl.1.symm) ml_X5_253 41 38 rfl rfl (by omega) (by omega) (by decide) (Nat.le_of_ble_eq_true rfl) (Nat.le_of_ble_eq_true rfl) dX5_copy_118 (w2 := ((wS cS aS (aW 0) (aB 0) (aC 0) (aH 0) (aT 0) aE la) ++ ((wW cI aW n cl th ki va re fi) ++ ((wB cI aB bt bs) ++ ((wC cI cZ aC (aW 0) (aB 0) to co ke nu fw) ++ ((wH cI aH (aW 0) lt tr sh cr ct cu ve ta ch) ++ ((wH cI aT (aW 0) lt2 tr2 sh2 cr2 ct2 cu2 ve2 ta2 ch2) ++ (wE cI aE lo fo si (va_up it 0 (va_cpy (it 3) (it 0) i j k)))))))))) rfl (fun Hp1 lo2 w => ?_)
                refine lv_iconst (v := (nI 1)) hx hb dX5_copy_121 (by decide) ?_
                exact hret _ _ _ _ _ _ rfl rfl w dX5_copy_122
              · -- not taken at 94
                exact absurd ⟨j, k, hj9, rfl, rfl⟩ c94
          · -- not taken at 65
            exact absurd hc9 c65
        · -- not taken at 46
          exact absurd (Or.inr c46) hf9
    · -- not taken at 11
      exact absurd ⟨0, by decide, rfl⟩ c11
set_option maxHeartbeats 4000000 in
set_option maxRecDepth 100000 in
theorem c_X5_copy_nul31 (aS : Nat → Nat) (aE : Nat → Nat) (la : Int32) (aW : Nat → Nat) (n : Nat) (cl : Nat) (th : Nat → Nat) (ki : Nat → Nat) (va : Nat → Nat) (re : Nat → Nat) (fi : Nat → Nat) (aB : Nat → Nat) (bt : Nat → Nat) (bs : Nat) (aC : Nat → Nat) (to : Nat → Prop) (co : Nat → Nat) (ke : Nat → Int32) (nu : Nat → Int32) (fw : Nat → Nat) (aH : Nat → Nat) (lt : Nat → Option Nat) (tr : Nat → Nat) (sh : Nat → Nat) (cr : Nat → Nat) (ct : Nat → Nat) (cu : Nat → Nat) (ve : Nat → Nat) (ta : Nat → Nat) (ch : Nat) (aT : Nat → Nat) (lt2 : Nat → Option Nat) (tr2 : Nat → Nat) (sh2 : Nat → Nat) (cr2 : Nat → Nat) (ct2 : Nat → Nat) (cu2 : Nat → Nat) (ve2 : Nat → Nat) (ta2 : Nat → Nat) (ch2 : Nat) (lo : Nat → Prop) (fo : Nat → Nat) (si : Nat → Nat) (it : Nat → Nat → Int32) (i : Int32) (j : Int32) (k : Int32) (J : IW n cl th ki va re fi) (S : SW n cl re fi) (B9 : (∀ j, bt j ≤ 255) ∧ bs ≤ 216) (C9 : (∀ j, co j ≤ 400) ∧ (∀ j, fw j ≤ 15)) (H9 : IHd lt tr sh cr ct cu ve ta ch) (U9 : IHd lt2 tr2 sh2 cr2 ct2 cu2 ve2 ta2 ch2) (E9 : (∀ j, fo j ≤ 2) ∧ (∀ j, si j ≤ 60)) (hf9 : lo 3 ∨ lo 1) : CM l D (TY cI cZ cS) yX5_copy cX5_copy 8 (some .int) 1 [.ref (aS 0), .int (nI 3), .int i, .int (nI 1), .int j, .int k] ((wS cS aS (aW 0) (aB 0) (aC 0) (aH 0) (aT 0) aE la) ++ ((wW cI aW n cl th ki va re fi) ++ ((wB cI aB bt bs) ++ ((wC cI cZ aC (aW 0) (aB 0) to co ke nu fw) ++ ((wH cI aH (aW 0) lt tr sh cr ct cu ve ta ch) ++ ((wH cI aT (aW 0) lt2 tr2 sh2 cr2 ct2 cu2 ve2 ta2 ch2) ++ (wE cI aE lo fo si it))))))) (some (.int ((-10) - (nI 1)))) ((wS cS aS (aW 0) (aB 0) (aC 0) (aH 0) (aT 0) aE (nI 1)) ++ ((wW cI aW n cl th ki va re fi) ++ ((wB cI aB bt bs) ++ ((wC cI cZ aC (aW 0) (aB 0) to co ke nu fw) ++ ((wH cI aH (aW 0) lt tr sh cr ct cu ve ta ch) ++ ((wH cI aT (aW 0) lt2 tr2 sh2 cr2 ct2 cu2 ve2 ta2 ch2) ++ (wE cI aE lo fo si it))))))) := by
  refine CM.ofI (by decide +kernel) (Nat.le_of_ble_eq_true rfl) (nar_int _) ?_
  intro p e s m args below meth c Q A G K hA w hret ls hl
  obtain ⟨hx, hb, hml, hown, hts⟩ := id G
  obtain ⟨hn, hcl, hth, hki, hva, hre, hfi⟩ := id J
  obtain ⟨hbt, hbs⟩ := id B9
  obtain ⟨hco, hfw⟩ := id C9
  obtain ⟨hlt, htr, hsh, hcr, hct, hcu, hve, hta, hch⟩ := id H9
  obtain ⟨hlt2, htr2, hsh2, hcr2, hct2, hcu2, hve2, hta2, hch2⟩ := id U9
  obtain ⟨hfo, hsi⟩ := id E9
  have hl : lv_has ls 8 [(0, .ref (aS 0)), (1, .int (nI 3)), (2, .int i), (3, .int (nI 1)), (4, .int j), (5, .int k)] := hl
  refine lv_iload_n hx hb dX5_copy_0 rfl (lv_at hl 1 rfl) ?_
  refine callPS (rest := []) G K F_X5_isSheet (c_X5_isSheet (nI 3)) (va_P_nil D s.heap) ml_X5_121 (by decide) (by decide) rfl hl.1 (Nat.le_of_ble_eq_true rfl) dX5_copy_1 ?_
  refine b_eq G (tgt := 14) dX5_copy_4 (by decide) (fun c4 => ?_) (fun c4 => ?_)
  · -- taken at 4
    exact absurd ⟨3, by decide, rfl⟩ c4
  · -- not taken at 4
    refine lv_iload_n hx hb dX5_copy_7 rfl (lv_at hl 3 rfl) ?_
    refine callPS (rest := []) G K F_X5_isSheet (c_X5_isSheet (nI 1)) (va_P_nil D s.heap) ml_X5_121 (by decide) (by decide) rfl hl.1 (Nat.le_of_ble_eq_true rfl) dX5_copy_8 ?_
    refine b_ne G (tgt := 17) dX5_copy_11 (by decide) (fun c11 => ?_) (fun c11 => ?_)
    · -- taken at 11
      refine lv_aload_n hx hb dX5_copy_17 rfl (lv_at hl 0 rfl) ?_
      refine f_get G K w.1 inX5 0 (ci := 5) rfl rfl 5 rfl fl_X5_46 (v := .ref (aS 1)) rfl dX5_copy_18 ?_
      refine lv_iload_n hx hb dX5_copy_21 rfl (lv_at hl 1 rfl) ?_
      refine a_ldR G K w.1 1 2 (a := (aS 1)) rfl rfl (by omega) (by decide) dX5_copy_22 ?_
      refine lv_astore (lv' := [(6, .ref (aE 3)), (0, .ref (aS 0)), (1, .int (nI 3)), (2, .int i), (3, .int (nI 1)), (4, .int j), (5, .int k)]) hx hb dX5_copy_23 hl (by decide) rfl (fun ls hl => ?_)
      refine lv_aload_n hx hb dX5_copy_25 rfl (lv_at hl 1 rfl) ?_
      refine f_get G K w.1 inX5 0 (ci := 5) rfl rfl 5 rfl fl_X5_46 (v := .ref (aS 1)) rfl dX5_copy_26 ?_
      refine lv_iload_n hx hb dX5_copy_29 rfl (lv_at hl 4 rfl) ?_
      refine a_ldR G K w.1 1 2 (a := (aS 1)) rfl rfl (by omega) (by decide) dX5_copy_30 ?_
      refine lv_astore (lv' := [(7, .ref (aE 1)), (6, .ref (aE 3)), (0, .ref (aS 0)), (1, .int (nI 3)), (2, .int i), (3, .int (nI 1)), (4, .int j), (5, .int k)]) hx hb dX5_copy_31 hl (by decide) rfl (fun ls hl => ?_)
      refine lv_aload hx hb dX5_copy_33 (lv_at hl 1 rfl) ?_
      refine f_get G K w.1 inX3 37 (ci := 3) rfl rfl 1 rfl fl_X5_124 (v := .int (bI (lo 3))) rfl dX5_copy_35 ?_
      refine b_ne G (tgt := 49) dX5_copy_38 (by decide) (fun c38 => ?_) (fun c38 => ?_)
      · -- taken at 38
        refine lv_aload_n hx hb dX5_copy_49 rfl (lv_at hl 2 rfl) ?_
        refine lv_iconst (v := (nI 1)) hx hb dX5_copy_50 (by decide) ?_
        refine callMF (As := [.int (nI 1)]) (rest := []) (q0 := 0) (ci := 5) (ws' := ((wS cS aS (aW 0) (aB 0) (aC 0) (aH 0) (aT 0) aE (nI 1)) ++ ((wW cI aW n cl th ki va re fi) ++ ((wB cI aB bt bs) ++ ((wC cI cZ aC (aW 0) (aB 0) to co ke nu fw) ++ ((wH cI aH (aW 0) lt tr sh cr ct cu ve ta ch) ++ ((wH cI aT (aW 0) lt2 tr2 sh2 cr2 ct2 cu2 ve2 ta2 ch2) ++ (wE cI aE lo fo si it)))))))) G K hA w F_X5_find (c_X5_find aS aE la aW n cl th ki va re fi aB bt bs aC to co ke nu fw aH lt tr sh cr ct cu ve ta ch aT lt2 tr2 sh2 cr2 ct2 cu2 ve2 ta2 ch2 lo fo si it 1 J S B9 C9 H9 U9 E9) ml_X5_128 rfl rfl rfl (by decide) (by decide) rfl hl.1 (Nat.le_of_ble_eq_true rfl) dX5_copy_51 (fun Hp1 lo2 w => ?_)
        exact hret _ _ _ _ _ _ rfl rfl w dX5_copy_54
      · -- not taken at 38
        refine lv_aload hx hb dX5_copy_41 (lv_at hl 0 rfl) ?_
        refine f_get G K w.1 inX3 35 (ci := 3) rfl rfl 1 rfl fl_X5_124 (v := .int (bI (lo 1))) rfl dX5_copy_43 ?_
        refine b_eq G (tgt := 55) dX5_copy_46 (by decide) (fun c46 => ?_) (fun c46 => ?_)
        · -- taken at 46
          exact absurd hf9 (fun h => h.elim c38 c46)
        · -- not taken at 46
          refine lv_aload_n hx hb dX5_copy_49 rfl (lv_at hl 2 rfl) ?_
          refine lv_iconst (v := (nI 1)) hx hb dX5_copy_50 (by decide) ?_
          refine callMF (As := [.int (nI 1)]) (rest := []) (q0 := 0) (ci := 5) (ws' := ((wS cS aS (aW 0) (aB 0) (aC 0) (aH 0) (aT 0) aE (nI 1)) ++ ((wW cI aW n cl th ki va re fi) ++ ((wB cI aB bt bs) ++ ((wC cI cZ aC (aW 0) (aB 0) to co ke nu fw) ++ ((wH cI aH (aW 0) lt tr sh cr ct cu ve ta ch) ++ ((wH cI aT (aW 0) lt2 tr2 sh2 cr2 ct2 cu2 ve2 ta2 ch2) ++ (wE cI aE lo fo si it)))))))) G K hA w F_X5_find (c_X5_find aS aE la aW n cl th ki va re fi aB bt bs aC to co ke nu fw aH lt tr sh cr ct cu ve ta ch aT lt2 tr2 sh2 cr2 ct2 cu2 ve2 ta2 ch2 lo fo si it 1 J S B9 C9 H9 U9 E9) ml_X5_128 rfl rfl rfl (by decide) (by decide) rfl hl.1 (Nat.le_of_ble_eq_true rfl) dX5_copy_51 (fun Hp3 lo4 w => ?_)
          exact hret _ _ _ _ _ _ rfl rfl w dX5_copy_54
    · -- not taken at 11
      exact absurd ⟨1, by decide, rfl⟩ c11
set_option maxHeartbeats 4000000 in
set_option maxRecDepth 100000 in
theorem c_X5_copy_sto31 (aS : Nat → Nat) (aE : Nat → Nat) (la : Int32) (aW : Nat → Nat) (n : Nat) (cl : Nat) (th : Nat → Nat) (ki : Nat → Nat) (va : Nat → Nat) (re : Nat → Nat) (fi : Nat → Nat) (aB : Nat → Nat) (bt : Nat → Nat) (bs : Nat) (aC : Nat → Nat) (to : Nat → Prop) (co : Nat → Nat) (ke : Nat → Int32) (nu : Nat → Int32) (fw : Nat → Nat) (aH : Nat → Nat) (lt : Nat → Option Nat) (tr : Nat → Nat) (sh : Nat → Nat) (cr : Nat → Nat) (ct : Nat → Nat) (cu : Nat → Nat) (ve : Nat → Nat) (ta : Nat → Nat) (ch : Nat) (aT : Nat → Nat) (lt2 : Nat → Option Nat) (tr2 : Nat → Nat) (sh2 : Nat → Nat) (cr2 : Nat → Nat) (ct2 : Nat → Nat) (cu2 : Nat → Nat) (ve2 : Nat → Nat) (ta2 : Nat → Nat) (ch2 : Nat) (lo : Nat → Prop) (fo : Nat → Nat) (si : Nat → Nat) (it : Nat → Nat → Int32) (i : Int32) (j : Int32) (k : Int32) (J : IW n cl th ki va re fi) (S : SW n cl re fi) (B9 : (∀ j, bt j ≤ 255) ∧ bs ≤ 216) (C9 : (∀ j, co j ≤ 400) ∧ (∀ j, fw j ≤ 15)) (H9 : IHd lt tr sh cr ct cu ve ta ch) (U9 : IHd lt2 tr2 sh2 cr2 ct2 cu2 ve2 ta2 ch2) (E9 : (∀ j, fo j ≤ 2) ∧ (∀ j, si j ≤ 60)) (hf9 : ¬ (lo 3 ∨ lo 1)) (hc9 : fo 3 ≠ fo 1) : CM l D (TY cI cZ cS) yX5_copy cX5_copy 8 (some .int) 1 [.ref (aS 0), .int (nI 3), .int i, .int (nI 1), .int j, .int k] ((wS cS aS (aW 0) (aB 0) (aC 0) (aH 0) (aT 0) aE la) ++ ((wW cI aW n cl th ki va re fi) ++ ((wB cI aB bt bs) ++ ((wC cI cZ aC (aW 0) (aB 0) to co ke nu fw) ++ ((wH cI aH (aW 0) lt tr sh cr ct cu ve ta ch) ++ ((wH cI aT (aW 0) lt2 tr2 sh2 cr2 ct2 cu2 ve2 ta2 ch2) ++ (wE cI aE lo fo si it))))))) (some (.int ((-10) - (nI 4)))) ((wS cS aS (aW 0) (aB 0) (aC 0) (aH 0) (aT 0) aE (nI 4)) ++ ((wW cI aW n cl th ki va re fi) ++ ((wB cI aB bt bs) ++ ((wC cI cZ aC (aW 0) (aB 0) to co ke nu fw) ++ ((wH cI aH (aW 0) lt tr sh cr ct cu ve ta ch) ++ ((wH cI aT (aW 0) lt2 tr2 sh2 cr2 ct2 cu2 ve2 ta2 ch2) ++ (wE cI aE lo fo si it))))))) := by
  refine CM.ofI (by decide +kernel) (Nat.le_of_ble_eq_true rfl) (nar_int _) ?_
  intro p e s m args below meth c Q A G K hA w hret ls hl
  obtain ⟨hx, hb, hml, hown, hts⟩ := id G
  obtain ⟨hn, hcl, hth, hki, hva, hre, hfi⟩ := id J
  obtain ⟨hbt, hbs⟩ := id B9
  obtain ⟨hco, hfw⟩ := id C9
  obtain ⟨hlt, htr, hsh, hcr, hct, hcu, hve, hta, hch⟩ := id H9
  obtain ⟨hlt2, htr2, hsh2, hcr2, hct2, hcu2, hve2, hta2, hch2⟩ := id U9
  obtain ⟨hfo, hsi⟩ := id E9
  have hq1 := hfo 3
  have hq2 := hfo 1
  have hl : lv_has ls 8 [(0, .ref (aS 0)), (1, .int (nI 3)), (2, .int i), (3, .int (nI 1)), (4, .int j), (5, .int k)] := hl
  refine lv_iload_n hx hb dX5_copy_0 rfl (lv_at hl 1 rfl) ?_
  refine callPS (rest := []) G K F_X5_isSheet (c_X5_isSheet (nI 3)) (va_P_nil D s.heap) ml_X5_121 (by decide) (by decide) rfl hl.1 (Nat.le_of_ble_eq_true rfl) dX5_copy_1 ?_
  refine b_eq G (tgt := 14) dX5_copy_4 (by decide) (fun c4 => ?_) (fun c4 => ?_)
  · -- taken at 4
    exact absurd ⟨3, by decide, rfl⟩ c4
  · -- not taken at 4
    refine lv_iload_n hx hb dX5_copy_7 rfl (lv_at hl 3 rfl) ?_
    refine callPS (rest := []) G K F_X5_isSheet (c_X5_isSheet (nI 1)) (va_P_nil D s.heap) ml_X5_121 (by decide) (by decide) rfl hl.1 (Nat.le_of_ble_eq_true rfl) dX5_copy_8 ?_
    refine b_ne G (tgt := 17) dX5_copy_11 (by decide) (fun c11 => ?_) (fun c11 => ?_)
    · -- taken at 11
      refine lv_aload_n hx hb dX5_copy_17 rfl (lv_at hl 0 rfl) ?_
      refine f_get G K w.1 inX5 0 (ci := 5) rfl rfl 5 rfl fl_X5_46 (v := .ref (aS 1)) rfl dX5_copy_18 ?_
      refine lv_iload_n hx hb dX5_copy_21 rfl (lv_at hl 1 rfl) ?_
      refine a_ldR G K w.1 1 2 (a := (aS 1)) rfl rfl (by omega) (by decide) dX5_copy_22 ?_
      refine lv_astore (lv' := [(6, .ref (aE 3)), (0, .ref (aS 0)), (1, .int (nI 3)), (2, .int i), (3, .int (nI 1)), (4, .int j), (5, .int k)]) hx hb dX5_copy_23 hl (by decide) rfl (fun ls hl => ?_)
      refine lv_aload_n hx hb dX5_copy_25 rfl (lv_at hl 1 rfl) ?_
      refine f_get G K w.1 inX5 0 (ci := 5) rfl rfl 5 rfl fl_X5_46 (v := .ref (aS 1)) rfl dX5_copy_26 ?_
      refine lv_iload_n hx hb dX5_copy_29 rfl (lv_at hl 4 rfl) ?_
      refine a_ldR G K w.1 1 2 (a := (aS 1)) rfl rfl (by omega) (by decide) dX5_copy_30 ?_
      refine lv_astore (lv' := [(7, .ref (aE 1)), (6, .ref (aE 3)), (0, .ref (aS 0)), (1, .int (nI 3)), (2, .int i), (3, .int (nI 1)), (4, .int j), (5, .int k)]) hx hb dX5_copy_31 hl (by decide) rfl (fun ls hl => ?_)
      refine lv_aload hx hb dX5_copy_33 (lv_at hl 1 rfl) ?_
      refine f_get G K w.1 inX3 37 (ci := 3) rfl rfl 1 rfl fl_X5_124 (v := .int (bI (lo 3))) rfl dX5_copy_35 ?_
      refine b_ne G (tgt := 49) dX5_copy_38 (by decide) (fun c38 => ?_) (fun c38 => ?_)
      · -- taken at 38
        exact absurd (Or.inl c38) hf9
      · -- not taken at 38
        refine lv_aload hx hb dX5_copy_41 (lv_at hl 0 rfl) ?_
        refine f_get G K w.1 inX3 35 (ci := 3) rfl rfl 1 rfl fl_X5_124 (v := .int (bI (lo 1))) rfl dX5_copy_43 ?_
        refine b_eq G (tgt := 55) dX5_copy_46 (by decide) (fun c46 => ?_) (fun c46 => ?_)
        · -- taken at 46
          refine lv_aload hx hb dX5_copy_55 (lv_at hl 1 rfl) ?_
          refine f_get G K w.1 inX3 37 (ci := 3) rfl rfl 2 rfl fl_X5_247 (v := .int (nI (fo 3))) rfl dX5_copy_57 ?_
          refine lv_aload hx hb dX5_copy_60 (lv_at hl 0 rfl) ?_
          refine f_get G K w.1 inX3 35 (ci := 3) rfl rfl 2 rfl fl_X5_247 (v := .int (nI (fo 1))) rfl dX5_copy_62 ?_
          refine c_eq G (tgt := 74) (by omega) (by omega) dX5_copy_65 (by decide) (fun c65 => ?_) (fun c65 => ?_)
          · -- taken at 65
            exact absurd c65 hc9
          · -- not taken at 65
            refine lv_aload_n hx hb dX5_copy_68 rfl (lv_at hl 2 rfl) ?_
            refine lv_iconst (v := (nI 4)) hx hb dX5_copy_69 (by decide) ?_
            refine callMF (As := [.int (nI 4)]) (rest := []) (q0 := 0) (ci := 5) (ws' := ((wS cS aS (aW 0) (aB 0) (aC 0) (aH 0) (aT 0) aE (nI 4)) ++ ((wW cI aW n cl th ki va re fi) ++ ((wB cI aB bt bs) ++ ((wC cI cZ aC (aW 0) (aB 0) to co ke nu fw) ++ ((wH cI aH (aW 0) lt tr sh cr ct cu ve ta ch) ++ ((wH cI aT (aW 0) lt2 tr2 sh2 cr2 ct2 cu2 ve2 ta2 ch2) ++ (wE cI aE lo fo si it)))))))) G K hA w F_X5_find (c_X5_find aS aE la aW n cl th ki va re fi aB bt bs aC to co ke nu fw aH lt tr sh cr ct cu ve ta ch aT lt2 tr2 sh2 cr2 ct2 cu2 ve2 ta2 ch2 lo fo si it 4 J S B9 C9 H9 U9 E9) ml_X5_128 rfl rfl rfl (by decide) (by decide) rfl hl.1 (Nat.le_of_ble_eq_true rfl) dX5_copy_70 (fun Hp1 lo2 w => ?_)
            exact hret _ _ _ _ _ _ rfl rfl w dX5_copy_73
        · -- not taken at 46
          exact absurd (Or.inr c46) hf9
    · -- not taken at 11
      exact absurd ⟨1, by decide, rfl⟩ c11
set_option maxHeartbeats 4000000 in
set_option maxRecDepth 100000 in
theorem c_X5_copy_idx31 (aS : Nat → Nat) (aE : Nat → Nat) (la : Int32) (aW : Nat → Nat) (n : Nat) (cl : Nat) (th : Nat → Nat) (ki : Nat → Nat) (va : Nat → Nat) (re : Nat → Nat) (fi : Nat → Nat) (aB : Nat → Nat) (bt : Nat → Nat) (bs : Nat) (aC : Nat → Nat) (to : Nat → Prop) (co : Nat → Nat) (ke : Nat → Int32) (nu : Nat → Int32) (fw : Nat → Nat) (aH : Nat → Nat) (lt : Nat → Option Nat) (tr : Nat → Nat) (sh : Nat → Nat) (cr : Nat → Nat) (ct : Nat → Nat) (cu : Nat → Nat) (ve : Nat → Nat) (ta : Nat → Nat) (ch : Nat) (aT : Nat → Nat) (lt2 : Nat → Option Nat) (tr2 : Nat → Nat) (sh2 : Nat → Nat) (cr2 : Nat → Nat) (ct2 : Nat → Nat) (cu2 : Nat → Nat) (ve2 : Nat → Nat) (ta2 : Nat → Nat) (ch2 : Nat) (lo : Nat → Prop) (fo : Nat → Nat) (si : Nat → Nat) (it : Nat → Nat → Int32) (i : Int32) (j : Int32) (k : Int32) (J : IW n cl th ki va re fi) (S : SW n cl re fi) (B9 : (∀ j, bt j ≤ 255) ∧ bs ≤ 216) (C9 : (∀ j, co j ≤ 400) ∧ (∀ j, fw j ≤ 15)) (H9 : IHd lt tr sh cr ct cu ve ta ch) (U9 : IHd lt2 tr2 sh2 cr2 ct2 cu2 ve2 ta2 ch2) (E9 : (∀ j, fo j ≤ 2) ∧ (∀ j, si j ≤ 60)) (hf9 : ¬ (lo 3 ∨ lo 1)) (hc9 : fo 3 = fo 1) (hk9 : ¬ (okH (si 3) i k ∧ okH (si 1) j k)) : CM l D (TY cI cZ cS) yX5_copy cX5_copy 8 (some .int) 1 [.ref (aS 0), .int (nI 3), .int i, .int (nI 1), .int j, .int k] ((wS cS aS (aW 0) (aB 0) (aC 0) (aH 0) (aT 0) aE la) ++ ((wW cI aW n cl th ki va re fi) ++ ((wB cI aB bt bs) ++ ((wC cI cZ aC (aW 0) (aB 0) to co ke nu fw) ++ ((wH cI aH (aW 0) lt tr sh cr ct cu ve ta ch) ++ ((wH cI aT (aW 0) lt2 tr2 sh2 cr2 ct2 cu2 ve2 ta2 ch2) ++ (wE cI aE lo fo si it))))))) (some (.int ((-10) - (nI 2)))) ((wS cS aS (aW 0) (aB 0) (aC 0) (aH 0) (aT 0) aE (nI 2)) ++ ((wW cI aW n cl th ki va re fi) ++ ((wB cI aB bt bs) ++ ((wC cI cZ aC (aW 0) (aB 0) to co ke nu fw) ++ ((wH cI aH (aW 0) lt tr sh cr ct cu ve ta ch) ++ ((wH cI aT (aW 0) lt2 tr2 sh2 cr2 ct2 cu2 ve2 ta2 ch2) ++ (wE cI aE lo fo si it))))))) := by
  refine CM.ofI (by decide +kernel) (Nat.le_of_ble_eq_true rfl) (nar_int _) ?_
  intro p e s m args below meth c Q A G K hA w hret ls hl
  obtain ⟨hx, hb, hml, hown, hts⟩ := id G
  obtain ⟨hn, hcl, hth, hki, hva, hre, hfi⟩ := id J
  obtain ⟨hbt, hbs⟩ := id B9
  obtain ⟨hco, hfw⟩ := id C9
  obtain ⟨hlt, htr, hsh, hcr, hct, hcu, hve, hta, hch⟩ := id H9
  obtain ⟨hlt2, htr2, hsh2, hcr2, hct2, hcu2, hve2, hta2, hch2⟩ := id U9
  obtain ⟨hfo, hsi⟩ := id E9
  have hq1 := hfo 3
  have hq2 := hfo 1
  have hl : lv_has ls 8 [(0, .ref (aS 0)), (1, .int (nI 3)), (2, .int i), (3, .int (nI 1)), (4, .int j), (5, .int k)] := hl
  refine lv_iload_n hx hb dX5_copy_0 rfl (lv_at hl 1 rfl) ?_
  refine callPS (rest := []) G K F_X5_isSheet (c_X5_isSheet (nI 3)) (va_P_nil D s.heap) ml_X5_121 (by decide) (by decide) rfl hl.1 (Nat.le_of_ble_eq_true rfl) dX5_copy_1 ?_
  refine b_eq G (tgt := 14) dX5_copy_4 (by decide) (fun c4 => ?_) (fun c4 => ?_)
  · -- taken at 4
    exact absurd ⟨3, by decide, rfl⟩ c4
  · -- not taken at 4
    refine lv_iload_n hx hb dX5_copy_7 rfl (lv_at hl 3 rfl) ?_
    refine callPS (rest := []) G K F_X5_isSheet (c_X5_isSheet (nI 1)) (va_P_nil D s.heap) ml_X5_121 (by decide) (by decide) rfl hl.1 (Nat.le_of_ble_eq_true rfl) dX5_copy_8 ?_
    refine b_ne G (tgt := 17) dX5_copy_11 (by decide) (fun c11 => ?_) (fun c11 => ?_)
    · -- taken at 11
      refine lv_aload_n hx hb dX5_copy_17 rfl (lv_at hl 0 rfl) ?_
      refine f_get G K w.1 inX5 0 (ci := 5) rfl rfl 5 rfl fl_X5_46 (v := .ref (aS 1)) rfl dX5_copy_18 ?_
      refine lv_iload_n hx hb dX5_copy_21 rfl (lv_at hl 1 rfl) ?_
      refine a_ldR G K w.1 1 2 (a := (aS 1)) rfl rfl (by omega) (by decide) dX5_copy_22 ?_
      refine lv_astore (lv' := [(6, .ref (aE 3)), (0, .ref (aS 0)), (1, .int (nI 3)), (2, .int i), (3, .int (nI 1)), (4, .int j), (5, .int k)]) hx hb dX5_copy_23 hl (by decide) rfl (fun ls hl => ?_)
      refine lv_aload_n hx hb dX5_copy_25 rfl (lv_at hl 1 rfl) ?_
      refine f_get G K w.1 inX5 0 (ci := 5) rfl rfl 5 rfl fl_X5_46 (v := .ref (aS 1)) rfl dX5_copy_26 ?_
      refine lv_iload_n hx hb dX5_copy_29 rfl (lv_at hl 4 rfl) ?_
      refine a_ldR G K w.1 1 2 (a := (aS 1)) rfl rfl (by omega) (by decide) dX5_copy_30 ?_
      refine lv_astore (lv' := [(7, .ref (aE 1)), (6, .ref (aE 3)), (0, .ref (aS 0)), (1, .int (nI 3)), (2, .int i), (3, .int (nI 1)), (4, .int j), (5, .int k)]) hx hb dX5_copy_31 hl (by decide) rfl (fun ls hl => ?_)
      refine lv_aload hx hb dX5_copy_33 (lv_at hl 1 rfl) ?_
      refine f_get G K w.1 inX3 37 (ci := 3) rfl rfl 1 rfl fl_X5_124 (v := .int (bI (lo 3))) rfl dX5_copy_35 ?_
      refine b_ne G (tgt := 49) dX5_copy_38 (by decide) (fun c38 => ?_) (fun c38 => ?_)
      · -- taken at 38
        exact absurd (Or.inl c38) hf9
      · -- not taken at 38
        refine lv_aload hx hb dX5_copy_41 (lv_at hl 0 rfl) ?_
        refine f_get G K w.1 inX3 35 (ci := 3) rfl rfl 1 rfl fl_X5_124 (v := .int (bI (lo 1))) rfl dX5_copy_43 ?_
        refine b_eq G (tgt := 55) dX5_copy_46 (by decide) (fun c46 => ?_) (fun c46 => ?_)
        · -- taken at 46
          refine lv_aload hx hb dX5_copy_55 (lv_at hl 1 rfl) ?_
          refine f_get G K w.1 inX3 37 (ci := 3) rfl rfl 2 rfl fl_X5_247 (v := .int (nI (fo 3))) rfl dX5_copy_57 ?_
          refine lv_aload hx hb dX5_copy_60 (lv_at hl 0 rfl) ?_
          refine f_get G K w.1 inX3 35 (ci := 3) rfl rfl 2 rfl fl_X5_247 (v := .int (nI (fo 1))) rfl dX5_copy_62 ?_
          refine c_eq G (tgt := 74) (by omega) (by omega) dX5_copy_65 (by decide) (fun c65 => ?_) (fun c65 => ?_)
          · -- taken at 65
            refine lv_aload hx hb dX5_copy_74 (lv_at hl 1 rfl) ?_
            refine lv_iload_n hx hb dX5_copy_76 rfl (lv_at hl 4 rfl) ?_
            refine lv_iload hx hb dX5_copy_77 (lv_at hl 7 rfl) ?_
            refine callPV (As := [.int i, .int k]) (rest := []) (q0 := 0) (ci := 3) G K F_X3_hasItems (c_X3_hasItems (aE 3) (aE 7) (lo 3) (fo 3) (si 3) (it 3) i k ⟨hfo 3, hsi 3⟩) (w.1.sub (ws' := (wT cI (aE 3) (aE 7) (lo 3) (fo 3) (si 3) (it 3))) [37, 41] rfl) ml_X5_250 rfl rfl rfl (by decide) (by decide) rfl hl.1 (Nat.le_of_ble_eq_true rfl) dX5_copy_79 ?_
            refine b_eq G (tgt := 97) dX5_copy_82 (by decide) (fun c82 => ?_) (fun c82 => ?_)
            · -- taken at 82
              refine lv_aload_n hx hb dX5_copy_97 rfl (lv_at hl 2 rfl) ?_
              refine lv_iconst (v := (nI 2)) hx hb dX5_copy_98 (by decide) ?_
              refine callMF (As := [.int (nI 2)]) (rest := []) (q0 := 0) (ci := 5) (ws' := ((wS cS aS (aW 0) (aB 0) (aC 0) (aH 0) (aT 0) aE (nI 2)) ++ ((wW cI aW n cl th ki va re fi) ++ ((wB cI aB bt bs) ++ ((wC cI cZ aC (aW 0) (aB 0) to co ke nu fw) ++ ((wH cI aH (aW 0) lt tr sh cr ct cu ve ta ch) ++ ((wH cI aT (aW 0) lt2 tr2 sh2 cr2 ct2 cu2 ve2 ta2 ch2) ++ (wE cI aE lo fo si it)))))))) G K hA w F_X5_find (c_X5_find aS aE la aW n cl th ki va re fi aB bt bs aC to co ke nu fw aH lt tr sh cr ct cu ve ta ch aT lt2 tr2 sh2 cr2 ct2 cu2 ve2 ta2 ch2 lo fo si it 2 J S B9 C9 H9 U9 E9) ml_X5_128 rfl rfl rfl (by decide) (by decide) rfl hl.1 (Nat.le_of_ble_eq_true rfl) dX5_copy_99 (fun Hp1 lo2 w => ?_)
              exact hret _ _ _ _ _ _ rfl rfl w dX5_copy_102
            · -- not taken at 82
              refine lv_aload hx hb dX5_copy_85 (lv_at hl 0 rfl) ?_
              refine lv_iload hx hb dX5_copy_87 (lv_at hl 6 rfl) ?_
              refine lv_iload hx hb dX5_copy_89 (lv_at hl 7 rfl) ?_
              refine callPV (As := [.int j, .int k]) (rest := []) (q0 := 0) (ci := 3) G K F_X3_hasItems (c_X3_hasItems (aE 1) (aE 5) (lo 1) (fo 1) (si 1) (it 1) j k ⟨hfo 1, hsi 1⟩) (w.1.sub (ws' := (wT cI (aE 1) (aE 5) (lo 1) (fo 1) (si 1) (it 1))) [35, 39] rfl) ml_X5_250 rfl rfl rfl (by decide) (by decide) rfl hl.1 (Nat.le_of_ble_eq_true rfl) dX5_copy_91 ?_
              refine b_ne G (tgt := 103) dX5_copy_94 (by decide) (fun c94 => ?_) (fun c94 => ?_)
              · -- taken at 94
                exact absurd ⟨c82, c94⟩ hk9
              · -- not taken at 94
                refine lv_aload_n hx hb dX5_copy_97 rfl (lv_at hl 2 rfl) ?_
                refine lv_iconst (v := (nI 2)) hx hb dX5_copy_98 (by decide) ?_
                refine callMF (As := [.int (nI 2)]) (rest := []) (q0 := 0) (ci := 5) (ws' := ((wS cS aS (aW 0) (aB 0) (aC 0) (aH 0) (aT 0) aE (nI 2)) ++ ((wW cI aW n cl th ki va re fi) ++ ((wB cI aB bt bs) ++ ((wC cI cZ aC (aW 0) (aB 0) to co ke nu fw) ++ ((wH cI aH (aW 0) lt tr sh cr ct cu ve ta ch) ++ ((wH cI aT (aW 0) lt2 tr2 sh2 cr2 ct2 cu2 ve2 ta2 ch2) ++ (wE cI aE lo fo si it)))))))) G K hA w F_X5_find (c_X5_find aS aE la aW n cl th ki va re fi aB bt bs aC to co ke nu fw aH lt tr sh cr ct cu ve ta ch aT lt2 tr2 sh2 cr2 ct2 cu2 ve2 ta2 ch2 lo fo si it 2 J S B9 C9 H9 U9 E9) ml_X5_128 rfl rfl rfl (by decide) (by decide) rfl hl.1 (Nat.le_of_ble_eq_true rfl) dX5_copy_99 (fun Hp3 lo4 w => ?_)
                exact hret _ _ _ _ _ _ rfl rfl w dX5_copy_102
          · -- not taken at 65
            exact absurd hc9 c65
        · -- not taken at 46
          exact absurd (Or.inr c46) hf9
    · -- not taken at 11
      exact absurd ⟨1, by decide, rfl⟩ c11
set_option maxHeartbeats 4000000 in
set_option maxRecDepth 100000 in
theorem c_X5_copy_ok31 (aS : Nat → Nat) (aE : Nat → Nat) (la : Int32) (aW : Nat → Nat) (n : Nat) (cl : Nat) (th : Nat → Nat) (ki : Nat → Nat) (va : Nat → Nat) (re : Nat → Nat) (fi : Nat → Nat) (aB : Nat → Nat) (bt : Nat → Nat) (bs : Nat) (aC : Nat → Nat) (to : Nat → Prop) (co : Nat → Nat) (ke : Nat → Int32) (nu : Nat → Int32) (fw : Nat → Nat) (aH : Nat → Nat) (lt : Nat → Option Nat) (tr : Nat → Nat) (sh : Nat → Nat) (cr : Nat → Nat) (ct : Nat → Nat) (cu : Nat → Nat) (ve : Nat → Nat) (ta : Nat → Nat) (ch : Nat) (aT : Nat → Nat) (lt2 : Nat → Option Nat) (tr2 : Nat → Nat) (sh2 : Nat → Nat) (cr2 : Nat → Nat) (ct2 : Nat → Nat) (cu2 : Nat → Nat) (ve2 : Nat → Nat) (ta2 : Nat → Nat) (ch2 : Nat) (lo : Nat → Prop) (fo : Nat → Nat) (si : Nat → Nat) (it : Nat → Nat → Int32) (i : Nat) (j : Nat) (k : Nat) (J : IW n cl th ki va re fi) (S : SW n cl re fi) (B9 : (∀ j, bt j ≤ 255) ∧ bs ≤ 216) (C9 : (∀ j, co j ≤ 400) ∧ (∀ j, fw j ≤ 15)) (H9 : IHd lt tr sh cr ct cu ve ta ch) (U9 : IHd lt2 tr2 sh2 cr2 ct2 cu2 ve2 ta2 ch2) (E9 : (∀ j, fo j ≤ 2) ∧ (∀ j, si j ≤ 60)) (hf9 : ¬ (lo 3 ∨ lo 1)) (hc9 : fo 3 = fo 1) (hi9 : i + k ≤ si 3) (hj9 : j + k ≤ si 1) : CM l D (TY cI cZ cS) yX5_copy cX5_copy 8 (some .int) 1 [.ref (aS 0), .int (nI 3), .int (nI i), .int (nI 1), .int (nI j), .int (nI k)] ((wS cS aS (aW 0) (aB 0) (aC 0) (aH 0) (aT 0) aE la) ++ ((wW cI aW n cl th ki va re fi) ++ ((wB cI aB bt bs) ++ ((wC cI cZ aC (aW 0) (aB 0) to co ke nu fw) ++ ((wH cI aH (aW 0) lt tr sh cr ct cu ve ta ch) ++ ((wH cI aT (aW 0) lt2 tr2 sh2 cr2 ct2 cu2 ve2 ta2 ch2) ++ (wE cI aE lo fo si it))))))) (some (.int (nI 1))) ((wS cS aS (aW 0) (aB 0) (aC 0) (aH 0) (aT 0) aE la) ++ ((wW cI aW n cl th ki va re fi) ++ ((wB cI aB bt bs) ++ ((wC cI cZ aC (aW 0) (aB 0) to co ke nu fw) ++ ((wH cI aH (aW 0) lt tr sh cr ct cu ve ta ch) ++ ((wH cI aT (aW 0) lt2 tr2 sh2 cr2 ct2 cu2 ve2 ta2 ch2) ++ (wE cI aE lo fo si (va_up it 1 (va_cpy (it 3) (it 1) i j k))))))))) := by
  refine CM.ofI (by decide +kernel) (Nat.le_of_ble_eq_true rfl) (nar_int _) ?_
  intro p e s m args below meth c Q A G K hA w hret ls hl
  obtain ⟨hx, hb, hml, hown, hts⟩ := id G
  obtain ⟨hn, hcl, hth, hki, hva, hre, hfi⟩ := id J
  obtain ⟨hbt, hbs⟩ := id B9
  obtain ⟨hco, hfw⟩ := id C9
  obtain ⟨hlt, htr, hsh, hcr, hct, hcu, hve, hta, hch⟩ := id H9
  obtain ⟨hlt2, htr2, hsh2, hcr2, hct2, hcu2, hve2, hta2, hch2⟩ := id U9
  obtain ⟨hfo, hsi⟩ := id E9
  have hs9 := hsi 3
  have ht9 := hsi 1
  have hq1 := hfo 3
  have hq2 := hfo 1
  have hl : lv_has ls 8 [(0, .ref (aS 0)), (1, .int (nI 3)), (2, .int (nI i)), (3, .int (nI 1)), (4, .int (nI j)), (5, .int (nI k))] := hl
  refine lv_iload_n hx hb dX5_copy_0 rfl (lv_at hl 1 rfl) ?_
  refine callPS (rest := []) G K F_X5_isSheet (c_X5_isSheet (nI 3)) (va_P_nil D s.heap) ml_X5_121 (by decide) (by decide) rfl hl.1 (Nat.le_of_ble_eq_true rfl) dX5_copy_1 ?_
  refine b_eq G (tgt := 14) dX5_copy_4 (by decide) (fun c4 => ?_) (fun c4 => ?_)
  · -- taken at 4
    exact absurd ⟨3, by decide, rfl⟩ c4
  · -- not taken at 4
    refine lv_iload_n hx hb dX5_copy_7 rfl (lv_at hl 3 rfl) ?_
    refine callPS (rest := []) G K F_X5_isSheet (c_X5_isSheet (nI 1)) (va_P_nil D s.heap) ml_X5_121 (by decide) (by decide) rfl hl.1 (Nat.le_of_ble_eq_true rfl) dX5_copy_8 ?_
    refine b_ne G (tgt := 17) dX5_copy_11 (by decide) (fun c11 => ?_) (fun c11 => ?_)
    · -- taken at 11
      refine lv_aload_n hx hb dX5_copy_17 rfl (lv_at hl 0 rfl) ?_
      refine f_get G K w.1 inX5 0 (ci := 5) rfl rfl 5 rfl fl_X5_46 (v := .ref (aS 1)) rfl dX5_copy_18 ?_
      refine lv_iload_n hx hb dX5_copy_21 rfl (lv_at hl 1 rfl) ?_
      refine a_ldR G K w.1 1 2 (a := (aS 1)) rfl rfl (by omega) (by decide) dX5_copy_22 ?_
      refine lv_astore (lv' := [(6, .ref (aE 3)), (0, .ref (aS 0)), (1, .int (nI 3)), (2, .int (nI i)), (3, .int (nI 1)), (4, .int (nI j)), (5, .int (nI k))]) hx hb dX5_copy_23 hl (by decide) rfl (fun ls hl => ?_)
      refine lv_aload_n hx hb dX5_copy_25 rfl (lv_at hl 1 rfl) ?_
      refine f_get G K w.1 inX5 0 (ci := 5) rfl rfl 5 rfl fl_X5_46 (v := .ref (aS 1)) rfl dX5_copy_26 ?_
      refine lv_iload_n hx hb dX5_copy_29 rfl (lv_at hl 4 rfl) ?_
      refine a_ldR G K w.1 1 2 (a := (aS 1)) rfl rfl (by omega) (by decide) dX5_copy_30 ?_
      refine lv_astore (lv' := [(7, .ref (aE 1)), (6, .ref (aE 3)), (0, .ref (aS 0)), (1, .int (nI 3)), (2, .int (nI i)), (3, .int (nI 1)), (4, .int (nI j)), (5, .int (nI k))]) hx hb dX5_copy_31 hl (by decide) rfl (fun ls hl => ?_)
      refine lv_aload hx hb dX5_copy_33 (lv_at hl 1 rfl) ?_
      refine f_get G K w.1 inX3 37 (ci := 3) rfl rfl 1 rfl fl_X5_124 (v := .int (bI (lo 3))) rfl dX5_copy_35 ?_
      refine b_ne G (tgt := 49) dX5_copy_38 (by decide) (fun c38 => ?_) (fun c38 => ?_)
      · -- taken at 38
        exact absurd (Or.inl c38) hf9
      · -- not taken at 38
        refine lv_aload hx hb dX5_copy_41 (lv_at hl 0 rfl) ?_
        refine f_get G K w.1 inX3 35 (ci := 3) rfl rfl 1 rfl fl_X5_124 (v := .int (bI (lo 1))) rfl dX5_copy_43 ?_
        refine b_eq G (tgt := 55) dX5_copy_46 (by decide) (fun c46 => ?_) (fun c46 => ?_)
        · -- taken at 46
          refine lv_aload hx hb dX5_copy_55 (lv_at hl 1 rfl) ?_
          refine f_get G K w.1 inX3 37 (ci := 3) rfl rfl 2 rfl fl_X5_247 (v := .int (nI (fo 3))) rfl dX5_copy_57 ?_
          refine lv_aload hx hb dX5_copy_60 (lv_at hl 0 rfl) ?_
          refine f_get G K w.1 inX3 35 (ci := 3) rfl rfl 2 rfl fl_X5_247 (v := .int (nI (fo 1))) rfl dX5_copy_62 ?_
          refine c_eq G (tgt := 74) (by omega) (by omega) dX5_copy_65 (by decide) (fun c65 => ?_) (fun c65 => ?_)
          · -- taken at 65
            refine lv_aload hx hb dX5_copy_74 (lv_at hl 1 rfl) ?_
            refine lv_iload_n hx hb dX5_copy_76 rfl (lv_at hl 4 rfl) ?_
            refine lv_iload hx hb dX5_copy_77 (lv_at hl 7 rfl) ?_
            refine callPV (As := [.int (nI i), .int (nI k)]) (rest := []) (q0 := 0) (ci := 3) G K F_X3_hasItems (c_X3_hasItems (aE 3) (aE 7) (lo 3) (fo 3) (si 3) (it 3) (nI i) (nI k) ⟨hfo 3, hsi 3⟩) (w.1.sub (ws' := (wT cI (aE 3) (aE 7) (lo 3) (fo 3) (si 3) (it 3))) [37, 41] rfl) ml_X5_250 rfl rfl rfl (by decide) (by decide) rfl hl.1 (Nat.le_of_ble_eq_true rfl) dX5_copy_79 ?_
            refine b_eq G (tgt := 97) dX5_copy_82 (by decide) (fun c82 => ?_) (fun c82 => ?_)
            · -- taken at 82
              exact absurd ⟨i, k, hi9, rfl, rfl⟩ c82
            · -- not taken at 82
              refine lv_aload hx hb dX5_copy_85 (lv_at hl 0 rfl) ?_
              refine lv_iload hx hb dX5_copy_87 (lv_at hl 6 rfl) ?_
              refine lv_iload hx hb dX5_copy_89 (lv_at hl 7 rfl) ?_
              refine callPV (As := [.int (nI j), .int (nI k)]) (rest := []) (q0 := 0) (ci := 3) G K F_X3_hasItems (c_X3_hasItems (aE 1) (aE 5) (lo 1) (fo 1) (si 1) (it 1) (nI j) (nI k) ⟨hfo 1, hsi 1⟩) (w.1.sub (ws' := (wT cI (aE 1) (aE 5) (lo 1) (fo 1) (si 1) (it 1))) [35, 39] rfl) ml_X5_250 rfl rfl rfl (by decide) (by decide) rfl hl.1 (Nat.le_of_ble_eq_true rfl) dX5_copy_91 ?_
              refine b_ne G (tgt := 103) dX5_copy_94 (by decide) (fun c94 => ?_) (fun c94 => ?_)
              · -- taken at 94
                refine lv_aload hx hb dX5_copy_103 (lv_at hl 1 rfl) ?_
                refine f_get G K w.1 inX3 37 (ci := 3) rfl rfl 0 rfl fl_X5_132 (v := .ref (aE 7)) rfl dX5_copy_105 ?_
                refine lv_iload_n hx hb dX5_copy_108 rfl (lv_at hl 4 rfl) ?_
                refine lv_aload hx hb dX5_copy_109 (lv_at hl 0 rfl) ?_
                refine f_get G K w.1 inX3 35 (ci := 3) rfl rfl 0 rfl fl_X5_132 (v := .ref (aE 5)) rfl dX5_copy_111 ?_
                refine lv_iload hx hb dX5_copy_114 (lv_at hl 6 rfl) ?_
                refine lv_iload hx hb dX5_copy_116 (lv_at hl 7 rfl) ?_
                refine acp (f := (it 3)) (g := (it 1)) (sp := i) (dp := j) (k := k) G K w (hml.trans hl.1.symm) ml_X5_253 41 39 rfl rfl (by omega) (by omega) (by decide) (Nat.le_of_ble_eq_true rfl) (Nat.le_of_ble_eq_true rfl) dX5_copy_118 (w2 := ((wS cS aS (aW 0) (aB 0) (aC 0) (aH 0) (aT 0) aE la) ++ ((wW cI aW n cl th ki va re fi) ++ ((wB cI aB bt bs) ++ ((wC cI cZ aC (aW 0) (aB 0) to co ke nu fw) ++ ((wH cI aH (aW 0) lt tr sh cr ct cu ve ta ch) ++ ((wH cI aT (aW 0) lt2 tr2 sh2 cr2 ct2 cu2 ve2 ta2 ch2) ++ (wE cI aE lo fo si (va_up it 1 (va_cpy (it 3) (it 1) i j k)))))))))) rfl (fun Hp1 lo2 w => ?_)
                refine lv_iconst (v := (nI 1)) hx hb dX5_copy_121 (by decide) ?_
                exact hret _ _ _ _ _ _ rfl rfl w dX5_copy_122
              · -- not taken at 94
                exact absurd ⟨j, k, hj9, rfl, rfl⟩ c94
          · -- not taken at 65
            exact absurd hc9 c65
        · -- not taken at 46
          exact absurd (Or.inr c46) hf9
    · -- not taken at 11
      exact absurd ⟨1, by decide, rfl⟩ c11
set_option maxHeartbeats 4000000 in
set_option maxRecDepth 100000 in
theorem c_X5_copy_nul32 (aS : Nat → Nat) (aE : Nat → Nat) (la : Int32) (aW : Nat → Nat) (n : Nat) (cl : Nat) (th : Nat → Nat) (ki : Nat → Nat) (va : Nat → Nat) (re : Nat → Nat) (fi : Nat → Nat) (aB : Nat → Nat) (bt : Nat → Nat) (bs : Nat) (aC : Nat → Nat) (to : Nat → Prop) (co : Nat → Nat) (ke : Nat → Int32) (nu : Nat → Int32) (fw : Nat → Nat) (aH : Nat → Nat) (lt : Nat → Option Nat) (tr : Nat → Nat) (sh : Nat → Nat) (cr : Nat → Nat) (ct : Nat → Nat) (cu : Nat → Nat) (ve : Nat → Nat) (ta : Nat → Nat) (ch : Nat) (aT : Nat → Nat) (lt2 : Nat → Option Nat) (tr2 : Nat → Nat) (sh2 : Nat → Nat) (cr2 : Nat → Nat) (ct2 : Nat → Nat) (cu2 : Nat → Nat) (ve2 : Nat → Nat) (ta2 : Nat → Nat) (ch2 : Nat) (lo : Nat → Prop) (fo : Nat → Nat) (si : Nat → Nat) (it : Nat → Nat → Int32) (i : Int32) (j : Int32) (k : Int32) (J : IW n cl th ki va re fi) (S : SW n cl re fi) (B9 : (∀ j, bt j ≤ 255) ∧ bs ≤ 216) (C9 : (∀ j, co j ≤ 400) ∧ (∀ j, fw j ≤ 15)) (H9 : IHd lt tr sh cr ct cu ve ta ch) (U9 : IHd lt2 tr2 sh2 cr2 ct2 cu2 ve2 ta2 ch2) (E9 : (∀ j, fo j ≤ 2) ∧ (∀ j, si j ≤ 60)) (hf9 : lo 3 ∨ lo 2) : CM l D (TY cI cZ cS) yX5_copy cX5_copy 8 (some .int) 1 [.ref (aS 0), .int (nI 3), .int i, .int (nI 2), .int j, .int k] ((wS cS aS (aW 0) (aB 0) (aC 0) (aH 0) (aT 0) aE la) ++ ((wW cI aW n cl th ki va re fi) ++ ((wB cI aB bt bs) ++ ((wC cI cZ aC (aW 0) (aB 0) to co ke nu fw) ++ ((wH cI aH (aW 0) lt tr sh cr ct cu ve ta ch) ++ ((wH cI aT (aW 0) lt2 tr2 sh2 cr2 ct2 cu2 ve2 ta2 ch2) ++ (wE cI aE lo fo si it))))))) (some (.int ((-10) - (nI 1)))) ((wS cS aS (aW 0) (aB 0) (aC 0) (aH 0) (aT 0) aE (nI 1)) ++ ((wW cI aW n cl th ki va re fi) ++ ((wB cI aB bt bs) ++ ((wC cI cZ aC (aW 0) (aB 0) to co ke nu fw) ++ ((wH cI aH (aW 0) lt tr sh cr ct cu ve ta ch) ++ ((wH cI aT (aW 0) lt2 tr2 sh2 cr2 ct2 cu2 ve2 ta2 ch2) ++ (wE cI aE lo fo si it))))))) := by
  refine CM.ofI (by decide +kernel) (Nat.le_of_ble_eq_true rfl) (nar_int _) ?_
  intro p e s m args below meth c Q A G K hA w hret ls hl
  obtain ⟨hx, hb, hml, hown, hts⟩ := id G
  obtain ⟨hn, hcl, hth, hki, hva, hre, hfi⟩ := id J
  obtain ⟨hbt, hbs⟩ := id B9
  obtain ⟨hco, hfw⟩ := id C9
  obtain ⟨hlt, htr, hsh, hcr, hct, hcu, hve, hta, hch⟩ := id H9
  obtain ⟨hlt2, htr2, hsh2, hcr2, hct2, hcu2, hve2, hta2, hch2⟩ := id U9
  obtain ⟨hfo, hsi⟩ := id E9
  have hl : lv_has ls 8 [(0, .ref (aS 0)), (1, .int (nI 3)), (2, .int i), (3, .int (nI 2)), (4, .int j), (5, .int k)] := hl
  refine lv_iload_n hx hb dX5_copy_0 rfl (lv_at hl 1 rfl) ?_
  refine callPS (rest := []) G K F_X5_isSheet (c_X5_isSheet (nI 3)) (va_P_nil D s.heap) ml_X5_121 (by decide) (by decide) rfl hl.1 (Nat.le_of_ble_eq_true rfl) dX5_copy_1 ?_
  refine b_eq G (tgt := 14) dX5_copy_4 (by decide) (fun c4 => ?_) (fun c4 => ?_)
  · -- taken at 4
    exact absurd ⟨3, by decide, rfl⟩ c4
  · -- not taken at 4
    refine lv_iload_n hx hb dX5_copy_7 rfl (lv_at hl 3 rfl) ?_
    refine callPS (rest := []) G K F_X5_isSheet (c_X5_isSheet (nI 2)) (va_P_nil D s.heap) ml_X5_121 (by decide) (by decide) rfl hl.1 (Nat.le_of_ble_eq_true rfl) dX5_copy_8 ?_
    refine b_ne G (tgt := 17) dX5_copy_11 (by decide) (fun c11 => ?_) (fun c11 => ?_)
    · -- taken at 11
      refine lv_aload_n hx hb dX5_copy_17 rfl (lv_at hl 0 rfl) ?_
      refine f_get G K w.1 inX5 0 (ci := 5) rfl rfl 5 rfl fl_X5_46 (v := .ref (aS 1)) rfl dX5_copy_18 ?_
      refine lv_iload_n hx hb dX5_copy_21 rfl (lv_at hl 1 rfl) ?_
      refine a_ldR G K w.1 1 2 (a := (aS 1)) rfl rfl (by omega) (by decide) dX5_copy_22 ?_
      refine lv_astore (lv' := [(6, .ref (aE 3)), (0, .ref (aS 0)), (1, .int (nI 3)), (2, .int i), (3, .int (nI 2)), (4, .int j), (5, .int k)]) hx hb dX5_copy_23 hl (by decide) rfl (fun ls hl => ?_)
      refine lv_aload_n hx hb dX5_copy_25 rfl (lv_at hl 1 rfl) ?_
      refine f_get G K w.1 inX5 0 (ci := 5) rfl rfl 5 rfl fl_X5_46 (v := .ref (aS 1)) rfl dX5_copy_26 ?_
      refine lv_iload_n hx hb dX5_copy_29 rfl (lv_at hl 4 rfl) ?_
      refine a_ldR G K w.1 1 2 (a := (aS 1)) rfl rfl (by omega) (by decide) dX5_copy_30 ?_
      refine lv_astore (lv' := [(7, .ref (aE 2)), (6, .ref (aE 3)), (0, .ref (aS 0)), (1, .int (nI 3)), (2, .int i), (3, .int (nI 2)), (4, .int j), (5, .int k)]) hx hb dX5_copy_31 hl (by decide) rfl (fun ls hl => ?_)
      refine lv_aload hx hb dX5_copy_33 (lv_at hl 1 rfl) ?_
      refine f_get G K w.1 inX3 37 (ci := 3) rfl rfl 1 rfl fl_X5_124 (v := .int (bI (lo 3))) rfl dX5_copy_35 ?_
      refine b_ne G (tgt := 49) dX5_copy_38 (by decide) (fun c38 => ?_) (fun c38 => ?_)
      · -- taken at 38
        refine lv_aload_n hx hb dX5_copy_49 rfl (lv_at hl 2 rfl) ?_
        refine lv_iconst (v := (nI 1)) hx hb dX5_copy_50 (by decide) ?_
        refine callMF (As := [.int (nI 1)]) (rest := []) (q0 := 0) (ci := 5) (ws' := ((wS cS aS (aW 0) (aB 0) (aC 0) (aH 0) (aT 0) aE (nI 1)) ++ ((wW cI aW n cl th ki va re fi) ++ ((wB cI aB bt bs) ++ ((wC cI cZ aC (aW 0) (aB 0) to co ke nu fw) ++ ((wH cI aH (aW 0) lt tr sh cr ct cu ve ta ch) ++ ((wH cI aT (aW 0) lt2 tr2 sh2 cr2 ct2 cu2 ve2 ta2 ch2) ++ (wE cI aE lo fo si it)))))))) G K hA w F_X5_find (c_X5_find aS aE la aW n cl th ki va re fi aB bt bs aC to co ke nu fw aH lt tr sh cr ct cu ve ta ch aT lt2 tr2 sh2 cr2 ct2 cu2 ve2 ta2 ch2 lo fo si it 1 J S B9 C9 H9 U9 E9) ml_X5_128 rfl rfl rfl (by decide) (by decide) rfl hl.1 (Nat.le_of_ble_eq_true rfl) dX5_copy_51 (fun Hp1 lo2 w => ?_)
        exact hret _ _ _ _ _ _ rfl rfl w dX5_copy_54
      · -- not taken at 38
        refine lv_aload hx hb dX5_copy_41 (lv_at hl 0 rfl) ?_
        refine f_get G K w.1 inX3 36 (ci := 3) rfl rfl 1 rfl fl_X5_124 (v := .int (bI (lo 2))) rfl dX5_copy_43 ?_
        refine b_eq G (tgt := 55) dX5_copy_46 (by decide) (fun c46 => ?_) (fun c46 => ?_)
        · -- taken at 46
          exact absurd hf9 (fun h => h.elim c38 c46)
        · -- not taken at 46
          refine lv_aload_n hx hb dX5_copy_49 rfl (lv_at hl 2 rfl) ?_
          refine lv_iconst (v := (nI 1)) hx hb dX5_copy_50 (by decide) ?_
          refine callMF (As := [.int (nI 1)]) (rest := []) (q0 := 0) (ci := 5) (ws' := ((wS cS aS (aW 0) (aB 0) (aC 0) (aH 0) (aT 0) aE (nI 1)) ++ ((wW cI aW n cl th ki va re fi) ++ ((wB cI aB bt bs) ++ ((wC cI cZ aC (aW 0) (aB 0) to co ke nu fw) ++ ((wH cI aH (aW 0) lt tr sh cr ct cu ve ta ch) ++ ((wH cI aT (aW 0) lt2 tr2 sh2 cr2 ct2 cu2 ve2 ta2 ch2) ++ (wE cI aE lo fo si it)))))))) G K hA w F_X5_find (c_X5_find aS aE la aW n cl th ki va re fi aB bt bs aC to co ke nu fw aH lt tr sh cr ct cu ve ta ch aT lt2 tr2 sh2 cr2 ct2 cu2 ve2 ta2 ch2 lo fo si it 1 J S B9 C9 H9 U9 E9) ml_X5_128 rfl rfl rfl (by decide) (by decide) rfl hl.1 (Nat.le_of_ble_eq_true rfl) dX5_copy_51 (fun Hp3 lo4 w => ?_)
          exact hret _ _ _ _ _ _ rfl rfl w dX5_copy_54
    · -- not taken at 11
      exact absurd ⟨2, by decide, rfl⟩ c11
set_option maxHeartbeats 4000000 in
set_option maxRecDepth 100000 in
theorem c_X5_copy_sto32 (aS : Nat → Nat) (aE : Nat → Nat) (la : Int32) (aW : Nat → Nat) (n : Nat) (cl : Nat) (th : Nat → Nat) (ki : Nat → Nat) (va : Nat → Nat) (re : Nat → Nat) (fi : Nat → Nat) (aB : Nat → Nat) (bt : Nat → Nat) (bs : Nat) (aC : Nat → Nat) (to : Nat → Prop) (co : Nat → Nat) (ke : Nat → Int32) (nu : Nat → Int32) (fw : Nat → Nat) (aH : Nat → Nat) (lt : Nat → Option Nat) (tr : Nat → Nat) (sh : Nat → Nat) (cr : Nat → Nat) (ct : Nat → Nat) (cu : Nat → Nat) (ve : Nat → Nat) (ta : Nat → Nat) (ch : Nat) (aT : Nat → Nat) (lt2 : Nat → Option Nat) (tr2 : Nat → Nat) (sh2 : Nat → Nat) (cr2 : Nat → Nat) (ct2 : Nat → Nat) (cu2 : Nat → Nat) (ve2 : Nat → Nat) (ta2 : Nat → Nat) (ch2 : Nat) (lo : Nat → Prop) (fo : Nat → Nat) (si : Nat → Nat) (it : Nat → Nat → Int32) (i : Int32) (j : Int32) (k : Int32) (J : IW n cl th ki va re fi) (S : SW n cl re fi) (B9 : (∀ j, bt j ≤ 255) ∧ bs ≤ 216) (C9 : (∀ j, co j ≤ 400) ∧ (∀ j, fw j ≤ 15)) (H9 : IHd lt tr sh cr ct cu ve ta ch) (U9 : IHd lt2 tr2 sh2 cr2 ct2 cu2 ve2 ta2 ch2) (E9 : (∀ j, fo j ≤ 2) ∧ (∀ j, si j ≤ 60)) (hf9 : ¬ (lo 3 ∨ lo 2)) (hc9 : fo 3 ≠ fo 2) : CM l D (TY cI cZ cS) yX5_copy cX5_copy 8 (some .int) 1 [.ref (aS 0), .int (nI 3), .int i, .int (nI 2), .int j, .int k] ((wS cS aS (aW 0) (aB 0) (aC 0) (aH 0) (aT 0) aE la) ++ ((wW cI aW n cl th ki va re fi) ++ ((wB cI aB bt bs) ++ ((wC cI cZ aC (aW 0) (aB 0) to co ke nu fw) ++ ((wH cI aH (aW 0) lt tr sh cr ct cu ve ta ch) ++ ((wH cI aT (aW 0) lt2 tr2 sh2 cr2 ct2 cu2 ve2 ta2 ch2) ++ (wE cI aE lo fo si it))))))) (some (.int ((-10) - (nI 4)))) ((wS cS aS (aW 0) (aB 0) (aC 0) (aH 0) (aT 0) aE (nI 4)) ++ ((wW cI aW n cl th ki va re fi) ++ ((wB cI aB bt bs) ++ ((wC cI cZ aC (aW 0) (aB 0) to co ke nu fw) ++ ((wH cI aH (aW 0) lt tr sh cr ct cu ve ta ch) ++ ((wH cI aT (aW 0) lt2 tr2 sh2 cr2 ct2 cu2 ve2 ta2 ch2) ++ (wE cI aE lo fo si it))))))) := by
  refine CM.ofI (by decide +kernel) (Nat.le_of_ble_eq_true rfl) (nar_int _) ?_
  intro p e s m args below meth c Q A G K hA w hret ls hl
  obtain ⟨hx, hb, hml, hown, hts⟩ := id G
  obtain ⟨hn, hcl, hth, hki, hva, hre, hfi⟩ := id J
  obtain ⟨hbt, hbs⟩ := id B9
  obtain ⟨hco, hfw⟩ := id C9
  obtain ⟨hlt, htr, hsh, hcr, hct, hcu, hve, hta, hch⟩ := id H9
  obtain ⟨hlt2, htr2, hsh2, hcr2, hct2, hcu2, hve2, hta2, hch2⟩ := id U9
  obtain ⟨hfo, hsi⟩ := id E9
  have hq1 := hfo 3
  have hq2 := hfo 2
  have hl : lv_has ls 8 [(0, .ref (aS 0)), (1, .int (nI 3)), (2, .int i), (3, .int (nI 2)), (4, .int j), (5, .int k)] := hl
  refine lv_iload_n hx hb dX5_copy_0 rfl (lv_at hl 1 rfl) ?_
  refine callPS (rest := []) G K F_X5_isSheet (c_X5_isSheet (nI 3)) (va_P_nil D s.heap) ml_X5_121 (by decide) (by decide) rfl hl.1 (Nat.le_of_ble_eq_true rfl) dX5_copy_1 ?_
  refine b_eq G (tgt := 14) dX5_copy_4 (by decide) (fun c4 => ?_) (fun c4 => ?_)
  · -- taken at 4
    exact absurd ⟨3, by decide, rfl⟩ c4
  · -- not taken at 4
    refine lv_iload_n hx hb dX5_copy_7 rfl (lv_at hl 3 rfl) ?_
    refine callPS (rest := []) G K F_X5_isSheet (c_X5_isSheet (nI 2)) (va_P_nil D s.heap) ml_X5_121 (by decide) (by decide) rfl hl.1 (Nat.le_of_ble_eq_true rfl) dX5_copy_8 ?_
    refine b_ne G (tgt := 17) dX5_copy_11 (by decide) (fun c11 => ?_) (fun c11 => ?_)
    · -- taken at 11
      refine lv_aload_n hx hb dX5_copy_17 rfl (lv_at hl 0 rfl) ?_
      refine f_get G K w.1 inX5 0 (ci := 5) rfl rfl 5 rfl fl_X5_46 (v := .ref (aS 1)) rfl dX5_copy_18 ?_
      refine lv_iload_n hx hb dX5_copy_21 rfl (lv_at hl 1 rfl) ?_
      refine a_ldR G K w.1 1 2 (a := (aS 1)) rfl rfl (by omega) (by decide) dX5_copy_22 ?_
      refine lv_astore (lv' := [(6, .ref (aE 3)), (0, .ref (aS 0)), (1, .int (nI 3)), (2, .int i), (3, .int (nI 2)), (4, .int j), (5, .int k)]) hx hb dX5_copy_23 hl (by decide) rfl (fun ls hl => ?_)
      refine lv_aload_n hx hb dX5_copy_25 rfl (lv_at hl 1 rfl) ?_
      refine f_get G K w.1 inX5 0 (ci := 5) rfl rfl 5 rfl fl_X5_46 (v := .ref (aS 1)) rfl dX5_copy_26 ?_
      refine lv_iload_n hx hb dX5_copy_29 rfl (lv_at hl 4 rfl) ?_
      refine a_ldR G K w.1 1 2 (a := (aS 1)) rfl rfl (by omega) (by decide) dX5_copy_30 ?_
      refine lv_astore (lv' := [(7, .ref (aE 2)), (6, .ref (aE 3)), (0, .ref (aS 0)), (1, .int (nI 3)), (2, .int i), (3, .int (nI 2)), (4, .int j), (5, .int k)]) hx hb dX5_copy_31 hl (by decide) rfl (fun ls hl => ?_)
      refine lv_aload hx hb dX5_copy_33 (lv_at hl 1 rfl) ?_
      refine f_get G K w.1 inX3 37 (ci := 3) rfl rfl 1 rfl fl_X5_124 (v := .int (bI (lo 3))) rfl dX5_copy_35 ?_
      refine b_ne G (tgt := 49) dX5_copy_38 (by decide) (fun c38 => ?_) (fun c38 => ?_)
      · -- taken at 38
        exact absurd (Or.inl c38) hf9
      · -- not taken at 38
        refine lv_aload hx hb dX5_copy_41 (lv_at hl 0 rfl) ?_
        refine f_get G K w.1 inX3 36 (ci := 3) rfl rfl 1 rfl fl_X5_124 (v := .int (bI (lo 2))) rfl dX5_copy_43 ?_
        refine b_eq G (tgt := 55) dX5_copy_46 (by decide) (fun c46 => ?_) (fun c46 => ?_)
        · -- taken at 46
          refine lv_aload hx hb dX5_copy_55 (lv_at hl 1 rfl) ?_
          refine f_get G K w.1 inX3 37 (ci := 3) rfl rfl 2 rfl fl_X5_247 (v := .int (nI (fo 3))) rfl dX5_copy_57 ?_
          refine lv_aload hx hb dX5_copy_60 (lv_at hl 0 rfl) ?_
          refine f_get G K w.1 inX3 36 (ci := 3) rfl rfl 2 rfl fl_X5_247 (v := .int (nI (fo 2))) rfl dX5_copy_62 ?_
          refine c_eq G (tgt := 74) (by omega) (by omega) dX5_copy_65 (by decide) (fun c65 => ?_) (fun c65 => ?_)
          · -- taken at 65
            exact absurd c65 hc9
          · -- not taken at 65
            refine lv_aload_n hx hb dX5_copy_68 rfl (lv_at hl 2 rfl) ?_
            refine lv_iconst (v := (nI 4)) hx hb dX5_copy_69 (by decide) ?_
            refine callMF (As := [.int (nI 4)]) (rest := []) (q0 := 0) (ci := 5) (ws' := ((wS cS aS (aW 0) (aB 0) (aC 0) (aH 0) (aT 0) aE (nI 4)) ++ ((wW cI aW n cl th ki va re fi) ++ ((wB cI aB bt bs) ++ ((wC cI cZ aC (aW 0) (aB 0) to co ke nu fw) ++ ((wH cI aH (aW 0) lt tr sh cr ct cu ve ta ch) ++ ((wH cI aT (aW 0) lt2 tr2 sh2 cr2 ct2 cu2 ve2 ta2 ch2) ++ (wE cI aE lo fo si it)))))))) G K hA w F_X5_find (c_X5_find aS aE la aW n cl th ki va re fi aB bt bs aC to co ke nu fw aH lt tr sh cr ct cu ve ta ch aT lt2 tr2 sh2 cr2 ct2 cu2 ve2 ta2 ch2 lo fo si it 4 J S B9 C9 H9 U9 E9) ml_X5_128 rfl rfl rfl (by decide) (by decide) rfl hl.1 (Nat.le_of_ble_eq_true rfl) dX5_copy_70 (fun Hp1 lo2 w => ?_)
            exact hret _ _ _ _ _ _ rfl rfl w dX5_copy_73
        · -- not taken at 46
          exact absurd (Or.inr c46) hf9
    · -- not taken at 11
      exact absurd ⟨2, by decide, rfl⟩ c11
set_option maxHeartbeats 4000000 in
set_option maxRecDepth 100000 in
theorem c_X5_copy_idx32 (aS : Nat → Nat) (aE : Nat → Nat) (la : Int32) (aW : Nat → Nat) (n : Nat) (cl : Nat) (th : Nat → Nat) (ki : Nat → Nat) (va : Nat → Nat) (re : Nat → Nat) (fi : Nat → Nat) (aB : Nat → Nat) (bt : Nat → Nat) (bs : Nat) (aC : Nat → Nat) (to : Nat → Prop) (co : Nat → Nat) (ke : Nat → Int32) (nu : Nat → Int32) (fw : Nat → Nat) (aH : Nat → Nat) (lt : Nat → Option Nat) (tr : Nat → Nat) (sh : Nat → Nat) (cr : Nat → Nat) (ct : Nat → Nat) (cu : Nat → Nat) (ve : Nat → Nat) (ta : Nat → Nat) (ch : Nat) (aT : Nat → Nat) (lt2 : Nat → Option Nat) (tr2 : Nat → Nat) (sh2 : Nat → Nat) (cr2 : Nat → Nat) (ct2 : Nat → Nat) (cu2 : Nat → Nat) (ve2 : Nat → Nat) (ta2 : Nat → Nat) (ch2 : Nat) (lo : Nat → Prop) (fo : Nat → Nat) (si : Nat → Nat) (it : Nat → Nat → Int32) (i : Int32) (j : Int32) (k : Int32) (J : IW n cl th ki va re fi) (S : SW n cl re fi) (B9 : (∀ j, bt j ≤ 255) ∧ bs ≤ 216) (C9 : (∀ j, co j ≤ 400) ∧ (∀ j, fw j ≤ 15)) (H9 : IHd lt tr sh cr ct cu ve ta ch) (U9 : IHd lt2 tr2 sh2 cr2 ct2 cu2 ve2 ta2 ch2) (E9 : (∀ j, fo j ≤ 2) ∧ (∀ j, si j ≤ 60)) (hf9 : ¬ (lo 3 ∨ lo 2)) (hc9 : fo 3 = fo 2) (hk9 : ¬ (okH (si 3) i k ∧ okH (si 2) j k)) : CM l D (TY cI cZ cS) yX5_copy cX5_copy 8 (some .int) 1 [.ref (aS 0), .int (nI 3), .int i, .int (nI 2), .int j, .int k] ((wS cS aS (aW 0) (aB 0) (aC 0) (aH 0) (aT 0) aE la) ++ ((wW cI aW n cl th ki va re fi) ++ ((wB cI aB bt bs) ++ ((wC cI cZ aC (aW 0) (aB 0) to co ke nu fw) ++ ((wH cI aH (aW 0) lt tr sh cr ct cu ve ta ch) ++ ((wH cI aT (aW 0) lt2 tr2 sh2 cr2 ct2 cu2 ve2 ta2 ch2) ++ (wE cI aE lo fo si it))))))) (some (.int ((-10) - (nI 2)))) ((wS cS aS (aW 0) (aB 0) (aC 0) (aH 0) (aT 0) aE (nI 2)) ++ ((wW cI aW n cl th ki va re fi) ++ ((wB cI aB bt bs) ++ ((wC cI cZ aC (aW 0) (aB 0) to co ke nu fw) ++ ((wH cI aH (aW 0) lt tr sh cr ct cu ve ta ch) ++ ((wH cI aT (aW 0) lt2 tr2 sh2 cr2 ct2 cu2 ve2 ta2 ch2) ++ (wE cI aE lo fo si it))))))) := by
  refine CM.ofI (by decide +kernel) (Nat.le_of_ble_eq_true rfl) (nar_int _) ?_
  intro p e s m args below meth c Q A G K hA w hret ls hl
  obtain ⟨hx, hb, hml, hown, hts⟩ := id G
  obtain ⟨hn, hcl, hth, hki, hva, hre, hfi⟩ := id J
  obtain ⟨hbt, hbs⟩ := id B9
  obtain ⟨hco, hfw⟩ := id C9
  obtain ⟨hlt, htr, hsh, hcr, hct, hcu, hve, hta, hch⟩ := id H9
  obtain ⟨hlt2, htr2, hsh2, hcr2, hct2, hcu2, hve2, hta2, hch2⟩ := id U9
  obtain ⟨hfo, hsi⟩ := id E9
  have hq1 := hfo 3
  have hq2 := hfo 2
  have hl : lv_has ls 8 [(0, .ref (aS 0)), (1, .int (nI 3)), (2, .int i), (3, .int (nI 2)), (4, .int j), (5, .int k)] := hl
  refine lv_iload_n hx hb dX5_copy_0 rfl (lv_at hl 1 rfl) ?_
  refine callPS (rest := []) G K F_X5_isSheet (c_X5_isSheet (nI 3)) (va_P_nil D s.heap) ml_X5_121 (by decide) (by decide) rfl hl.1 (Nat.le_of_ble_eq_true rfl) dX5_copy_1 ?_
  refine b_eq G (tgt := 14) dX5_copy_4 (by decide) (fun c4 => ?_) (fun c4 => ?_)
  · -- taken at 4
    exact absurd ⟨3, by decide, rfl⟩ c4
  · -- not taken at 4
    refine lv_iload_n hx hb dX5_copy_7 rfl (lv_at hl 3 rfl) ?_
    refine callPS (rest := []) G K F_X5_isSheet (c_X5_isSheet (nI 2)) (va_P_nil D s.heap) ml_X5_121 (by decide) (by decide) rfl hl.1 (Nat.le_of_ble_eq_true rfl) dX5_copy_8 ?_
    refine b_ne G (tgt := 17) dX5_copy_11 (by decide) (fun c11 => ?_) (fun c11 => ?_)
    · -- taken at 11
      refine lv_aload_n hx hb dX5_copy_17 rfl (lv_at hl 0 rfl) ?_
      refine f_get G K w.1 inX5 0 (ci := 5) rfl rfl 5 rfl fl_X5_46 (v := .ref (aS 1)) rfl dX5_copy_18 ?_
      refine lv_iload_n hx hb dX5_copy_21 rfl (lv_at hl 1 rfl) ?_
      refine a_ldR G K w.1 1 2 (a := (aS 1)) rfl rfl (by omega) (by decide) dX5_copy_22 ?_
      refine lv_astore (lv' := [(6, .ref (aE 3)), (0, .ref (aS 0)), (1, .int (nI 3)), (2, .int i), (3, .int (nI 2)), (4, .int j), (5, .int k)]) hx hb dX5_copy_23 hl (by decide) rfl (fun ls hl => ?_)
      refine lv_aload_n hx hb dX5_copy_25 rfl (lv_at hl 1 rfl) ?_
      refine f_get G K w.1 inX5 0 (ci := 5) rfl rfl 5 rfl fl_X5_46 (v := .ref (aS 1)) rfl dX5_copy_26 ?_
      refine lv_iload_n hx hb dX5_copy_29 rfl (lv_at hl 4 rfl) ?_
      refine a_ldR G K w.1 1 2 (a := (aS 1)) rfl rfl (by omega) (by decide) dX5_copy_30 ?_
      refine lv_astore (lv' := [(7, .ref (aE 2)), (6, .ref (aE 3)), (0, .ref (aS 0)), (1, .int (nI 3)), (2, .int i), (3, .int (nI 2)), (4, .int j), (5, .int k)]) hx hb dX5_copy_31 hl (by decide) rfl (fun ls hl => ?_)
      refine lv_aload hx hb dX5_copy_33 (lv_at hl 1 rfl) ?_
      refine f_get G K w.1 inX3 37 (ci := 3) rfl rfl 1 rfl fl_X5_124 (v := .int (bI (lo 3))) rfl dX5_copy_35 ?_
      refine b_ne G (tgt := 49) dX5_copy_38 (by decide) (fun c38 => ?_) (fun c38 => ?_)
      · -- taken at 38
        exact absurd (Or.inl c38) hf9
      · -- not taken at 38
        refine lv_aload hx hb dX5_copy_41 (lv_at hl 0 rfl) ?_
        refine f_get G K w.1 inX3 36 (ci := 3) rfl rfl 1 rfl fl_X5_124 (v := .int (bI (lo 2))) rfl dX5_copy_43 ?_
        refine b_eq G (tgt := 55) dX5_copy_46 (by decide) (fun c46 => ?_) (fun c46 => ?_)
        · -- taken at 46
          refine lv_aload hx hb dX5_copy_55 (lv_at hl 1 rfl) ?_
          refine f_get G K w.1 inX3 37 (ci := 3) rfl rfl 2 rfl fl_X5_247 (v := .int (nI (fo 3))) rfl dX5_copy_57 ?_
          refine lv_aload hx hb dX5_copy_60 (lv_at hl 0 rfl) ?_
          refine f_get G K w.1 inX3 36 (ci := 3) rfl rfl 2 rfl fl_X5_247 (v := .int (nI (fo 2))) rfl dX5_copy_62 ?_
          refine c_eq G (tgt := 74) (by omega) (by omega) dX5_copy_65 (by decide) (fun c65 => ?_) (fun c65 => ?_)
          · -- taken at 65
            refine lv_aload hx hb dX5_copy_74 (lv_at hl 1 rfl) ?_
            refine lv_iload_n hx hb dX5_copy_76 rfl (lv_at hl 4 rfl) ?_
            refine lv_iload hx hb dX5_copy_77 (lv_at hl 7 rfl) ?_
            refine callPV (As := [.int i, .int k]) (rest := []) (q0 := 0) (ci := 3) G K F_X3_hasItems (c_X3_hasItems (aE 3) (aE 7) (lo 3) (fo 3) (si 3) (it 3) i k ⟨hfo 3, hsi 3⟩) (w.1.sub (ws' := (wT cI (aE 3) (aE 7) (lo 3) (fo 3) (si 3) (it 3))) [37, 41] rfl) ml_X5_250 rfl rfl rfl (by decide) (by decide) rfl hl.1 (Nat.le_of_ble_eq_true rfl) dX5_copy_79 ?_
            refine b_eq G (tgt := 97) dX5_copy_82 (by decide) (fun c82 => ?_) (fun c82 => ?_)
            · -- taken at 82
              refine lv_aload_n hx hb dX5_copy_97 rfl (lv_at hl 2 rfl) ?_
              refine lv_iconst (v := (nI 2)) hx hb dX5_copy_98 (by decide) ?_
              refine callMF (As := [.int (nI 2)]) (rest := []) (q0 := 0) (ci := 5) (ws' := ((wS cS aS (aW 0) (aB 0) (aC 0) (aH 0) (aT 0) aE (nI 2)) ++ ((wW cI aW n cl th ki va re fi) ++ ((wB cI aB bt bs) ++ ((wC cI cZ aC (aW 0) (aB 0) to co ke nu fw) ++ ((wH cI aH (aW 0) lt tr sh cr ct cu ve ta ch) ++ ((wH cI aT (aW 0) lt2 tr2 sh2 cr2 ct2 cu2 ve2 ta2 ch2) ++ (wE cI aE lo fo si it)))))))) G K hA w F_X5_find (c_X5_find aS aE la aW n cl th ki va re fi aB bt bs aC to co ke nu fw aH lt tr sh cr ct cu ve ta ch aT lt2 tr2 sh2 cr2 ct2 cu2 ve2 ta2 ch2 lo fo si it 2 J S B9 C9 H9 U9 E9) ml_X5_128 rfl rfl rfl (by decide) (by decide) rfl hl.1 (Nat.le_of_ble_eq_true rfl) dX5_copy_99 (fun Hp1 lo2 w => ?_)
              exact hret _ _ _ _ _ _ rfl rfl w dX5_copy_102
            · -- not taken at 82
              refine lv_aload hx hb dX5_copy_85 (lv_at hl 0 rfl) ?_
              refine lv_iload hx hb dX5_copy_87 (lv_at hl 6 rfl) ?_
              refine lv_iload hx hb dX5_copy_89 (lv_at hl 7 rfl) ?_
              refine callPV (As := [.int j, .int k]) (rest := []) (q0 := 0) (ci := 3) G K F_X3_hasItems (c_X3_hasItems (aE 2) (aE 6) (lo 2) (fo 2) (si 2) (it 2) j k ⟨hfo 2, hsi 2⟩) (w.1.sub (ws' := (wT cI (aE 2) (aE 6) (lo 2) (fo 2) (si 2) (it 2))) [36, 40] rfl) ml_X5_250 rfl rfl rfl (by decide) (by decide) rfl hl.1 (Nat.le_of_ble_eq_true rfl) dX5_copy_91 ?_
              refine b_ne G (tgt := 103) dX5_copy_94 (by decide) (fun c94 => ?_) (fun c94 => ?_)
              · -- taken at 94
                exact absurd ⟨c82, c94⟩ hk9
              · -- not taken at 94
                refine lv_aload_n hx hb dX5_copy_97 rfl (lv_at hl 2 rfl) ?_
                refine lv_iconst (v := (nI 2)) hx hb dX5_copy_98 (by decide) ?_
                refine callMF (As := [.int (nI 2)]) (rest := []) (q0 := 0) (ci := 5) (ws' := ((wS cS aS (aW 0) (aB 0) (aC 0) (aH 0) (aT 0) aE (nI 2)) ++ ((wW cI aW n cl th ki va re fi) ++ ((wB cI aB bt bs) ++ ((wC cI cZ aC (aW 0) (aB 0) to co ke nu fw) ++ ((wH cI aH (aW 0) lt tr sh cr ct cu ve ta ch) ++ ((wH cI aT (aW 0) lt2 tr2 sh2 cr2 ct2 cu2 ve2 ta2 ch2) ++ (wE cI aE lo fo si it)))))))) G K hA w F_X5_find (c_X5_find aS aE la aW n cl th ki va re fi aB bt bs aC to co ke nu fw aH lt tr sh cr ct cu ve ta ch aT lt2 tr2 sh2 cr2 ct2 cu2 ve2 ta2 ch2 lo fo si it 2 J S B9 C9 H9 U9 E9) ml_X5_128 rfl rfl rfl (by decide) (by decide) rfl hl.1 (Nat.le_of_ble_eq_true rfl) dX5_copy_99 (fun Hp3 lo4 w => ?_)
                exact hret _ _ _ _ _ _ rfl rfl w dX5_copy_102
          · -- not taken at 65
            exact absurd hc9 c65
        · -- not taken at 46
          exact absurd (Or.inr c46) hf9
    · -- not taken at 11
      exact absurd ⟨2, by decide, rfl⟩ c11
set_option maxHeartbeats 4000000 in
set_option maxRecDepth 100000 in
theorem c_X5_copy_ok32 (aS : Nat → Nat) (aE : Nat → Nat) (la : Int32) (aW : Nat → Nat) (n : Nat) (cl : Nat) (th : Nat → Nat) (ki : Nat → Nat) (va : Nat → Nat) (re : Nat → Nat) (fi : Nat → Nat) (aB : Nat → Nat) (bt : Nat → Nat) (bs : Nat) (aC : Nat → Nat) (to : Nat → Prop) (co : Nat → Nat) (ke : Nat → Int32) (nu : Nat → Int32) (fw : Nat → Nat) (aH : Nat → Nat) (lt : Nat → Option Nat) (tr : Nat → Nat) (sh : Nat → Nat) (cr : Nat → Nat) (ct : Nat → Nat) (cu : Nat → Nat) (ve : Nat → Nat) (ta : Nat → Nat) (ch : Nat) (aT : Nat → Nat) (lt2 : Nat → Option Nat) (tr2 : Nat → Nat) (sh2 : Nat → Nat) (cr2 : Nat → Nat) (ct2 : Nat → Nat) (cu2 : Nat → Nat) (ve2 : Nat → Nat) (ta2 : Nat → Nat) (ch2 : Nat) (lo : Nat → Prop) (fo : Nat → Nat) (si : Nat → Nat) (it : Nat → Nat → Int32) (i : Nat) (j : Nat) (k : Nat) (J : IW n cl th ki va re fi) (S : SW n cl re fi) (B9 : (∀ j, bt j ≤ 255) ∧ bs ≤ 216) (C9 : (∀ j, co j ≤ 400) ∧ (∀ j, fw j ≤ 15)) (H9 : IHd lt tr sh cr ct cu ve ta ch) (U9 : IHd lt2 tr2 sh2 cr2 ct2 cu2 ve2 ta2 ch2) (E9 : (∀ j, fo j ≤ 2) ∧ (∀ j, si j ≤ 60)) (hf9 : ¬ (lo 3 ∨ lo 2)) (hc9 : fo 3 = fo 2) (hi9 : i + k ≤ si 3) (hj9 : j + k ≤ si 2) : CM l D (TY cI cZ cS) yX5_copy cX5_copy 8 (some .int) 1 [.ref (aS 0), .int (nI 3), .int (nI i), .int (nI 2), .int (nI j), .int (nI k)] ((wS cS aS (aW 0) (aB 0) (aC 0) (aH 0) (aT 0) aE la) ++ ((wW cI aW n cl th ki va re fi) ++ ((wB cI aB bt bs) ++ ((wC cI cZ aC (aW 0) (aB 0) to co ke nu fw) ++ ((wH cI aH (aW 0) lt tr sh cr ct cu ve ta ch) ++ ((wH cI aT (aW 0) lt2 tr2 sh2 cr2 ct2 cu2 ve2 ta2 ch2) ++ (wE cI aE lo fo si it))))))) (some (.int (nI 1))) ((wS cS aS (aW 0) (aB 0) (aC 0) (aH 0) (aT 0) aE la) ++ ((wW cI aW n cl th ki va re fi) ++ ((wB cI aB bt bs) ++ ((wC cI cZ aC (aW 0) (aB 0) to co ke nu fw) ++ ((wH cI aH (aW 0) lt tr sh cr ct cu ve ta ch) ++ ((wH cI aT (aW 0) lt2 tr2 sh2 cr2 ct2 cu2 ve2 ta2 ch2) ++ (wE cI aE lo fo si (va_up it 2 (va_cpy (it 3) (it 2) i j k))))))))) := by
  refine CM.ofI (by decide +kernel) (Nat.le_of_ble_eq_true rfl) (nar_int _) ?_
  intro p e s m args below meth c Q A G K hA w hret ls hl
  obtain ⟨hx, hb, hml, hown, hts⟩ := id G
  obtain ⟨hn, hcl, hth, hki, hva, hre, hfi⟩ := id J
  obtain ⟨hbt, hbs⟩ := id B9
  obtain ⟨hco, hfw⟩ := id C9
  obtain ⟨hlt, htr, hsh, hcr, hct, hcu, hve, hta, hch⟩ := id H9
  obtain ⟨hlt2, htr2, hsh2, hcr2, hct2, hcu2, hve2, hta2, hch2⟩ := id U9
  obtain ⟨hfo, hsi⟩ := id E9
  have hs9 := hsi 3
  have ht9 := hsi 2
  have hq1 := hfo 3
  have hq2 := hfo 2
  have hl : lv_has ls 8 [(0, .ref (aS 0)), (1, .int (nI 3)), (2, .int (nI i)), (3, .int (nI 2)), (4, .int (nI j)), (5, .int (nI k))] := hl
  refine lv_iload_n hx hb dX5_copy_0 rfl (lv_at hl 1 rfl) ?_
  refine callPS (rest := []) G K F_X5_isSheet (c_X5_isSheet (nI 3)) (va_P_nil D s.heap) ml_X5_121 (by decide) (by decide) rfl hl.1 (Nat.le_of_ble_eq_true rfl) dX5_copy_1 ?_
  refine b_eq G (tgt := 14) dX5_copy_4 (by decide) (fun c4 => ?_) (fun c4 => ?_)
  · -- taken at 4
    exact absurd ⟨3, by decide, rfl⟩ c4
  · -- not taken at 4
    refine lv_iload_n hx hb dX5_copy_7 rfl (lv_at hl 3 rfl) ?_
    refine callPS (rest := []) G K F_X5_isSheet (c_X5_isSheet (nI 2)) (va_P_nil D s.heap) ml_X5_121 (by decide) (by decide) rfl hl.1 (Nat.le_of_ble_eq_true rfl) dX5_copy_8 ?_
    refine b_ne G (tgt := 17) dX5_copy_11 (by decide) (fun c11 => ?_) (fun c11 => ?_)
    · -- taken at 11
      refine lv_aload_n hx hb dX5_copy_17 rfl (lv_at hl 0 rfl) ?_
      refine f_get G K w.1 inX5 0 (ci := 5) rfl rfl 5 rfl fl_X5_46 (v := .ref (aS 1)) rfl dX5_copy_18 ?_
      refine lv_iload_n hx hb dX5_copy_21 rfl (lv_at hl 1 rfl) ?_
      refine a_ldR G K w.1 1 2 (a := (aS 1)) rfl rfl (by omega) (by decide) dX5_copy_22 ?_
      refine lv_astore (lv' := [(6, .ref (aE 3)), (0, .ref (aS 0)), (1, .int (nI 3)), (2, .int (nI i)), (3, .int (nI 2)), (4, .int (nI j)), (5, .int (nI k))]) hx hb dX5_copy_23 hl (by decide) rfl (fun ls hl => ?_)
      refine lv_aload_n hx hb dX5_copy_25 rfl (lv_at hl 1 rfl) ?_
      refine f_get G K w.1 inX5 0 (ci := 5) rfl rfl 5 rfl fl_X5_46 (v := .ref (aS 1)) rfl dX5_copy_26 ?_
      refine lv_iload_n hx hb dX5_copy_29 rfl (lv_at hl 4 rfl) ?_
      refine a_ldR G K w.1 1 2 (a := (aS 1)) rfl rfl (by omega) (by decide) dX5_copy_30 ?_
      refine lv_astore (lv' := [(7, .ref (aE 2)), (6, .ref (aE 3)), (0, .ref (aS 0)), (1, .int (nI 3)), (2, .int (nI i)), (3, .int (nI 2)), (4, .int (nI j)), (5, .int (nI k))]) hx hb dX5_copy_31 hl (by decide) rfl (fun ls hl => ?_)
      refine lv_aload hx hb dX5_copy_33 (lv_at hl 1 rfl) ?_
      refine f_get G K w.1 inX3 37 (ci := 3) rfl rfl 1 rfl fl_X5_124 (v := .int (bI (lo 3))) rfl dX5_copy_35 ?_
      refine b_ne G (tgt := 49) dX5_copy_38 (by decide) (fun c38 => ?_) (fun c38 => ?_)
      · -- taken at 38
        exact absurd (Or.inl c38) hf9
      · -- not taken at 38
        refine lv_aload hx hb dX5_copy_41 (lv_at hl 0 rfl) ?_
        refine f_get G K w.1 inX3 36 (ci := 3) rfl rfl 1 rfl fl_X5_124 (v := .int (bI (lo 2))) rfl dX5_copy_43 ?_
        refine b_eq G (tgt := 55) dX5_copy_46 (by decide) (fun c46 => ?_) (fun c46 => ?_)
        · -- taken at 46
          refine lv_aload hx hb dX5_copy_55 (lv_at hl 1 rfl) ?_
          refine f_get G K w.1 inX3 37 (ci := 3) rfl rfl 2 rfl fl_X5_247 (v := .int (nI (fo 3))) rfl dX5_copy_57 ?_
          refine lv_aload hx hb dX5_copy_60 (lv_at hl 0 rfl) ?_
          refine f_get G K w.1 inX3 36 (ci := 3) rfl rfl 2 rfl fl_X5_247 (v := .int (nI (fo 2))) rfl dX5_copy_62 ?_
          refine c_eq G (tgt := 74) (by omega) (by omega) dX5_copy_65 (by decide) (fun c65 => ?_) (fun c65 => ?_)
          · -- taken at 65
            refine lv_aload hx hb dX5_copy_74 (lv_at hl 1 rfl) ?_
            refine lv_iload_n hx hb dX5_copy_76 rfl (lv_at hl 4 rfl) ?_
            refine lv_iload hx hb dX5_copy_77 (lv_at hl 7 rfl) ?_
            refine callPV (As := [.int (nI i), .int (nI k)]) (rest := []) (q0 := 0) (ci := 3) G K F_X3_hasItems (c_X3_hasItems (aE 3) (aE 7) (lo 3) (fo 3) (si 3) (it 3) (nI i) (nI k) ⟨hfo 3, hsi 3⟩) (w.1.sub (ws' := (wT cI (aE 3) (aE 7) (lo 3) (fo 3) (si 3) (it 3))) [37, 41] rfl) ml_X5_250 rfl rfl rfl (by decide) (by decide) rfl hl.1 (Nat.le_of_ble_eq_true rfl) dX5_copy_79 ?_
            refine b_eq G (tgt := 97) dX5_copy_82 (by decide) (fun c82 => ?_) (fun c82 => ?_)
            · -- taken at 82
              exact absurd ⟨i, k, hi9, rfl, rfl⟩ c82
            · -- not taken at 82
              refine lv_aload hx hb dX5_copy_85 (lv_at hl 0 rfl) ?_
              refine lv_iload hx hb dX5_copy_87 (lv_at hl 6 rfl) ?_
              refine lv_iload hx hb dX5_copy_89 (lv_at hl 7 rfl) ?_
              refine callPV (As := [.int (nI j), .int (nI k)]) (rest := []) (q0 := 0) (ci := 3) G K F_X3_hasItems (c_X3_hasItems (aE 2) (aE 6) (lo 2) (fo 2) (si 2) (it 2) (nI j) (nI k) ⟨hfo 2, hsi 2⟩) (w.1.sub (ws' := (wT cI (aE 2) (aE 6) (lo 2) (fo 2) (si 2) (it 2))) [36, 40] rfl) ml_X5_250 rfl rfl rfl (by decide) (by decide) rfl hl.1 (Nat.le_of_ble_eq_true rfl) dX5_copy_91 ?_
              refine b_ne G (tgt := 103) dX5_copy_94 (by decide) (fun c94 => ?_) (fun c94 => ?_)
              · -- taken at 94
                refine lv_aload hx hb dX5_copy_103 (lv_at hl 1 rfl) ?_
                refine f_get G K w.1 inX3 37 (ci := 3) rfl rfl 0 rfl fl_X5_132 (v := .ref (aE 7)) rfl dX5_copy_105 ?_
                refine lv_iload_n hx hb dX5_copy_108 rfl (lv_at hl 4 rfl) ?_
                refine lv_aload hx hb dX5_copy_109 (lv_at hl 0 rfl) ?_
                refine f_get G K w.1 inX3 36 (ci := 3) rfl rfl 0 rfl fl_X5_132 (v := .ref (aE 6)) rfl dX5_copy_111 ?_
                refine lv_iload hx hb dX5_copy_114 (lv_at hl 6 rfl) ?_
                refine lv_iload hx hb dX5_copy_116 (lv_at hl 7 rfl) ?_
                refine acp (f := (it 3)) (g := (it 2)) (sp := i) (dp := j) (k := k) G K w (hml.trans hl.1.symm) ml_X5_253 41 40 rfl rfl (by omega) (by omega) (by decide) (Nat.le_of_ble_eq_true rfl) (Nat.le_of_ble_eq_true rfl) dX5_copy_118 (w2 := ((wS cS aS (aW 0) (aB 0) (aC 0) (aH 0) (aT 0) aE la) ++ ((wW cI aW n cl th ki va re fi) ++ ((wB cI aB bt bs) ++ ((wC cI cZ aC (aW 0) (aB 0) to co ke nu fw) ++ ((wH cI aH (aW 0) lt tr sh cr ct cu ve ta ch) ++ ((wH cI aT (aW 0) lt2 tr2 sh2 cr2 ct2 cu2 ve2 ta2 ch2) ++ (wE cI aE lo fo si (va_up it 2 (va_cpy (it 3) (it 2) i j k)))))))))) rfl (fun Hp1 lo2 w => ?_)
                refine lv_iconst (v := (nI 1)) hx hb dX5_copy_121 (by decide) ?_
                exact hret _ _ _ _ _ _ rfl rfl w dX5_copy_122
              · -- not taken at 94
                exact absurd ⟨j, k, hj9, rfl, rfl⟩ c94
          · -- not taken at 65
            exact absurd hc9 c65
        · -- not taken at 46
          exact absurd (Or.inr c46) hf9
    · -- not taken at 11
      exact absurd ⟨2, by decide, rfl⟩ c11
set_option maxHeartbeats 4000000 in
set_option maxRecDepth 100000 in
theorem c_X5_copy_nul33 (aS : Nat → Nat) (aE : Nat → Nat) (la : Int32) (aW : Nat → Nat) (n : Nat) (cl : Nat) (th : Nat → Nat) (ki : Nat → Nat) (va : Nat → Nat) (re : Nat → Nat) (fi : Nat → Nat) (aB : Nat → Nat) (bt : Nat → Nat) (bs : Nat) (aC : Nat → Nat) (to : Nat → Prop) (co : Nat → Nat) (ke : Nat → Int32) (nu : Nat → Int32) (fw : Nat → Nat) (aH : Nat → Nat) (lt : Nat → Option Nat) (tr : Nat → Nat) (sh : Nat → Nat) (cr : Nat → Nat) (ct : Nat → Nat) (cu : Nat → Nat) (ve : Nat → Nat) (ta : Nat → Nat) (ch : Nat) (aT : Nat → Nat) (lt2 : Nat → Option Nat) (tr2 : Nat → Nat) (sh2 : Nat → Nat) (cr2 : Nat → Nat) (ct2 : Nat → Nat) (cu2 : Nat → Nat) (ve2 : Nat → Nat) (ta2 : Nat → Nat) (ch2 : Nat) (lo : Nat → Prop) (fo : Nat → Nat) (si : Nat → Nat) (it : Nat → Nat → Int32) (i : Int32) (j : Int32) (k : Int32) (J : IW n cl th ki va re fi) (S : SW n cl re fi) (B9 : (∀ j, bt j ≤ 255) ∧ bs ≤ 216) (C9 : (∀ j, co j ≤ 400) ∧ (∀ j, fw j ≤ 15)) (H9 : IHd lt tr sh cr ct cu ve ta ch) (U9 : IHd lt2 tr2 sh2 cr2 ct2 cu2 ve2 ta2 ch2) (E9 : (∀ j, fo j ≤ 2) ∧ (∀ j, si j ≤ 60)) (hf9 : lo 3 ∨ lo 3) : CM l D (TY cI cZ cS) yX5_copy cX5_copy 8 (some .int) 1 [.ref (aS 0), .int (nI 3), .int i, .int (nI 3), .int j, .int k] ((wS cS aS (aW 0) (aB 0) (aC 0) (aH 0) (aT 0) aE la) ++ ((wW cI aW n cl th ki va re fi) ++ ((wB cI aB bt bs) ++ ((wC cI cZ aC (aW 0) (aB 0) to co ke nu fw) ++ ((wH cI aH (aW 0) lt tr sh cr ct cu ve ta ch) ++ ((wH cI aT (aW 0) lt2 tr2 sh2 cr2 ct2 cu2 ve2 ta2 ch2) ++ (wE cI aE lo fo si it))))))) (some (.int ((-10) - (nI 1)))) ((wS cS aS (aW 0) (aB 0) (aC 0) (aH 0) (aT 0) aE (nI 1)) ++ ((wW cI aW n cl th ki va re fi) ++ ((wB cI aB bt bs) ++ ((wC cI cZ aC (aW 0) (aB 0) to co ke nu fw) ++ ((wH cI aH (aW 0) lt tr sh cr ct cu ve ta ch) ++ ((wH cI aT (aW 0) lt2 tr2 sh2 cr2 ct2 cu2 ve2 ta2 ch2) ++ (wE cI aE lo fo si it))))))) := by
  refine CM.ofI (by decide +kernel) (Nat.le_of_ble_eq_true rfl) (nar_int _) ?_
  intro p e s m args below meth c Q A G K hA w hret ls hl
  obtain ⟨hx, hb, hml, hown, hts⟩ := id G
  obtain ⟨hn, hcl, hth, hki, hva, hre, hfi⟩ := id J
  obtain ⟨hbt, hbs⟩ := id B9
  obtain ⟨hco, hfw⟩ := id C9
  obtain ⟨hlt, htr, hsh, hcr, hct, hcu, hve, hta, hch⟩ := id H9
  obtain ⟨hlt2, htr2, hsh2, hcr2, hct2, hcu2, hve2, hta2, hch2⟩ := id U9
  obtain ⟨hfo, hsi⟩ := id E9
  have hl : lv_has ls 8 [(0, .ref (aS 0)), (1, .int (nI 3)), (2, .int i), (3, .int (nI 3)), (4, .int j), (5, .int k)] := hl
  refine lv_iload_n hx hb dX5_copy_0 rfl (lv_at hl 1 rfl) ?_
  refine callPS (rest := []) G K F_X5_isSheet (c_X5_isSheet (nI 3)) (va_P_nil D s.heap) ml_X5_121 (by decide) (by decide) rfl hl.1 (Nat.le_of_ble_eq_true rfl) dX5_copy_1 ?_
  refine b_eq G (tgt := 14) dX5_copy_4 (by decide) (fun c4 => ?_) (fun c4 => ?_)
  · -- taken at 4
    exact absurd ⟨3, by decide, rfl⟩ c4
  · -- not taken at 4
    refine lv_iload_n hx hb dX5_copy_7 rfl (lv_at hl 3 rfl) ?_
    refine callPS (rest := []) G K F_X5_isSheet (c_X5_isSheet (nI 3)) (va_P_nil D s.heap) ml_X5_121 (by decide) (by decide) rfl hl.1 (Nat.le_of_ble_eq_true rfl) dX5_copy_8 ?_
    refine b_ne G (tgt := 17) dX5_copy_11 (by decide) (fun c11 => ?_) (fun c11 => ?_)
    · -- taken at 11
      refine lv_aload_n hx hb dX5_copy_17 rfl (lv_at hl 0 rfl) ?_
      refine f_get G K w.1 inX5 0 (ci := 5) rfl rfl 5 rfl fl_X5_46 (v := .ref (aS 1)) rfl dX5_copy_18 ?_
      refine lv_iload_n hx hb dX5_copy_21 rfl (lv_at hl 1 rfl) ?_
      refine a_ldR G K w.1 1 2 (a := (aS 1)) rfl rfl (by omega) (by decide) dX5_copy_22 ?_
      refine lv_astore (lv' := [(6, .ref (aE 3)), (0, .ref (aS 0)), (1, .int (nI 3)), (2, .int i), (3, .int (nI 3)), (4, .int j), (5, .int k)]) hx hb dX5_copy_23 hl (by decide) rfl (fun ls hl => ?_)
      refine lv_aload_n hx hb dX5_copy_25 rfl (lv_at hl 1 rfl) ?_
      refine f_get G K w.1 inX5 0 (ci := 5) rfl rfl 5 rfl fl_X5_46 (v := .ref (aS 1)) rfl dX5_copy_26 ?_
      refine lv_iload_n hx hb dX5_copy_29 rfl (lv_at hl 4 rfl) ?_
      refine a_ldR G K w.1 1 2 (a := (aS 1)) rfl rfl (by omega) (by decide) dX5_copy_30 ?_
      refine lv_astore (lv' := [(7, .ref (aE 3)), (6, .ref (aE 3)), (0, .ref (aS 0)), (1, .int (nI 3)), (2, .int i), (3, .int (nI 3)), (4, .int j), (5, .int k)]) hx hb dX5_copy_31 hl (by decide) rfl (fun ls hl => ?_)
      refine lv_aload hx hb dX5_copy_33 (lv_at hl 1 rfl) ?_
      refine f_get G K w.1 inX3 37 (ci := 3) rfl rfl 1 rfl fl_X5_124 (v := .int (bI (lo 3))) rfl dX5_copy_35 ?_
      refine b_ne G (tgt := 49) dX5_copy_38 (by decide) (fun c38 => ?_) (fun c38 => ?_)
      · -- taken at 38
        refine lv_aload_n hx hb dX5_copy_49 rfl (lv_at hl 2 rfl) ?_
        refine lv_iconst (v := (nI 1)) hx hb dX5_copy_50 (by decide) ?_
        refine callMF (As := [.int (nI 1)]) (rest := []) (q0 := 0) (ci := 5) (ws' := ((wS cS aS (aW 0) (aB 0) (aC 0) (aH 0) (aT 0) aE (nI 1)) ++ ((wW cI aW n cl th ki va re fi) ++ ((wB cI aB bt bs) ++ ((wC cI cZ aC (aW 0) (aB 0) to co ke nu fw) ++ ((wH cI aH (aW 0) lt tr sh cr ct cu ve ta ch) ++ ((wH cI aT (aW 0) lt2 tr2 sh2 cr2 ct2 cu2 ve2 ta2 ch2) ++ (wE cI aE lo fo si it)))))))) G K hA w F_X5_find (c_X5_find aS aE la aW n cl th ki va re fi aB bt bs aC to co ke nu fw aH lt tr sh cr ct cu ve ta ch aT lt2 tr2 sh2 cr2 ct2 cu2 ve2 ta2 ch2 lo fo si it 1 J S B9 C9 H9 U9 E9) ml_X5_128 rfl rfl rfl (by decide) (by decide) rfl hl.1 (Nat.le_of_ble_eq_true rfl) dX5_copy_51 (fun Hp1 lo2 w => ?_)
        exact hret _ _ _ _ _ _ rfl rfl w dX5_copy_54
      · -- not taken at 38
        refine lv_aload hx hb dX5_copy_41 (lv_at hl 0 rfl) ?_
        refine f_get G K w.1 inX3 37 (ci := 3) rfl rfl 1 rfl fl_X5_124 (v := .int (bI (lo 3))) rfl dX5_copy_43 ?_
        refine b_eq G (tgt := 55) dX5_copy_46 (by decide) (fun c46 => ?_) (fun c46 => ?_)
        · -- taken at 46
          exact absurd hf9 (fun h => h.elim c38 c46)
        · -- not taken at 46
          refine lv_aload_n hx hb dX5_copy_49 rfl (lv_at hl 2 rfl) ?_
          refine lv_iconst (v := (nI 1)) hx hb dX5_copy_50 (by decide) ?_
          refine callMF (As := [.int (nI 1)]) (rest := []) (q0 := 0) (ci := 5) (ws' := ((wS cS aS (aW 0) (aB 0) (aC 0) (aH 0) (aT 0) aE (nI 1)) ++ ((wW cI aW n cl th ki va re fi) ++ ((wB cI aB bt bs) ++ ((wC cI cZ aC (aW 0) (aB 0) to co ke nu fw) ++ ((wH cI aH (aW 0) lt tr sh cr ct cu ve ta ch) ++ ((wH cI aT (aW 0) lt2 tr2 sh2 cr2 ct2 cu2 ve2 ta2 ch2) ++ (wE cI aE lo fo si it)))))))) G K hA w F_X5_find (c_X5_find aS aE la aW n cl th ki va re fi aB bt bs aC to co ke nu fw aH lt tr sh cr ct cu ve ta ch aT lt2 tr2 sh2 cr2 ct2 cu2 ve2 ta2 ch2 lo fo si it 1 J S B9 C9 H9 U9 E9) ml_X5_128 rfl rfl rfl (by decide) (by decide) rfl hl.1 (Nat.le_of_ble_eq_true rfl) dX5_copy_51 (fun Hp3 lo4 w => ?_)
          exact hret _ _ _ _ _ _ rfl rfl w dX5_copy_54
    · -- not taken at 11
      exact absurd ⟨3, by decide, rfl⟩ c11
set_option maxHeartbeats 4000000 in
set_option maxRecDepth 100000 in
theorem c_X5_copy_sto33 (aS : Nat → Nat) (aE : Nat → Nat) (la : Int32) (aW : Nat → Nat) (n : Nat) (cl : Nat) (th : Nat → Nat) (ki : Nat → Nat) (va : Nat → Nat) (re : Nat → Nat) (fi : Nat → Nat) (aB : Nat → Nat) (bt : Nat → Nat) (bs : Nat) (aC : Nat → Nat) (to : Nat → Prop) (co : Nat → Nat) (ke : Nat → Int32) (nu : Nat → Int32) (fw : Nat → Nat) (aH : Nat → Nat) (lt : Nat → Option Nat) (tr : Nat → Nat) (sh : Nat → Nat) (cr : Nat → Nat) (ct : Nat → Nat) (cu : Nat → Nat) (ve : Nat → Nat) (ta : Nat → Nat) (ch : Nat) (aT : Nat → Nat) (lt2 : Nat → Option Nat) (tr2 : Nat → Nat) (sh2 : Nat → Nat) (cr2 : Nat → Nat) (ct2 : Nat → Nat) (cu2 : Nat → Nat) (ve2 : Nat → Nat) (ta2 : Nat → Nat) (ch2 : Nat) (lo : Nat → Prop) (fo : Nat → Nat) (si : Nat → Nat) (it : Nat → Nat → Int32) (i : Int32) (j : Int32) (k : Int32) (J : IW n cl th ki va re fi) (S : SW n cl re fi) (B9 : (∀ j, bt j ≤ 255) ∧ bs ≤ 216) (C9 : (∀ j, co j ≤ 400) ∧ (∀ j, fw j ≤ 15)) (H9 : IHd lt tr sh cr ct cu ve ta ch) (U9 : IHd lt2 tr2 sh2 cr2 ct2 cu2 ve2 ta2 ch2) (E9 : (∀ j, fo j ≤ 2) ∧ (∀ j, si j ≤ 60)) (hf9 : ¬ (lo 3 ∨ lo 3)) (hc9 : fo 3 ≠ fo 3) : CM l D (TY cI cZ cS) yX5_copy cX5_copy 8 (some .int) 1 [.ref (aS 0), .int (nI 3), .int i, .int (nI 3), .int j, .int k] ((wS cS aS (aW 0) (aB 0) (aC 0) (aH 0) (aT 0) aE la) ++ ((wW cI aW n cl th ki va re fi) ++ ((wB cI aB bt bs) ++ ((wC cI cZ aC (aW 0) (aB 0) to co ke nu fw) ++ ((wH cI aH (aW 0) lt tr sh cr ct cu ve ta ch) ++ ((wH cI aT (aW 0) lt2 tr2 sh2 cr2 ct2 cu2 ve2 ta2 ch2) ++ (wE cI aE lo fo si it))))))) (some (.int ((-10) - (nI 4)))) ((wS cS aS (aW 0) (aB 0) (aC 0) (aH 0) (aT 0) aE (nI 4)) ++ ((wW cI aW n cl th ki va re fi) ++ ((wB cI aB bt bs) ++ ((wC cI cZ aC (aW 0) (aB 0) to co ke nu fw) ++ ((wH cI aH (aW 0) lt tr sh cr ct cu ve ta ch) ++ ((wH cI aT (aW 0) lt2 tr2 sh2 cr2 ct2 cu2 ve2 ta2 ch2) ++ (wE cI aE lo fo si it))))))) := by
  refine CM.ofI (by decide +kernel) (Nat.le_of_ble_eq_true rfl) (nar_int _) ?_
  intro p e s m args below meth c Q A G K hA w hret ls hl
  obtain ⟨hx, hb, hml, hown, hts⟩ := id G
  obtain ⟨hn, hcl, hth, hki, hva, hre, hfi⟩ := id J
  obtain ⟨hbt, hbs⟩ := id B9
  obtain ⟨hco, hfw⟩ := id C9
  obtain ⟨hlt, htr, hsh, hcr, hct, hcu, hve, hta, hch⟩ := id H9
  obtain ⟨hlt2, htr2, hsh2, hcr2, hct2, hcu2, hve2, hta2, hch2⟩ := id U9
  obtain ⟨hfo, hsi⟩ := id E9
  have hq1 := hfo 3
  have hq2 := hfo 3
  have hl : lv_has ls 8 [(0, .ref (aS 0)), (1, .int (nI 3)), (2, .int i), (3, .int (nI 3)), (4, .int j), (5, .int k)] := hl
  refine lv_iload_n hx hb dX5_copy_0 rfl (lv_at hl 1 rfl) ?_
  refine callPS (rest := []) G K F_X5_isSheet (c_X5_isSheet (nI 3)) (va_P_nil D s.heap) ml_X5_121 (by decide) (by decide) rfl hl.1 (Nat.le_of_ble_eq_true rfl) dX5_copy_1 ?_
  refine b_eq G (tgt := 14) dX5_copy_4 (by decide) (fun c4 => ?_) (fun c4 => ?_)
  · -- taken at 4
    exact absurd ⟨3, by decide, rfl⟩ c4
  · -- not taken at 4
    refine lv_iload_n hx hb dX5_copy_7 rfl (lv_at hl 3 rfl) ?_
    refine callPS (rest := []) G K F_X5_isSheet (c_X5_isSheet (nI 3)) (va_P_nil D s.heap) ml_X5_121 (by decide) (by decide) rfl hl.1 (Nat.le_of_ble_eq_true rfl) dX5_copy_8 ?_
    refine b_ne G (tgt := 17) dX5_copy_11 (by decide) (fun c11 => ?_) (fun c11 => ?_)
    · -- taken at 11
      refine lv_aload_n hx hb dX5_copy_17 rfl (lv_at hl 0 rfl) ?_
      refine f_get G K w.1 inX5 0 (ci := 5) rfl rfl 5 rfl fl_X5_46 (v := .ref (aS 1)) rfl dX5_copy_18 ?_
      refine lv_iload_n hx hb dX5_copy_21 rfl (lv_at hl 1 rfl) ?_
      refine a_ldR G K w.1 1 2 (a := (aS 1)) rfl rfl (by omega) (by decide) dX5_copy_22 ?_
      refine lv_astore (lv' := [(6, .ref (aE 3)), (0, .ref (aS 0)), (1, .int (nI 3)), (2, .int i), (3, .int (nI 3)), (4, .int j), (5, .int k)]) hx hb dX5_copy_23 hl (by decide) rfl (fun ls hl => ?_)
      refine lv_aload_n hx hb dX5_copy_25 rfl (lv_at hl 1 rfl) ?_
      refine f_get G K w.1 inX5 0 (ci := 5) rfl rfl 5 rfl fl_X5_46 (v := .ref (aS 1)) rfl dX5_copy_26 ?_
      refine lv_iload_n hx hb dX5_copy_29 rfl (lv_at hl 4 rfl) ?_
      refine a_ldR G K w.1 1 2 (a := (aS 1)) rfl rfl (by omega) (by decide) dX5_copy_30 ?_
      refine lv_astore (lv' := [(7, .ref (aE 3)), (6, .ref (aE 3)), (0, .ref (aS 0)), (1, .int (nI 3)), (2, .int i), (3, .int (nI 3)), (4, .int j), (5, .int k)]) hx hb dX5_copy_31 hl (by decide) rfl (fun ls hl => ?_)
      refine lv_aload hx hb dX5_copy_33 (lv_at hl 1 rfl) ?_
      refine f_get G K w.1 inX3 37 (ci := 3) rfl rfl 1 rfl fl_X5_124 (v := .int (bI (lo 3))) rfl dX5_copy_35 ?_
      refine b_ne G (tgt := 49) dX5_copy_38 (by decide) (fun c38 => ?_) (fun c38 => ?_)
      · -- taken at 38
        exact absurd (Or.inl c38) hf9
      · -- not taken at 38
        refine lv_aload hx hb dX5_copy_41 (lv_at hl 0 rfl) ?_
        refine f_get G K w.1 inX3 37 (ci := 3) rfl rfl 1 rfl fl_X5_124 (v := .int (bI (lo 3))) rfl dX5_copy_43 ?_
        refine b_eq G (tgt := 55) dX5_copy_46 (by decide) (fun c46 => ?_) (fun c46 => ?_)
        · -- taken at 46
          refine lv_aload hx hb dX5_copy_55 (lv_at hl 1 rfl) ?_
          refine f_get G K w.1 inX3 37 (ci := 3) rfl rfl 2 rfl fl_X5_247 (v := .int (nI (fo 3))) rfl dX5_copy_57 ?_
          refine lv_aload hx hb dX5_copy_60 (lv_at hl 0 rfl) ?_
          refine f_get G K w.1 inX3 37 (ci := 3) rfl rfl 2 rfl fl_X5_247 (v := .int (nI (fo 3))) rfl dX5_copy_62 ?_
          refine c_eq G (tgt := 74) (by omega) (by omega) dX5_copy_65 (by decide) (fun c65 => ?_) (fun c65 => ?_)
          · -- taken at 65
            exact absurd c65 hc9
          · -- not taken at 65
            refine lv_aload_n hx hb dX5_copy_68 rfl (lv_at hl 2 rfl) ?_
            refine lv_iconst (v := (nI 4)) hx hb dX5_copy_69 (by decide) ?_
            refine callMF (As := [.int (nI 4)]) (rest := []) (q0 := 0) (ci := 5) (ws' := ((wS cS aS (aW 0) (aB 0) (aC 0) (aH 0) (aT 0) aE (nI 4)) ++ ((wW cI aW n cl th ki va re fi) ++ ((wB cI aB bt bs) ++ ((wC cI cZ aC (aW 0) (aB 0) to co ke nu fw) ++ ((wH cI aH (aW 0) lt tr sh cr ct cu ve ta ch) ++ ((wH cI aT (aW 0) lt2 tr2 sh2 cr2 ct2 cu2 ve2 ta2 ch2) ++ (wE cI aE lo fo si it)))))))) G K hA w F_X5_find (c_X5_find aS aE la aW n cl th ki va re fi aB bt bs aC to co ke nu fw aH lt tr sh cr ct cu ve ta ch aT lt2 tr2 sh2 cr2 ct2 cu2 ve2 ta2 ch2 lo fo si it 4 J S B9 C9 H9 U9 E9) ml_X5_128 rfl rfl rfl (by decide) (by decide) rfl hl.1 (Nat.le_of_ble_eq_true rfl) dX5_copy_70 (fun Hp1 lo2 w => ?_)
            exact hret _ _ _ _ _ _ rfl rfl w dX5_copy_73
        · -- not taken at 46
          exact absurd (Or.inr c46) hf9
    · -- not taken at 11
      exact absurd ⟨3, by decide, rfl⟩ c11
set_option maxHeartbeats 4000000 in
set_option maxRecDepth 100000 in
theorem c_X5_copy_idx33 (aS : Nat → Nat) (aE : Nat → Nat) (la : Int32) (aW : Nat → Nat) (n : Nat) (cl : Nat) (th : Nat → Nat) (ki : Nat → Nat) (va : Nat → Nat) (re : Nat → Nat) (fi : Nat → Nat) (aB : Nat → Nat) (bt : Nat → Nat) (bs : Nat) (aC : Nat → Nat) (to : Nat → Prop) (co : Nat → Nat) (ke : Nat → Int32) (nu : Nat → Int32) (fw : Nat → Nat) (aH : Nat → Nat) (lt : Nat → Option Nat) (tr : Nat → Nat) (sh : Nat → Nat) (cr : Nat → Nat) (ct : Nat → Nat) (cu : Nat → Nat) (ve : Nat → Nat) (ta : Nat → Nat) (ch : Nat) (aT : Nat → Nat) (lt2 : Nat → Option Nat) (tr2 : Nat → Nat) (sh2 : Nat → Nat) (cr2 : Nat → Nat) (ct2 : Nat → Nat) (cu2 : Nat → Nat) (ve2 : Nat → Nat) (ta2 : Nat → Nat) (ch2 : Nat) (lo : Nat → Prop) (fo : Nat → Nat) (si : Nat → Nat) (it : Nat → Nat → Int32) (i : Int32) (j : Int32) (k : Int32) (J : IW n cl th ki va re fi) (S : SW n cl re fi) (B9 : (∀ j, bt j ≤ 255) ∧ bs ≤ 216) (C9 : (∀ j, co j ≤ 400) ∧ (∀ j, fw j ≤ 15)) (H9 : IHd lt tr sh cr ct cu ve ta ch) (U9 : IHd lt2 tr2 sh2 cr2 ct2 cu2 ve2 ta2 ch2) (E9 : (∀ j, fo j ≤ 2) ∧ (∀ j, si j ≤ 60)) (hf9 : ¬ (lo 3 ∨ lo 3)) (hc9 : fo 3 = fo 3) (hk9 : ¬ (okH (si 3) i k ∧ okH (si 3) j k)) : CM l D (TY cI cZ cS) yX5_copy cX5_copy 8 (some .int) 1 [.ref (aS 0), .int (nI 3), .int i, .int (nI 3), .int j, .int k] ((wS cS aS (aW 0) (aB 0) (aC 0) (aH 0) (aT 0) aE la) ++ ((wW cI aW n cl th ki va re fi) ++ ((wB cI aB bt bs) ++ ((wC cI cZ aC (aW 0) (aB 0) to co ke nu fw) ++ ((wH cI aH (aW 0) lt tr sh cr ct cu ve ta ch) ++ ((wH cI aT (aW 0) lt2 tr2 sh2 cr2 ct2 cu2 ve2 ta2 ch2) ++ (wE cI aE lo fo si it))))))) (some (.int ((-10) - (nI 2)))) ((wS cS aS (aW 0) (aB 0) (aC 0) (aH 0) (aT 0) aE (nI 2)) ++ ((wW cI aW n cl th ki va re fi) ++ ((wB cI aB bt bs) ++ ((wC cI cZ aC (aW 0) (aB 0) to co ke nu fw) ++ ((wH cI aH (aW 0) lt tr sh cr ct cu ve ta ch) ++ ((wH cI aT (aW 0) lt2 tr2 sh2 cr2 ct2 cu2 ve2 ta2 ch2) ++ (wE cI aE lo fo si it))))))) := by
  refine CM.ofI (by decide +kernel) (Nat.le_of_ble_eq_true rfl) (nar_int _) ?_
  intro p e s m args below meth c Q A G K hA w hret ls hl
  obtain ⟨hx, hb, hml, hown, hts⟩ := id G
  obtain ⟨hn, hcl, hth, hki, hva, hre, hfi⟩ := id J
  obtain ⟨hbt, hbs⟩ := id B9
  obtain ⟨hco, hfw⟩ := id C9
  obtain ⟨hlt, htr, hsh, hcr, hct, hcu, hve, hta, hch⟩ := id H9
  obtain ⟨hlt2, htr2, hsh2, hcr2, hct2, hcu2, hve2, hta2, hch2⟩ := id U9
  obtain ⟨hfo, hsi⟩ := id E9
  have hq1 := hfo 3
  have hq2 := hfo 3
  have hl : lv_has ls 8 [(0, .ref (aS 0)), (1, .int (nI 3)), (2, .int i), (3, .int (nI 3)), (4, .int j), (5, .int k)] := hl
  refine lv_iload_n hx hb dX5_copy_0 rfl (lv_at hl 1 rfl) ?_
  refine callPS (rest := []) G K F_X5_isSheet (c_X5_isSheet (nI 3)) (va_P_nil D s.heap) ml_X5_121 (by decide) (by decide) rfl hl.1 (Nat.le_of_ble_eq_true rfl) dX5_copy_1 ?_
  refine b_eq G (tgt := 14) dX5_copy_4 (by decide) (fun c4 => ?_) (fun c4 => ?_)
  · -- taken at 4
    exact absurd ⟨3, by decide, rfl⟩ c4
  · -- not taken at 4
    refine lv_iload_n hx hb dX5_copy_7 rfl (lv_at hl 3 rfl) ?_
    refine callPS (rest := []) G K F_X5_isSheet (c_X5_isSheet (nI 3)) (va_P_nil D s.heap) ml_X5_121 (by decide) (by decide) rfl hl.1 (Nat.le_of_ble_eq_true rfl) dX5_copy_8 ?_
    refine b_ne G (tgt := 17) dX5_copy_11 (by decide) (fun c11 => ?_) (fun c11 => ?_)
    · -- taken at 11
      refine lv_aload_n hx hb dX5_copy_17 rfl (lv_at hl 0 rfl) ?_
      refine f_get G K w.1 inX5 0 (ci := 5) rfl rfl 5 rfl fl_X5_46 (v := .ref (aS 1)) rfl dX5_copy_18 ?_
      refine lv_iload_n hx hb dX5_copy_21 rfl (lv_at hl 1 rfl) ?_
      refine a_ldR G K w.1 1 2 (a := (aS 1)) rfl rfl (by omega) (by decide) dX5_copy_22 ?_
      refine lv_astore (lv' := [(6, .ref (aE 3)), (0, .ref (aS 0)), (1, .int (nI 3)), (2, .int i), (3, .int (nI 3)), (4, .int j), (5, .int k)]) hx hb dX5_copy_23 hl (by decide) rfl (fun ls hl => ?_)
      refine lv_aload_n hx hb dX5_copy_25 rfl (lv_at hl 1 rfl) ?_
      refine f_get G K w.1 inX5 0 (ci := 5) rfl rfl 5 rfl fl_X5_46 (v := .ref (aS 1)) rfl dX5_copy_26 ?_
      refine lv_iload_n hx hb dX5_copy_29 rfl (lv_at hl 4 rfl) ?_
      refine a_ldR G K w.1 1 2 (a := (aS 1)) rfl rfl (by omega) (by decide) dX5_copy_30 ?_
      refine lv_astore (lv' := [(7, .ref (aE 3)), (6, .ref (aE 3)), (0, .ref (aS 0)), (1, .int (nI 3)), (2, .int i), (3, .int (nI 3)), (4, .int j), (5, .int k)]) hx hb dX5_copy_31 hl (by decide) rfl (fun ls hl => ?_)
      refine lv_aload hx hb dX5_copy_33 (lv_at hl 1 rfl) ?_
      refine f_get G K w.1 inX3 37 (ci := 3) rfl rfl 1 rfl fl_X5_124 (v := .int (bI (lo 3))) rfl dX5_copy_35 ?_
      refine b_ne G (tgt := 49) dX5_copy_38 (by decide) (fun c38 => ?_) (fun c38 => ?_)
      · -- taken at 38
        exact absurd (Or.inl c38) hf9
      · -- not taken at 38
        refine lv_aload hx hb dX5_copy_41 (lv_at hl 0 rfl) ?_
        refine f_get G K w.1 inX3 37 (ci := 3) rfl rfl 1 rfl fl_X5_124 (v := .int (bI (lo 3))) rfl dX5_copy_43 ?_
        refine b_eq G (tgt := 55) dX5_copy_46 (by decide) (fun c46 => ?_) (fun c46 => ?_)
        · -- taken at 46
          refine lv_aload hx hb dX5_copy_55 (lv_at hl 1 rfl) ?_
          refine f_get G K w.1 inX3 37 (ci := 3) rfl rfl 2 rfl fl_X5_247 (v := .int (nI (fo 3))) rfl dX5_copy_57 ?_
          refine lv_aload hx hb dX5_copy_60 (lv_at hl 0 rfl) ?_
          refine f_get G K w.1 inX3 37 (ci := 3) rfl rfl 2 rfl fl_X5_247 (v := .int (nI (fo 3))) rfl dX5_copy_62 ?_
          refine c_eq G (tgt := 74) (by omega) (by omega) dX5_copy_65 (by decide) (fun c65 => ?_) (fun c65 => ?_)
          · -- taken at 65
            refine lv_aload hx hb dX5_copy_74 (lv_at hl 1 rfl) ?_
            refine lv_iload_n hx hb dX5_copy_76 rfl (lv_at hl 4 rfl) ?_
            refine lv_iload hx hb dX5_copy_77 (lv_at hl 7 rfl) ?_
            refine callPV (As := [.int i, .int k]) (rest := []) (q0 := 0) (ci := 3) G K F_X3_hasItems (c_X3_hasItems (aE 3) (aE 7) (lo 3) (fo 3) (si 3) (it 3) i k ⟨hfo 3, hsi 3⟩) (w.1.sub (ws' := (wT cI (aE 3) (aE 7) (lo 3) (fo 3) (si 3) (it 3))) [37, 41] rfl) ml_X5_250 rfl rfl rfl (by decide) (by decide) rfl hl.1 (Nat.le_of_ble_eq_true rfl) dX5_copy_79 ?_
            refine b_eq G (tgt := 97) dX5_copy_82 (by decide) (fun c82 => ?_) (fun c82 => ?_)
            · -- taken at 82
              refine lv_aload_n hx hb dX5_copy_97 rfl (lv_at hl 2 rfl) ?_
              refine lv_iconst (v := (nI 2)) hx hb dX5_copy_98 (by decide) ?_
              refine callMF (As := [.int (nI 2)]) (rest := []) (q0 := 0) (ci := 5) (ws' := ((wS cS aS (aW 0) (aB 0) (aC 0) (aH 0) (aT 0) aE (nI 2)) ++ ((wW cI aW n cl th ki va re fi) ++ ((wB cI aB bt bs) ++ ((wC cI cZ aC (aW 0) (aB 0) to co ke nu fw) ++ ((wH cI aH (aW 0) lt tr sh cr ct cu ve ta ch) ++ ((wH cI aT (aW 0) lt2 tr2 sh2 cr2 ct2 cu2 ve2 ta2 ch2) ++ (wE cI aE lo fo si it)))))))) G K hA w F_X5_find (c_X5_find aS aE la aW n cl th ki va re fi aB bt bs aC to co ke nu fw aH lt tr sh cr ct cu ve ta ch aT lt2 tr2 sh2 cr2 ct2 cu2 ve2 ta2 ch2 lo fo si it 2 J S B9 C9 H9 U9 E9) ml_X5_128 rfl rfl rfl (by decide) (by decide) rfl hl.1 (Nat.le_of_ble_eq_true rfl) dX5_copy_99 (fun Hp1 lo2 w => ?_)
              exact hret _ _ _ _ _ _ rfl rfl w dX5_copy_102
            · -- not taken at 82
              refine lv_aload hx hb dX5_copy_85 (lv_at hl 0 rfl) ?_
              refine lv_iload hx hb dX5_copy_87 (lv_at hl 6 rfl) ?_
              refine lv_iload hx hb dX5_copy_89 (lv_at hl 7 rfl) ?_
              refine callPV (As := [.int j, .int k]) (rest := []) (q0 := 0) (ci := 3) G K F_X3_hasItems (c_X3_hasItems (aE 3) (aE 7) (lo 3) (fo 3) (si 3) (it 3) j k ⟨hfo 3, hsi 3⟩) (w.1.sub (ws' := (wT cI (aE 3) (aE 7) (lo 3) (fo 3) (si 3) (it 3))) [37, 41] rfl) ml_X5_250 rfl rfl rfl (by decide) (by decide) rfl hl.1 (Nat.le_of_ble_eq_true rfl) dX5_copy_91 ?_
              refine b_ne G (tgt := 103) dX5_copy_94 (by decide) (fun c94 => ?_) (fun c94 => ?_)
              · -- taken at 94
                exact absurd ⟨c82, c94⟩ hk9
              · -- not taken at 94
                refine lv_aload_n hx hb dX5_copy_97 rfl (lv_at hl 2 rfl) ?_
                refine lv_iconst (v := (nI 2)) hx hb dX5_copy_98 (by decide) ?_
                refine callMF (As := [.int (nI 2)]) (rest := []) (q0 := 0) (ci := 5) (ws' := ((wS cS aS (aW 0) (aB 0) (aC 0) (aH 0) (aT 0) aE (nI 2)) ++ ((wW cI aW n cl th ki va re fi) ++ ((wB cI aB bt bs) ++ ((wC cI cZ aC (aW 0) (aB 0) to co ke nu fw) ++ ((wH cI aH (aW 0) lt tr sh cr ct cu ve ta ch) ++ ((wH cI aT (aW 0) lt2 tr2 sh2 cr2 ct2 cu2 ve2 ta2 ch2) ++ (wE cI aE lo fo si it)))))))) G K hA w F_X5_find (c_X5_find aS aE la aW n cl th ki va re fi aB bt bs aC to co ke nu fw aH lt tr sh cr ct cu ve ta ch aT lt2 tr2 sh2 cr2 ct2 cu2 ve2 ta2 ch2 lo fo si it 2 J S B9 C9 H9 U9 E9) ml_X5_128 rfl rfl rfl (by decide) (by decide) rfl hl.1 (Nat.le_of_ble_eq_true rfl) dX5_copy_99 (fun Hp3 lo4 w => ?_)
                exact hret _ _ _ _ _ _ rfl rfl w dX5_copy_102
          · -- not taken at 65
            exact absurd hc9 c65
        · -- not taken at 46
          exact absurd (Or.inr c46) hf9
    · -- not taken at 11
      exact absurd ⟨3, by decide, rfl⟩ c11
set_option maxHeartbeats 4000000 in
set_option maxRecDepth 100000 in
theorem c_X5_copy_ok33 (aS : Nat → Nat) (aE : Nat → Nat) (la : Int32) (aW : Nat → Nat) (n : Nat) (cl : Nat) (th : Nat → Nat) (ki : Nat → Nat) (va : Nat → Nat) (re : Nat → Nat) (fi : Nat → Nat) (aB : Nat → Nat) (bt : Nat → Nat) (bs : Nat) (aC : Nat → Nat) (to : Nat → Prop) (co : Nat → Nat) (ke : Nat → Int32) (nu : Nat → Int32) (fw : Nat → Nat) (aH : Nat → Nat) (lt : Nat → Option Nat) (tr : Nat → Nat) (sh : Nat → Nat) (cr : Nat → Nat) (ct : Nat → Nat) (cu : Nat → Nat) (ve : Nat → Nat) (ta : Nat → Nat) (ch : Nat) (aT : Nat → Nat) (lt2 : Nat → Option Nat) (tr2 : Nat → Nat) (sh2 : Nat → Nat) (cr2 : Nat → Nat) (ct2 : Nat → Nat) (cu2 : Nat → Nat) (ve2 : Nat → Nat) (ta2 : Nat → Nat) (ch2 : Nat) (lo : Nat → Prop) (fo : Nat → Nat) (si : Nat → Nat) (it : Nat → Nat → Int32) (i : Nat) (j : Nat) (k : Nat) (J : IW n cl th ki va re fi) (S : SW n cl re fi) (B9 : (∀ j, bt j ≤ 255) ∧ bs ≤ 216) (C9 : (∀ j, co j ≤ 400) ∧ (∀ j, fw j ≤ 15)) (H9 : IHd lt tr sh cr ct cu ve ta ch) (U9 : IHd lt2 tr2 sh2 cr2 ct2 cu2 ve2 ta2 ch2) (E9 : (∀ j, fo j ≤ 2) ∧ (∀ j, si j ≤ 60)) (hf9 : ¬ (lo 3 ∨ lo 3)) (hc9 : fo 3 = fo 3) (hi9 : i + k ≤ si 3) (hj9 : j + k ≤ si 3) : CM l D (TY cI cZ cS) yX5_copy cX5_copy 8 (some .int) 1 [.ref (aS 0), .int (nI 3), .int (nI i), .int (nI 3), .int (nI j), .int (nI k)] ((wS cS aS (aW 0) (aB 0) (aC 0) (aH 0) (aT 0) aE la) ++ ((wW cI aW n cl th ki va re fi) ++ ((wB cI aB bt bs) ++ ((wC cI cZ aC (aW 0) (aB 0) to co ke nu fw) ++ ((wH cI aH (aW 0) lt tr sh cr ct cu ve ta ch) ++ ((wH cI aT (aW 0) lt2 tr2 sh2 cr2 ct2 cu2 ve2 ta2 ch2) ++ (wE cI aE lo fo si it))))))) (some (.int (nI 1))) ((wS cS aS (aW 0) (aB 0) (aC 0) (aH 0) (aT 0) aE la) ++ ((wW cI aW n cl th ki va re fi) ++ ((wB cI aB bt bs) ++ ((wC cI cZ aC (aW 0) (aB 0) to co ke nu fw) ++ ((wH cI aH (aW 0) lt tr sh cr ct cu ve ta ch) ++ ((wH cI aT (aW 0) lt2 tr2 sh2 cr2 ct2 cu2 ve2 ta2 ch2) ++ (wE cI aE lo fo si (va_up it 3 (va_cpy (it 3) (it 3) i j k))))))))) := by
  refine CM.ofI (by decide +kernel) (Nat.le_of_ble_eq_true rfl) (nar_int _) ?_
  intro p e s m args below meth c Q A G K hA w hret ls hl
  obtain ⟨hx, hb, hml, hown, hts⟩ := id G
  obtain ⟨hn, hcl, hth, hki, hva, hre, hfi⟩ := id J
  obtain ⟨hbt, hbs⟩ := id B9
  obtain ⟨hco, hfw⟩ := id C9
  obtain ⟨hlt, htr, hsh, hcr, hct, hcu, hve, hta, hch⟩ := id H9
  obtain ⟨hlt2, htr2, hsh2, hcr2, hct2, hcu2, hve2, hta2, hch2⟩ := id U9
  obtain ⟨hfo, hsi⟩ := id E9
  have hs9 := hsi 3
  have ht9 := hsi 3
  have hq1 := hfo 3
  have hq2 := hfo 3
  have hl : lv_has ls 8 [(0, .ref (aS 0)), (1, .int (nI 3)), (2, .int (nI i)), (3, .int (nI 3)), (4, .int (nI j)), (5, .int (nI k))] := hl
  refine lv_iload_n hx hb dX5_copy_0 rfl (lv_at hl 1 rfl) ?_
  refine callPS (rest := []) G K F_X5_isSheet (c_X5_isSheet (nI 3)) (va_P_nil D s.heap) ml_X5_121 (by decide) (by decide) rfl hl.1 (Nat.le_of_ble_eq_true rfl) dX5_copy_1 ?_
  refine b_eq G (tgt := 14) dX5_copy_4 (by decide) (fun c4 => ?_) (fun c4 => ?_)
  · -- taken at 4
    exact absurd ⟨3, by decide, rfl⟩ c4
  · -- not taken at 4
    refine lv_iload_n hx hb dX5_copy_7 rfl (lv_at hl 3 rfl) ?_
    refine callPS (rest := []) G K F_X5_isSheet (c_X5_isSheet (nI 3)) (va_P_nil D s.heap) ml_X5_121 (by decide) (by decide) rfl hl.1 (Nat.le_of_ble_eq_true rfl) dX5_copy_8 ?_
    refine b_ne G (tgt := 17) dX5_copy_11 (by decide) (fun c11 => ?_) (fun c11 => ?_)
    · -- taken at 11
      refine lv_aload_n hx hb dX5_copy_17 rfl (lv_at hl 0 rfl) ?_
      refine f_get G K w.1 inX5 0 (ci := 5) rfl rfl 5 rfl fl_X5_46 (v := .ref (aS 1)) rfl dX5_copy_18 ?_
      refine lv_iload_n hx hb dX5_copy_21 rfl (lv_at hl 1 rfl) ?_
      refine a_ldR G K w.1 1 2 (a := (aS 1)) rfl rfl (by omega) (by decide) dX5_copy_22 ?_
      refine lv_astore (lv' := [(6, .ref (aE 3)), (0, .ref (aS 0)), (1, .int (nI 3)), (2, .int (nI i)), (3, .int (nI 3)), (4, .int (nI j)), (5, .int (nI k))]) hx hb dX5_copy_23 hl (by decide) rfl (fun ls hl => ?_)
      refine lv_aload_n hx hb dX5_copy_25 rfl (lv_at hl 1 rfl) ?_
      refine f_get G K w.1 inX5 0 (ci := 5) rfl rfl 5 rfl fl_X5_46 (v := .ref (aS 1)) rfl dX5_copy_26 ?_
      refine lv_iload_n hx hb dX5_copy_29 rfl (lv_at hl 4 rfl) ?_
      refine a_ldR G K w.1 1 2 (a := (aS 1)) rfl rfl (by omega) (by decide) dX5_copy_30 ?_
      refine lv_astore (lv' := [(7, .ref (aE 3)), (6, .ref (aE 3)), (0, .ref (aS 0)), (1, .int (nI 3)), (2, .int (nI i)), (3, .int (nI 3)), (4, .int (nI j)), (5, .int (nI k))]) hx hb dX5_copy_31 hl (by decide) rfl (fun ls hl => ?_)
      refine lv_aload hx hb dX5_copy_33 (lv_at hl 1 rfl) ?_
      refine f_get G K w.1 inX3 37 (ci := 3) rfl rfl 1 rfl fl_X5_124 (v := .int (bI (lo 3))) rfl dX5_copy_35 ?_
      refine b_ne G (tgt := 49) dX5_copy_38 (by decide) (fun c38 => ?_) (fun c38 => ?_)
      · -- taken at 38
        exact absurd (Or.inl c38) hf9
      · -- not taken at 38
        refine lv_aload hx hb dX5_copy_41 (lv_at hl 0 rfl) ?_
        refine f_get G K w.1 inX3 37 (ci := 3) rfl rfl 1 rfl fl_X5_124 (v := .int (bI (lo 3))) rfl dX5_copy_43 ?_
        refine b_eq G (tgt := 55) dX5_copy_46 (by decide) (fun c46 => ?_) (fun c46 => ?_)
        · -- taken at 46
          refine lv_aload hx hb dX5_copy_55 (lv_at hl 1 rfl) ?_
          refine f_get G K w.1 inX3 37 (ci := 3) rfl rfl 2 rfl fl_X5_247 (v := .int (nI (fo 3))) rfl dX5_copy_57 ?_
          refine lv_aload hx hb dX5_copy_60 (lv_at hl 0 rfl) ?_
          refine f_get G K w.1 inX3 37 (ci := 3) rfl rfl 2 rfl fl_X5_247 (v := .int (nI (fo 3))) rfl dX5_copy_62 ?_
          refine c_eq G (tgt := 74) (by omega) (by omega) dX5_copy_65 (by decide) (fun c65 => ?_) (fun c65 => ?_)
          · -- taken at 65
            refine lv_aload hx hb dX5_copy_74 (lv_at hl 1 rfl) ?_
            refine lv_iload_n hx hb dX5_copy_76 rfl (lv_at hl 4 rfl) ?_
            refine lv_iload hx hb dX5_copy_77 (lv_at hl 7 rfl) ?_
            refine callPV (As := [.int (nI i), .int (nI k)]) (rest := []) (q0 := 0) (ci := 3) G K F_X3_hasItems (c_X3_hasItems (aE 3) (aE 7) (lo 3) (fo 3) (si 3) (it 3) (nI i) (nI k) ⟨hfo 3, hsi 3⟩) (w.1.sub (ws' := (wT cI (aE 3) (aE 7) (lo 3) (fo 3) (si 3) (it 3))) [37, 41] rfl) ml_X5_250 rfl rfl rfl (by decide) (by decide) rfl hl.1 (Nat.le_of_ble_eq_true rfl) dX5_copy_79 ?_
            refine b_eq G (tgt := 97) dX5_copy_82 (by decide) (fun c82 => ?_) (fun c82 => ?_)
            · -- taken at 82
              exact absurd ⟨i, k, hi9, rfl, rfl⟩ c82
            · -- not taken at 82
              refine lv_aload hx hb dX5_copy_85 (lv_at hl 0 rfl) ?_
              refine lv_iload hx hb dX5_copy_87 (lv_at hl 6 rfl) ?_
              refine lv_iload hx hb dX5_copy_89 (lv_at hl 7 rfl) ?_
              refine callPV (As := [.int (nI j), .int (nI k)]) (rest := []) (q0 := 0) (ci := 3) G K F_X3_hasItems (c_X3_hasItems (aE 3) (aE 7) (lo 3) (fo 3) (si 3) (it 3) (nI j) (nI k) ⟨hfo 3, hsi 3⟩) (w.1.sub (ws' := (wT cI (aE 3) (aE 7) (lo 3) (fo 3) (si 3) (it 3))) [37, 41] rfl) ml_X5_250 rfl rfl rfl (by decide) (by decide) rfl hl.1 (Nat.le_of_ble_eq_true rfl) dX5_copy_91 ?_
              refine b_ne G (tgt := 103) dX5_copy_94 (by decide) (fun c94 => ?_) (fun c94 => ?_)
              · -- taken at 94
                refine lv_aload hx hb dX5_copy_103 (lv_at hl 1 rfl) ?_
                refine f_get G K w.1 inX3 37 (ci := 3) rfl rfl 0 rfl fl_X5_132 (v := .ref (aE 7)) rfl dX5_copy_105 ?_
                refine lv_iload_n hx hb dX5_copy_108 rfl (lv_at hl 4 rfl) ?_
                refine lv_aload hx hb dX5_copy_109 (lv_at hl 0 rfl) ?_
                refine f_get G K w.1 inX3 37 (ci := 3) rfl rfl 0 rfl fl_X5_132 (v := .ref (aE 7)) rfl dX5_copy_111 ?_
                refine lv_iload hx hb dX5_copy_114 (lv_at hl 6 rfl) ?_
                refine lv_iload hx hb dX5_copy_116 (lv_at hl 7 rfl) ?_
                refine acp (f := (it 3)) (g := (it 3)) (sp := i) (dp := j) (k := k) G K w (hml.trans hl.1.symm) ml_X5_253 41 41 rfl rfl (by omega) (by omega) (by decide) (Nat.le_of_ble_eq_true rfl) (Nat.le_of_ble_eq_true rfl) dX5_copy_118 (w2 := ((wS cS aS (aW 0) (aB 0) (aC 0) (aH 0) (aT 0) aE la) ++ ((wW cI aW n cl th ki va re fi) ++ ((wB cI aB bt bs) ++ ((wC cI cZ aC (aW 0) (aB 0) to co ke nu fw) ++ ((wH cI aH (aW 0) lt tr sh cr ct cu ve ta ch) ++ ((wH cI aT (aW 0) lt2 tr2 sh2 cr2 ct2 cu2 ve2 ta2 ch2) ++ (wE cI aE lo fo si (va_up it 3 (va_cpy (it 3) (it 3) i j k)))))))))) rfl (fun Hp1 lo2 w => ?_)
                refine lv_iconst (v := (nI 1)) hx hb dX5_copy_121 (by decide) ?_
                exact hret _ _ _ _ _ _ rfl rfl w dX5_copy_122
              · -- not taken at 94
                exact absurd ⟨j, k, hj9, rfl, rfl⟩ c94
          · -- not taken at 65
            exact absurd hc9 c65
        · -- not taken at 46
          exact absurd (Or.inr c46) hf9
    · -- not taken at 11
      exact absurd ⟨3, by decide, rfl⟩ c11

end
