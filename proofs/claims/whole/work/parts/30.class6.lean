section
variable {l : Launch} {D : va_G} {cI cZ cS : ClassId}

set_option maxHeartbeats 4000000 in
set_option maxRecDepth 100000 in
theorem c_X5_find (aS : Nat → Nat) (aE : Nat → Nat) (la : Int32) (aW : Nat → Nat) (n : Nat) (cl : Nat) (th : Nat → Nat) (ki : Nat → Nat) (va : Nat → Nat) (re : Nat → Nat) (fi : Nat → Nat) (aB : Nat → Nat) (bt : Nat → Nat) (bs : Nat) (aC : Nat → Nat) (to : Nat → Prop) (co : Nat → Nat) (ke : Nat → Int32) (nu : Nat → Int32) (fw : Nat → Nat) (aH : Nat → Nat) (lt : Nat → Option Nat) (tr : Nat → Nat) (sh : Nat → Nat) (cr : Nat → Nat) (ct : Nat → Nat) (cu : Nat → Nat) (ve : Nat → Nat) (ta : Nat → Nat) (ch : Nat) (aT : Nat → Nat) (lt2 : Nat → Option Nat) (tr2 : Nat → Nat) (sh2 : Nat → Nat) (cr2 : Nat → Nat) (ct2 : Nat → Nat) (cu2 : Nat → Nat) (ve2 : Nat → Nat) (ta2 : Nat → Nat) (ch2 : Nat) (lo : Nat → Prop) (fo : Nat → Nat) (si : Nat → Nat) (it : Nat → Nat → Int32) (f : Nat) (J : IW n cl th ki va re fi) (S : SW n cl re fi) (B9 : (∀ j, bt j ≤ 255) ∧ bs ≤ 216) (C9 : (∀ j, co j ≤ 400) ∧ (∀ j, fw j ≤ 15)) (H9 : IHd lt tr sh cr ct cu ve ta ch) (U9 : IHd lt2 tr2 sh2 cr2 ct2 cu2 ve2 ta2 ch2) (E9 : (∀ j, fo j ≤ 2) ∧ (∀ j, si j ≤ 60)) : CM l D (TY cI cZ cS) yX5_find cX5_find 2 (some .int) 0 [.ref (aS 0), .int (nI f)] ((wS cS aS (aW 0) (aB 0) (aC 0) (aH 0) (aT 0) aE la) ++ ((wW cI aW n cl th ki va re fi) ++ ((wB cI aB bt bs) ++ ((wC cI cZ aC (aW 0) (aB 0) to co ke nu fw) ++ ((wH cI aH (aW 0) lt tr sh cr ct cu ve ta ch) ++ ((wH cI aT (aW 0) lt2 tr2 sh2 cr2 ct2 cu2 ve2 ta2 ch2) ++ (wE cI aE lo fo si it))))))) (some (.int ((-10) - (nI f)))) ((wS cS aS (aW 0) (aB 0) (aC 0) (aH 0) (aT 0) aE (nI f)) ++ ((wW cI aW n cl th ki va re fi) ++ ((wB cI aB bt bs) ++ ((wC cI cZ aC (aW 0) (aB 0) to co ke nu fw) ++ ((wH cI aH (aW 0) lt tr sh cr ct cu ve ta ch) ++ ((wH cI aT (aW 0) lt2 tr2 sh2 cr2 ct2 cu2 ve2 ta2 ch2) ++ (wE cI aE lo fo si it))))))) := by
  refine CM.ofI (by decide +kernel) (Nat.le_of_ble_eq_true rfl) (nar_int _) ?_
  intro p e s m args below meth c Q A G K hA w hret ls hl
  obtain ⟨hx, hb, hml, hown, hts⟩ := id G
  obtain ⟨hn, hcl, hth, hki, hva, hre, hfi⟩ := id J
  obtain ⟨hbt, hbs⟩ := id B9
  obtain ⟨hco, hfw⟩ := id C9
  obtain ⟨hlt, htr, hsh, hcr, hct, hcu, hve, hta, hch⟩ := id H9
  obtain ⟨hlt2, htr2, hsh2, hcr2, hct2, hcu2, hve2, hta2, hch2⟩ := id U9
  obtain ⟨hfo, hsi⟩ := id E9
  have hl : lv_has ls 2 [(0, .ref (aS 0)), (1, .int (nI f))] := hl
  refine lv_aload_n hx hb dX5_find_0 rfl (lv_at hl 0 rfl) ?_
  refine lv_iload_n hx hb dX5_find_1 rfl (lv_at hl 1 rfl) ?_
  refine f_put G K w inX5 tyX5 tyX5_ok nmX5 0 (ci := 5) rfl rfl 6 rfl fl_X5_50 rfl rfl rfl rfl dX5_find_2 (w2 := ((wS cS aS (aW 0) (aB 0) (aC 0) (aH 0) (aT 0) aE (nI f)) ++ ((wW cI aW n cl th ki va re fi) ++ ((wB cI aB bt bs) ++ ((wC cI cZ aC (aW 0) (aB 0) to co ke nu fw) ++ ((wH cI aH (aW 0) lt tr sh cr ct cu ve ta ch) ++ ((wH cI aT (aW 0) lt2 tr2 sh2 cr2 ct2 cu2 ve2 ta2 ch2) ++ (wE cI aE lo fo si it)))))))) rfl (fun Hp1 lo2 w => ?_)
  refine lv_bipush (v := (-10)) hx hb dX5_find_5 (by decide) ?_
  refine lv_iload_n hx hb dX5_find_7 rfl (lv_at hl 1 rfl) ?_
  refine lv_isub hx hb dX5_find_8 ?_
  exact hret _ _ _ _ _ _ rfl rfl w dX5_find_9
set_option maxHeartbeats 4000000 in
set_option maxRecDepth 100000 in
theorem c_X5_takeWrite_bad (aS : Nat → Nat) (aE : Nat → Nat) (la : Int32) (aW : Nat → Nat) (n : Nat) (cl : Nat) (th : Nat → Nat) (ki : Nat → Nat) (va : Nat → Nat) (re : Nat → Nat) (fi : Nat → Nat) (aB : Nat → Nat) (bt : Nat → Nat) (bs : Nat) (aC : Nat → Nat) (to : Nat → Prop) (co : Nat → Nat) (ke : Nat → Int32) (nu : Nat → Int32) (fw : Nat → Nat) (aH : Nat → Nat) (lt : Nat → Option Nat) (tr : Nat → Nat) (sh : Nat → Nat) (cr : Nat → Nat) (ct : Nat → Nat) (cu : Nat → Nat) (ve : Nat → Nat) (ta : Nat → Nat) (ch : Nat) (aT : Nat → Nat) (lt2 : Nat → Option Nat) (tr2 : Nat → Nat) (sh2 : Nat → Nat) (cr2 : Nat → Nat) (ct2 : Nat → Nat) (cu2 : Nat → Nat) (ve2 : Nat → Nat) (ta2 : Nat → Nat) (ch2 : Nat) (lo : Nat → Prop) (fo : Nat → Nat) (si : Nat → Nat) (it : Nat → Nat → Int32) (t : Int32) (k : Int32) (v : Int32) (J : IW n cl th ki va re fi) (S : SW n cl re fi) (B9 : (∀ j, bt j ≤ 255) ∧ bs ≤ 216) (C9 : (∀ j, co j ≤ 400) ∧ (∀ j, fw j ≤ 15)) (H9 : IHd lt tr sh cr ct cu ve ta ch) (U9 : IHd lt2 tr2 sh2 cr2 ct2 cu2 ve2 ta2 ch2) (E9 : (∀ j, fo j ≤ 2) ∧ (∀ j, si j ≤ 60)) (hbad : ¬ okP t k v) : CM l D (TY cI cZ cS) yX5_takeWrite cX5_takeWrite 4 (some .int) 2 [.ref (aS 0), .int t, .int k, .int v] ((wS cS aS (aW 0) (aB 0) (aC 0) (aH 0) (aT 0) aE la) ++ ((wW cI aW n cl th ki va re fi) ++ ((wB cI aB bt bs) ++ ((wC cI cZ aC (aW 0) (aB 0) to co ke nu fw) ++ ((wH cI aH (aW 0) lt tr sh cr ct cu ve ta ch) ++ ((wH cI aT (aW 0) lt2 tr2 sh2 cr2 ct2 cu2 ve2 ta2 ch2) ++ (wE cI aE lo fo si it))))))) (some (.int (-2))) ((wS cS aS (aW 0) (aB 0) (aC 0) (aH 0) (aT 0) aE la) ++ ((wW cI aW n cl th ki va re fi) ++ ((wB cI aB bt bs) ++ ((wC cI cZ aC (aW 0) (aB 0) to co ke nu fw) ++ ((wH cI aH (aW 0) lt tr sh cr ct cu ve ta ch) ++ ((wH cI aT (aW 0) lt2 tr2 sh2 cr2 ct2 cu2 ve2 ta2 ch2) ++ (wE cI aE lo fo si it))))))) := by
  refine CM.ofI (by decide +kernel) (Nat.le_of_ble_eq_true rfl) (nar_int _) ?_
  intro p e s m args below meth c Q A G K hA w hret ls hl
  obtain ⟨hx, hb, hml, hown, hts⟩ := id G
  obtain ⟨hn, hcl, hth, hki, hva, hre, hfi⟩ := id J
  obtain ⟨hbt, hbs⟩ := id B9
  obtain ⟨hco, hfw⟩ := id C9
  obtain ⟨hlt, htr, hsh, hcr, hct, hcu, hve, hta, hch⟩ := id H9
  obtain ⟨hlt2, htr2, hsh2, hcr2, hct2, hcu2, hve2, hta2, hch2⟩ := id U9
  obtain ⟨hfo, hsi⟩ := id E9
  have hl : lv_has ls 4 [(0, .ref (aS 0)), (1, .int t), (2, .int k), (3, .int v)] := hl
  refine lv_iload_n hx hb dX5_takeWrite_0 rfl (lv_at hl 1 rfl) ?_
  refine lv_iload_n hx hb dX5_takeWrite_1 rfl (lv_at hl 2 rfl) ?_
  refine lv_iload_n hx hb dX5_takeWrite_2 rfl (lv_at hl 3 rfl) ?_
  refine callPS (rest := []) G K F_X5_mayBeWrite (c_X5_mayBeWrite t k v) (va_P_nil D s.heap) ml_X5_343 (by decide) (by decide) rfl hl.1 (Nat.le_of_ble_eq_true rfl) dX5_takeWrite_3 ?_
  refine b_ne G (tgt := 12) dX5_takeWrite_6 (by decide) (fun c6 => ?_) (fun c6 => ?_)
  · -- taken at 6
    exact absurd c6 hbad
  · -- not taken at 6
    refine lv_bipush (v := (-2)) hx hb dX5_takeWrite_9 (by decide) ?_
    exact hret _ _ _ _ _ _ rfl rfl w dX5_takeWrite_11
set_option maxHeartbeats 4000000 in
set_option maxRecDepth 100000 in
theorem c_X5_takeWrite_full (aS : Nat → Nat) (aE : Nat → Nat) (la : Int32) (aW : Nat → Nat) (n : Nat) (cl : Nat) (th : Nat → Nat) (ki : Nat → Nat) (va : Nat → Nat) (re : Nat → Nat) (fi : Nat → Nat) (aB : Nat → Nat) (bt : Nat → Nat) (bs : Nat) (aC : Nat → Nat) (to : Nat → Prop) (co : Nat → Nat) (ke : Nat → Int32) (nu : Nat → Int32) (fw : Nat → Nat) (aH : Nat → Nat) (lt : Nat → Option Nat) (tr : Nat → Nat) (sh : Nat → Nat) (cr : Nat → Nat) (ct : Nat → Nat) (cu : Nat → Nat) (ve : Nat → Nat) (ta : Nat → Nat) (ch : Nat) (aT : Nat → Nat) (lt2 : Nat → Option Nat) (tr2 : Nat → Nat) (sh2 : Nat → Nat) (cr2 : Nat → Nat) (ct2 : Nat → Nat) (cu2 : Nat → Nat) (ve2 : Nat → Nat) (ta2 : Nat → Nat) (ch2 : Nat) (lo : Nat → Prop) (fo : Nat → Nat) (si : Nat → Nat) (it : Nat → Nat → Int32) (t : Nat) (k : Nat) (v : Nat) (J : IW n cl th ki va re fi) (S : SW n cl re fi) (B9 : (∀ j, bt j ≤ 255) ∧ bs ≤ 216) (C9 : (∀ j, co j ≤ 400) ∧ (∀ j, fw j ≤ 15)) (H9 : IHd lt tr sh cr ct cu ve ta ch) (U9 : IHd lt2 tr2 sh2 cr2 ct2 cu2 ve2 ta2 ch2) (E9 : (∀ j, fo j ≤ 2) ∧ (∀ j, si j ≤ 60)) (ht9 : t ≤ 15) (hk9 : k ≤ 5) (hv9 : okV k v) (hn9 : n = 40) : CM l D (TY cI cZ cS) yX5_takeWrite cX5_takeWrite 4 (some .int) 2 [.ref (aS 0), .int (nI t), .int (nI k), .int (nI v)] ((wS cS aS (aW 0) (aB 0) (aC 0) (aH 0) (aT 0) aE la) ++ ((wW cI aW n cl th ki va re fi) ++ ((wB cI aB bt bs) ++ ((wC cI cZ aC (aW 0) (aB 0) to co ke nu fw) ++ ((wH cI aH (aW 0) lt tr sh cr ct cu ve ta ch) ++ ((wH cI aT (aW 0) lt2 tr2 sh2 cr2 ct2 cu2 ve2 ta2 ch2) ++ (wE cI aE lo fo si it))))))) (some (.int (-4))) ((wS cS aS (aW 0) (aB 0) (aC 0) (aH 0) (aT 0) aE la) ++ ((wW cI aW n cl th ki va re fi) ++ ((wB cI aB bt bs) ++ ((wC cI cZ aC (aW 0) (aB 0) to co ke nu fw) ++ ((wH cI aH (aW 0) lt tr sh cr ct cu ve ta ch) ++ ((wH cI aT (aW 0) lt2 tr2 sh2 cr2 ct2 cu2 ve2 ta2 ch2) ++ (wE cI aE lo fo si it))))))) := by
  refine CM.ofI (by decide +kernel) (Nat.le_of_ble_eq_true rfl) (nar_int _) ?_
  intro p e s m args below meth c Q A G K hA w hret ls hl
  obtain ⟨hx, hb, hml, hown, hts⟩ := id G
  obtain ⟨hn, hcl, hth, hki, hva, hre, hfi⟩ := id J
  obtain ⟨hbt, hbs⟩ := id B9
  obtain ⟨hco, hfw⟩ := id C9
  obtain ⟨hlt, htr, hsh, hcr, hct, hcu, hve, hta, hch⟩ := id H9
  obtain ⟨hlt2, htr2, hsh2, hcr2, hct2, hcu2, hve2, hta2, hch2⟩ := id U9
  obtain ⟨hfo, hsi⟩ := id E9
  have hl : lv_has ls 4 [(0, .ref (aS 0)), (1, .int (nI t)), (2, .int (nI k)), (3, .int (nI v))] := hl
  refine lv_iload_n hx hb dX5_takeWrite_0 rfl (lv_at hl 1 rfl) ?_
  refine lv_iload_n hx hb dX5_takeWrite_1 rfl (lv_at hl 2 rfl) ?_
  refine lv_iload_n hx hb dX5_takeWrite_2 rfl (lv_at hl 3 rfl) ?_
  refine callPS (rest := []) G K F_X5_mayBeWrite (c_X5_mayBeWrite (nI t) (nI k) (nI v)) (va_P_nil D s.heap) ml_X5_343 (by decide) (by decide) rfl hl.1 (Nat.le_of_ble_eq_true rfl) dX5_takeWrite_3 ?_
  refine b_ne G (tgt := 12) dX5_takeWrite_6 (by decide) (fun c6 => ?_) (fun c6 => ?_)
  · -- taken at 6
    refine lv_aload_n hx hb dX5_takeWrite_12 rfl (lv_at hl 0 rfl) ?_
    refine f_get G K w.1 inX5 0 (ci := 5) rfl rfl 0 rfl fl_X5_12 (v := .ref (aW 0)) rfl dX5_takeWrite_13 ?_
    refine f_get G K w.1 inX4 2 (ci := 4) rfl rfl 5 rfl fl_X5_82 (v := .int (nI n)) rfl dX5_takeWrite_16 ?_
    refine lv_bipush (v := (nI 40)) hx hb dX5_takeWrite_19 (by decide) ?_
    refine c_lt G (tgt := 27) (by omega) (by omega) dX5_takeWrite_21 (by decide) (fun c21 => ?_) (fun c21 => ?_)
    · -- taken at 21
      exact absurd c21 (by omega)
    · -- not taken at 21
      refine lv_bipush (v := (-4)) hx hb dX5_takeWrite_24 (by decide) ?_
      exact hret _ _ _ _ _ _ rfl rfl w dX5_takeWrite_26
  · -- not taken at 6
    exact absurd ⟨t, k, v, ht9, hk9, hv9, rfl, rfl, rfl⟩ c6
set_option maxHeartbeats 4000000 in
set_option maxRecDepth 100000 in
theorem c_X5_takeWrite_ok (aS : Nat → Nat) (aE : Nat → Nat) (la : Int32) (aW : Nat → Nat) (n : Nat) (cl : Nat) (th : Nat → Nat) (ki : Nat → Nat) (va : Nat → Nat) (re : Nat → Nat) (fi : Nat → Nat) (aB : Nat → Nat) (bt : Nat → Nat) (bs : Nat) (aC : Nat → Nat) (to : Nat → Prop) (co : Nat → Nat) (ke : Nat → Int32) (nu : Nat → Int32) (fw : Nat → Nat) (aH : Nat → Nat) (lt : Nat → Option Nat) (tr : Nat → Nat) (sh : Nat → Nat) (cr : Nat → Nat) (ct : Nat → Nat) (cu : Nat → Nat) (ve : Nat → Nat) (ta : Nat → Nat) (ch : Nat) (aT : Nat → Nat) (lt2 : Nat → Option Nat) (tr2 : Nat → Nat) (sh2 : Nat → Nat) (cr2 : Nat → Nat) (ct2 : Nat → Nat) (cu2 : Nat → Nat) (ve2 : Nat → Nat) (ta2 : Nat → Nat) (ch2 : Nat) (lo : Nat → Prop) (fo : Nat → Nat) (si : Nat → Nat) (it : Nat → Nat → Int32) (t : Nat) (k : Nat) (v : Nat) (J : IW n cl th ki va re fi) (S : SW n cl re fi) (B9 : (∀ j, bt j ≤ 255) ∧ bs ≤ 216) (C9 : (∀ j, co j ≤ 400) ∧ (∀ j, fw j ≤ 15)) (H9 : IHd lt tr sh cr ct cu ve ta ch) (U9 : IHd lt2 tr2 sh2 cr2 ct2 cu2 ve2 ta2 ch2) (E9 : (∀ j, fo j ≤ 2) ∧ (∀ j, si j ≤ 60)) (ht9 : t ≤ 15) (hk9 : k ≤ 5) (hv9 : okV k v) (hn9 : n < 40) (hb9 : bs + 5 ≤ 216) : CM l D (TY cI cZ cS) yX5_takeWrite cX5_takeWrite 4 (some .int) 2 [.ref (aS 0), .int (nI t), .int (nI k), .int (nI v)] ((wS cS aS (aW 0) (aB 0) (aC 0) (aH 0) (aT 0) aE la) ++ ((wW cI aW n cl th ki va re fi) ++ ((wB cI aB bt bs) ++ ((wC cI cZ aC (aW 0) (aB 0) to co ke nu fw) ++ ((wH cI aH (aW 0) lt tr sh cr ct cu ve ta ch) ++ ((wH cI aT (aW 0) lt2 tr2 sh2 cr2 ct2 cu2 ve2 ta2 ch2) ++ (wE cI aE lo fo si it))))))) (some (.int (nI (n + 1)))) ((wS cS aS (aW 0) (aB 0) (aC 0) (aH 0) (aT 0) aE la) ++ ((wW cI aW (n + 1) cl (va_up th n t) (va_up ki n k) (va_up va n v) (va_up re n cl) fi) ++ ((wB cI aB (ap5 bt bs t k v) (bs + 5)) ++ ((wC cI cZ aC (aW 0) (aB 0) (va_up to n False) co ke nu fw) ++ ((wH cI aH (aW 0) lt tr sh cr ct cu ve ta ch) ++ ((wH cI aT (aW 0) lt2 tr2 sh2 cr2 ct2 cu2 ve2 ta2 ch2) ++ (wE cI aE lo fo si it))))))) := by
  refine CM.ofI (by decide +kernel) (Nat.le_of_ble_eq_true rfl) (nar_int _) ?_
  intro p e s m args below meth c Q A G K hA w hret ls hl
  obtain ⟨hx, hb, hml, hown, hts⟩ := id G
  obtain ⟨hn, hcl, hth, hki, hva, hre, hfi⟩ := id J
  obtain ⟨hbt, hbs⟩ := id B9
  obtain ⟨hco, hfw⟩ := id C9
  obtain ⟨hlt, htr, hsh, hcr, hct, hcu, hve, hta, hch⟩ := id H9
  obtain ⟨hlt2, htr2, hsh2, hcr2, hct2, hcu2, hve2, hta2, hch2⟩ := id U9
  obtain ⟨hfo, hsi⟩ := id E9
  have hv8 := okV_le hv9
  have hl : lv_has ls 4 [(0, .ref (aS 0)), (1, .int (nI t)), (2, .int (nI k)), (3, .int (nI v))] := hl
  refine lv_iload_n hx hb dX5_takeWrite_0 rfl (lv_at hl 1 rfl) ?_
  refine lv_iload_n hx hb dX5_takeWrite_1 rfl (lv_at hl 2 rfl) ?_
  refine lv_iload_n hx hb dX5_takeWrite_2 rfl (lv_at hl 3 rfl) ?_
  refine callPS (rest := []) G K F_X5_mayBeWrite (c_X5_mayBeWrite (nI t) (nI k) (nI v)) (va_P_nil D s.heap) ml_X5_343 (by decide) (by decide) rfl hl.1 (Nat.le_of_ble_eq_true rfl) dX5_takeWrite_3 ?_
  refine b_ne G (tgt := 12) dX5_takeWrite_6 (by decide) (fun c6 => ?_) (fun c6 => ?_)
  · -- taken at 6
    refine lv_aload_n hx hb dX5_takeWrite_12 rfl (lv_at hl 0 rfl) ?_
    refine f_get G K w.1 inX5 0 (ci := 5) rfl rfl 0 rfl fl_X5_12 (v := .ref (aW 0)) rfl dX5_takeWrite_13 ?_
    refine f_get G K w.1 inX4 2 (ci := 4) rfl rfl 5 rfl fl_X5_82 (v := .int (nI n)) rfl dX5_takeWrite_16 ?_
    refine lv_bipush (v := (nI 40)) hx hb dX5_takeWrite_19 (by decide) ?_
    refine c_lt G (tgt := 27) (by omega) (by omega) dX5_takeWrite_21 (by decide) (fun c21 => ?_) (fun c21 => ?_)
    · -- taken at 21
      refine lv_aload_n hx hb dX5_takeWrite_27 rfl (lv_at hl 0 rfl) ?_
      refine f_get G K w.1 inX5 0 (ci := 5) rfl rfl 2 rfl fl_X5_28 (v := .ref (aC 0)) rfl dX5_takeWrite_28 ?_
      refine lv_aload_n hx hb dX5_takeWrite_31 rfl (lv_at hl 0 rfl) ?_
      refine f_get G K w.1 inX5 0 (ci := 5) rfl rfl 0 rfl fl_X5_12 (v := .ref (aW 0)) rfl dX5_takeWrite_32 ?_
      refine f_get G K w.1 inX4 2 (ci := 4) rfl rfl 5 rfl fl_X5_82 (v := .int (nI n)) rfl dX5_takeWrite_35 ?_
      refine callMV (As := [.int (nI n)]) (rest := []) (q0 := 8) (ci := 1) (wr := ((wS cS aS (aW 0) (aB 0) (aC 0) (aH 0) (aT 0) aE la) ++ ((wH cI aH (aW 0) lt tr sh cr ct cu ve ta ch) ++ ((wH cI aT (aW 0) lt2 tr2 sh2 cr2 ct2 cu2 ve2 ta2 ch2) ++ (wE cI aE lo fo si it))))) (ws2 := ((wS cS aS (aW 0) (aB 0) (aC 0) (aH 0) (aT 0) aE la) ++ ((wW cI aW n cl th ki va re fi) ++ ((wB cI aB bt bs) ++ ((wC cI cZ aC (aW 0) (aB 0) (va_up to n False) co ke nu fw) ++ ((wH cI aH (aW 0) lt tr sh cr ct cu ve ta ch) ++ ((wH cI aT (aW 0) lt2 tr2 sh2 cr2 ct2 cu2 ve2 ta2 ch2) ++ (wE cI aE lo fo si it)))))))) G K hA w F_X1_forget (c_X1_forget aW n cl th ki va re fi aB bt bs aC to co ke nu fw n J S B9 C9 (by omega)) ml_X5_347 [2, 3, 4, 5, 6, 7, 8, 9, 10, 11, 12, 13, 14, 15] [0, 1, 16, 17, 18, 19, 20, 21, 22, 23, 24, 25, 26, 27, 28, 29, 30, 31, 32, 33, 34, 35, 36, 37, 38, 39, 40, 41] [0, 1, 28, 29, 30, 31, 32, 33, 34, 35, 36, 37, 38, 39, 40, 41, 2, 3, 4, 5, 6, 7, 8, 9, 10, 11, 12, 13, 14, 15, 16, 17, 18, 19, 20, 21, 22, 23, 24, 25, 26, 27] rfl rfl rfl rfl rfl rfl rfl rfl rfl rfl (by decide) (by decide) rfl hl.1 (Nat.le_of_ble_eq_true rfl) dX5_takeWrite_38 (fun Hp1 lo2 w => ?_)
      refine lv_aload_n hx hb dX5_takeWrite_41 rfl (lv_at hl 0 rfl) ?_
      refine f_get G K w.1 inX5 0 (ci := 5) rfl rfl 0 rfl fl_X5_12 (v := .ref (aW 0)) rfl dX5_takeWrite_42 ?_
      refine lv_iload_n hx hb dX5_takeWrite_45 rfl (lv_at hl 1 rfl) ?_
      refine lv_iload_n hx hb dX5_takeWrite_46 rfl (lv_at hl 2 rfl) ?_
      refine lv_iload_n hx hb dX5_takeWrite_47 rfl (lv_at hl 3 rfl) ?_
      refine callMV (As := [.int (nI t), .int (nI k), .int (nI v)]) (rest := []) (q0 := 0) (ci := 4) (wr := ((wS cS aS (aW 0) (aB 0) (aC 0) (aH 0) (aT 0) aE la) ++ ((wB cI aB bt bs) ++ ((wC cI cZ aC (aW 0) (aB 0) (va_up to n False) co ke nu fw) ++ ((wH cI aH (aW 0) lt tr sh cr ct cu ve ta ch) ++ ((wH cI aT (aW 0) lt2 tr2 sh2 cr2 ct2 cu2 ve2 ta2 ch2) ++ (wE cI aE lo fo si it))))))) (ws2 := ((wS cS aS (aW 0) (aB 0) (aC 0) (aH 0) (aT 0) aE la) ++ ((wW cI aW (n + 1) cl (va_up th n t) (va_up ki n k) (va_up va n v) (va_up re n cl) fi) ++ ((wB cI aB bt bs) ++ ((wC cI cZ aC (aW 0) (aB 0) (va_up to n False) co ke nu fw) ++ ((wH cI aH (aW 0) lt tr sh cr ct cu ve ta ch) ++ ((wH cI aT (aW 0) lt2 tr2 sh2 cr2 ct2 cu2 ve2 ta2 ch2) ++ (wE cI aE lo fo si it)))))))) G K hA w F_X4_append (c_X4_append aW n cl th ki va re fi t k v J (by omega)) ml_X5_350 [2, 3, 4, 5, 6, 7] [0, 1, 8, 9, 10, 11, 12, 13, 14, 15, 16, 17, 18, 19, 20, 21, 22, 23, 24, 25, 26, 27, 28, 29, 30, 31, 32, 33, 34, 35, 36, 37, 38, 39, 40, 41] [0, 1, 36, 37, 38, 39, 40, 41, 2, 3, 4, 5, 6, 7, 8, 9, 10, 11, 12, 13, 14, 15, 16, 17, 18, 19, 20, 21, 22, 23, 24, 25, 26, 27, 28, 29, 30, 31, 32, 33, 34, 35] rfl rfl rfl rfl rfl rfl rfl rfl rfl rfl (by decide) (by decide) rfl hl.1 (Nat.le_of_ble_eq_true rfl) dX5_takeWrite_48 (fun Hp3 lo4 w => ?_)
      refine lv_aload_n hx hb dX5_takeWrite_51 rfl (lv_at hl 0 rfl) ?_
      refine f_get G K w.1 inX5 0 (ci := 5) rfl rfl 1 rfl fl_X5_19 (v := .ref (aB 0)) rfl dX5_takeWrite_52 ?_
      refine lv_iload_n hx hb dX5_takeWrite_55 rfl (lv_at hl 1 rfl) ?_
      refine lv_iload_n hx hb dX5_takeWrite_56 rfl (lv_at hl 2 rfl) ?_
      refine lv_iload_n hx hb dX5_takeWrite_57 rfl (lv_at hl 3 rfl) ?_
      refine callMV (As := [.int (nI t), .int (nI k), .int (nI v)]) (rest := []) (q0 := 0) (ci := 0) (wr := ((wS cS aS (aW 0) (aB 0) (aC 0) (aH 0) (aT 0) aE la) ++ ((wW cI aW (n + 1) cl (va_up th n t) (va_up ki n k) (va_up va n v) (va_up re n cl) fi) ++ ((wC cI cZ aC (aW 0) (aB 0) (va_up to n False) co ke nu fw) ++ ((wH cI aH (aW 0) lt tr sh cr ct cu ve ta ch) ++ ((wH cI aT (aW 0) lt2 tr2 sh2 cr2 ct2 cu2 ve2 ta2 ch2) ++ (wE cI aE lo fo si it))))))) (ws2 := ((wS cS aS (aW 0) (aB 0) (aC 0) (aH 0) (aT 0) aE la) ++ ((wW cI aW (n + 1) cl (va_up th n t) (va_up ki n k) (va_up va n v) (va_up re n cl) fi) ++ ((wB cI aB (va_up (va_up (va_up (va_up (va_up bt bs 79) (bs + 1) t) (bs + 2) k) (bs + 3) (v / 256)) (bs + 3 + 1) (v % 256)) (bs + 5)) ++ ((wC cI cZ aC (aW 0) (aB 0) (va_up to n False) co ke nu fw) ++ ((wH cI aH (aW 0) lt tr sh cr ct cu ve ta ch) ++ ((wH cI aT (aW 0) lt2 tr2 sh2 cr2 ct2 cu2 ve2 ta2 ch2) ++ (wE cI aE lo fo si it)))))))) G K hA w F_X0_appendWrite (c_X0_appendWrite aB bt bs t k v B9 (by omega) (by omega) (by omega) (by omega)) ml_X5_354 [8, 9] [0, 1, 2, 3, 4, 5, 6, 7, 10, 11, 12, 13, 14, 15, 16, 17, 18, 19, 20, 21, 22, 23, 24, 25, 26, 27, 28, 29, 30, 31, 32, 33, 34, 35, 36, 37, 38, 39, 40, 41] [0, 1, 2, 3, 4, 5, 6, 7, 40, 41, 8, 9, 10, 11, 12, 13, 14, 15, 16, 17, 18, 19, 20, 21, 22, 23, 24, 25, 26, 27, 28, 29, 30, 31, 32, 33, 34, 35, 36, 37, 38, 39] rfl rfl rfl rfl rfl rfl rfl rfl rfl rfl (by decide) (by decide) rfl hl.1 (Nat.le_of_ble_eq_true rfl) dX5_takeWrite_58 (fun Hp5 lo6 w => ?_)
      refine lv_aload_n hx hb dX5_takeWrite_61 rfl (lv_at hl 0 rfl) ?_
      refine f_get G K w.1 inX5 0 (ci := 5) rfl rfl 0 rfl fl_X5_12 (v := .ref (aW 0)) rfl dX5_takeWrite_62 ?_
      refine f_get G K w.1 inX4 2 (ci := 4) rfl rfl 5 rfl fl_X5_82 (v := .int (nI (n + 1))) rfl dX5_takeWrite_65 ?_
      exact hret _ _ _ _ _ _ rfl rfl w dX5_takeWrite_68
    · -- not taken at 21
      exact absurd c21 (by omega)
  · -- not taken at 6
    exact absurd ⟨t, k, v, ht9, hk9, hv9, rfl, rfl, rfl⟩ c6
set_option maxHeartbeats 4000000 in
set_option maxRecDepth 100000 in
theorem c_X5_reckon (aS : Nat → Nat) (aE : Nat → Nat) (la : Int32) (aW : Nat → Nat) (n : Nat) (cl : Nat) (th : Nat → Nat) (ki : Nat → Nat) (va : Nat → Nat) (re : Nat → Nat) (fi : Nat → Nat) (aB : Nat → Nat) (bt : Nat → Nat) (bs : Nat) (aC : Nat → Nat) (to : Nat → Prop) (co : Nat → Nat) (ke : Nat → Int32) (nu : Nat → Int32) (fw : Nat → Nat) (aH : Nat → Nat) (lt : Nat → Option Nat) (tr : Nat → Nat) (sh : Nat → Nat) (cr : Nat → Nat) (ct : Nat → Nat) (cu : Nat → Nat) (ve : Nat → Nat) (ta : Nat → Nat) (ch : Nat) (aT : Nat → Nat) (lt2 : Nat → Option Nat) (tr2 : Nat → Nat) (sh2 : Nat → Nat) (cr2 : Nat → Nat) (ct2 : Nat → Nat) (cu2 : Nat → Nat) (ve2 : Nat → Nat) (ta2 : Nat → Nat) (ch2 : Nat) (lo : Nat → Prop) (fo : Nat → Nat) (si : Nat → Nat) (it : Nat → Nat → Int32) (J : IW n cl th ki va re fi) (S : SW n cl re fi) (B9 : (∀ j, bt j ≤ 255) ∧ bs ≤ 216) (C9 : (∀ j, co j ≤ 400) ∧ (∀ j, fw j ≤ 15)) (H9 : IHd lt tr sh cr ct cu ve ta ch) (U9 : IHd lt2 tr2 sh2 cr2 ct2 cu2 ve2 ta2 ch2) (E9 : (∀ j, fo j ≤ 2) ∧ (∀ j, si j ≤ 60)) : CM l D (TY cI cZ cS) yX5_reckon cX5_reckon 1 none 5 [.ref (aS 0)] ((wS cS aS (aW 0) (aB 0) (aC 0) (aH 0) (aT 0) aE la) ++ ((wW cI aW n cl th ki va re fi) ++ ((wB cI aB bt bs) ++ ((wC cI cZ aC (aW 0) (aB 0) to co ke nu fw) ++ ((wH cI aH (aW 0) lt tr sh cr ct cu ve ta ch) ++ ((wH cI aT (aW 0) lt2 tr2 sh2 cr2 ct2 cu2 ve2 ta2 ch2) ++ (wE cI aE lo fo si it))))))) none ((wS cS aS (aW 0) (aB 0) (aC 0) (aH 0) (aT 0) aE la) ++ ((wW cI aW n cl th ki va re fi) ++ ((wB cI aB bt bs) ++ ((wC cI cZ aC (aW 0) (aB 0) to co ke (rkN (cls ki re cl) (fun vv => nmC bt bs (cov re n cl to co vv)) nu n) (rkF (cls ki re cl) (fun vv => flE re n cl to co vv + cif (nmC bt bs (cov re n cl to co vv) ≠ ke vv) 8 0) fw n)) ++ ((wH cI aH (aW 0) (cLT th re none n lt (cl + 1)) (cTR th ki re none n tr (cl + 1)) (cSH th ki va re none n sh (cl + 1)) (cCR th ki va re none n cr (cl + 1)) (cCT th ki va re none n ct (cl + 1)) (cCU th ki va re none n cu (cl + 1)) (cVE th ki va re none n cl ve cl) (cTA th ki va re none n cl ta cl) (cCH th ki va re none n (cl + 1))) ++ ((wH cI aT (aW 0) lt2 tr2 sh2 cr2 ct2 cu2 ve2 ta2 ch2) ++ (wE cI aE lo fo si it))))))) := by
  refine CM.ofV (by decide +kernel) (Nat.le_of_ble_eq_true rfl) ?_
  intro p e s m args below meth c Q A G K hA w hret ls hl
  obtain ⟨hx, hb, hml, hown, hts⟩ := id G
  obtain ⟨hn, hcl, hth, hki, hva, hre, hfi⟩ := id J
  obtain ⟨hbt, hbs⟩ := id B9
  obtain ⟨hco, hfw⟩ := id C9
  obtain ⟨hlt, htr, hsh, hcr, hct, hcu, hve, hta, hch⟩ := id H9
  obtain ⟨hlt2, htr2, hsh2, hcr2, hct2, hcu2, hve2, hta2, hch2⟩ := id U9
  obtain ⟨hfo, hsi⟩ := id E9
  have hl : lv_has ls 1 [(0, .ref (aS 0))] := hl
  refine lv_aload_n hx hb dX5_reckon_0 rfl (lv_at hl 0 rfl) ?_
  refine f_get G K w.1 inX5 0 (ci := 5) rfl rfl 2 rfl fl_X5_28 (v := .ref (aC 0)) rfl dX5_reckon_1 ?_
  refine callMV (As := []) (rest := []) (q0 := 8) (ci := 1) (wr := ((wS cS aS (aW 0) (aB 0) (aC 0) (aH 0) (aT 0) aE la) ++ ((wH cI aH (aW 0) lt tr sh cr ct cu ve ta ch) ++ ((wH cI aT (aW 0) lt2 tr2 sh2 cr2 ct2 cu2 ve2 ta2 ch2) ++ (wE cI aE lo fo si it))))) (ws2 := ((wS cS aS (aW 0) (aB 0) (aC 0) (aH 0) (aT 0) aE la) ++ ((wW cI aW n cl th ki va re fi) ++ ((wB cI aB bt bs) ++ ((wC cI cZ aC (aW 0) (aB 0) to co ke (rkN (cls ki re cl) (fun vv => nmC bt bs (cov re n cl to co vv)) nu n) (rkF (cls ki re cl) (fun vv => flE re n cl to co vv + cif (nmC bt bs (cov re n cl to co vv) ≠ ke vv) 8 0) fw n)) ++ ((wH cI aH (aW 0) lt tr sh cr ct cu ve ta ch) ++ ((wH cI aT (aW 0) lt2 tr2 sh2 cr2 ct2 cu2 ve2 ta2 ch2) ++ (wE cI aE lo fo si it)))))))) G K hA w F_X1_reckonAll (c_X1_reckonAll aW n cl th ki va re fi aB bt bs aC to co ke nu fw J S B9 C9) ml_X5_357 [2, 3, 4, 5, 6, 7, 8, 9, 10, 11, 12, 13, 14, 15] [0, 1, 16, 17, 18, 19, 20, 21, 22, 23, 24, 25, 26, 27, 28, 29, 30, 31, 32, 33, 34, 35, 36, 37, 38, 39, 40, 41] [0, 1, 28, 29, 30, 31, 32, 33, 34, 35, 36, 37, 38, 39, 40, 41, 2, 3, 4, 5, 6, 7, 8, 9, 10, 11, 12, 13, 14, 15, 16, 17, 18, 19, 20, 21, 22, 23, 24, 25, 26, 27] rfl rfl rfl rfl rfl rfl rfl rfl rfl rfl (by decide) (by decide) rfl hl.1 (Nat.le_of_ble_eq_true rfl) dX5_reckon_4 (fun Hp1 lo2 w => ?_)
  refine lv_aload_n hx hb dX5_reckon_7 rfl (lv_at hl 0 rfl) ?_
  refine f_get G K w.1 inX5 0 (ci := 5) rfl rfl 3 rfl fl_X5_37 (v := .ref (aH 0)) rfl dX5_reckon_8 ?_
  refine lv_iconst (v := (-1)) hx hb dX5_reckon_11 (by decide) ?_
  refine callMV (As := [.int (-1)]) (rest := []) (q0 := 6) (ci := 2) (wr := ((wS cS aS (aW 0) (aB 0) (aC 0) (aH 0) (aT 0) aE la) ++ ((wB cI aB bt bs) ++ ((wC cI cZ aC (aW 0) (aB 0) to co ke (rkN (cls ki re cl) (fun vv => nmC bt bs (cov re n cl to co vv)) nu n) (rkF (cls ki re cl) (fun vv => flE re n cl to co vv + cif (nmC bt bs (cov re n cl to co vv) ≠ ke vv) 8 0) fw n)) ++ ((wH cI aT (aW 0) lt2 tr2 sh2 cr2 ct2 cu2 ve2 ta2 ch2) ++ (wE cI aE lo fo si it)))))) (ws2 := ((wS cS aS (aW 0) (aB 0) (aC 0) (aH 0) (aT 0) aE la) ++ ((wW cI aW n cl th ki va re fi) ++ ((wB cI aB bt bs) ++ ((wC cI cZ aC (aW 0) (aB 0) to co ke (rkN (cls ki re cl) (fun vv => nmC bt bs (cov re n cl to co vv)) nu n) (rkF (cls ki re cl) (fun vv => flE re n cl to co vv + cif (nmC bt bs (cov re n cl to co vv) ≠ ke vv) 8 0) fw n)) ++ ((wH cI aH (aW 0) (cLT th re none n lt (cl + 1)) (cTR th ki re none n tr (cl + 1)) (cSH th ki va re none n sh (cl + 1)) (cCR th ki va re none n cr (cl + 1)) (cCT th ki va re none n ct (cl + 1)) (cCU th ki va re none n cu (cl + 1)) (cVE th ki va re none n cl ve cl) (cTA th ki va re none n cl ta cl) (cCH th ki va re none n (cl + 1))) ++ ((wH cI aT (aW 0) lt2 tr2 sh2 cr2 ct2 cu2 ve2 ta2 ch2) ++ (wE cI aE lo fo si it)))))))) G K hA w F_X2_retell (c_X2_retell aW n cl th ki va re fi aH lt tr sh cr ct cu ve ta ch none J S H9 (fun v h => by cases h)) ml_X5_55 [2, 3, 4, 5, 6, 7, 16, 17, 18, 19, 20, 21, 22, 23, 24] [0, 1, 8, 9, 10, 11, 12, 13, 14, 15, 25, 26, 27, 28, 29, 30, 31, 32, 33, 34, 35, 36, 37, 38, 39, 40, 41] [0, 1, 27, 28, 29, 30, 31, 32, 2, 3, 4, 5, 6, 7, 8, 9, 33, 34, 35, 36, 37, 38, 39, 40, 41, 10, 11, 12, 13, 14, 15, 16, 17, 18, 19, 20, 21, 22, 23, 24, 25, 26] rfl rfl rfl rfl rfl rfl rfl rfl rfl rfl (by decide) (by decide) rfl hl.1 (Nat.le_of_ble_eq_true rfl) dX5_reckon_12 (fun Hp3 lo4 w => ?_)
  exact hret _ _ _ _ _ rfl w dX5_reckon_15
set_option maxHeartbeats 4000000 in
set_option maxRecDepth 100000 in
theorem c_X5_put_bad (aS : Nat → Nat) (aE : Nat → Nat) (la : Int32) (aW : Nat → Nat) (n : Nat) (cl : Nat) (th : Nat → Nat) (ki : Nat → Nat) (va : Nat → Nat) (re : Nat → Nat) (fi : Nat → Nat) (aB : Nat → Nat) (bt : Nat → Nat) (bs : Nat) (aC : Nat → Nat) (to : Nat → Prop) (co : Nat → Nat) (ke : Nat → Int32) (nu : Nat → Int32) (fw : Nat → Nat) (aH : Nat → Nat) (lt : Nat → Option Nat) (tr : Nat → Nat) (sh : Nat → Nat) (cr : Nat → Nat) (ct : Nat → Nat) (cu : Nat → Nat) (ve : Nat → Nat) (ta : Nat → Nat) (ch : Nat) (aT : Nat → Nat) (lt2 : Nat → Option Nat) (tr2 : Nat → Nat) (sh2 : Nat → Nat) (cr2 : Nat → Nat) (ct2 : Nat → Nat) (cu2 : Nat → Nat) (ve2 : Nat → Nat) (ta2 : Nat → Nat) (ch2 : Nat) (lo : Nat → Prop) (fo : Nat → Nat) (si : Nat → Nat) (it : Nat → Nat → Int32) (t : Int32) (k : Int32) (v : Int32) (J : IW n cl th ki va re fi) (S : SW n cl re fi) (B9 : (∀ j, bt j ≤ 255) ∧ bs ≤ 216) (C9 : (∀ j, co j ≤ 400) ∧ (∀ j, fw j ≤ 15)) (H9 : IHd lt tr sh cr ct cu ve ta ch) (U9 : IHd lt2 tr2 sh2 cr2 ct2 cu2 ve2 ta2 ch2) (E9 : (∀ j, fo j ≤ 2) ∧ (∀ j, si j ≤ 60)) (hbad : ¬ okP t k v) : CM l D (TY cI cZ cS) yX5_put cX5_put 5 (some .int) 6 [.ref (aS 0), .int t, .int k, .int v] ((wS cS aS (aW 0) (aB 0) (aC 0) (aH 0) (aT 0) aE la) ++ ((wW cI aW n cl th ki va re fi) ++ ((wB cI aB bt bs) ++ ((wC cI cZ aC (aW 0) (aB 0) to co ke nu fw) ++ ((wH cI aH (aW 0) lt tr sh cr ct cu ve ta ch) ++ ((wH cI aT (aW 0) lt2 tr2 sh2 cr2 ct2 cu2 ve2 ta2 ch2) ++ (wE cI aE lo fo si it))))))) (some (.int (-2))) ((wS cS aS (aW 0) (aB 0) (aC 0) (aH 0) (aT 0) aE la) ++ ((wW cI aW n cl th ki va re fi) ++ ((wB cI aB bt bs) ++ ((wC cI cZ aC (aW 0) (aB 0) to co ke (rkN (cls ki re cl) (fun vv => nmC bt bs (cov re n cl to co vv)) nu n) (rkF (cls ki re cl) (fun vv => flE re n cl to co vv + cif (nmC bt bs (cov re n cl to co vv) ≠ ke vv) 8 0) fw n)) ++ ((wH cI aH (aW 0) (cLT th re none n lt (cl + 1)) (cTR th ki re none n tr (cl + 1)) (cSH th ki va re none n sh (cl + 1)) (cCR th ki va re none n cr (cl + 1)) (cCT th ki va re none n ct (cl + 1)) (cCU th ki va re none n cu (cl + 1)) (cVE th ki va re none n cl ve cl) (cTA th ki va re none n cl ta cl) (cCH th ki va re none n (cl + 1))) ++ ((wH cI aT (aW 0) lt2 tr2 sh2 cr2 ct2 cu2 ve2 ta2 ch2) ++ (wE cI aE lo fo si it))))))) := by
  refine CM.ofI (by decide +kernel) (Nat.le_of_ble_eq_true rfl) (nar_int _) ?_
  intro p e s m args below meth c Q A G K hA w hret ls hl
  obtain ⟨hx, hb, hml, hown, hts⟩ := id G
  obtain ⟨hn, hcl, hth, hki, hva, hre, hfi⟩ := id J
  obtain ⟨hbt, hbs⟩ := id B9
  obtain ⟨hco, hfw⟩ := id C9
  obtain ⟨hlt, htr, hsh, hcr, hct, hcu, hve, hta, hch⟩ := id H9
  obtain ⟨hlt2, htr2, hsh2, hcr2, hct2, hcu2, hve2, hta2, hch2⟩ := id U9
  obtain ⟨hfo, hsi⟩ := id E9
  have hl : lv_has ls 5 [(0, .ref (aS 0)), (1, .int t), (2, .int k), (3, .int v)] := hl
  refine lv_aload_n hx hb dX5_put_0 rfl (lv_at hl 0 rfl) ?_
  refine lv_iload_n hx hb dX5_put_1 rfl (lv_at hl 1 rfl) ?_
  refine lv_iload_n hx hb dX5_put_2 rfl (lv_at hl 2 rfl) ?_
  refine lv_iload_n hx hb dX5_put_3 rfl (lv_at hl 3 rfl) ?_
  refine callMF (As := [.int t, .int k, .int v]) (rest := []) (q0 := 0) (ci := 5) (ws' := ((wS cS aS (aW 0) (aB 0) (aC 0) (aH 0) (aT 0) aE la) ++ ((wW cI aW n cl th ki va re fi) ++ ((wB cI aB bt bs) ++ ((wC cI cZ aC (aW 0) (aB 0) to co ke nu fw) ++ ((wH cI aH (aW 0) lt tr sh cr ct cu ve ta ch) ++ ((wH cI aT (aW 0) lt2 tr2 sh2 cr2 ct2 cu2 ve2 ta2 ch2) ++ (wE cI aE lo fo si it)))))))) G K hA w F_X5_takeWrite (c_X5_takeWrite_bad aS aE la aW n cl th ki va re fi aB bt bs aC to co ke nu fw aH lt tr sh cr ct cu ve ta ch aT lt2 tr2 sh2 cr2 ct2 cu2 ve2 ta2 ch2 lo fo si it t k v J S B9 C9 H9 U9 E9 hbad) ml_X5_59 rfl rfl rfl (by decide) (by decide) rfl hl.1 (Nat.le_of_ble_eq_true rfl) dX5_put_4 (fun Hp1 lo2 w => ?_)
  refine lv_istore (lv' := [(4, .int (-2)), (0, .ref (aS 0)), (1, .int t), (2, .int k), (3, .int v)]) hx hb dX5_put_7 hl (by decide) rfl (fun ls hl => ?_)
  refine lv_aload_n hx hb dX5_put_9 rfl (lv_at hl 1 rfl) ?_
  refine callMF (As := []) (rest := []) (q0 := 0) (ci := 5) (ws' := ((wS cS aS (aW 0) (aB 0) (aC 0) (aH 0) (aT 0) aE la) ++ ((wW cI aW n cl th ki va re fi) ++ ((wB cI aB bt bs) ++ ((wC cI cZ aC (aW 0) (aB 0) to co ke (rkN (cls ki re cl) (fun vv => nmC bt bs (cov re n cl to co vv)) nu n) (rkF (cls ki re cl) (fun vv => flE re n cl to co vv + cif (nmC bt bs (cov re n cl to co vv) ≠ ke vv) 8 0) fw n)) ++ ((wH cI aH (aW 0) (cLT th re none n lt (cl + 1)) (cTR th ki re none n tr (cl + 1)) (cSH th ki va re none n sh (cl + 1)) (cCR th ki va re none n cr (cl + 1)) (cCT th ki va re none n ct (cl + 1)) (cCU th ki va re none n cu (cl + 1)) (cVE th ki va re none n cl ve cl) (cTA th ki va re none n cl ta cl) (cCH th ki va re none n (cl + 1))) ++ ((wH cI aT (aW 0) lt2 tr2 sh2 cr2 ct2 cu2 ve2 ta2 ch2) ++ (wE cI aE lo fo si it)))))))) G K hA w F_X5_reckon (c_X5_reckon aS aE la aW n cl th ki va re fi aB bt bs aC to co ke nu fw aH lt tr sh cr ct cu ve ta ch aT lt2 tr2 sh2 cr2 ct2 cu2 ve2 ta2 ch2 lo fo si it J S B9 C9 H9 U9 E9) ml_X5_63 rfl rfl rfl (by decide) (by decide) rfl hl.1 (Nat.le_of_ble_eq_true rfl) dX5_put_10 (fun Hp3 lo4 w => ?_)
  refine lv_iload hx hb dX5_put_13 (lv_at hl 0 rfl) ?_
  exact hret _ _ _ _ _ _ rfl rfl w dX5_put_15
set_option maxHeartbeats 4000000 in
set_option maxRecDepth 100000 in
theorem c_X5_put_full (aS : Nat → Nat) (aE : Nat → Nat) (la : Int32) (aW : Nat → Nat) (n : Nat) (cl : Nat) (th : Nat → Nat) (ki : Nat → Nat) (va : Nat → Nat) (re : Nat → Nat) (fi : Nat → Nat) (aB : Nat → Nat) (bt : Nat → Nat) (bs : Nat) (aC : Nat → Nat) (to : Nat → Prop) (co : Nat → Nat) (ke : Nat → Int32) (nu : Nat → Int32) (fw : Nat → Nat) (aH : Nat → Nat) (lt : Nat → Option Nat) (tr : Nat → Nat) (sh : Nat → Nat) (cr : Nat → Nat) (ct : Nat → Nat) (cu : Nat → Nat) (ve : Nat → Nat) (ta : Nat → Nat) (ch : Nat) (aT : Nat → Nat) (lt2 : Nat → Option Nat) (tr2 : Nat → Nat) (sh2 : Nat → Nat) (cr2 : Nat → Nat) (ct2 : Nat → Nat) (cu2 : Nat → Nat) (ve2 : Nat → Nat) (ta2 : Nat → Nat) (ch2 : Nat) (lo : Nat → Prop) (fo : Nat → Nat) (si : Nat → Nat) (it : Nat → Nat → Int32) (t : Nat) (k : Nat) (v : Nat) (J : IW n cl th ki va re fi) (S : SW n cl re fi) (B9 : (∀ j, bt j ≤ 255) ∧ bs ≤ 216) (C9 : (∀ j, co j ≤ 400) ∧ (∀ j, fw j ≤ 15)) (H9 : IHd lt tr sh cr ct cu ve ta ch) (U9 : IHd lt2 tr2 sh2 cr2 ct2 cu2 ve2 ta2 ch2) (E9 : (∀ j, fo j ≤ 2) ∧ (∀ j, si j ≤ 60)) (ht9 : t ≤ 15) (hk9 : k ≤ 5) (hv9 : okV k v) (hn9 : n = 40) : CM l D (TY cI cZ cS) yX5_put cX5_put 5 (some .int) 6 [.ref (aS 0), .int (nI t), .int (nI k), .int (nI v)] ((wS cS aS (aW 0) (aB 0) (aC 0) (aH 0) (aT 0) aE la) ++ ((wW cI aW n cl th ki va re fi) ++ ((wB cI aB bt bs) ++ ((wC cI cZ aC (aW 0) (aB 0) to co ke nu fw) ++ ((wH cI aH (aW 0) lt tr sh cr ct cu ve ta ch) ++ ((wH cI aT (aW 0) lt2 tr2 sh2 cr2 ct2 cu2 ve2 ta2 ch2) ++ (wE cI aE lo fo si it))))))) (some (.int (-4))) ((wS cS aS (aW 0) (aB 0) (aC 0) (aH 0) (aT 0) aE la) ++ ((wW cI aW n cl th ki va re fi) ++ ((wB cI aB bt bs) ++ ((wC cI cZ aC (aW 0) (aB 0) to co ke (rkN (cls ki re cl) (fun vv => nmC bt bs (cov re n cl to co vv)) nu n) (rkF (cls ki re cl) (fun vv => flE re n cl to co vv + cif (nmC bt bs (cov re n cl to co vv) ≠ ke vv) 8 0) fw n)) ++ ((wH cI aH (aW 0) (cLT th re none n lt (cl + 1)) (cTR th ki re none n tr (cl + 1)) (cSH th ki va re none n sh (cl + 1)) (cCR th ki va re none n cr (cl + 1)) (cCT th ki va re none n ct (cl + 1)) (cCU th ki va re none n cu (cl + 1)) (cVE th ki va re none n cl ve cl) (cTA th ki va re none n cl ta cl) (cCH th ki va re none n (cl + 1))) ++ ((wH cI aT (aW 0) lt2 tr2 sh2 cr2 ct2 cu2 ve2 ta2 ch2) ++ (wE cI aE lo fo si it))))))) := by
  refine CM.ofI (by decide +kernel) (Nat.le_of_ble_eq_true rfl) (nar_int _) ?_
  intro p e s m args below meth c Q A G K hA w hret ls hl
  obtain ⟨hx, hb, hml, hown, hts⟩ := id G
  obtain ⟨hn, hcl, hth, hki, hva, hre, hfi⟩ := id J
  obtain ⟨hbt, hbs⟩ := id B9
  obtain ⟨hco, hfw⟩ := id C9
  obtain ⟨hlt, htr, hsh, hcr, hct, hcu, hve, hta, hch⟩ := id H9
  obtain ⟨hlt2, htr2, hsh2, hcr2, hct2, hcu2, hve2, hta2, hch2⟩ := id U9
  obtain ⟨hfo, hsi⟩ := id E9
  have hl : lv_has ls 5 [(0, .ref (aS 0)), (1, .int (nI t)), (2, .int (nI k)), (3, .int (nI v))] := hl
  refine lv_aload_n hx hb dX5_put_0 rfl (lv_at hl 0 rfl) ?_
  refine lv_iload_n hx hb dX5_put_1 rfl (lv_at hl 1 rfl) ?_
  refine lv_iload_n hx hb dX5_put_2 rfl (lv_at hl 2 rfl) ?_
  refine lv_iload_n hx hb dX5_put_3 rfl (lv_at hl 3 rfl) ?_
  refine callMF (As := [.int (nI t), .int (nI k), .int (nI v)]) (rest := []) (q0 := 0) (ci := 5) (ws' := ((wS cS aS (aW 0) (aB 0) (aC 0) (aH 0) (aT 0) aE la) ++ ((wW cI aW n cl th ki va re fi) ++ ((wB cI aB bt bs) ++ ((wC cI cZ aC (aW 0) (aB 0) to co ke nu fw) ++ ((wH cI aH (aW 0) lt tr sh cr ct cu ve ta ch) ++ ((wH cI aT (aW 0) lt2 tr2 sh2 cr2 ct2 cu2 ve2 ta2 ch2) ++ (wE cI aE lo fo si it)))))))) G K hA w F_X5_takeWrite (c_X5_takeWrite_full aS aE la aW n cl th ki va re fi aB bt bs aC to co ke nu fw aH lt tr sh cr ct cu ve ta ch aT lt2 tr2 sh2 cr2 ct2 cu2 ve2 ta2 ch2 lo fo si it t k v J S B9 C9 H9 U9 E9 ht9 hk9 hv9 hn9) ml_X5_59 rfl rfl rfl (by decide) (by decide) rfl hl.1 (Nat.le_of_ble_eq_true rfl) dX5_put_4 (fun Hp1 lo2 w => ?_)
  refine lv_istore (lv' := [(4, .int (-4)), (0, .ref (aS 0)), (1, .int (nI t)), (2, .int (nI k)), (3, .int (nI v))]) hx hb dX5_put_7 hl (by decide) rfl (fun ls hl => ?_)
  refine lv_aload_n hx hb dX5_put_9 rfl (lv_at hl 1 rfl) ?_
  refine callMF (As := []) (rest := []) (q0 := 0) (ci := 5) (ws' := ((wS cS aS (aW 0) (aB 0) (aC 0) (aH 0) (aT 0) aE la) ++ ((wW cI aW n cl th ki va re fi) ++ ((wB cI aB bt bs) ++ ((wC cI cZ aC (aW 0) (aB 0) to co ke (rkN (cls ki re cl) (fun vv => nmC bt bs (cov re n cl to co vv)) nu n) (rkF (cls ki re cl) (fun vv => flE re n cl to co vv + cif (nmC bt bs (cov re n cl to co vv) ≠ ke vv) 8 0) fw n)) ++ ((wH cI aH (aW 0) (cLT th re none n lt (cl + 1)) (cTR th ki re none n tr (cl + 1)) (cSH th ki va re none n sh (cl + 1)) (cCR th ki va re none n cr (cl + 1)) (cCT th ki va re none n ct (cl + 1)) (cCU th ki va re none n cu (cl + 1)) (cVE th ki va re none n cl ve cl) (cTA th ki va re none n cl ta cl) (cCH th ki va re none n (cl + 1))) ++ ((wH cI aT (aW 0) lt2 tr2 sh2 cr2 ct2 cu2 ve2 ta2 ch2) ++ (wE cI aE lo fo si it)))))))) G K hA w F_X5_reckon (c_X5_reckon aS aE la aW n cl th ki va re fi aB bt bs aC to co ke nu fw aH lt tr sh cr ct cu ve ta ch aT lt2 tr2 sh2 cr2 ct2 cu2 ve2 ta2 ch2 lo fo si it J S B9 C9 H9 U9 E9) ml_X5_63 rfl rfl rfl (by decide) (by decide) rfl hl.1 (Nat.le_of_ble_eq_true rfl) dX5_put_10 (fun Hp3 lo4 w => ?_)
  refine lv_iload hx hb dX5_put_13 (lv_at hl 0 rfl) ?_
  exact hret _ _ _ _ _ _ rfl rfl w dX5_put_15
set_option maxHeartbeats 4000000 in
set_option maxRecDepth 100000 in
theorem c_X5_put_ok (aS : Nat → Nat) (aE : Nat → Nat) (la : Int32) (aW : Nat → Nat) (n : Nat) (cl : Nat) (th : Nat → Nat) (ki : Nat → Nat) (va : Nat → Nat) (re : Nat → Nat) (fi : Nat → Nat) (aB : Nat → Nat) (bt : Nat → Nat) (bs : Nat) (aC : Nat → Nat) (to : Nat → Prop) (co : Nat → Nat) (ke : Nat → Int32) (nu : Nat → Int32) (fw : Nat → Nat) (aH : Nat → Nat) (lt : Nat → Option Nat) (tr : Nat → Nat) (sh : Nat → Nat) (cr : Nat → Nat) (ct : Nat → Nat) (cu : Nat → Nat) (ve : Nat → Nat) (ta : Nat → Nat) (ch : Nat) (aT : Nat → Nat) (lt2 : Nat → Option Nat) (tr2 : Nat → Nat) (sh2 : Nat → Nat) (cr2 : Nat → Nat) (ct2 : Nat → Nat) (cu2 : Nat → Nat) (ve2 : Nat → Nat) (ta2 : Nat → Nat) (ch2 : Nat) (lo : Nat → Prop) (fo : Nat → Nat) (si : Nat → Nat) (it : Nat → Nat → Int32) (t : Nat) (k : Nat) (v : Nat) (J : IW n cl th ki va re fi) (S : SW n cl re fi) (B9 : (∀ j, bt j ≤ 255) ∧ bs ≤ 216) (C9 : (∀ j, co j ≤ 400) ∧ (∀ j, fw j ≤ 15)) (H9 : IHd lt tr sh cr ct cu ve ta ch) (U9 : IHd lt2 tr2 sh2 cr2 ct2 cu2 ve2 ta2 ch2) (E9 : (∀ j, fo j ≤ 2) ∧ (∀ j, si j ≤ 60)) (ht9 : t ≤ 15) (hk9 : k ≤ 5) (hv9 : okV k v) (hn9 : n < 40) (hb9 : bs + 5 ≤ 216) : CM l D (TY cI cZ cS) yX5_put cX5_put 5 (some .int) 6 [.ref (aS 0), .int (nI t), .int (nI k), .int (nI v)] ((wS cS aS (aW 0) (aB 0) (aC 0) (aH 0) (aT 0) aE la) ++ ((wW cI aW n cl th ki va re fi) ++ ((wB cI aB bt bs) ++ ((wC cI cZ aC (aW 0) (aB 0) to co ke nu fw) ++ ((wH cI aH (aW 0) lt tr sh cr ct cu ve ta ch) ++ ((wH cI aT (aW 0) lt2 tr2 sh2 cr2 ct2 cu2 ve2 ta2 ch2) ++ (wE cI aE lo fo si it))))))) (some (.int (nI (n + 1)))) ((wS cS aS (aW 0) (aB 0) (aC 0) (aH 0) (aT 0) aE la) ++ ((wW cI aW (n + 1) cl (va_up th n t) (va_up ki n k) (va_up va n v) (va_up re n cl) fi) ++ ((wB cI aB (ap5 bt bs t k v) (bs + 5)) ++ ((wC cI cZ aC (aW 0) (aB 0) (va_up to n False) co ke (rkN (cls (va_up ki n k) (va_up re n cl) cl) (fun vv => nmC (ap5 bt bs t k v) (bs + 5) (cov (va_up re n cl) (n + 1) cl (va_up to n False) co vv)) nu (n + 1)) (rkF (cls (va_up ki n k) (va_up re n cl) cl) (fun vv => flE (va_up re n cl) (n + 1) cl (va_up to n False) co vv + cif (nmC (ap5 bt bs t k v) (bs + 5) (cov (va_up re n cl) (n + 1) cl (va_up to n False) co vv) ≠ ke vv) 8 0) fw (n + 1))) ++ ((wH cI aH (aW 0) (cLT (va_up th n t) (va_up re n cl) none (n + 1) lt (cl + 1)) (cTR (va_up th n t) (va_up ki n k) (va_up re n cl) none (n + 1) tr (cl + 1)) (cSH (va_up th n t) (va_up ki n k) (va_up va n v) (va_up re n cl) none (n + 1) sh (cl + 1)) (cCR (va_up th n t) (va_up ki n k) (va_up va n v) (va_up re n cl) none (n + 1) cr (cl + 1)) (cCT (va_up th n t) (va_up ki n k) (va_up va n v) (va_up re n cl) none (n + 1) ct (cl + 1)) (cCU (va_up th n t) (va_up ki n k) (va_up va n v) (va_up re n cl) none (n + 1) cu (cl + 1)) (cVE (va_up th n t) (va_up ki n k) (va_up va n v) (va_up re n cl) none (n + 1) cl ve cl) (cTA (va_up th n t) (va_up ki n k) (va_up va n v) (va_up re n cl) none (n + 1) cl ta cl) (cCH (va_up th n t) (va_up ki n k) (va_up va n v) (va_up re n cl) none (n + 1) (cl + 1))) ++ ((wH cI aT (aW 0) lt2 tr2 sh2 cr2 ct2 cu2 ve2 ta2 ch2) ++ (wE cI aE lo fo si it))))))) := by
  refine CM.ofI (by decide +kernel) (Nat.le_of_ble_eq_true rfl) (nar_int _) ?_
  intro p e s m args below meth c Q A G K hA w hret ls hl
  obtain ⟨hx, hb, hml, hown, hts⟩ := id G
  obtain ⟨hn, hcl, hth, hki, hva, hre, hfi⟩ := id J
  obtain ⟨hbt, hbs⟩ := id B9
  obtain ⟨hco, hfw⟩ := id C9
  obtain ⟨hlt, htr, hsh, hcr, hct, hcu, hve, hta, hch⟩ := id H9
  obtain ⟨hlt2, htr2, hsh2, hcr2, hct2, hcu2, hve2, hta2, hch2⟩ := id U9
  obtain ⟨hfo, hsi⟩ := id E9
  have hv8 := okV_le hv9
  have hl : lv_has ls 5 [(0, .ref (aS 0)), (1, .int (nI t)), (2, .int (nI k)), (3, .int (nI v))] := hl
  refine lv_aload_n hx hb dX5_put_0 rfl (lv_at hl 0 rfl) ?_
  refine lv_iload_n hx hb dX5_put_1 rfl (lv_at hl 1 rfl) ?_
  refine lv_iload_n hx hb dX5_put_2 rfl (lv_at hl 2 rfl) ?_
  refine lv_iload_n hx hb dX5_put_3 rfl (lv_at hl 3 rfl) ?_
  refine callMF (As := [.int (nI t), .int (nI k), .int (nI v)]) (rest := []) (q0 := 0) (ci := 5) (ws' := ((wS cS aS (aW 0) (aB 0) (aC 0) (aH 0) (aT 0) aE la) ++ ((wW cI aW (n + 1) cl (va_up th n t) (va_up ki n k) (va_up va n v) (va_up re n cl) fi) ++ ((wB cI aB (ap5 bt bs t k v) (bs + 5)) ++ ((wC cI cZ aC (aW 0) (aB 0) (va_up to n False) co ke nu fw) ++ ((wH cI aH (aW 0) lt tr sh cr ct cu ve ta ch) ++ ((wH cI aT (aW 0) lt2 tr2 sh2 cr2 ct2 cu2 ve2 ta2 ch2) ++ (wE cI aE lo fo si it)))))))) G K hA w F_X5_takeWrite (c_X5_takeWrite_ok aS aE la aW n cl th ki va re fi aB bt bs aC to co ke nu fw aH lt tr sh cr ct cu ve ta ch aT lt2 tr2 sh2 cr2 ct2 cu2 ve2 ta2 ch2 lo fo si it t k v J S B9 C9 H9 U9 E9 ht9 hk9 hv9 hn9 hb9) ml_X5_59 rfl rfl rfl (by decide) (by decide) rfl hl.1 (Nat.le_of_ble_eq_true rfl) dX5_put_4 (fun Hp1 lo2 w => ?_)
  refine lv_istore (lv' := [(4, .int (nI (n + 1))), (0, .ref (aS 0)), (1, .int (nI t)), (2, .int (nI k)), (3, .int (nI v))]) hx hb dX5_put_7 hl (by decide) rfl (fun ls hl => ?_)
  refine lv_aload_n hx hb dX5_put_9 rfl (lv_at hl 1 rfl) ?_
  refine callMF (As := []) (rest := []) (q0 := 0) (ci := 5) (ws' := ((wS cS aS (aW 0) (aB 0) (aC 0) (aH 0) (aT 0) aE la) ++ ((wW cI aW (n + 1) cl (va_up th n t) (va_up ki n k) (va_up va n v) (va_up re n cl) fi) ++ ((wB cI aB (ap5 bt bs t k v) (bs + 5)) ++ ((wC cI cZ aC (aW 0) (aB 0) (va_up to n False) co ke (rkN (cls (va_up ki n k) (va_up re n cl) cl) (fun vv => nmC (ap5 bt bs t k v) (bs + 5) (cov (va_up re n cl) (n + 1) cl (va_up to n False) co vv)) nu (n + 1)) (rkF (cls (va_up ki n k) (va_up re n cl) cl) (fun vv => flE (va_up re n cl) (n + 1) cl (va_up to n False) co vv + cif (nmC (ap5 bt bs t k v) (bs + 5) (cov (va_up re n cl) (n + 1) cl (va_up to n False) co vv) ≠ ke vv) 8 0) fw (n + 1))) ++ ((wH cI aH (aW 0) (cLT (va_up th n t) (va_up re n cl) none (n + 1) lt (cl + 1)) (cTR (va_up th n t) (va_up ki n k) (va_up re n cl) none (n + 1) tr (cl + 1)) (cSH (va_up th n t) (va_up ki n k) (va_up va n v) (va_up re n cl) none (n + 1) sh (cl + 1)) (cCR (va_up th n t) (va_up ki n k) (va_up va n v) (va_up re n cl) none (n + 1) cr (cl + 1)) (cCT (va_up th n t) (va_up ki n k) (va_up va n v) (va_up re n cl) none (n + 1) ct (cl + 1)) (cCU (va_up th n t) (va_up ki n k) (va_up va n v) (va_up re n cl) none (n + 1) cu (cl + 1)) (cVE (va_up th n t) (va_up ki n k) (va_up va n v) (va_up re n cl) none (n + 1) cl ve cl) (cTA (va_up th n t) (va_up ki n k) (va_up va n v) (va_up re n cl) none (n + 1) cl ta cl) (cCH (va_up th n t) (va_up ki n k) (va_up va n v) (va_up re n cl) none (n + 1) (cl + 1))) ++ ((wH cI aT (aW 0) lt2 tr2 sh2 cr2 ct2 cu2 ve2 ta2 ch2) ++ (wE cI aE lo fo si it)))))))) G K hA w F_X5_reckon (c_X5_reckon aS aE la aW (n + 1) cl (va_up th n t) (va_up ki n k) (va_up va n v) (va_up re n cl) fi aB (ap5 bt bs t k v) (bs + 5) aC (va_up to n False) co ke nu fw aH lt tr sh cr ct cu ve ta ch aT lt2 tr2 sh2 cr2 ct2 cu2 ve2 ta2 ch2 lo fo si it (IW_put J hn9 ht9 hk9 hv8) (SW_put S) ⟨ap5_le hbt ht9 hk9 hv8, hb9⟩ C9 H9 U9 E9) ml_X5_63 rfl rfl rfl (by decide) (by decide) rfl hl.1 (Nat.le_of_ble_eq_true rfl) dX5_put_10 (fun Hp3 lo4 w => ?_)
  refine lv_iload hx hb dX5_put_13 (lv_at hl 0 rfl) ?_
  exact hret _ _ _ _ _ _ rfl rfl w dX5_put_15
set_option maxHeartbeats 4000000 in
set_option maxRecDepth 100000 in
theorem c_X5_close_not (aS : Nat → Nat) (aE : Nat → Nat) (la : Int32) (aW : Nat → Nat) (n : Nat) (cl : Nat) (th : Nat → Nat) (ki : Nat → Nat) (va : Nat → Nat) (re : Nat → Nat) (fi : Nat → Nat) (aB : Nat → Nat) (bt : Nat → Nat) (bs : Nat) (aC : Nat → Nat) (to : Nat → Prop) (co : Nat → Nat) (ke : Nat → Int32) (nu : Nat → Int32) (fw : Nat → Nat) (aH : Nat → Nat) (lt : Nat → Option Nat) (tr : Nat → Nat) (sh : Nat → Nat) (cr : Nat → Nat) (ct : Nat → Nat) (cu : Nat → Nat) (ve : Nat → Nat) (ta : Nat → Nat) (ch : Nat) (aT : Nat → Nat) (lt2 : Nat → Option Nat) (tr2 : Nat → Nat) (sh2 : Nat → Nat) (cr2 : Nat → Nat) (ct2 : Nat → Nat) (cu2 : Nat → Nat) (ve2 : Nat → Nat) (ta2 : Nat → Nat) (ch2 : Nat) (lo : Nat → Prop) (fo : Nat → Nat) (si : Nat → Nat) (it : Nat → Nat → Int32) (J : IW n cl th ki va re fi) (S : SW n cl re fi) (B9 : (∀ j, bt j ≤ 255) ∧ bs ≤ 216) (C9 : (∀ j, co j ≤ 400) ∧ (∀ j, fw j ≤ 15)) (H9 : IHd lt tr sh cr ct cu ve ta ch) (U9 : IHd lt2 tr2 sh2 cr2 ct2 cu2 ve2 ta2 ch2) (E9 : (∀ j, fo j ≤ 2) ∧ (∀ j, si j ≤ 60)) (h9 : cntEq re cl n = 0) : CM l D (TY cI cZ cS) yX5_close cX5_close 1 (some .int) 6 [.ref (aS 0)] ((wS cS aS (aW 0) (aB 0) (aC 0) (aH 0) (aT 0) aE la) ++ ((wW cI aW n cl th ki va re fi) ++ ((wB cI aB bt bs) ++ ((wC cI cZ aC (aW 0) (aB 0) to co ke nu fw) ++ ((wH cI aH (aW 0) lt tr sh cr ct cu ve ta ch) ++ ((wH cI aT (aW 0) lt2 tr2 sh2 cr2 ct2 cu2 ve2 ta2 ch2) ++ (wE cI aE lo fo si it))))))) (some (.int (-3))) ((wS cS aS (aW 0) (aB 0) (aC 0) (aH 0) (aT 0) aE la) ++ ((wW cI aW n cl th ki va re fi) ++ ((wB cI aB bt bs) ++ ((wC cI cZ aC (aW 0) (aB 0) to co ke nu fw) ++ ((wH cI aH (aW 0) lt tr sh cr ct cu ve ta ch) ++ ((wH cI aT (aW 0) lt2 tr2 sh2 cr2 ct2 cu2 ve2 ta2 ch2) ++ (wE cI aE lo fo si it))))))) := by
  refine CM.ofI (by decide +kernel) (Nat.le_of_ble_eq_true rfl) (nar_int _) ?_
  intro p e s m args below meth c Q A G K hA w hret ls hl
  obtain ⟨hx, hb, hml, hown, hts⟩ := id G
  obtain ⟨hn, hcl, hth, hki, hva, hre, hfi⟩ := id J
  obtain ⟨hbt, hbs⟩ := id B9
  obtain ⟨hco, hfw⟩ := id C9
  obtain ⟨hlt, htr, hsh, hcr, hct, hcu, hve, hta, hch⟩ := id H9
  obtain ⟨hlt2, htr2, hsh2, hcr2, hct2, hcu2, hve2, hta2, hch2⟩ := id U9
  obtain ⟨hfo, hsi⟩ := id E9
  have hl : lv_has ls 1 [(0, .ref (aS 0))] := hl
  refine lv_aload_n hx hb dX5_close_0 rfl (lv_at hl 0 rfl) ?_
  refine f_get G K w.1 inX5 0 (ci := 5) rfl rfl 0 rfl fl_X5_12 (v := .ref (aW 0)) rfl dX5_close_1 ?_
  refine callPV (As := []) (rest := []) (q0 := 0) (ci := 4) G K F_X4_openIsEmpty (c_X4_openIsEmpty aW n cl th ki va re fi J S) (w.1.sub (ws' := (wW cI aW n cl th ki va re fi)) [2, 3, 4, 5, 6, 7] rfl) ml_X5_66 rfl rfl rfl (by decide) (by decide) rfl hl.1 (Nat.le_of_ble_eq_true rfl) dX5_close_4 ?_
  refine b_eq G (tgt := 13) dX5_close_7 (by decide) (fun c7 => ?_) (fun c7 => ?_)
  · -- taken at 7
    exact absurd h9 c7
  · -- not taken at 7
    refine lv_bipush (v := (-3)) hx hb dX5_close_10 (by decide) ?_
    exact hret _ _ _ _ _ _ rfl rfl w dX5_close_12
set_option maxHeartbeats 4000000 in
set_option maxRecDepth 100000 in
theorem c_X5_close_full (aS : Nat → Nat) (aE : Nat → Nat) (la : Int32) (aW : Nat → Nat) (n : Nat) (cl : Nat) (th : Nat → Nat) (ki : Nat → Nat) (va : Nat → Nat) (re : Nat → Nat) (fi : Nat → Nat) (aB : Nat → Nat) (bt : Nat → Nat) (bs : Nat) (aC : Nat → Nat) (to : Nat → Prop) (co : Nat → Nat) (ke : Nat → Int32) (nu : Nat → Int32) (fw : Nat → Nat) (aH : Nat → Nat) (lt : Nat → Option Nat) (tr : Nat → Nat) (sh : Nat → Nat) (cr : Nat → Nat) (ct : Nat → Nat) (cu : Nat → Nat) (ve : Nat → Nat) (ta : Nat → Nat) (ch : Nat) (aT : Nat → Nat) (lt2 : Nat → Option Nat) (tr2 : Nat → Nat) (sh2 : Nat → Nat) (cr2 : Nat → Nat) (ct2 : Nat → Nat) (cu2 : Nat → Nat) (ve2 : Nat → Nat) (ta2 : Nat → Nat) (ch2 : Nat) (lo : Nat → Prop) (fo : Nat → Nat) (si : Nat → Nat) (it : Nat → Nat → Int32) (J : IW n cl th ki va re fi) (S : SW n cl re fi) (B9 : (∀ j, bt j ≤ 255) ∧ bs ≤ 216) (C9 : (∀ j, co j ≤ 400) ∧ (∀ j, fw j ≤ 15)) (H9 : IHd lt tr sh cr ct cu ve ta ch) (U9 : IHd lt2 tr2 sh2 cr2 ct2 cu2 ve2 ta2 ch2) (E9 : (∀ j, fo j ≤ 2) ∧ (∀ j, si j ≤ 60)) (h9 : 0 < cntEq re cl n) (h8 : cl = 7) : CM l D (TY cI cZ cS) yX5_close cX5_close 1 (some .int) 6 [.ref (aS 0)] ((wS cS aS (aW 0) (aB 0) (aC 0) (aH 0) (aT 0) aE la) ++ ((wW cI aW n cl th ki va re fi) ++ ((wB cI aB bt bs) ++ ((wC cI cZ aC (aW 0) (aB 0) to co ke nu fw) ++ ((wH cI aH (aW 0) lt tr sh cr ct cu ve ta ch) ++ ((wH cI aT (aW 0) lt2 tr2 sh2 cr2 ct2 cu2 ve2 ta2 ch2) ++ (wE cI aE lo fo si it))))))) (some (.int (-4))) ((wS cS aS (aW 0) (aB 0) (aC 0) (aH 0) (aT 0) aE la) ++ ((wW cI aW n cl th ki va re fi) ++ ((wB cI aB bt bs) ++ ((wC cI cZ aC (aW 0) (aB 0) to co ke nu fw) ++ ((wH cI aH (aW 0) lt tr sh cr ct cu ve ta ch) ++ ((wH cI aT (aW 0) lt2 tr2 sh2 cr2 ct2 cu2 ve2 ta2 ch2) ++ (wE cI aE lo fo si it))))))) := by
  refine CM.ofI (by decide +kernel) (Nat.le_of_ble_eq_true rfl) (nar_int _) ?_
  intro p e s m args below meth c Q A G K hA w hret ls hl
  obtain ⟨hx, hb, hml, hown, hts⟩ := id G
  obtain ⟨hn, hcl, hth, hki, hva, hre, hfi⟩ := id J
  obtain ⟨hbt, hbs⟩ := id B9
  obtain ⟨hco, hfw⟩ := id C9
  obtain ⟨hlt, htr, hsh, hcr, hct, hcu, hve, hta, hch⟩ := id H9
  obtain ⟨hlt2, htr2, hsh2, hcr2, hct2, hcu2, hve2, hta2, hch2⟩ := id U9
  obtain ⟨hfo, hsi⟩ := id E9
  have hl : lv_has ls 1 [(0, .ref (aS 0))] := hl
  refine lv_aload_n hx hb dX5_close_0 rfl (lv_at hl 0 rfl) ?_
  refine f_get G K w.1 inX5 0 (ci := 5) rfl rfl 0 rfl fl_X5_12 (v := .ref (aW 0)) rfl dX5_close_1 ?_
  refine callPV (As := []) (rest := []) (q0 := 0) (ci := 4) G K F_X4_openIsEmpty (c_X4_openIsEmpty aW n cl th ki va re fi J S) (w.1.sub (ws' := (wW cI aW n cl th ki va re fi)) [2, 3, 4, 5, 6, 7] rfl) ml_X5_66 rfl rfl rfl (by decide) (by decide) rfl hl.1 (Nat.le_of_ble_eq_true rfl) dX5_close_4 ?_
  refine b_eq G (tgt := 13) dX5_close_7 (by decide) (fun c7 => ?_) (fun c7 => ?_)
  · -- taken at 7
    refine lv_aload_n hx hb dX5_close_13 rfl (lv_at hl 0 rfl) ?_
    refine f_get G K w.1 inX5 0 (ci := 5) rfl rfl 0 rfl fl_X5_12 (v := .ref (aW 0)) rfl dX5_close_14 ?_
    refine f_get G K w.1 inX4 2 (ci := 4) rfl rfl 6 rfl fl_X5_70 (v := .int (nI cl)) rfl dX5_close_17 ?_
    refine lv_bipush (v := (nI 7)) hx hb dX5_close_20 (by decide) ?_
    refine c_lt G (tgt := 28) (by omega) (by omega) dX5_close_22 (by decide) (fun c22 => ?_) (fun c22 => ?_)
    · -- taken at 22
      exact absurd c22 (by omega)
    · -- not taken at 22
      refine lv_bipush (v := (-4)) hx hb dX5_close_25 (by decide) ?_
      exact hret _ _ _ _ _ _ rfl rfl w dX5_close_27
  · -- not taken at 7
    exact absurd c7 (by omega)
set_option maxHeartbeats 4000000 in
set_option maxRecDepth 100000 in
theorem c_X5_close_ok (aS : Nat → Nat) (aE : Nat → Nat) (la : Int32) (aW : Nat → Nat) (n : Nat) (cl : Nat) (th : Nat → Nat) (ki : Nat → Nat) (va : Nat → Nat) (re : Nat → Nat) (fi : Nat → Nat) (aB : Nat → Nat) (bt : Nat → Nat) (bs : Nat) (aC : Nat → Nat) (to : Nat → Prop) (co : Nat → Nat) (ke : Nat → Int32) (nu : Nat → Int32) (fw : Nat → Nat) (aH : Nat → Nat) (lt : Nat → Option Nat) (tr : Nat → Nat) (sh : Nat → Nat) (cr : Nat → Nat) (ct : Nat → Nat) (cu : Nat → Nat) (ve : Nat → Nat) (ta : Nat → Nat) (ch : Nat) (aT : Nat → Nat) (lt2 : Nat → Option Nat) (tr2 : Nat → Nat) (sh2 : Nat → Nat) (cr2 : Nat → Nat) (ct2 : Nat → Nat) (cu2 : Nat → Nat) (ve2 : Nat → Nat) (ta2 : Nat → Nat) (ch2 : Nat) (lo : Nat → Prop) (fo : Nat → Nat) (si : Nat → Nat) (it : Nat → Nat → Int32) (J : IW n cl th ki va re fi) (S : SW n cl re fi) (B9 : (∀ j, bt j ≤ 255) ∧ bs ≤ 216) (C9 : (∀ j, co j ≤ 400) ∧ (∀ j, fw j ≤ 15)) (H9 : IHd lt tr sh cr ct cu ve ta ch) (U9 : IHd lt2 tr2 sh2 cr2 ct2 cu2 ve2 ta2 ch2) (E9 : (∀ j, fo j ≤ 2) ∧ (∀ j, si j ≤ 60)) (h9 : 0 < cntEq re cl n) (h8 : cl < 7) (hb9 : bs + 2 ≤ 216) : CM l D (TY cI cZ cS) yX5_close cX5_close 1 (some .int) 6 [.ref (aS 0)] ((wS cS aS (aW 0) (aB 0) (aC 0) (aH 0) (aT 0) aE la) ++ ((wW cI aW n cl th ki va re fi) ++ ((wB cI aB bt bs) ++ ((wC cI cZ aC (aW 0) (aB 0) to co ke nu fw) ++ ((wH cI aH (aW 0) lt tr sh cr ct cu ve ta ch) ++ ((wH cI aT (aW 0) lt2 tr2 sh2 cr2 ct2 cu2 ve2 ta2 ch2) ++ (wE cI aE lo fo si it))))))) (some (.int (nI (cl + 1)))) ((wS cS aS (aW 0) (aB 0) (aC 0) (aH 0) (aT 0) aE la) ++ ((wW cI aW n (cl + 1) th ki va re (va_up fi (cl + 1) n)) ++ ((wB cI aB (va_up (va_up bt bs 0) (bs + 1) cl) (bs + 2)) ++ ((wC cI cZ aC (aW 0) (aB 0) to co (kqR (fun vv => ki vv = 4) (fun vv => nmC (va_up (va_up bt bs 0) (bs + 1) cl) (bs + 2) (cov re n (cl + 1) to co vv)) ke (cntLt re cl n) (cntEq re cl n)) (rkN (cls ki re (cl + 1)) (fun vv => nmC (va_up (va_up bt bs 0) (bs + 1) cl) (bs + 2) (cov re n (cl + 1) to co vv)) nu n) (rkF (cls ki re (cl + 1)) (fun vv => flE re n (cl + 1) to co vv + cif (nmC (va_up (va_up bt bs 0) (bs + 1) cl) (bs + 2) (cov re n (cl + 1) to co vv) ≠ (kqR (fun vv => ki vv = 4) (fun vv => nmC (va_up (va_up bt bs 0) (bs + 1) cl) (bs + 2) (cov re n (cl + 1) to co vv)) ke (cntLt re cl n) (cntEq re cl n)) vv) 8 0) fw n)) ++ ((wH cI aH (aW 0) (cLT th re none n lt ((cl + 1) + 1)) (cTR th ki re none n tr ((cl + 1) + 1)) (cSH th ki va re none n sh ((cl + 1) + 1)) (cCR th ki va re none n cr ((cl + 1) + 1)) (cCT th ki va re none n ct ((cl + 1) + 1)) (cCU th ki va re none n cu ((cl + 1) + 1)) (cVE th ki va re none n (cl + 1) ve (cl + 1)) (cTA th ki va re none n (cl + 1) ta (cl + 1)) (cCH th ki va re none n ((cl + 1) + 1))) ++ ((wH cI aT (aW 0) lt2 tr2 sh2 cr2 ct2 cu2 ve2 ta2 ch2) ++ (wE cI aE lo fo si it))))))) := by
  refine CM.ofI (by decide +kernel) (Nat.le_of_ble_eq_true rfl) (nar_int _) ?_
  intro p e s m args below meth c Q A G K hA w hret ls hl
  obtain ⟨hx, hb, hml, hown, hts⟩ := id G
  obtain ⟨hn, hcl, hth, hki, hva, hre, hfi⟩ := id J
  obtain ⟨hbt, hbs⟩ := id B9
  obtain ⟨hco, hfw⟩ := id C9
  obtain ⟨hlt, htr, hsh, hcr, hct, hcu, hve, hta, hch⟩ := id H9
  obtain ⟨hlt2, htr2, hsh2, hcr2, hct2, hcu2, hve2, hta2, hch2⟩ := id U9
  obtain ⟨hfo, hsi⟩ := id E9
  have hl : lv_has ls 1 [(0, .ref (aS 0))] := hl
  refine lv_aload_n hx hb dX5_close_0 rfl (lv_at hl 0 rfl) ?_
  refine f_get G K w.1 inX5 0 (ci := 5) rfl rfl 0 rfl fl_X5_12 (v := .ref (aW 0)) rfl dX5_close_1 ?_
  refine callPV (As := []) (rest := []) (q0 := 0) (ci := 4) G K F_X4_openIsEmpty (c_X4_openIsEmpty aW n cl th ki va re fi J S) (w.1.sub (ws' := (wW cI aW n cl th ki va re fi)) [2, 3, 4, 5, 6, 7] rfl) ml_X5_66 rfl rfl rfl (by decide) (by decide) rfl hl.1 (Nat.le_of_ble_eq_true rfl) dX5_close_4 ?_
  refine b_eq G (tgt := 13) dX5_close_7 (by decide) (fun c7 => ?_) (fun c7 => ?_)
  · -- taken at 7
    refine lv_aload_n hx hb dX5_close_13 rfl (lv_at hl 0 rfl) ?_
    refine f_get G K w.1 inX5 0 (ci := 5) rfl rfl 0 rfl fl_X5_12 (v := .ref (aW 0)) rfl dX5_close_14 ?_
    refine f_get G K w.1 inX4 2 (ci := 4) rfl rfl 6 rfl fl_X5_70 (v := .int (nI cl)) rfl dX5_close_17 ?_
    refine lv_bipush (v := (nI 7)) hx hb dX5_close_20 (by decide) ?_
    refine c_lt G (tgt := 28) (by omega) (by omega) dX5_close_22 (by decide) (fun c22 => ?_) (fun c22 => ?_)
    · -- taken at 22
      refine lv_aload_n hx hb dX5_close_28 rfl (lv_at hl 0 rfl) ?_
      refine f_get G K w.1 inX5 0 (ci := 5) rfl rfl 1 rfl fl_X5_19 (v := .ref (aB 0)) rfl dX5_close_29 ?_
      refine lv_aload_n hx hb dX5_close_32 rfl (lv_at hl 0 rfl) ?_
      refine f_get G K w.1 inX5 0 (ci := 5) rfl rfl 0 rfl fl_X5_12 (v := .ref (aW 0)) rfl dX5_close_33 ?_
      refine f_get G K w.1 inX4 2 (ci := 4) rfl rfl 6 rfl fl_X5_70 (v := .int (nI cl)) rfl dX5_close_36 ?_
      refine callMV (As := [.int (nI cl)]) (rest := []) (q0 := 0) (ci := 0) (wr := ((wS cS aS (aW 0) (aB 0) (aC 0) (aH 0) (aT 0) aE la) ++ ((wW cI aW n cl th ki va re fi) ++ ((wC cI cZ aC (aW 0) (aB 0) to co ke nu fw) ++ ((wH cI aH (aW 0) lt tr sh cr ct cu ve ta ch) ++ ((wH cI aT (aW 0) lt2 tr2 sh2 cr2 ct2 cu2 ve2 ta2 ch2) ++ (wE cI aE lo fo si it))))))) (ws2 := ((wS cS aS (aW 0) (aB 0) (aC 0) (aH 0) (aT 0) aE la) ++ ((wW cI aW n cl th ki va re fi) ++ ((wB cI aB (va_up (va_up bt bs 0) (bs + 1) cl) (bs + 2)) ++ ((wC cI cZ aC (aW 0) (aB 0) to co ke nu fw) ++ ((wH cI aH (aW 0) lt tr sh cr ct cu ve ta ch) ++ ((wH cI aT (aW 0) lt2 tr2 sh2 cr2 ct2 cu2 ve2 ta2 ch2) ++ (wE cI aE lo fo si it)))))))) G K hA w F_X0_appendClosing (c_X0_appendClosing aB bt bs cl B9 (by omega)) ml_X5_73 [8, 9] [0, 1, 2, 3, 4, 5, 6, 7, 10, 11, 12, 13, 14, 15, 16, 17, 18, 19, 20, 21, 22, 23, 24, 25, 26, 27, 28, 29, 30, 31, 32, 33, 34, 35, 36, 37, 38, 39, 40, 41] [0, 1, 2, 3, 4, 5, 6, 7, 40, 41, 8, 9, 10, 11, 12, 13, 14, 15, 16, 17, 18, 19, 20, 21, 22, 23, 24, 25, 26, 27, 28, 29, 30, 31, 32, 33, 34, 35, 36, 37, 38, 39] rfl rfl rfl rfl rfl rfl rfl rfl rfl rfl (by decide) (by decide) rfl hl.1 (Nat.le_of_ble_eq_true rfl) dX5_close_39 (fun Hp1 lo2 w => ?_)
      refine lv_aload_n hx hb dX5_close_42 rfl (lv_at hl 0 rfl) ?_
      refine f_get G K w.1 inX5 0 (ci := 5) rfl rfl 0 rfl fl_X5_12 (v := .ref (aW 0)) rfl dX5_close_43 ?_
      refine callMV (As := []) (rest := []) (q0 := 0) (ci := 4) (wr := ((wS cS aS (aW 0) (aB 0) (aC 0) (aH 0) (aT 0) aE la) ++ ((wB cI aB (va_up (va_up bt bs 0) (bs + 1) cl) (bs + 2)) ++ ((wC cI cZ aC (aW 0) (aB 0) to co ke nu fw) ++ ((wH cI aH (aW 0) lt tr sh cr ct cu ve ta ch) ++ ((wH cI aT (aW 0) lt2 tr2 sh2 cr2 ct2 cu2 ve2 ta2 ch2) ++ (wE cI aE lo fo si it))))))) (ws2 := ((wS cS aS (aW 0) (aB 0) (aC 0) (aH 0) (aT 0) aE la) ++ ((wW cI aW n (cl + 1) th ki va re (va_up fi (cl + 1) n)) ++ ((wB cI aB (va_up (va_up bt bs 0) (bs + 1) cl) (bs + 2)) ++ ((wC cI cZ aC (aW 0) (aB 0) to co ke nu fw) ++ ((wH cI aH (aW 0) lt tr sh cr ct cu ve ta ch) ++ ((wH cI aT (aW 0) lt2 tr2 sh2 cr2 ct2 cu2 ve2 ta2 ch2) ++ (wE cI aE lo fo si it)))))))) G K hA w F_X4_openNext (c_X4_openNext aW n cl th ki va re fi J (by omega)) ml_X5_76 [2, 3, 4, 5, 6, 7] [0, 1, 8, 9, 10, 11, 12, 13, 14, 15, 16, 17, 18, 19, 20, 21, 22, 23, 24, 25, 26, 27, 28, 29, 30, 31, 32, 33, 34, 35, 36, 37, 38, 39, 40, 41] [0, 1, 36, 37, 38, 39, 40, 41, 2, 3, 4, 5, 6, 7, 8, 9, 10, 11, 12, 13, 14, 15, 16, 17, 18, 19, 20, 21, 22, 23, 24, 25, 26, 27, 28, 29, 30, 31, 32, 33, 34, 35] rfl rfl rfl rfl rfl rfl rfl rfl rfl rfl (by decide) (by decide) rfl hl.1 (Nat.le_of_ble_eq_true rfl) dX5_close_46 (fun Hp3 lo4 w => ?_)
      refine lv_aload_n hx hb dX5_close_49 rfl (lv_at hl 0 rfl) ?_
      refine f_get G K w.1 inX5 0 (ci := 5) rfl rfl 2 rfl fl_X5_28 (v := .ref (aC 0)) rfl dX5_close_50 ?_
      refine lv_aload_n hx hb dX5_close_53 rfl (lv_at hl 0 rfl) ?_
      refine f_get G K w.1 inX5 0 (ci := 5) rfl rfl 0 rfl fl_X5_12 (v := .ref (aW 0)) rfl dX5_close_54 ?_
      refine f_get G K w.1 inX4 2 (ci := 4) rfl rfl 6 rfl fl_X5_70 (v := .int (nI (cl + 1))) rfl dX5_close_57 ?_
      refine lv_iconst (v := (nI 1)) hx hb dX5_close_60 (by decide) ?_
      refine t_sub G (by omega) dX5_close_61 ?_
      refine t_i (y := (nI cl)) rfl ?_
      refine callMV (As := [.int (nI cl)]) (rest := []) (q0 := 8) (ci := 1) (wr := ((wS cS aS (aW 0) (aB 0) (aC 0) (aH 0) (aT 0) aE la) ++ ((wH cI aH (aW 0) lt tr sh cr ct cu ve ta ch) ++ ((wH cI aT (aW 0) lt2 tr2 sh2 cr2 ct2 cu2 ve2 ta2 ch2) ++ (wE cI aE lo fo si it))))) (ws2 := ((wS cS aS (aW 0) (aB 0) (aC 0) (aH 0) (aT 0) aE la) ++ ((wW cI aW n (cl + 1) th ki va re (va_up fi (cl + 1) n)) ++ ((wB cI aB (va_up (va_up bt bs 0) (bs + 1) cl) (bs + 2)) ++ ((wC cI cZ aC (aW 0) (aB 0) to co (kqR (fun vv => ki vv = 4) (fun vv => nmC (va_up (va_up bt bs 0) (bs + 1) cl) (bs + 2) (cov re n (cl + 1) to co vv)) ke (cntLt re cl n) (cntEq re cl n)) nu fw) ++ ((wH cI aH (aW 0) lt tr sh cr ct cu ve ta ch) ++ ((wH cI aT (aW 0) lt2 tr2 sh2 cr2 ct2 cu2 ve2 ta2 ch2) ++ (wE cI aE lo fo si it)))))))) G K hA w F_X1_keepNumbers (c_X1_keepNumbers aW n (cl + 1) th ki va re (va_up fi (cl + 1) n) aB (va_up (va_up bt bs 0) (bs + 1) cl) (bs + 2) aC to co ke nu fw cl (IW_close J h8) (SW_close S) ⟨up_le (up_le hbt (by omega)) (by omega), hb9⟩ C9 (by omega)) ml_X5_79 [2, 3, 4, 5, 6, 7, 8, 9, 10, 11, 12, 13, 14, 15] [0, 1, 16, 17, 18, 19, 20, 21, 22, 23, 24, 25, 26, 27, 28, 29, 30, 31, 32, 33, 34, 35, 36, 37, 38, 39, 40, 41] [0, 1, 28, 29, 30, 31, 32, 33, 34, 35, 36, 37, 38, 39, 40, 41, 2, 3, 4, 5, 6, 7, 8, 9, 10, 11, 12, 13, 14, 15, 16, 17, 18, 19, 20, 21, 22, 23, 24, 25, 26, 27] rfl rfl rfl rfl rfl rfl rfl rfl rfl rfl (by decide) (by decide) rfl hl.1 (Nat.le_of_ble_eq_true rfl) dX5_close_62 (fun Hp5 lo6 w => ?_)
      refine lv_aload_n hx hb dX5_close_65 rfl (lv_at hl 0 rfl) ?_
      refine callMF (As := []) (rest := []) (q0 := 0) (ci := 5) (ws' := ((wS cS aS (aW 0) (aB 0) (aC 0) (aH 0) (aT 0) aE la) ++ ((wW cI aW n (cl + 1) th ki va re (va_up fi (cl + 1) n)) ++ ((wB cI aB (va_up (va_up bt bs 0) (bs + 1) cl) (bs + 2)) ++ ((wC cI cZ aC (aW 0) (aB 0) to co (kqR (fun vv => ki vv = 4) (fun vv => nmC (va_up (va_up bt bs 0) (bs + 1) cl) (bs + 2) (cov re n (cl + 1) to co vv)) ke (cntLt re cl n) (cntEq re cl n)) (rkN (cls ki re (cl + 1)) (fun vv => nmC (va_up (va_up bt bs 0) (bs + 1) cl) (bs + 2) (cov re n (cl + 1) to co vv)) nu n) (rkF (cls ki re (cl + 1)) (fun vv => flE re n (cl + 1) to co vv + cif (nmC (va_up (va_up bt bs 0) (bs + 1) cl) (bs + 2) (cov re n (cl + 1) to co vv) ≠ (kqR (fun vv => ki vv = 4) (fun vv => nmC (va_up (va_up bt bs 0) (bs + 1) cl) (bs + 2) (cov re n (cl + 1) to co vv)) ke (cntLt re cl n) (cntEq re cl n)) vv) 8 0) fw n)) ++ ((wH cI aH (aW 0) (cLT th re none n lt ((cl + 1) + 1)) (cTR th ki re none n tr ((cl + 1) + 1)) (cSH th ki va re none n sh ((cl + 1) + 1)) (cCR th ki va re none n cr ((cl + 1) + 1)) (cCT th ki va re none n ct ((cl + 1) + 1)) (cCU th ki va re none n cu ((cl + 1) + 1)) (cVE th ki va re none n (cl + 1) ve (cl + 1)) (cTA th ki va re none n (cl + 1) ta (cl + 1)) (cCH th ki va re none n ((cl + 1) + 1))) ++ ((wH cI aT (aW 0) lt2 tr2 sh2 cr2 ct2 cu2 ve2 ta2 ch2) ++ (wE cI aE lo fo si it)))))))) G K hA w F_X5_reckon (c_X5_reckon aS aE la aW n (cl + 1) th ki va re (va_up fi (cl + 1) n) aB (va_up (va_up bt bs 0) (bs + 1) cl) (bs + 2) aC to co (kqR (fun vv => ki vv = 4) (fun vv => nmC (va_up (va_up bt bs 0) (bs + 1) cl) (bs + 2) (cov re n (cl + 1) to co vv)) ke (cntLt re cl n) (cntEq re cl n)) nu fw aH lt tr sh cr ct cu ve ta ch aT lt2 tr2 sh2 cr2 ct2 cu2 ve2 ta2 ch2 lo fo si it (IW_close J h8) (SW_close S) ⟨up_le (up_le hbt (by omega)) (by omega), hb9⟩ C9 H9 U9 E9) ml_X5_63 rfl rfl rfl (by decide) (by decide) rfl hl.1 (Nat.le_of_ble_eq_true rfl) dX5_close_66 (fun Hp7 lo8 w => ?_)
      refine lv_aload_n hx hb dX5_close_69 rfl (lv_at hl 0 rfl) ?_
      refine f_get G K w.1 inX5 0 (ci := 5) rfl rfl 0 rfl fl_X5_12 (v := .ref (aW 0)) rfl dX5_close_70 ?_
      refine f_get G K w.1 inX4 2 (ci := 4) rfl rfl 6 rfl fl_X5_70 (v := .int (nI (cl + 1))) rfl dX5_close_73 ?_
      exact hret _ _ _ _ _ _ rfl rfl w dX5_close_76
    · -- not taken at 22
      exact absurd c22 (by omega)
  · -- not taken at 7
    exact absurd c7 (by omega)
set_option maxHeartbeats 4000000 in
set_option maxRecDepth 100000 in
theorem c_X5_undo_not (aS : Nat → Nat) (aE : Nat → Nat) (la : Int32) (aW : Nat → Nat) (n : Nat) (cl : Nat) (th : Nat → Nat) (ki : Nat → Nat) (va : Nat → Nat) (re : Nat → Nat) (fi : Nat → Nat) (aB : Nat → Nat) (bt : Nat → Nat) (bs : Nat) (aC : Nat → Nat) (to : Nat → Prop) (co : Nat → Nat) (ke : Nat → Int32) (nu : Nat → Int32) (fw : Nat → Nat) (aH : Nat → Nat) (lt : Nat → Option Nat) (tr : Nat → Nat) (sh : Nat → Nat) (cr : Nat → Nat) (ct : Nat → Nat) (cu : Nat → Nat) (ve : Nat → Nat) (ta : Nat → Nat) (ch : Nat) (aT : Nat → Nat) (lt2 : Nat → Option Nat) (tr2 : Nat → Nat) (sh2 : Nat → Nat) (cr2 : Nat → Nat) (ct2 : Nat → Nat) (cu2 : Nat → Nat) (ve2 : Nat → Nat) (ta2 : Nat → Nat) (ch2 : Nat) (lo : Nat → Prop) (fo : Nat → Nat) (si : Nat → Nat) (it : Nat → Nat → Int32) (J : IW n cl th ki va re fi) (S : SW n cl re fi) (B9 : (∀ j, bt j ≤ 255) ∧ bs ≤ 216) (C9 : (∀ j, co j ≤ 400) ∧ (∀ j, fw j ≤ 15)) (H9 : IHd lt tr sh cr ct cu ve ta ch) (U9 : IHd lt2 tr2 sh2 cr2 ct2 cu2 ve2 ta2 ch2) (E9 : (∀ j, fo j ≤ 2) ∧ (∀ j, si j ≤ 60)) (h9 : cntEq re cl n = 0) : CM l D (TY cI cZ cS) yX5_undo cX5_undo 1 (some .int) 6 [.ref (aS 0)] ((wS cS aS (aW 0) (aB 0) (aC 0) (aH 0) (aT 0) aE la) ++ ((wW cI aW n cl th ki va re fi) ++ ((wB cI aB bt bs) ++ ((wC cI cZ aC (aW 0) (aB 0) to co ke nu fw) ++ ((wH cI aH (aW 0) lt tr sh cr ct cu ve ta ch) ++ ((wH cI aT (aW 0) lt2 tr2 sh2 cr2 ct2 cu2 ve2 ta2 ch2) ++ (wE cI aE lo fo si it))))))) (some (.int (-3))) ((wS cS aS (aW 0) (aB 0) (aC 0) (aH 0) (aT 0) aE la) ++ ((wW cI aW n cl th ki va re fi) ++ ((wB cI aB bt bs) ++ ((wC cI cZ aC (aW 0) (aB 0) to co ke nu fw) ++ ((wH cI aH (aW 0) lt tr sh cr ct cu ve ta ch) ++ ((wH cI aT (aW 0) lt2 tr2 sh2 cr2 ct2 cu2 ve2 ta2 ch2) ++ (wE cI aE lo fo si it))))))) := by
  refine CM.ofI (by decide +kernel) (Nat.le_of_ble_eq_true rfl) (nar_int _) ?_
  intro p e s m args below meth c Q A G K hA w hret ls hl
  obtain ⟨hx, hb, hml, hown, hts⟩ := id G
  obtain ⟨hn, hcl, hth, hki, hva, hre, hfi⟩ := id J
  obtain ⟨hbt, hbs⟩ := id B9
  obtain ⟨hco, hfw⟩ := id C9
  obtain ⟨hlt, htr, hsh, hcr, hct, hcu, hve, hta, hch⟩ := id H9
  obtain ⟨hlt2, htr2, hsh2, hcr2, hct2, hcu2, hve2, hta2, hch2⟩ := id U9
  obtain ⟨hfo, hsi⟩ := id E9
  have hl : lv_has ls 1 [(0, .ref (aS 0))] := hl
  refine lv_aload_n hx hb dX5_undo_0 rfl (lv_at hl 0 rfl) ?_
  refine f_get G K w.1 inX5 0 (ci := 5) rfl rfl 0 rfl fl_X5_12 (v := .ref (aW 0)) rfl dX5_undo_1 ?_
  refine callPV (As := []) (rest := []) (q0 := 0) (ci := 4) G K F_X4_openIsEmpty (c_X4_openIsEmpty aW n cl th ki va re fi J S) (w.1.sub (ws' := (wW cI aW n cl th ki va re fi)) [2, 3, 4, 5, 6, 7] rfl) ml_X5_66 rfl rfl rfl (by decide) (by decide) rfl hl.1 (Nat.le_of_ble_eq_true rfl) dX5_undo_4 ?_
  refine b_eq G (tgt := 13) dX5_undo_7 (by decide) (fun c7 => ?_) (fun c7 => ?_)
  · -- taken at 7
    exact absurd h9 c7
  · -- not taken at 7
    refine lv_bipush (v := (-3)) hx hb dX5_undo_10 (by decide) ?_
    exact hret _ _ _ _ _ _ rfl rfl w dX5_undo_12
set_option maxHeartbeats 4000000 in
set_option maxRecDepth 100000 in
theorem c_X5_undo_ok (aS : Nat → Nat) (aE : Nat → Nat) (la : Int32) (aW : Nat → Nat) (n : Nat) (cl : Nat) (th : Nat → Nat) (ki : Nat → Nat) (va : Nat → Nat) (re : Nat → Nat) (fi : Nat → Nat) (aB : Nat → Nat) (bt : Nat → Nat) (bs : Nat) (aC : Nat → Nat) (to : Nat → Prop) (co : Nat → Nat) (ke : Nat → Int32) (nu : Nat → Int32) (fw : Nat → Nat) (aH : Nat → Nat) (lt : Nat → Option Nat) (tr : Nat → Nat) (sh : Nat → Nat) (cr : Nat → Nat) (ct : Nat → Nat) (cu : Nat → Nat) (ve : Nat → Nat) (ta : Nat → Nat) (ch : Nat) (aT : Nat → Nat) (lt2 : Nat → Option Nat) (tr2 : Nat → Nat) (sh2 : Nat → Nat) (cr2 : Nat → Nat) (ct2 : Nat → Nat) (cu2 : Nat → Nat) (ve2 : Nat → Nat) (ta2 : Nat → Nat) (ch2 : Nat) (lo : Nat → Prop) (fo : Nat → Nat) (si : Nat → Nat) (it : Nat → Nat → Int32) (J : IW n cl th ki va re fi) (S : SW n cl re fi) (B9 : (∀ j, bt j ≤ 255) ∧ bs ≤ 216) (C9 : (∀ j, co j ≤ 400) ∧ (∀ j, fw j ≤ 15)) (H9 : IHd lt tr sh cr ct cu ve ta ch) (U9 : IHd lt2 tr2 sh2 cr2 ct2 cu2 ve2 ta2 ch2) (E9 : (∀ j, fo j ≤ 2) ∧ (∀ j, si j ≤ 60)) (h9 : 0 < cntEq re cl n) (hb9 : 5 ≤ bs) : CM l D (TY cI cZ cS) yX5_undo cX5_undo 1 (some .int) 6 [.ref (aS 0)] ((wS cS aS (aW 0) (aB 0) (aC 0) (aH 0) (aT 0) aE la) ++ ((wW cI aW n cl th ki va re fi) ++ ((wB cI aB bt bs) ++ ((wC cI cZ aC (aW 0) (aB 0) to co ke nu fw) ++ ((wH cI aH (aW 0) lt tr sh cr ct cu ve ta ch) ++ ((wH cI aT (aW 0) lt2 tr2 sh2 cr2 ct2 cu2 ve2 ta2 ch2) ++ (wE cI aE lo fo si it))))))) (some (.int (nI (n - 1)))) ((wS cS aS (aW 0) (aB 0) (aC 0) (aH 0) (aT 0) aE la) ++ ((wW cI aW (n - 1) cl th ki va re fi) ++ ((wB cI aB bt (bs - 5)) ++ ((wC cI cZ aC (aW 0) (aB 0) to co ke (rkN (cls ki re cl) (fun vv => nmC bt (bs - 5) (cov re (n - 1) cl to co vv)) nu (n - 1)) (rkF (cls ki re cl) (fun vv => flE re (n - 1) cl to co vv + cif (nmC bt (bs - 5) (cov re (n - 1) cl to co vv) ≠ ke vv) 8 0) fw (n - 1))) ++ ((wH cI aH (aW 0) (cLT th re none (n - 1) lt (cl + 1)) (cTR th ki re none (n - 1) tr (cl + 1)) (cSH th ki va re none (n - 1) sh (cl + 1)) (cCR th ki va re none (n - 1) cr (cl + 1)) (cCT th ki va re none (n - 1) ct (cl + 1)) (cCU th ki va re none (n - 1) cu (cl + 1)) (cVE th ki va re none (n - 1) cl ve cl) (cTA th ki va re none (n - 1) cl ta cl) (cCH th ki va re none (n - 1) (cl + 1))) ++ ((wH cI aT (aW 0) lt2 tr2 sh2 cr2 ct2 cu2 ve2 ta2 ch2) ++ (wE cI aE lo fo si it))))))) := by
  refine CM.ofI (by decide +kernel) (Nat.le_of_ble_eq_true rfl) (nar_int _) ?_
  intro p e s m args below meth c Q A G K hA w hret ls hl
  obtain ⟨hx, hb, hml, hown, hts⟩ := id G
  obtain ⟨hn, hcl, hth, hki, hva, hre, hfi⟩ := id J
  obtain ⟨hbt, hbs⟩ := id B9
  obtain ⟨hco, hfw⟩ := id C9
  obtain ⟨hlt, htr, hsh, hcr, hct, hcu, hve, hta, hch⟩ := id H9
  obtain ⟨hlt2, htr2, hsh2, hcr2, hct2, hcu2, hve2, hta2, hch2⟩ := id U9
  obtain ⟨hfo, hsi⟩ := id E9
  have hle := cnt_le re cl n
  have hl : lv_has ls 1 [(0, .ref (aS 0))] := hl
  refine lv_aload_n hx hb dX5_undo_0 rfl (lv_at hl 0 rfl) ?_
  refine f_get G K w.1 inX5 0 (ci := 5) rfl rfl 0 rfl fl_X5_12 (v := .ref (aW 0)) rfl dX5_undo_1 ?_
  refine callPV (As := []) (rest := []) (q0 := 0) (ci := 4) G K F_X4_openIsEmpty (c_X4_openIsEmpty aW n cl th ki va re fi J S) (w.1.sub (ws' := (wW cI aW n cl th ki va re fi)) [2, 3, 4, 5, 6, 7] rfl) ml_X5_66 rfl rfl rfl (by decide) (by decide) rfl hl.1 (Nat.le_of_ble_eq_true rfl) dX5_undo_4 ?_
  refine b_eq G (tgt := 13) dX5_undo_7 (by decide) (fun c7 => ?_) (fun c7 => ?_)
  · -- taken at 7
    refine lv_aload_n hx hb dX5_undo_13 rfl (lv_at hl 0 rfl) ?_
    refine f_get G K w.1 inX5 0 (ci := 5) rfl rfl 0 rfl fl_X5_12 (v := .ref (aW 0)) rfl dX5_undo_14 ?_
    refine lv_dup hx hb dX5_undo_17 rfl ?_
    refine f_get G K w.1 inX4 2 (ci := 4) rfl rfl 5 rfl fl_X5_82 (v := .int (nI n)) rfl dX5_undo_18 ?_
    refine lv_iconst (v := (nI 1)) hx hb dX5_undo_21 (by decide) ?_
    refine t_sub G (by omega) dX5_undo_22 ?_
    refine f_put G K w inX4 tyX4 tyX4_ok nmX4 2 (ci := 4) rfl rfl 5 rfl fl_X5_82 rfl rfl rfl rfl dX5_undo_23 (w2 := ((wS cS aS (aW 0) (aB 0) (aC 0) (aH 0) (aT 0) aE la) ++ ((wW cI aW (n - 1) cl th ki va re fi) ++ ((wB cI aB bt bs) ++ ((wC cI cZ aC (aW 0) (aB 0) to co ke nu fw) ++ ((wH cI aH (aW 0) lt tr sh cr ct cu ve ta ch) ++ ((wH cI aT (aW 0) lt2 tr2 sh2 cr2 ct2 cu2 ve2 ta2 ch2) ++ (wE cI aE lo fo si it)))))))) rfl (fun Hp1 lo2 w => ?_)
    refine lv_aload_n hx hb dX5_undo_26 rfl (lv_at hl 0 rfl) ?_
    refine f_get G K w.1 inX5 0 (ci := 5) rfl rfl 1 rfl fl_X5_19 (v := .ref (aB 0)) rfl dX5_undo_27 ?_
    refine callMV (As := []) (rest := []) (q0 := 0) (ci := 0) (wr := ((wS cS aS (aW 0) (aB 0) (aC 0) (aH 0) (aT 0) aE la) ++ ((wW cI aW (n - 1) cl th ki va re fi) ++ ((wC cI cZ aC (aW 0) (aB 0) to co ke nu fw) ++ ((wH cI aH (aW 0) lt tr sh cr ct cu ve ta ch) ++ ((wH cI aT (aW 0) lt2 tr2 sh2 cr2 ct2 cu2 ve2 ta2 ch2) ++ (wE cI aE lo fo si it))))))) (ws2 := ((wS cS aS (aW 0) (aB 0) (aC 0) (aH 0) (aT 0) aE la) ++ ((wW cI aW (n - 1) cl th ki va re fi) ++ ((wB cI aB bt (bs - 5)) ++ ((wC cI cZ aC (aW 0) (aB 0) to co ke nu fw) ++ ((wH cI aH (aW 0) lt tr sh cr ct cu ve ta ch) ++ ((wH cI aT (aW 0) lt2 tr2 sh2 cr2 ct2 cu2 ve2 ta2 ch2) ++ (wE cI aE lo fo si it)))))))) G K hA w F_X0_dropWrite (c_X0_dropWrite aB bt bs B9 (by omega)) ml_X5_85 [8, 9] [0, 1, 2, 3, 4, 5, 6, 7, 10, 11, 12, 13, 14, 15, 16, 17, 18, 19, 20, 21, 22, 23, 24, 25, 26, 27, 28, 29, 30, 31, 32, 33, 34, 35, 36, 37, 38, 39, 40, 41] [0, 1, 2, 3, 4, 5, 6, 7, 40, 41, 8, 9, 10, 11, 12, 13, 14, 15, 16, 17, 18, 19, 20, 21, 22, 23, 24, 25, 26, 27, 28, 29, 30, 31, 32, 33, 34, 35, 36, 37, 38, 39] rfl rfl rfl rfl rfl rfl rfl rfl rfl rfl (by decide) (by decide) rfl hl.1 (Nat.le_of_ble_eq_true rfl) dX5_undo_30 (fun Hp3 lo4 w => ?_)
    refine lv_aload_n hx hb dX5_undo_33 rfl (lv_at hl 0 rfl) ?_
    refine callMF (As := []) (rest := []) (q0 := 0) (ci := 5) (ws' := ((wS cS aS (aW 0) (aB 0) (aC 0) (aH 0) (aT 0) aE la) ++ ((wW cI aW (n - 1) cl th ki va re fi) ++ ((wB cI aB bt (bs - 5)) ++ ((wC cI cZ aC (aW 0) (aB 0) to co ke (rkN (cls ki re cl) (fun vv => nmC bt (bs - 5) (cov re (n - 1) cl to co vv)) nu (n - 1)) (rkF (cls ki re cl) (fun vv => flE re (n - 1) cl to co vv + cif (nmC bt (bs - 5) (cov re (n - 1) cl to co vv) ≠ ke vv) 8 0) fw (n - 1))) ++ ((wH cI aH (aW 0) (cLT th re none (n - 1) lt (cl + 1)) (cTR th ki re none (n - 1) tr (cl + 1)) (cSH th ki va re none (n - 1) sh (cl + 1)) (cCR th ki va re none (n - 1) cr (cl + 1)) (cCT th ki va re none (n - 1) ct (cl + 1)) (cCU th ki va re none (n - 1) cu (cl + 1)) (cVE th ki va re none (n - 1) cl ve cl) (cTA th ki va re none (n - 1) cl ta cl) (cCH th ki va re none (n - 1) (cl + 1))) ++ ((wH cI aT (aW 0) lt2 tr2 sh2 cr2 ct2 cu2 ve2 ta2 ch2) ++ (wE cI aE lo fo si it)))))))) G K hA w F_X5_reckon (c_X5_reckon aS aE la aW (n - 1) cl th ki va re fi aB bt (bs - 5) aC to co ke nu fw aH lt tr sh cr ct cu ve ta ch aT lt2 tr2 sh2 cr2 ct2 cu2 ve2 ta2 ch2 lo fo si it (IW_undo J) (SW_undo S h9) ⟨hbt, by omega⟩ C9 H9 U9 E9) ml_X5_63 rfl rfl rfl (by decide) (by decide) rfl hl.1 (Nat.le_of_ble_eq_true rfl) dX5_undo_34 (fun Hp5 lo6 w => ?_)
    refine lv_aload_n hx hb dX5_undo_37 rfl (lv_at hl 0 rfl) ?_
    refine f_get G K w.1 inX5 0 (ci := 5) rfl rfl 0 rfl fl_X5_12 (v := .ref (aW 0)) rfl dX5_undo_38 ?_
    refine f_get G K w.1 inX4 2 (ci := 4) rfl rfl 5 rfl fl_X5_82 (v := .int (nI (n - 1))) rfl dX5_undo_41 ?_
    exact hret _ _ _ _ _ _ rfl rfl w dX5_undo_44
  · -- not taken at 7
    exact absurd c7 (by omega)
set_option maxHeartbeats 4000000 in
set_option maxRecDepth 100000 in
theorem c_X5_cover_bad (aS : Nat → Nat) (aE : Nat → Nat) (la : Int32) (aW : Nat → Nat) (n : Nat) (cl : Nat) (th : Nat → Nat) (ki : Nat → Nat) (va : Nat → Nat) (re : Nat → Nat) (fi : Nat → Nat) (aB : Nat → Nat) (bt : Nat → Nat) (bs : Nat) (aC : Nat → Nat) (to : Nat → Prop) (co : Nat → Nat) (ke : Nat → Int32) (nu : Nat → Int32) (fw : Nat → Nat) (aH : Nat → Nat) (lt : Nat → Option Nat) (tr : Nat → Nat) (sh : Nat → Nat) (cr : Nat → Nat) (ct : Nat → Nat) (cu : Nat → Nat) (ve : Nat → Nat) (ta : Nat → Nat) (ch : Nat) (aT : Nat → Nat) (lt2 : Nat → Option Nat) (tr2 : Nat → Nat) (sh2 : Nat → Nat) (cr2 : Nat → Nat) (ct2 : Nat → Nat) (cu2 : Nat → Nat) (ve2 : Nat → Nat) (ta2 : Nat → Nat) (ch2 : Nat) (lo : Nat → Prop) (fo : Nat → Nat) (si : Nat → Nat) (it : Nat → Nat → Int32) (x : Int32) (x1 : Int32) (x2 : Int32) (x3 : Int32) (x4 : Int32) (J : IW n cl th ki va re fi) (S : SW n cl re fi) (B9 : (∀ j, bt j ≤ 255) ∧ bs ≤ 216) (C9 : (∀ j, co j ≤ 400) ∧ (∀ j, fw j ≤ 15)) (H9 : IHd lt tr sh cr ct cu ve ta ch) (U9 : IHd lt2 tr2 sh2 cr2 ct2 cu2 ve2 ta2 ch2) (E9 : (∀ j, fo j ≤ 2) ∧ (∀ j, si j ≤ 60)) (hbad : ¬ (okW n x ∧ okC x1 x2 x3 x4)) : CM l D (TY cI cZ cS) yX5_cover cX5_cover 7 (some .int) 1 [.ref (aS 0), .int x, .int x1, .int x2, .int x3, .int x4] ((wS cS aS (aW 0) (aB 0) (aC 0) (aH 0) (aT 0) aE la) ++ ((wW cI aW n cl th ki va re fi) ++ ((wB cI aB bt bs) ++ ((wC cI cZ aC (aW 0) (aB 0) to co ke nu fw) ++ ((wH cI aH (aW 0) lt tr sh cr ct cu ve ta ch) ++ ((wH cI aT (aW 0) lt2 tr2 sh2 cr2 ct2 cu2 ve2 ta2 ch2) ++ (wE cI aE lo fo si it))))))) (some (.int (-2))) ((wS cS aS (aW 0) (aB 0) (aC 0) (aH 0) (aT 0) aE la) ++ ((wW cI aW n cl th ki va re fi) ++ ((wB cI aB bt bs) ++ ((wC cI cZ aC (aW 0) (aB 0) to co ke nu fw) ++ ((wH cI aH (aW 0) lt tr sh cr ct cu ve ta ch) ++ ((wH cI aT (aW 0) lt2 tr2 sh2 cr2 ct2 cu2 ve2 ta2 ch2) ++ (wE cI aE lo fo si it))))))) := by
  refine CM.ofI (by decide +kernel) (Nat.le_of_ble_eq_true rfl) (nar_int _) ?_
  intro p e s m args below meth c Q A G K hA w hret ls hl
  obtain ⟨hx, hb, hml, hown, hts⟩ := id G
  obtain ⟨hn, hcl, hth, hki, hva, hre, hfi⟩ := id J
  obtain ⟨hbt, hbs⟩ := id B9
  obtain ⟨hco, hfw⟩ := id C9
  obtain ⟨hlt, htr, hsh, hcr, hct, hcu, hve, hta, hch⟩ := id H9
  obtain ⟨hlt2, htr2, hsh2, hcr2, hct2, hcu2, hve2, hta2, hch2⟩ := id U9
  obtain ⟨hfo, hsi⟩ := id E9
  have hl : lv_has ls 7 [(0, .ref (aS 0)), (1, .int x), (2, .int x1), (3, .int x2), (4, .int x3), (5, .int x4)] := hl
  have J36 : W p l e (RM 1) s m args below meth c s.heap [] 0 0 Q (F0 m 36 ls [.int (bI (okC x1 x2 x3 x4))]) := by
    refine lv_istore (lv' := [(6, .int (bI (okC x1 x2 x3 x4))), (0, .ref (aS 0)), (1, .int x), (2, .int x1), (3, .int x2), (4, .int x3), (5, .int x4)]) hx hb dX5_cover_36 hl (by decide) rfl (fun ls hl => ?_)
    refine lv_aload_n hx hb dX5_cover_38 rfl (lv_at hl 1 rfl) ?_
    refine f_get G K w.1 inX5 0 (ci := 5) rfl rfl 0 rfl fl_X5_12 (v := .ref (aW 0)) rfl dX5_cover_39 ?_
    refine lv_iload_n hx hb dX5_cover_42 rfl (lv_at hl 2 rfl) ?_
    refine callPV (As := [.int x]) (rest := []) (q0 := 0) (ci := 4) G K F_X4_has (c_X4_has aW n cl th ki va re fi x J) (w.1.sub (ws' := (wW cI aW n cl th ki va re fi)) [2, 3, 4, 5, 6, 7] rfl) ml_X5_88 rfl rfl rfl (by decide) (by decide) rfl hl.1 (Nat.le_of_ble_eq_true rfl) dX5_cover_43 ?_
    refine b_eq G (tgt := 54) dX5_cover_46 (by decide) (fun c46 => ?_) (fun c46 => ?_)
    · -- taken at 46
      refine lv_bipush (v := (-2)) hx hb dX5_cover_54 (by decide) ?_
      exact hret _ _ _ _ _ _ rfl rfl w dX5_cover_56
    · -- not taken at 46
      refine lv_iload hx hb dX5_cover_49 (lv_at hl 0 rfl) ?_
      refine b_ne G (tgt := 57) dX5_cover_51 (by decide) (fun c51 => ?_) (fun c51 => ?_)
      · -- taken at 51
        exact absurd ⟨c46, c51⟩ hbad
      · -- not taken at 51
        refine lv_bipush (v := (-2)) hx hb dX5_cover_54 (by decide) ?_
        exact hret _ _ _ _ _ _ rfl rfl w dX5_cover_56
  refine lv_iconst (v := (nI 0)) hx hb dX5_cover_0 (by decide) ?_
  refine lv_iload_n hx hb dX5_cover_1 rfl (lv_at hl 2 rfl) ?_
  refine lv_icmp_gt (tgt := 35) hx hb dX5_cover_2 (by decide) (fun c2 => ?_) (fun c2 => ?_)
  · -- taken at 2
    refine lv_iconst (v := (nI 0)) hx hb dX5_cover_35 (by decide) ?_
    refine t_i (y := (bI (okC x1 x2 x3 x4))) (by first | exact b1 (okC_i ⟨nlt_le c2, nlt_le c7⟩ ⟨nlt_le c7, nlt_le c13⟩ ⟨nlt_le c13, nlt_le c20⟩ ⟨nlt_le c20, nlt_le c28⟩) | exact b0 (fun h => lt_nle c2 (okC_1 h).1) | exact b0 (fun h => lt_nle c7 (okC_1 h).2) | exact b0 (fun h => lt_nle c13 (okC_2 h).2) | exact b0 (fun h => lt_nle c20 (okC_3 h).2) | exact b0 (fun h => lt_nle c28 (okC_4 h).2)) ?_
    exact J36
  · -- not taken at 2
    refine lv_iload_n hx hb dX5_cover_5 rfl (lv_at hl 2 rfl) ?_
    refine lv_iload_n hx hb dX5_cover_6 rfl (lv_at hl 3 rfl) ?_
    refine lv_icmp_gt (tgt := 35) hx hb dX5_cover_7 (by decide) (fun c7 => ?_) (fun c7 => ?_)
    · -- taken at 7
      refine lv_iconst (v := (nI 0)) hx hb dX5_cover_35 (by decide) ?_
      refine t_i (y := (bI (okC x1 x2 x3 x4))) (by first | exact b1 (okC_i ⟨nlt_le c2, nlt_le c7⟩ ⟨nlt_le c7, nlt_le c13⟩ ⟨nlt_le c13, nlt_le c20⟩ ⟨nlt_le c20, nlt_le c28⟩) | exact b0 (fun h => lt_nle c2 (okC_1 h).1) | exact b0 (fun h => lt_nle c7 (okC_1 h).2) | exact b0 (fun h => lt_nle c13 (okC_2 h).2) | exact b0 (fun h => lt_nle c20 (okC_3 h).2) | exact b0 (fun h => lt_nle c28 (okC_4 h).2)) ?_
      exact J36
    · -- not taken at 7
      refine lv_iload_n hx hb dX5_cover_10 rfl (lv_at hl 3 rfl) ?_
      refine lv_iload hx hb dX5_cover_11 (lv_at hl 4 rfl) ?_
      refine lv_icmp_gt (tgt := 35) hx hb dX5_cover_13 (by decide) (fun c13 => ?_) (fun c13 => ?_)
      · -- taken at 13
        refine lv_iconst (v := (nI 0)) hx hb dX5_cover_35 (by decide) ?_
        refine t_i (y := (bI (okC x1 x2 x3 x4))) (by first | exact b1 (okC_i ⟨nlt_le c2, nlt_le c7⟩ ⟨nlt_le c7, nlt_le c13⟩ ⟨nlt_le c13, nlt_le c20⟩ ⟨nlt_le c20, nlt_le c28⟩) | exact b0 (fun h => lt_nle c2 (okC_1 h).1) | exact b0 (fun h => lt_nle c7 (okC_1 h).2) | exact b0 (fun h => lt_nle c13 (okC_2 h).2) | exact b0 (fun h => lt_nle c20 (okC_3 h).2) | exact b0 (fun h => lt_nle c28 (okC_4 h).2)) ?_
        exact J36
      · -- not taken at 13
        refine lv_iload hx hb dX5_cover_16 (lv_at hl 4 rfl) ?_
        refine lv_iload hx hb dX5_cover_18 (lv_at hl 5 rfl) ?_
        refine lv_icmp_gt (tgt := 35) hx hb dX5_cover_20 (by decide) (fun c20 => ?_) (fun c20 => ?_)
        · -- taken at 20
          refine lv_iconst (v := (nI 0)) hx hb dX5_cover_35 (by decide) ?_
          refine t_i (y := (bI (okC x1 x2 x3 x4))) (by first | exact b1 (okC_i ⟨nlt_le c2, nlt_le c7⟩ ⟨nlt_le c7, nlt_le c13⟩ ⟨nlt_le c13, nlt_le c20⟩ ⟨nlt_le c20, nlt_le c28⟩) | exact b0 (fun h => lt_nle c2 (okC_1 h).1) | exact b0 (fun h => lt_nle c7 (okC_1 h).2) | exact b0 (fun h => lt_nle c13 (okC_2 h).2) | exact b0 (fun h => lt_nle c20 (okC_3 h).2) | exact b0 (fun h => lt_nle c28 (okC_4 h).2)) ?_
          exact J36
        · -- not taken at 20
          refine lv_iload hx hb dX5_cover_23 (lv_at hl 5 rfl) ?_
          refine lv_sipush (v := (nI 400)) hx hb dX5_cover_25 (by decide) ?_
          refine lv_icmp_gt (tgt := 35) hx hb dX5_cover_28 (by decide) (fun c28 => ?_) (fun c28 => ?_)
          · -- taken at 28
            refine lv_iconst (v := (nI 0)) hx hb dX5_cover_35 (by decide) ?_
            refine t_i (y := (bI (okC x1 x2 x3 x4))) (by first | exact b1 (okC_i ⟨nlt_le c2, nlt_le c7⟩ ⟨nlt_le c7, nlt_le c13⟩ ⟨nlt_le c13, nlt_le c20⟩ ⟨nlt_le c20, nlt_le c28⟩) | exact b0 (fun h => lt_nle c2 (okC_1 h).1) | exact b0 (fun h => lt_nle c7 (okC_1 h).2) | exact b0 (fun h => lt_nle c13 (okC_2 h).2) | exact b0 (fun h => lt_nle c20 (okC_3 h).2) | exact b0 (fun h => lt_nle c28 (okC_4 h).2)) ?_
            exact J36
          · -- not taken at 28
            refine lv_iconst (v := (nI 1)) hx hb dX5_cover_31 (by decide) ?_
            refine lv_goto (tgt := 36) hx hb dX5_cover_32 (by decide) ?_
            refine t_i (y := (bI (okC x1 x2 x3 x4))) (by first | exact b1 (okC_i ⟨nlt_le c2, nlt_le c7⟩ ⟨nlt_le c7, nlt_le c13⟩ ⟨nlt_le c13, nlt_le c20⟩ ⟨nlt_le c20, nlt_le c28⟩) | exact b0 (fun h => lt_nle c2 (okC_1 h).1) | exact b0 (fun h => lt_nle c7 (okC_1 h).2) | exact b0 (fun h => lt_nle c13 (okC_2 h).2) | exact b0 (fun h => lt_nle c20 (okC_3 h).2) | exact b0 (fun h => lt_nle c28 (okC_4 h).2)) ?_
            exact J36
set_option maxHeartbeats 4000000 in
set_option maxRecDepth 100000 in
theorem c_X5_cover_not (aS : Nat → Nat) (aE : Nat → Nat) (la : Int32) (aW : Nat → Nat) (n : Nat) (cl : Nat) (th : Nat → Nat) (ki : Nat → Nat) (va : Nat → Nat) (re : Nat → Nat) (fi : Nat → Nat) (aB : Nat → Nat) (bt : Nat → Nat) (bs : Nat) (aC : Nat → Nat) (to : Nat → Prop) (co : Nat → Nat) (ke : Nat → Int32) (nu : Nat → Int32) (fw : Nat → Nat) (aH : Nat → Nat) (lt : Nat → Option Nat) (tr : Nat → Nat) (sh : Nat → Nat) (cr : Nat → Nat) (ct : Nat → Nat) (cu : Nat → Nat) (ve : Nat → Nat) (ta : Nat → Nat) (ch : Nat) (aT : Nat → Nat) (lt2 : Nat → Option Nat) (tr2 : Nat → Nat) (sh2 : Nat → Nat) (cr2 : Nat → Nat) (ct2 : Nat → Nat) (cu2 : Nat → Nat) (ve2 : Nat → Nat) (ta2 : Nat → Nat) (ch2 : Nat) (lo : Nat → Prop) (fo : Nat → Nat) (si : Nat → Nat) (it : Nat → Nat → Int32) (k : Nat) (x1 : Int32) (x2 : Int32) (x3 : Int32) (x4 : Int32) (J : IW n cl th ki va re fi) (S : SW n cl re fi) (B9 : (∀ j, bt j ≤ 255) ∧ bs ≤ 216) (C9 : (∀ j, co j ≤ 400) ∧ (∀ j, fw j ≤ 15)) (H9 : IHd lt tr sh cr ct cu ve ta ch) (U9 : IHd lt2 tr2 sh2 cr2 ct2 cu2 ve2 ta2 ch2) (E9 : (∀ j, fo j ≤ 2) ∧ (∀ j, si j ≤ 60)) (hk9 : k < n) (hc9 : okC x1 x2 x3 x4) (hs9 : ¬ (ki k = 4 ∧ ¬ re k < cl)) : CM l D (TY cI cZ cS) yX5_cover cX5_cover 7 (some .int) 1 [.ref (aS 0), .int (nI k), .int x1, .int x2, .int x3, .int x4] ((wS cS aS (aW 0) (aB 0) (aC 0) (aH 0) (aT 0) aE la) ++ ((wW cI aW n cl th ki va re fi) ++ ((wB cI aB bt bs) ++ ((wC cI cZ aC (aW 0) (aB 0) to co ke nu fw) ++ ((wH cI aH (aW 0) lt tr sh cr ct cu ve ta ch) ++ ((wH cI aT (aW 0) lt2 tr2 sh2 cr2 ct2 cu2 ve2 ta2 ch2) ++ (wE cI aE lo fo si it))))))) (some (.int (-3))) ((wS cS aS (aW 0) (aB 0) (aC 0) (aH 0) (aT 0) aE la) ++ ((wW cI aW n cl th ki va re fi) ++ ((wB cI aB bt bs) ++ ((wC cI cZ aC (aW 0) (aB 0) to co ke nu fw) ++ ((wH cI aH (aW 0) lt tr sh cr ct cu ve ta ch) ++ ((wH cI aT (aW 0) lt2 tr2 sh2 cr2 ct2 cu2 ve2 ta2 ch2) ++ (wE cI aE lo fo si it))))))) := by
  refine CM.ofI (by decide +kernel) (Nat.le_of_ble_eq_true rfl) (nar_int _) ?_
  intro p e s m args below meth c Q A G K hA w hret ls hl
  obtain ⟨hx, hb, hml, hown, hts⟩ := id G
  obtain ⟨hn, hcl, hth, hki, hva, hre, hfi⟩ := id J
  obtain ⟨hbt, hbs⟩ := id B9
  obtain ⟨hco, hfw⟩ := id C9
  obtain ⟨hlt, htr, hsh, hcr, hct, hcu, hve, hta, hch⟩ := id H9
  obtain ⟨hlt2, htr2, hsh2, hcr2, hct2, hcu2, hve2, hta2, hch2⟩ := id U9
  obtain ⟨hfo, hsi⟩ := id E9
  have hl : lv_has ls 7 [(0, .ref (aS 0)), (1, .int (nI k)), (2, .int x1), (3, .int x2), (4, .int x3), (5, .int x4)] := hl
  have J36 : W p l e (RM 1) s m args below meth c s.heap [] 0 0 Q (F0 m 36 ls [.int (bI (okC x1 x2 x3 x4))]) := by
    refine lv_istore (lv' := [(6, .int (bI (okC x1 x2 x3 x4))), (0, .ref (aS 0)), (1, .int (nI k)), (2, .int x1), (3, .int x2), (4, .int x3), (5, .int x4)]) hx hb dX5_cover_36 hl (by decide) rfl (fun ls hl => ?_)
    refine lv_aload_n hx hb dX5_cover_38 rfl (lv_at hl 1 rfl) ?_
    refine f_get G K w.1 inX5 0 (ci := 5) rfl rfl 0 rfl fl_X5_12 (v := .ref (aW 0)) rfl dX5_cover_39 ?_
    refine lv_iload_n hx hb dX5_cover_42 rfl (lv_at hl 2 rfl) ?_
    refine callPV (As := [.int (nI k)]) (rest := []) (q0 := 0) (ci := 4) G K F_X4_has (c_X4_has aW n cl th ki va re fi (nI k) J) (w.1.sub (ws' := (wW cI aW n cl th ki va re fi)) [2, 3, 4, 5, 6, 7] rfl) ml_X5_88 rfl rfl rfl (by decide) (by decide) rfl hl.1 (Nat.le_of_ble_eq_true rfl) dX5_cover_43 ?_
    refine b_eq G (tgt := 54) dX5_cover_46 (by decide) (fun c46 => ?_) (fun c46 => ?_)
    · -- taken at 46
      exact absurd ⟨k, hk9, rfl⟩ c46
    · -- not taken at 46
      refine lv_iload hx hb dX5_cover_49 (lv_at hl 0 rfl) ?_
      refine b_ne G (tgt := 57) dX5_cover_51 (by decide) (fun c51 => ?_) (fun c51 => ?_)
      · -- taken at 51
        refine lv_aload_n hx hb dX5_cover_57 rfl (lv_at hl 1 rfl) ?_
        refine f_get G K w.1 inX5 0 (ci := 5) rfl rfl 0 rfl fl_X5_12 (v := .ref (aW 0)) rfl dX5_cover_58 ?_
        refine lv_iload_n hx hb dX5_cover_61 rfl (lv_at hl 2 rfl) ?_
        refine callPV (As := [.int (nI k)]) (rest := []) (q0 := 0) (ci := 4) G K F_X4_isSeal (c_X4_isSeal aW n cl th ki va re fi k J (by omega)) (w.1.sub (ws' := (wW cI aW n cl th ki va re fi)) [2, 3, 4, 5, 6, 7] rfl) ml_X5_92 rfl rfl rfl (by decide) (by decide) rfl hl.1 (Nat.le_of_ble_eq_true rfl) dX5_cover_62 ?_
        refine b_eq G (tgt := 79) dX5_cover_65 (by decide) (fun c65 => ?_) (fun c65 => ?_)
        · -- taken at 65
          refine lv_bipush (v := (-3)) hx hb dX5_cover_79 (by decide) ?_
          exact hret _ _ _ _ _ _ rfl rfl w dX5_cover_81
        · -- not taken at 65
          refine lv_aload_n hx hb dX5_cover_68 rfl (lv_at hl 1 rfl) ?_
          refine f_get G K w.1 inX5 0 (ci := 5) rfl rfl 0 rfl fl_X5_12 (v := .ref (aW 0)) rfl dX5_cover_69 ?_
          refine lv_iload_n hx hb dX5_cover_72 rfl (lv_at hl 2 rfl) ?_
          refine callPV (As := [.int (nI k)]) (rest := []) (q0 := 0) (ci := 4) G K F_X4_isClosed (c_X4_isClosed aW n cl th ki va re fi k J (by omega)) (w.1.sub (ws' := (wW cI aW n cl th ki va re fi)) [2, 3, 4, 5, 6, 7] rfl) ml_X5_95 rfl rfl rfl (by decide) (by decide) rfl hl.1 (Nat.le_of_ble_eq_true rfl) dX5_cover_73 ?_
          refine b_eq G (tgt := 82) dX5_cover_76 (by decide) (fun c76 => ?_) (fun c76 => ?_)
          · -- taken at 76
            exact absurd ⟨c65, c76⟩ hs9
          · -- not taken at 76
            refine lv_bipush (v := (-3)) hx hb dX5_cover_79 (by decide) ?_
            exact hret _ _ _ _ _ _ rfl rfl w dX5_cover_81
      · -- not taken at 51
        exact absurd hc9 c51
  refine lv_iconst (v := (nI 0)) hx hb dX5_cover_0 (by decide) ?_
  refine lv_iload_n hx hb dX5_cover_1 rfl (lv_at hl 2 rfl) ?_
  refine lv_icmp_gt (tgt := 35) hx hb dX5_cover_2 (by decide) (fun c2 => ?_) (fun c2 => ?_)
  · -- taken at 2
    refine lv_iconst (v := (nI 0)) hx hb dX5_cover_35 (by decide) ?_
    refine t_i (y := (bI (okC x1 x2 x3 x4))) (by first | exact b1 (okC_i ⟨nlt_le c2, nlt_le c7⟩ ⟨nlt_le c7, nlt_le c13⟩ ⟨nlt_le c13, nlt_le c20⟩ ⟨nlt_le c20, nlt_le c28⟩) | exact b0 (fun h => lt_nle c2 (okC_1 h).1) | exact b0 (fun h => lt_nle c7 (okC_1 h).2) | exact b0 (fun h => lt_nle c13 (okC_2 h).2) | exact b0 (fun h => lt_nle c20 (okC_3 h).2) | exact b0 (fun h => lt_nle c28 (okC_4 h).2)) ?_
    exact J36
  · -- not taken at 2
    refine lv_iload_n hx hb dX5_cover_5 rfl (lv_at hl 2 rfl) ?_
    refine lv_iload_n hx hb dX5_cover_6 rfl (lv_at hl 3 rfl) ?_
    refine lv_icmp_gt (tgt := 35) hx hb dX5_cover_7 (by decide) (fun c7 => ?_) (fun c7 => ?_)
    · -- taken at 7
      refine lv_iconst (v := (nI 0)) hx hb dX5_cover_35 (by decide) ?_
      refine t_i (y := (bI (okC x1 x2 x3 x4))) (by first | exact b1 (okC_i ⟨nlt_le c2, nlt_le c7⟩ ⟨nlt_le c7, nlt_le c13⟩ ⟨nlt_le c13, nlt_le c20⟩ ⟨nlt_le c20, nlt_le c28⟩) | exact b0 (fun h => lt_nle c2 (okC_1 h).1) | exact b0 (fun h => lt_nle c7 (okC_1 h).2) | exact b0 (fun h => lt_nle c13 (okC_2 h).2) | exact b0 (fun h => lt_nle c20 (okC_3 h).2) | exact b0 (fun h => lt_nle c28 (okC_4 h).2)) ?_
      exact J36
    · -- not taken at 7
      refine lv_iload_n hx hb dX5_cover_10 rfl (lv_at hl 3 rfl) ?_
      refine lv_iload hx hb dX5_cover_11 (lv_at hl 4 rfl) ?_
      refine lv_icmp_gt (tgt := 35) hx hb dX5_cover_13 (by decide) (fun c13 => ?_) (fun c13 => ?_)
      · -- taken at 13
        refine lv_iconst (v := (nI 0)) hx hb dX5_cover_35 (by decide) ?_
        refine t_i (y := (bI (okC x1 x2 x3 x4))) (by first | exact b1 (okC_i ⟨nlt_le c2, nlt_le c7⟩ ⟨nlt_le c7, nlt_le c13⟩ ⟨nlt_le c13, nlt_le c20⟩ ⟨nlt_le c20, nlt_le c28⟩) | exact b0 (fun h => lt_nle c2 (okC_1 h).1) | exact b0 (fun h => lt_nle c7 (okC_1 h).2) | exact b0 (fun h => lt_nle c13 (okC_2 h).2) | exact b0 (fun h => lt_nle c20 (okC_3 h).2) | exact b0 (fun h => lt_nle c28 (okC_4 h).2)) ?_
        exact J36
      · -- not taken at 13
        refine lv_iload hx hb dX5_cover_16 (lv_at hl 4 rfl) ?_
        refine lv_iload hx hb dX5_cover_18 (lv_at hl 5 rfl) ?_
        refine lv_icmp_gt (tgt := 35) hx hb dX5_cover_20 (by decide) (fun c20 => ?_) (fun c20 => ?_)
        · -- taken at 20
          refine lv_iconst (v := (nI 0)) hx hb dX5_cover_35 (by decide) ?_
          refine t_i (y := (bI (okC x1 x2 x3 x4))) (by first | exact b1 (okC_i ⟨nlt_le c2, nlt_le c7⟩ ⟨nlt_le c7, nlt_le c13⟩ ⟨nlt_le c13, nlt_le c20⟩ ⟨nlt_le c20, nlt_le c28⟩) | exact b0 (fun h => lt_nle c2 (okC_1 h).1) | exact b0 (fun h => lt_nle c7 (okC_1 h).2) | exact b0 (fun h => lt_nle c13 (okC_2 h).2) | exact b0 (fun h => lt_nle c20 (okC_3 h).2) | exact b0 (fun h => lt_nle c28 (okC_4 h).2)) ?_
          exact J36
        · -- not taken at 20
          refine lv_iload hx hb dX5_cover_23 (lv_at hl 5 rfl) ?_
          refine lv_sipush (v := (nI 400)) hx hb dX5_cover_25 (by decide) ?_
          refine lv_icmp_gt (tgt := 35) hx hb dX5_cover_28 (by decide) (fun c28 => ?_) (fun c28 => ?_)
          · -- taken at 28
            refine lv_iconst (v := (nI 0)) hx hb dX5_cover_35 (by decide) ?_
            refine t_i (y := (bI (okC x1 x2 x3 x4))) (by first | exact b1 (okC_i ⟨nlt_le c2, nlt_le c7⟩ ⟨nlt_le c7, nlt_le c13⟩ ⟨nlt_le c13, nlt_le c20⟩ ⟨nlt_le c20, nlt_le c28⟩) | exact b0 (fun h => lt_nle c2 (okC_1 h).1) | exact b0 (fun h => lt_nle c7 (okC_1 h).2) | exact b0 (fun h => lt_nle c13 (okC_2 h).2) | exact b0 (fun h => lt_nle c20 (okC_3 h).2) | exact b0 (fun h => lt_nle c28 (okC_4 h).2)) ?_
            exact J36
          · -- not taken at 28
            refine lv_iconst (v := (nI 1)) hx hb dX5_cover_31 (by decide) ?_
            refine lv_goto (tgt := 36) hx hb dX5_cover_32 (by decide) ?_
            refine t_i (y := (bI (okC x1 x2 x3 x4))) (by first | exact b1 (okC_i ⟨nlt_le c2, nlt_le c7⟩ ⟨nlt_le c7, nlt_le c13⟩ ⟨nlt_le c13, nlt_le c20⟩ ⟨nlt_le c20, nlt_le c28⟩) | exact b0 (fun h => lt_nle c2 (okC_1 h).1) | exact b0 (fun h => lt_nle c7 (okC_1 h).2) | exact b0 (fun h => lt_nle c13 (okC_2 h).2) | exact b0 (fun h => lt_nle c20 (okC_3 h).2) | exact b0 (fun h => lt_nle c28 (okC_4 h).2)) ?_
            exact J36
set_option maxHeartbeats 4000000 in
set_option maxRecDepth 100000 in
theorem c_X5_cover_ok (aS : Nat → Nat) (aE : Nat → Nat) (la : Int32) (aW : Nat → Nat) (n : Nat) (cl : Nat) (th : Nat → Nat) (ki : Nat → Nat) (va : Nat → Nat) (re : Nat → Nat) (fi : Nat → Nat) (aB : Nat → Nat) (bt : Nat → Nat) (bs : Nat) (aC : Nat → Nat) (to : Nat → Prop) (co : Nat → Nat) (ke : Nat → Int32) (nu : Nat → Int32) (fw : Nat → Nat) (aH : Nat → Nat) (lt : Nat → Option Nat) (tr : Nat → Nat) (sh : Nat → Nat) (cr : Nat → Nat) (ct : Nat → Nat) (cu : Nat → Nat) (ve : Nat → Nat) (ta : Nat → Nat) (ch : Nat) (aT : Nat → Nat) (lt2 : Nat → Option Nat) (tr2 : Nat → Nat) (sh2 : Nat → Nat) (cr2 : Nat → Nat) (ct2 : Nat → Nat) (cu2 : Nat → Nat) (ve2 : Nat → Nat) (ta2 : Nat → Nat) (ch2 : Nat) (lo : Nat → Prop) (fo : Nat → Nat) (si : Nat → Nat) (it : Nat → Nat → Int32) (k : Nat) (x1 : Nat) (x2 : Nat) (x3 : Nat) (x4 : Nat) (J : IW n cl th ki va re fi) (S : SW n cl re fi) (B9 : (∀ j, bt j ≤ 255) ∧ bs ≤ 216) (C9 : (∀ j, co j ≤ 400) ∧ (∀ j, fw j ≤ 15)) (H9 : IHd lt tr sh cr ct cu ve ta ch) (U9 : IHd lt2 tr2 sh2 cr2 ct2 cu2 ve2 ta2 ch2) (E9 : (∀ j, fo j ≤ 2) ∧ (∀ j, si j ≤ 60)) (hk9 : k < n) (h12 : x1 ≤ x2) (h23 : x2 ≤ x3) (h34 : x3 ≤ x4) (h44 : x4 ≤ 400) (hs9 : ki k = 4) (hr9 : ¬ re k < cl) : CM l D (TY cI cZ cS) yX5_cover cX5_cover 7 (some .int) 1 [.ref (aS 0), .int (nI k), .int (nI x1), .int (nI x2), .int (nI x3), .int (nI x4)] ((wS cS aS (aW 0) (aB 0) (aC 0) (aH 0) (aT 0) aE la) ++ ((wW cI aW n cl th ki va re fi) ++ ((wB cI aB bt bs) ++ ((wC cI cZ aC (aW 0) (aB 0) to co ke nu fw) ++ ((wH cI aH (aW 0) lt tr sh cr ct cu ve ta ch) ++ ((wH cI aT (aW 0) lt2 tr2 sh2 cr2 ct2 cu2 ve2 ta2 ch2) ++ (wE cI aE lo fo si it))))))) (some (.int (nI 1))) ((wS cS aS (aW 0) (aB 0) (aC 0) (aH 0) (aT 0) aE la) ++ ((wW cI aW n cl th ki va re fi) ++ ((wB cI aB bt bs) ++ ((wC cI cZ aC (aW 0) (aB 0) (va_up to k True) (va_up (va_up (va_up (va_up co (4 * k) x1) (4 * k + 1) x2) (4 * k + 2) x3) (4 * k + 3) x4) ke nu fw) ++ ((wH cI aH (aW 0) lt tr sh cr ct cu ve ta ch) ++ ((wH cI aT (aW 0) lt2 tr2 sh2 cr2 ct2 cu2 ve2 ta2 ch2) ++ (wE cI aE lo fo si it))))))) := by
  refine CM.ofI (by decide +kernel) (Nat.le_of_ble_eq_true rfl) (nar_int _) ?_
  intro p e s m args below meth c Q A G K hA w hret ls hl
  obtain ⟨hx, hb, hml, hown, hts⟩ := id G
  obtain ⟨hn, hcl, hth, hki, hva, hre, hfi⟩ := id J
  obtain ⟨hbt, hbs⟩ := id B9
  obtain ⟨hco, hfw⟩ := id C9
  obtain ⟨hlt, htr, hsh, hcr, hct, hcu, hve, hta, hch⟩ := id H9
  obtain ⟨hlt2, htr2, hsh2, hcr2, hct2, hcu2, hve2, hta2, hch2⟩ := id U9
  obtain ⟨hfo, hsi⟩ := id E9
  have hl : lv_has ls 7 [(0, .ref (aS 0)), (1, .int (nI k)), (2, .int (nI x1)), (3, .int (nI x2)), (4, .int (nI x3)), (5, .int (nI x4))] := hl
  refine lv_iconst (v := (nI 0)) hx hb dX5_cover_0 (by decide) ?_
  refine lv_iload_n hx hb dX5_cover_1 rfl (lv_at hl 2 rfl) ?_
  refine c_gt G (tgt := 35) (by omega) (by omega) dX5_cover_2 (by decide) (fun c2 => ?_) (fun c2 => ?_)
  · -- taken at 2
    exact absurd c2 (by omega)
  · -- not taken at 2
    refine lv_iload_n hx hb dX5_cover_5 rfl (lv_at hl 2 rfl) ?_
    refine lv_iload_n hx hb dX5_cover_6 rfl (lv_at hl 3 rfl) ?_
    refine c_gt G (tgt := 35) (by omega) (by omega) dX5_cover_7 (by decide) (fun c7 => ?_) (fun c7 => ?_)
    · -- taken at 7
      exact absurd c7 (by omega)
    · -- not taken at 7
      refine lv_iload_n hx hb dX5_cover_10 rfl (lv_at hl 3 rfl) ?_
      refine lv_iload hx hb dX5_cover_11 (lv_at hl 4 rfl) ?_
      refine c_gt G (tgt := 35) (by omega) (by omega) dX5_cover_13 (by decide) (fun c13 => ?_) (fun c13 => ?_)
      · -- taken at 13
        exact absurd c13 (by omega)
      · -- not taken at 13
        refine lv_iload hx hb dX5_cover_16 (lv_at hl 4 rfl) ?_
        refine lv_iload hx hb dX5_cover_18 (lv_at hl 5 rfl) ?_
        refine c_gt G (tgt := 35) (by omega) (by omega) dX5_cover_20 (by decide) (fun c20 => ?_) (fun c20 => ?_)
        · -- taken at 20
          exact absurd c20 (by omega)
        · -- not taken at 20
          refine lv_iload hx hb dX5_cover_23 (lv_at hl 5 rfl) ?_
          refine lv_sipush (v := (nI 400)) hx hb dX5_cover_25 (by decide) ?_
          refine c_gt G (tgt := 35) (by omega) (by omega) dX5_cover_28 (by decide) (fun c28 => ?_) (fun c28 => ?_)
          · -- taken at 28
            exact absurd c28 (by omega)
          · -- not taken at 28
            refine lv_iconst (v := (nI 1)) hx hb dX5_cover_31 (by decide) ?_
            refine lv_goto (tgt := 36) hx hb dX5_cover_32 (by decide) ?_
            refine lv_istore (lv' := [(6, .int (nI 1)), (0, .ref (aS 0)), (1, .int (nI k)), (2, .int (nI x1)), (3, .int (nI x2)), (4, .int (nI x3)), (5, .int (nI x4))]) hx hb dX5_cover_36 hl (by decide) rfl (fun ls hl => ?_)
            refine lv_aload_n hx hb dX5_cover_38 rfl (lv_at hl 1 rfl) ?_
            refine f_get G K w.1 inX5 0 (ci := 5) rfl rfl 0 rfl fl_X5_12 (v := .ref (aW 0)) rfl dX5_cover_39 ?_
            refine lv_iload_n hx hb dX5_cover_42 rfl (lv_at hl 2 rfl) ?_
            refine callPV (As := [.int (nI k)]) (rest := []) (q0 := 0) (ci := 4) G K F_X4_has (c_X4_has aW n cl th ki va re fi (nI k) J) (w.1.sub (ws' := (wW cI aW n cl th ki va re fi)) [2, 3, 4, 5, 6, 7] rfl) ml_X5_88 rfl rfl rfl (by decide) (by decide) rfl hl.1 (Nat.le_of_ble_eq_true rfl) dX5_cover_43 ?_
            refine b_eq G (tgt := 54) dX5_cover_46 (by decide) (fun c46 => ?_) (fun c46 => ?_)
            · -- taken at 46
              exact absurd ⟨k, hk9, rfl⟩ c46
            · -- not taken at 46
              refine lv_iload hx hb dX5_cover_49 (lv_at hl 0 rfl) ?_
              refine z_ne G (tgt := 57) (by omega) dX5_cover_51 (by decide) (fun c51 => ?_) (fun c51 => ?_)
              · -- taken at 51
                refine lv_aload_n hx hb dX5_cover_57 rfl (lv_at hl 1 rfl) ?_
                refine f_get G K w.1 inX5 0 (ci := 5) rfl rfl 0 rfl fl_X5_12 (v := .ref (aW 0)) rfl dX5_cover_58 ?_
                refine lv_iload_n hx hb dX5_cover_61 rfl (lv_at hl 2 rfl) ?_
                refine callPV (As := [.int (nI k)]) (rest := []) (q0 := 0) (ci := 4) G K F_X4_isSeal (c_X4_isSeal aW n cl th ki va re fi k J (by omega)) (w.1.sub (ws' := (wW cI aW n cl th ki va re fi)) [2, 3, 4, 5, 6, 7] rfl) ml_X5_92 rfl rfl rfl (by decide) (by decide) rfl hl.1 (Nat.le_of_ble_eq_true rfl) dX5_cover_62 ?_
                refine b_eq G (tgt := 79) dX5_cover_65 (by decide) (fun c65 => ?_) (fun c65 => ?_)
                · -- taken at 65
                  exact absurd hs9 c65
                · -- not taken at 65
                  refine lv_aload_n hx hb dX5_cover_68 rfl (lv_at hl 1 rfl) ?_
                  refine f_get G K w.1 inX5 0 (ci := 5) rfl rfl 0 rfl fl_X5_12 (v := .ref (aW 0)) rfl dX5_cover_69 ?_
                  refine lv_iload_n hx hb dX5_cover_72 rfl (lv_at hl 2 rfl) ?_
                  refine callPV (As := [.int (nI k)]) (rest := []) (q0 := 0) (ci := 4) G K F_X4_isClosed (c_X4_isClosed aW n cl th ki va re fi k J (by omega)) (w.1.sub (ws' := (wW cI aW n cl th ki va re fi)) [2, 3, 4, 5, 6, 7] rfl) ml_X5_95 rfl rfl rfl (by decide) (by decide) rfl hl.1 (Nat.le_of_ble_eq_true rfl) dX5_cover_73 ?_
                  refine b_eq G (tgt := 82) dX5_cover_76 (by decide) (fun c76 => ?_) (fun c76 => ?_)
                  · -- taken at 76
                    refine lv_aload_n hx hb dX5_cover_82 rfl (lv_at hl 1 rfl) ?_
                    refine f_get G K w.1 inX5 0 (ci := 5) rfl rfl 2 rfl fl_X5_28 (v := .ref (aC 0)) rfl dX5_cover_83 ?_
                    refine lv_iload_n hx hb dX5_cover_86 rfl (lv_at hl 2 rfl) ?_
                    refine lv_iload_n hx hb dX5_cover_87 rfl (lv_at hl 3 rfl) ?_
                    refine lv_iload_n hx hb dX5_cover_88 rfl (lv_at hl 4 rfl) ?_
                    refine lv_iload hx hb dX5_cover_89 (lv_at hl 5 rfl) ?_
                    refine lv_iload hx hb dX5_cover_91 (lv_at hl 6 rfl) ?_
                    refine callMV (As := [.int (nI k), .int (nI x1), .int (nI x2), .int (nI x3), .int (nI x4)]) (rest := []) (q0 := 8) (ci := 1) (wr := ((wS cS aS (aW 0) (aB 0) (aC 0) (aH 0) (aT 0) aE la) ++ ((wH cI aH (aW 0) lt tr sh cr ct cu ve ta ch) ++ ((wH cI aT (aW 0) lt2 tr2 sh2 cr2 ct2 cu2 ve2 ta2 ch2) ++ (wE cI aE lo fo si it))))) (ws2 := ((wS cS aS (aW 0) (aB 0) (aC 0) (aH 0) (aT 0) aE la) ++ ((wW cI aW n cl th ki va re fi) ++ ((wB cI aB bt bs) ++ ((wC cI cZ aC (aW 0) (aB 0) (va_up to k True) (va_up (va_up (va_up (va_up co (4 * k) x1) (4 * k + 1) x2) (4 * k + 2) x3) (4 * k + 3) x4) ke nu fw) ++ ((wH cI aH (aW 0) lt tr sh cr ct cu ve ta ch) ++ ((wH cI aT (aW 0) lt2 tr2 sh2 cr2 ct2 cu2 ve2 ta2 ch2) ++ (wE cI aE lo fo si it)))))))) G K hA w F_X1_keepEdges (c_X1_keepEdges aW n cl th ki va re fi aB bt bs aC to co ke nu fw k x1 x2 x3 x4 J S B9 C9 (by omega)) ml_X5_98 [2, 3, 4, 5, 6, 7, 8, 9, 10, 11, 12, 13, 14, 15] [0, 1, 16, 17, 18, 19, 20, 21, 22, 23, 24, 25, 26, 27, 28, 29, 30, 31, 32, 33, 34, 35, 36, 37, 38, 39, 40, 41] [0, 1, 28, 29, 30, 31, 32, 33, 34, 35, 36, 37, 38, 39, 40, 41, 2, 3, 4, 5, 6, 7, 8, 9, 10, 11, 12, 13, 14, 15, 16, 17, 18, 19, 20, 21, 22, 23, 24, 25, 26, 27] rfl rfl rfl rfl rfl rfl rfl rfl rfl rfl (by decide) (by decide) rfl hl.1 (Nat.le_of_ble_eq_true rfl) dX5_cover_93 (fun Hp1 lo2 w => ?_)
                    refine lv_iconst (v := (nI 1)) hx hb dX5_cover_96 (by decide) ?_
                    exact hret _ _ _ _ _ _ rfl rfl w dX5_cover_97
                  · -- not taken at 76
                    exact absurd c76 hr9
              · -- not taken at 51
                exact absurd c51 (by decide)
set_option maxHeartbeats 4000000 in
set_option maxRecDepth 100000 in
theorem c_X5_alter_bad (aS : Nat → Nat) (aE : Nat → Nat) (la : Int32) (aW : Nat → Nat) (n : Nat) (cl : Nat) (th : Nat → Nat) (ki : Nat → Nat) (va : Nat → Nat) (re : Nat → Nat) (fi : Nat → Nat) (aB : Nat → Nat) (bt : Nat → Nat) (bs : Nat) (aC : Nat → Nat) (to : Nat → Prop) (co : Nat → Nat) (ke : Nat → Int32) (nu : Nat → Int32) (fw : Nat → Nat) (aH : Nat → Nat) (lt : Nat → Option Nat) (tr : Nat → Nat) (sh : Nat → Nat) (cr : Nat → Nat) (ct : Nat → Nat) (cu : Nat → Nat) (ve : Nat → Nat) (ta : Nat → Nat) (ch : Nat) (aT : Nat → Nat) (lt2 : Nat → Option Nat) (tr2 : Nat → Nat) (sh2 : Nat → Nat) (cr2 : Nat → Nat) (ct2 : Nat → Nat) (cu2 : Nat → Nat) (ve2 : Nat → Nat) (ta2 : Nat → Nat) (ch2 : Nat) (lo : Nat → Prop) (fo : Nat → Nat) (si : Nat → Nat) (it : Nat → Nat → Int32) (x : Int32) (v : Int32) (J : IW n cl th ki va re fi) (S : SW n cl re fi) (B9 : (∀ j, bt j ≤ 255) ∧ bs ≤ 216) (C9 : (∀ j, co j ≤ 400) ∧ (∀ j, fw j ≤ 15)) (H9 : IHd lt tr sh cr ct cu ve ta ch) (U9 : IHd lt2 tr2 sh2 cr2 ct2 cu2 ve2 ta2 ch2) (E9 : (∀ j, fo j ≤ 2) ∧ (∀ j, si j ≤ 60)) (hbad : ¬ ∃ k v9, k < n ∧ okV (ki k) v9 ∧ x = nI k ∧ v = nI v9) : CM l D (TY cI cZ cS) yX5_alter cX5_alter 4 (some .int) 6 [.ref (aS 0), .int x, .int v] ((wS cS aS (aW 0) (aB 0) (aC 0) (aH 0) (aT 0) aE la) ++ ((wW cI aW n cl th ki va re fi) ++ ((wB cI aB bt bs) ++ ((wC cI cZ aC (aW 0) (aB 0) to co ke nu fw) ++ ((wH cI aH (aW 0) lt tr sh cr ct cu ve ta ch) ++ ((wH cI aT (aW 0) lt2 tr2 sh2 cr2 ct2 cu2 ve2 ta2 ch2) ++ (wE cI aE lo fo si it))))))) (some (.int (-2))) ((wS cS aS (aW 0) (aB 0) (aC 0) (aH 0) (aT 0) aE la) ++ ((wW cI aW n cl th ki va re fi) ++ ((wB cI aB bt bs) ++ ((wC cI cZ aC (aW 0) (aB 0) to co ke nu fw) ++ ((wH cI aH (aW 0) lt tr sh cr ct cu ve ta ch) ++ ((wH cI aT (aW 0) lt2 tr2 sh2 cr2 ct2 cu2 ve2 ta2 ch2) ++ (wE cI aE lo fo si it))))))) := by
  refine CM.ofI (by decide +kernel) (Nat.le_of_ble_eq_true rfl) (nar_int _) ?_
  intro p e s m args below meth c Q A G K hA w hret ls hl
  obtain ⟨hx, hb, hml, hown, hts⟩ := id G
  obtain ⟨hn, hcl, hth, hki, hva, hre, hfi⟩ := id J
  obtain ⟨hbt, hbs⟩ := id B9
  obtain ⟨hco, hfw⟩ := id C9
  obtain ⟨hlt, htr, hsh, hcr, hct, hcu, hve, hta, hch⟩ := id H9
  obtain ⟨hlt2, htr2, hsh2, hcr2, hct2, hcu2, hve2, hta2, hch2⟩ := id U9
  obtain ⟨hfo, hsi⟩ := id E9
  have hl : lv_has ls 4 [(0, .ref (aS 0)), (1, .int x), (2, .int v)] := hl
  refine lv_aload_n hx hb dX5_alter_0 rfl (lv_at hl 0 rfl) ?_
  refine f_get G K w.1 inX5 0 (ci := 5) rfl rfl 0 rfl fl_X5_12 (v := .ref (aW 0)) rfl dX5_alter_1 ?_
  refine lv_iload_n hx hb dX5_alter_4 rfl (lv_at hl 1 rfl) ?_
  refine callPV (As := [.int x]) (rest := []) (q0 := 0) (ci := 4) G K F_X4_has (c_X4_has aW n cl th ki va re fi x J) (w.1.sub (ws' := (wW cI aW n cl th ki va re fi)) [2, 3, 4, 5, 6, 7] rfl) ml_X5_88 rfl rfl rfl (by decide) (by decide) rfl hl.1 (Nat.le_of_ble_eq_true rfl) dX5_alter_5 ?_
  refine b_eq G (tgt := 27) dX5_alter_8 (by decide) (fun c8 => ?_) (fun c8 => ?_)
  · -- taken at 8
    refine lv_bipush (v := (-2)) hx hb dX5_alter_27 (by decide) ?_
    exact hret _ _ _ _ _ _ rfl rfl w dX5_alter_29
  · -- not taken at 8
    obtain ⟨k, hk, rfl⟩ := c8
    refine lv_aload_n hx hb dX5_alter_11 rfl (lv_at hl 0 rfl) ?_
    refine f_get G K w.1 inX5 0 (ci := 5) rfl rfl 0 rfl fl_X5_12 (v := .ref (aW 0)) rfl dX5_alter_12 ?_
    refine f_get G K w.1 inX4 2 (ci := 4) rfl rfl 1 rfl fl_X5_102 (v := .ref (aW 2)) rfl dX5_alter_15 ?_
    refine lv_iload_n hx hb dX5_alter_18 rfl (lv_at hl 1 rfl) ?_
    refine a_ldN G K w.1 4 0 (a := (aW 2)) rfl rfl (by omega) (by decide) dX5_alter_19 ?_
    have hb1 := hki k
    refine lv_iload_n hx hb dX5_alter_20 rfl (lv_at hl 2 rfl) ?_
    refine callPS (rest := []) G K F_X5_mayBeValue (c_X5_mayBeValue (nI (ki k)) v) (va_P_nil D s.heap) ml_X5_106 (by decide) (by decide) rfl hl.1 (Nat.le_of_ble_eq_true rfl) dX5_alter_21 ?_
    refine b_ne G (tgt := 30) dX5_alter_24 (by decide) (fun c24 => ?_) (fun c24 => ?_)
    · -- taken at 24
      obtain ⟨v9, hv9, rfl⟩ := (val_iff (hki k)).mp c24
      exact absurd ⟨k, v9, hk, hv9, rfl, rfl⟩ hbad
    · -- not taken at 24
      refine lv_bipush (v := (-2)) hx hb dX5_alter_27 (by decide) ?_
      exact hret _ _ _ _ _ _ rfl rfl w dX5_alter_29
set_option maxHeartbeats 4000000 in
set_option maxRecDepth 100000 in
theorem c_X5_alter_ok (aS : Nat → Nat) (aE : Nat → Nat) (la : Int32) (aW : Nat → Nat) (n : Nat) (cl : Nat) (th : Nat → Nat) (ki : Nat → Nat) (va : Nat → Nat) (re : Nat → Nat) (fi : Nat → Nat) (aB : Nat → Nat) (bt : Nat → Nat) (bs : Nat) (aC : Nat → Nat) (to : Nat → Prop) (co : Nat → Nat) (ke : Nat → Int32) (nu : Nat → Int32) (fw : Nat → Nat) (aH : Nat → Nat) (lt : Nat → Option Nat) (tr : Nat → Nat) (sh : Nat → Nat) (cr : Nat → Nat) (ct : Nat → Nat) (cu : Nat → Nat) (ve : Nat → Nat) (ta : Nat → Nat) (ch : Nat) (aT : Nat → Nat) (lt2 : Nat → Option Nat) (tr2 : Nat → Nat) (sh2 : Nat → Nat) (cr2 : Nat → Nat) (ct2 : Nat → Nat) (cu2 : Nat → Nat) (ve2 : Nat → Nat) (ta2 : Nat → Nat) (ch2 : Nat) (lo : Nat → Prop) (fo : Nat → Nat) (si : Nat → Nat) (it : Nat → Nat → Int32) (k : Nat) (v : Nat) (J : IW n cl th ki va re fi) (S : SW n cl re fi) (B9 : (∀ j, bt j ≤ 255) ∧ bs ≤ 216) (C9 : (∀ j, co j ≤ 400) ∧ (∀ j, fw j ≤ 15)) (H9 : IHd lt tr sh cr ct cu ve ta ch) (U9 : IHd lt2 tr2 sh2 cr2 ct2 cu2 ve2 ta2 ch2) (E9 : (∀ j, fo j ≤ 2) ∧ (∀ j, si j ≤ 60)) (hk9 : k < n) (hv9 : okV (ki k) v) : CM l D (TY cI cZ cS) yX5_alter cX5_alter 4 (some .int) 6 [.ref (aS 0), .int (nI k), .int (nI v)] ((wS cS aS (aW 0) (aB 0) (aC 0) (aH 0) (aT 0) aE la) ++ ((wW cI aW n cl th ki va re fi) ++ ((wB cI aB bt bs) ++ ((wC cI cZ aC (aW 0) (aB 0) to co ke nu fw) ++ ((wH cI aH (aW 0) lt tr sh cr ct cu ve ta ch) ++ ((wH cI aT (aW 0) lt2 tr2 sh2 cr2 ct2 cu2 ve2 ta2 ch2) ++ (wE cI aE lo fo si it))))))) (some (.int (nI (va k)))) ((wS cS aS (aW 0) (aB 0) (aC 0) (aH 0) (aT 0) aE la) ++ ((wW cI aW n cl th ki (va_up va k v) re fi) ++ ((wB cI aB (va_up (va_up bt (5 * k + 2 * re k + 3) (v / 256)) (5 * k + 2 * re k + 3 + 1) (v % 256)) bs) ++ ((wC cI cZ aC (aW 0) (aB 0) to co ke (rkN (cls ki re cl) (fun vv => nmC (va_up (va_up bt (5 * k + 2 * re k + 3) (v / 256)) (5 * k + 2 * re k + 3 + 1) (v % 256)) bs (cov re n cl to co vv)) nu n) (rkF (cls ki re cl) (fun vv => flE re n cl to co vv + cif (nmC (va_up (va_up bt (5 * k + 2 * re k + 3) (v / 256)) (5 * k + 2 * re k + 3 + 1) (v % 256)) bs (cov re n cl to co vv) ≠ ke vv) 8 0) fw n)) ++ ((wH cI aH (aW 0) (cLT th re none n lt (cl + 1)) (cTR th ki re none n tr (cl + 1)) (cSH th ki (va_up va k v) re none n sh (cl + 1)) (cCR th ki (va_up va k v) re none n cr (cl + 1)) (cCT th ki (va_up va k v) re none n ct (cl + 1)) (cCU th ki (va_up va k v) re none n cu (cl + 1)) (cVE th ki (va_up va k v) re none n cl ve cl) (cTA th ki (va_up va k v) re none n cl ta cl) (cCH th ki (va_up va k v) re none n (cl + 1))) ++ ((wH cI aT (aW 0) lt2 tr2 sh2 cr2 ct2 cu2 ve2 ta2 ch2) ++ (wE cI aE lo fo si it))))))) := by
  refine CM.ofI (by decide +kernel) (Nat.le_of_ble_eq_true rfl) (nar_int _) ?_
  intro p e s m args below meth c Q A G K hA w hret ls hl
  obtain ⟨hx, hb, hml, hown, hts⟩ := id G
  obtain ⟨hn, hcl, hth, hki, hva, hre, hfi⟩ := id J
  obtain ⟨hbt, hbs⟩ := id B9
  obtain ⟨hco, hfw⟩ := id C9
  obtain ⟨hlt, htr, hsh, hcr, hct, hcu, hve, hta, hch⟩ := id H9
  obtain ⟨hlt2, htr2, hsh2, hcr2, hct2, hcu2, hve2, hta2, hch2⟩ := id U9
  obtain ⟨hfo, hsi⟩ := id E9
  have hv8 := okV_le hv9
  have hrk := hre k
  have hl : lv_has ls 4 [(0, .ref (aS 0)), (1, .int (nI k)), (2, .int (nI v))] := hl
  refine lv_aload_n hx hb dX5_alter_0 rfl (lv_at hl 0 rfl) ?_
  refine f_get G K w.1 inX5 0 (ci := 5) rfl rfl 0 rfl fl_X5_12 (v := .ref (aW 0)) rfl dX5_alter_1 ?_
  refine lv_iload_n hx hb dX5_alter_4 rfl (lv_at hl 1 rfl) ?_
  refine callPV (As := [.int (nI k)]) (rest := []) (q0 := 0) (ci := 4) G K F_X4_has (c_X4_has aW n cl th ki va re fi (nI k) J) (w.1.sub (ws' := (wW cI aW n cl th ki va re fi)) [2, 3, 4, 5, 6, 7] rfl) ml_X5_88 rfl rfl rfl (by decide) (by decide) rfl hl.1 (Nat.le_of_ble_eq_true rfl) dX5_alter_5 ?_
  refine b_eq G (tgt := 27) dX5_alter_8 (by decide) (fun c8 => ?_) (fun c8 => ?_)
  · -- taken at 8
    exact absurd ⟨k, hk9, rfl⟩ c8
  · -- not taken at 8
    refine lv_aload_n hx hb dX5_alter_11 rfl (lv_at hl 0 rfl) ?_
    refine f_get G K w.1 inX5 0 (ci := 5) rfl rfl 0 rfl fl_X5_12 (v := .ref (aW 0)) rfl dX5_alter_12 ?_
    refine f_get G K w.1 inX4 2 (ci := 4) rfl rfl 1 rfl fl_X5_102 (v := .ref (aW 2)) rfl dX5_alter_15 ?_
    refine lv_iload_n hx hb dX5_alter_18 rfl (lv_at hl 1 rfl) ?_
    refine a_ldN G K w.1 4 0 (a := (aW 2)) rfl rfl (by omega) (by decide) dX5_alter_19 ?_
    have hb1 := hki k
    refine lv_iload_n hx hb dX5_alter_20 rfl (lv_at hl 2 rfl) ?_
    refine callPS (rest := []) G K F_X5_mayBeValue (c_X5_mayBeValue (nI (ki k)) (nI v)) (va_P_nil D s.heap) ml_X5_106 (by decide) (by decide) rfl hl.1 (Nat.le_of_ble_eq_true rfl) dX5_alter_21 ?_
    refine b_ne G (tgt := 30) dX5_alter_24 (by decide) (fun c24 => ?_) (fun c24 => ?_)
    · -- taken at 24
      refine lv_aload_n hx hb dX5_alter_30 rfl (lv_at hl 0 rfl) ?_
      refine f_get G K w.1 inX5 0 (ci := 5) rfl rfl 0 rfl fl_X5_12 (v := .ref (aW 0)) rfl dX5_alter_31 ?_
      refine f_get G K w.1 inX4 2 (ci := 4) rfl rfl 2 rfl fl_X5_110 (v := .ref (aW 3)) rfl dX5_alter_34 ?_
      refine lv_iload_n hx hb dX5_alter_37 rfl (lv_at hl 1 rfl) ?_
      refine a_ldN G K w.1 5 0 (a := (aW 3)) rfl rfl (by omega) (by decide) dX5_alter_38 ?_
      have hb2 := hva k
      refine lv_istore_n (lv' := [(3, .int (nI (va k))), (0, .ref (aS 0)), (1, .int (nI k)), (2, .int (nI v))]) hx hb dX5_alter_39 rfl hl (by decide) rfl (fun ls hl => ?_)
      refine lv_aload_n hx hb dX5_alter_40 rfl (lv_at hl 1 rfl) ?_
      refine f_get G K w.1 inX5 0 (ci := 5) rfl rfl 0 rfl fl_X5_12 (v := .ref (aW 0)) rfl dX5_alter_41 ?_
      refine f_get G K w.1 inX4 2 (ci := 4) rfl rfl 2 rfl fl_X5_110 (v := .ref (aW 3)) rfl dX5_alter_44 ?_
      refine lv_iload_n hx hb dX5_alter_47 rfl (lv_at hl 2 rfl) ?_
      refine lv_iload_n hx hb dX5_alter_48 rfl (lv_at hl 3 rfl) ?_
      refine a_stN G K w 5 0 (a := (aW 3)) rfl rfl (by omega) (by decide) dX5_alter_49 (w2 := ((wS cS aS (aW 0) (aB 0) (aC 0) (aH 0) (aT 0) aE la) ++ ((wW cI aW n cl th ki (va_up va k v) re fi) ++ ((wB cI aB bt bs) ++ ((wC cI cZ aC (aW 0) (aB 0) to co ke nu fw) ++ ((wH cI aH (aW 0) lt tr sh cr ct cu ve ta ch) ++ ((wH cI aT (aW 0) lt2 tr2 sh2 cr2 ct2 cu2 ve2 ta2 ch2) ++ (wE cI aE lo fo si it)))))))) rfl (fun Hp3 lo4 w => ?_)
      refine lv_aload_n hx hb dX5_alter_50 rfl (lv_at hl 1 rfl) ?_
      refine f_get G K w.1 inX5 0 (ci := 5) rfl rfl 1 rfl fl_X5_19 (v := .ref (aB 0)) rfl dX5_alter_51 ?_
      refine lv_aload_n hx hb dX5_alter_54 rfl (lv_at hl 1 rfl) ?_
      refine f_get G K w.1 inX5 0 (ci := 5) rfl rfl 0 rfl fl_X5_12 (v := .ref (aW 0)) rfl dX5_alter_55 ?_
      refine lv_iload_n hx hb dX5_alter_58 rfl (lv_at hl 2 rfl) ?_
      refine callPV (As := [.int (nI k)]) (rest := [.ref (aB 0)]) (q0 := 0) (ci := 4) G K F_X4_firstByte (c_X4_firstByte aW n cl th ki (va_up va k v) re fi k (IW_va J hv8) (by omega)) (w.1.sub (ws' := (wW cI aW n cl th ki (va_up va k v) re fi)) [2, 3, 4, 5, 6, 7] rfl) ml_X5_113 rfl rfl rfl (by decide) (by decide) rfl hl.1 (Nat.le_of_ble_eq_true rfl) dX5_alter_59 ?_
      refine lv_iconst (v := (nI 3)) hx hb dX5_alter_62 (by decide) ?_
      refine t_add G dX5_alter_63 ?_
      refine lv_iload_n hx hb dX5_alter_64 rfl (lv_at hl 3 rfl) ?_
      refine callMV (As := [.int (nI (5 * k + 2 * re k + 3)), .int (nI v)]) (rest := []) (q0 := 0) (ci := 0) (wr := ((wS cS aS (aW 0) (aB 0) (aC 0) (aH 0) (aT 0) aE la) ++ ((wW cI aW n cl th ki (va_up va k v) re fi) ++ ((wC cI cZ aC (aW 0) (aB 0) to co ke nu fw) ++ ((wH cI aH (aW 0) lt tr sh cr ct cu ve ta ch) ++ ((wH cI aT (aW 0) lt2 tr2 sh2 cr2 ct2 cu2 ve2 ta2 ch2) ++ (wE cI aE lo fo si it))))))) (ws2 := ((wS cS aS (aW 0) (aB 0) (aC 0) (aH 0) (aT 0) aE la) ++ ((wW cI aW n cl th ki (va_up va k v) re fi) ++ ((wB cI aB (va_up (va_up bt (5 * k + 2 * re k + 3) (v / 256)) ((5 * k + 2 * re k + 3) + 1) (v % 256)) bs) ++ ((wC cI cZ aC (aW 0) (aB 0) to co ke nu fw) ++ ((wH cI aH (aW 0) lt tr sh cr ct cu ve ta ch) ++ ((wH cI aT (aW 0) lt2 tr2 sh2 cr2 ct2 cu2 ve2 ta2 ch2) ++ (wE cI aE lo fo si it)))))))) G K hA w F_X0_layValue (c_X0_layValue aB bt bs (5 * k + 2 * re k + 3) v B9 (by omega) (by omega)) ml_X5_117 [8, 9] [0, 1, 2, 3, 4, 5, 6, 7, 10, 11, 12, 13, 14, 15, 16, 17, 18, 19, 20, 21, 22, 23, 24, 25, 26, 27, 28, 29, 30, 31, 32, 33, 34, 35, 36, 37, 38, 39, 40, 41] [0, 1, 2, 3, 4, 5, 6, 7, 40, 41, 8, 9, 10, 11, 12, 13, 14, 15, 16, 17, 18, 19, 20, 21, 22, 23, 24, 25, 26, 27, 28, 29, 30, 31, 32, 33, 34, 35, 36, 37, 38, 39] rfl rfl rfl rfl rfl rfl rfl rfl rfl rfl (by decide) (by decide) rfl hl.1 (Nat.le_of_ble_eq_true rfl) dX5_alter_65 (fun Hp5 lo6 w => ?_)
      refine lv_aload_n hx hb dX5_alter_68 rfl (lv_at hl 1 rfl) ?_
      refine callMF (As := []) (rest := []) (q0 := 0) (ci := 5) (ws' := ((wS cS aS (aW 0) (aB 0) (aC 0) (aH 0) (aT 0) aE la) ++ ((wW cI aW n cl th ki (va_up va k v) re fi) ++ ((wB cI aB (va_up (va_up bt (5 * k + 2 * re k + 3) (v / 256)) ((5 * k + 2 * re k + 3) + 1) (v % 256)) bs) ++ ((wC cI cZ aC (aW 0) (aB 0) to co ke (rkN (cls ki re cl) (fun vv => nmC (va_up (va_up bt (5 * k + 2 * re k + 3) (v / 256)) ((5 * k + 2 * re k + 3) + 1) (v % 256)) bs (cov re n cl to co vv)) nu n) (rkF (cls ki re cl) (fun vv => flE re n cl to co vv + cif (nmC (va_up (va_up bt (5 * k + 2 * re k + 3) (v / 256)) ((5 * k + 2 * re k + 3) + 1) (v % 256)) bs (cov re n cl to co vv) ≠ ke vv) 8 0) fw n)) ++ ((wH cI aH (aW 0) (cLT th re none n lt (cl + 1)) (cTR th ki re none n tr (cl + 1)) (cSH th ki (va_up va k v) re none n sh (cl + 1)) (cCR th ki (va_up va k v) re none n cr (cl + 1)) (cCT th ki (va_up va k v) re none n ct (cl + 1)) (cCU th ki (va_up va k v) re none n cu (cl + 1)) (cVE th ki (va_up va k v) re none n cl ve cl) (cTA th ki (va_up va k v) re none n cl ta cl) (cCH th ki (va_up va k v) re none n (cl + 1))) ++ ((wH cI aT (aW 0) lt2 tr2 sh2 cr2 ct2 cu2 ve2 ta2 ch2) ++ (wE cI aE lo fo si it)))))))) G K hA w F_X5_reckon (c_X5_reckon aS aE la aW n cl th ki (va_up va k v) re fi aB (va_up (va_up bt (5 * k + 2 * re k + 3) (v / 256)) ((5 * k + 2 * re k + 3) + 1) (v % 256)) bs aC to co ke nu fw aH lt tr sh cr ct cu ve ta ch aT lt2 tr2 sh2 cr2 ct2 cu2 ve2 ta2 ch2 lo fo si it (IW_va J hv8) S ⟨up_le (up_le hbt (by omega)) (by omega), hbs⟩ C9 H9 U9 E9) ml_X5_63 rfl rfl rfl (by decide) (by decide) rfl hl.1 (Nat.le_of_ble_eq_true rfl) dX5_alter_69 (fun Hp7 lo8 w => ?_)
      refine lv_iload_n hx hb dX5_alter_72 rfl (lv_at hl 0 rfl) ?_
      exact hret _ _ _ _ _ _ rfl rfl w dX5_alter_73
    · -- not taken at 24
      exact absurd ((val_iff (hki k)).mpr ⟨v, hv9, rfl⟩) c24
set_option maxHeartbeats 4000000 in
set_option maxRecDepth 100000 in
theorem c_X5_better_bad (aS : Nat → Nat) (aE : Nat → Nat) (la : Int32) (aW : Nat → Nat) (n : Nat) (cl : Nat) (th : Nat → Nat) (ki : Nat → Nat) (va : Nat → Nat) (re : Nat → Nat) (fi : Nat → Nat) (aB : Nat → Nat) (bt : Nat → Nat) (bs : Nat) (aC : Nat → Nat) (to : Nat → Prop) (co : Nat → Nat) (ke : Nat → Int32) (nu : Nat → Int32) (fw : Nat → Nat) (aH : Nat → Nat) (lt : Nat → Option Nat) (tr : Nat → Nat) (sh : Nat → Nat) (cr : Nat → Nat) (ct : Nat → Nat) (cu : Nat → Nat) (ve : Nat → Nat) (ta : Nat → Nat) (ch : Nat) (aT : Nat → Nat) (lt2 : Nat → Option Nat) (tr2 : Nat → Nat) (sh2 : Nat → Nat) (cr2 : Nat → Nat) (ct2 : Nat → Nat) (cu2 : Nat → Nat) (ve2 : Nat → Nat) (ta2 : Nat → Nat) (ch2 : Nat) (lo : Nat → Prop) (fo : Nat → Nat) (si : Nat → Nat) (it : Nat → Nat → Int32) (x : Int32) (J : IW n cl th ki va re fi) (S : SW n cl re fi) (B9 : (∀ j, bt j ≤ 255) ∧ bs ≤ 216) (C9 : (∀ j, co j ≤ 400) ∧ (∀ j, fw j ≤ 15)) (H9 : IHd lt tr sh cr ct cu ve ta ch) (U9 : IHd lt2 tr2 sh2 cr2 ct2 cu2 ve2 ta2 ch2) (E9 : (∀ j, fo j ≤ 2) ∧ (∀ j, si j ≤ 60)) (KC : SKc th ki va re n cl to co ke nu fw) (hbad : ¬ okR 1 x) : CM l D (TY cI cZ cS) yX5_better cX5_better 6 (some .int) 4 [.ref (aS 0), .int x] ((wS cS aS (aW 0) (aB 0) (aC 0) (aH 0) (aT 0) aE la) ++ ((wW cI aW n cl th ki va re fi) ++ ((wB cI aB bt bs) ++ ((wC cI cZ aC (aW 0) (aB 0) to co ke nu fw) ++ ((wH cI aH (aW 0) lt tr sh cr ct cu ve ta ch) ++ ((wH cI aT (aW 0) lt2 tr2 sh2 cr2 ct2 cu2 ve2 ta2 ch2) ++ (wE cI aE lo fo si it))))))) (some (.int (-2))) ((wS cS aS (aW 0) (aB 0) (aC 0) (aH 0) (aT 0) aE la) ++ ((wW cI aW n cl th ki va re fi) ++ ((wB cI aB bt bs) ++ ((wC cI cZ aC (aW 0) (aB 0) to co ke nu fw) ++ ((wH cI aH (aW 0) lt tr sh cr ct cu ve ta ch) ++ ((wH cI aT (aW 0) lt2 tr2 sh2 cr2 ct2 cu2 ve2 ta2 ch2) ++ (wE cI aE lo fo si it))))))) := by
  refine CM.ofI (by decide +kernel) (Nat.le_of_ble_eq_true rfl) (nar_int _) ?_
  intro p e s m args below meth c Q A G K hA w hret ls hl
  obtain ⟨hx, hb, hml, hown, hts⟩ := id G
  obtain ⟨hn, hcl, hth, hki, hva, hre, hfi⟩ := id J
  obtain ⟨hbt, hbs⟩ := id B9
  obtain ⟨hco, hfw⟩ := id C9
  obtain ⟨hlt, htr, hsh, hcr, hct, hcu, hve, hta, hch⟩ := id H9
  obtain ⟨hlt2, htr2, hsh2, hcr2, hct2, hcu2, hve2, hta2, hch2⟩ := id U9
  obtain ⟨hfo, hsi⟩ := id E9
  have hl : lv_has ls 6 [(0, .ref (aS 0)), (1, .int x)] := hl
  refine lv_iload_n hx hb dX5_better_0 rfl (lv_at hl 1 rfl) ?_
  refine lv_if_lt (tgt := 9) hx hb dX5_better_1 (by decide) (fun c1 => ?_) (fun c1 => ?_)
  · -- taken at 1
    refine lv_bipush (v := (-2)) hx hb dX5_better_9 (by decide) ?_
    exact hret _ _ _ _ _ _ rfl rfl w dX5_better_11
  · -- not taken at 1
    refine lv_iload_n hx hb dX5_better_4 rfl (lv_at hl 1 rfl) ?_
    refine lv_iconst (v := (nI 1)) hx hb dX5_better_5 (by decide) ?_
    refine lv_icmp_le (tgt := 12) hx hb dX5_better_6 (by decide) (fun c6 => ?_) (fun c6 => ?_)
    · -- taken at 6
      exact absurd (hr_iff (m := 1) (by decide) c1 (le_nlt c6)) hbad
    · -- not taken at 6
      refine lv_bipush (v := (-2)) hx hb dX5_better_9 (by decide) ?_
      exact hret _ _ _ _ _ _ rfl rfl w dX5_better_11
set_option maxHeartbeats 4000000 in
set_option maxRecDepth 100000 in
theorem c_X5_better_ok (aS : Nat → Nat) (aE : Nat → Nat) (la : Int32) (aW : Nat → Nat) (n : Nat) (cl : Nat) (th : Nat → Nat) (ki : Nat → Nat) (va : Nat → Nat) (re : Nat → Nat) (fi : Nat → Nat) (aB : Nat → Nat) (bt : Nat → Nat) (bs : Nat) (aC : Nat → Nat) (to : Nat → Prop) (co : Nat → Nat) (ke : Nat → Int32) (nu : Nat → Int32) (fw : Nat → Nat) (aH : Nat → Nat) (lt : Nat → Option Nat) (tr : Nat → Nat) (sh : Nat → Nat) (cr : Nat → Nat) (ct : Nat → Nat) (cu : Nat → Nat) (ve : Nat → Nat) (ta : Nat → Nat) (ch : Nat) (aT : Nat → Nat) (lt2 : Nat → Option Nat) (tr2 : Nat → Nat) (sh2 : Nat → Nat) (cr2 : Nat → Nat) (ct2 : Nat → Nat) (cu2 : Nat → Nat) (ve2 : Nat → Nat) (ta2 : Nat → Nat) (ch2 : Nat) (lo : Nat → Prop) (fo : Nat → Nat) (si : Nat → Nat) (it : Nat → Nat → Int32) (q : Nat) (J : IW n cl th ki va re fi) (S : SW n cl re fi) (B9 : (∀ j, bt j ≤ 255) ∧ bs ≤ 216) (C9 : (∀ j, co j ≤ 400) ∧ (∀ j, fw j ≤ 15)) (H9 : IHd lt tr sh cr ct cu ve ta ch) (U9 : IHd lt2 tr2 sh2 cr2 ct2 cu2 ve2 ta2 ch2) (E9 : (∀ j, fo j ≤ 2) ∧ (∀ j, si j ≤ 60)) (KC : SKc th ki va re n cl to co ke nu fw) (hq9 : q ≤ 1) : CM l D (TY cI cZ cS) yX5_better cX5_better 6 (some .int) 4 [.ref (aS 0), .int (nI q)] ((wS cS aS (aW 0) (aB 0) (aC 0) (aH 0) (aT 0) aE la) ++ ((wW cI aW n cl th ki va re fi) ++ ((wB cI aB bt bs) ++ ((wC cI cZ aC (aW 0) (aB 0) to co ke nu fw) ++ ((wH cI aH (aW 0) lt tr sh cr ct cu ve ta ch) ++ ((wH cI aT (aW 0) lt2 tr2 sh2 cr2 ct2 cu2 ve2 ta2 ch2) ++ (wE cI aE lo fo si it))))))) (some (.int (oI (btN th ki va re n cl to co ke q)))) ((wS cS aS (aW 0) (aB 0) (aC 0) (aH 0) (aT 0) aE la) ++ ((wW cI aW n cl th ki va re fi) ++ ((wB cI aB bt bs) ++ ((wC cI cZ aC (aW 0) (aB 0) to co ke nu fw) ++ ((wH cI aH (aW 0) lt tr sh cr ct cu ve ta ch) ++ ((wH cI aT (aW 0) (itr (fun k x => cLT th re (some k) n x (cl + 1)) lt2 n) (itr (fun k x => cTR th ki re (some k) n x (cl + 1)) tr2 n) (itr (fun k x => cSH th ki va re (some k) n x (cl + 1)) sh2 n) (itr (fun k x => cCR th ki va re (some k) n x (cl + 1)) cr2 n) (itr (fun k x => cCT th ki va re (some k) n x (cl + 1)) ct2 n) (itr (fun k x => cCU th ki va re (some k) n x (cl + 1)) cu2 n) (itr (fun k x => cVE th ki va re (some k) n cl x cl) ve2 n) (itr (fun k x => cTA th ki va re (some k) n cl x cl) ta2 n) (itr (fun k _ => cCH th ki va re (some k) n (cl + 1)) ch2 n)) ++ (wE cI aE lo fo si it))))))) := by
  refine CM.ofI (by decide +kernel) (Nat.le_of_ble_eq_true rfl) (nar_int _) ?_
  intro p e s m args below meth c Q A G K hA w hret ls hl
  obtain ⟨hx, hb, hml, hown, hts⟩ := id G
  obtain ⟨hn, hcl, hth, hki, hva, hre, hfi⟩ := id J
  obtain ⟨hbt, hbs⟩ := id B9
  obtain ⟨hco, hfw⟩ := id C9
  obtain ⟨hlt, htr, hsh, hcr, hct, hcu, hve, hta, hch⟩ := id H9
  obtain ⟨hlt2, htr2, hsh2, hcr2, hct2, hcu2, hve2, hta2, hch2⟩ := id U9
  obtain ⟨hfo, hsi⟩ := id E9
  have hms : ∀ i w, mst (fun k => hoN th ki va re (some k) n cl to co ke) i = some w → w < 41 := fun i w h => Nat.lt_succ_of_le (mst_lt (z := 40) (fun k => Nat.le_trans (hoN_le th ki va re (some k) n cl to co ke) hn) i w h)
  have hl : lv_has ls 6 [(0, .ref (aS 0)), (1, .int (nI q))] := hl
  refine lv_iload_n hx hb dX5_better_0 rfl (lv_at hl 1 rfl) ?_
  refine z_lt G (tgt := 9) (by omega) dX5_better_1 (by decide) ?_
  refine lv_iload_n hx hb dX5_better_4 rfl (lv_at hl 1 rfl) ?_
  refine lv_iconst (v := (nI 1)) hx hb dX5_better_5 (by decide) ?_
  refine c_le G (tgt := 12) (by omega) (by omega) dX5_better_6 (by decide) (fun c6 => ?_) (fun c6 => ?_)
  · -- taken at 6
    refine lv_iconst (v := (-1)) hx hb dX5_better_12 (by decide) ?_
    refine t_i (y := (oI (bst (fun k => hoN th ki va re (some k) n cl to co ke) 0))) rfl ?_
    refine lv_istore_n (lv' := [(2, .int (oI (bst (fun k => hoN th ki va re (some k) n cl to co ke) 0))), (0, .ref (aS 0)), (1, .int (nI q))]) hx hb dX5_better_13 rfl hl (by decide) rfl (fun ls hl => ?_)
    refine lv_iconst (v := (-1)) hx hb dX5_better_14 (by decide) ?_
    refine t_i (y := (oI (mst (fun k => hoN th ki va re (some k) n cl to co ke) 0))) rfl ?_
    refine lv_istore_n (lv' := [(3, .int (oI (mst (fun k => hoN th ki va re (some k) n cl to co ke) 0))), (2, .int (oI (bst (fun k => hoN th ki va re (some k) n cl to co ke) 0))), (0, .ref (aS 0)), (1, .int (nI q))]) hx hb dX5_better_15 rfl hl (by decide) rfl (fun ls hl => ?_)
    refine lv_iconst (v := (nI 0)) hx hb dX5_better_16 (by decide) ?_
    refine lv_istore (lv' := [(4, .int (nI 0)), (3, .int (oI (mst (fun k => hoN th ki va re (some k) n cl to co ke) 0))), (2, .int (oI (bst (fun k => hoN th ki va re (some k) n cl to co ke) 0))), (0, .ref (aS 0)), (1, .int (nI q))]) hx hb dX5_better_17 hl (by decide) rfl (fun ls hl => ?_)
    have L19 : ∀ (d i : Nat), 0 ≤ i → i + d = n → (IHd (itr (fun k x => cLT th re (some k) n x (cl + 1)) lt2 i) (itr (fun k x => cTR th ki re (some k) n x (cl + 1)) tr2 i) (itr (fun k x => cSH th ki va re (some k) n x (cl + 1)) sh2 i) (itr (fun k x => cCR th ki va re (some k) n x (cl + 1)) cr2 i) (itr (fun k x => cCT th ki va re (some k) n x (cl + 1)) ct2 i) (itr (fun k x => cCU th ki va re (some k) n x (cl + 1)) cu2 i) (itr (fun k x => cVE th ki va re (some k) n cl x cl) ve2 i) (itr (fun k x => cTA th ki va re (some k) n cl x cl) ta2 i) (itr (fun k _ => cCH th ki va re (some k) n (cl + 1)) ch2 i)) → ∀ (H : Heap) (locs : List Loc), WW D A s.heap ((wS cS aS (aW 0) (aB 0) (aC 0) (aH 0) (aT 0) aE la) ++ ((wW cI aW n cl th ki va re fi) ++ ((wB cI aB bt bs) ++ ((wC cI cZ aC (aW 0) (aB 0) to co ke nu fw) ++ ((wH cI aH (aW 0) lt tr sh cr ct cu ve ta ch) ++ ((wH cI aT (aW 0) (itr (fun k x => cLT th re (some k) n x (cl + 1)) lt2 i) (itr (fun k x => cTR th ki re (some k) n x (cl + 1)) tr2 i) (itr (fun k x => cSH th ki va re (some k) n x (cl + 1)) sh2 i) (itr (fun k x => cCR th ki va re (some k) n x (cl + 1)) cr2 i) (itr (fun k x => cCT th ki va re (some k) n x (cl + 1)) ct2 i) (itr (fun k x => cCU th ki va re (some k) n x (cl + 1)) cu2 i) (itr (fun k x => cVE th ki va re (some k) n cl x cl) ve2 i) (itr (fun k x => cTA th ki va re (some k) n cl x cl) ta2 i) (itr (fun k _ => cCH th ki va re (some k) n (cl + 1)) ch2 i)) ++ (wE cI aE lo fo si it))))))) H locs → ∀ (ls : Array Slot), lv_has ls 6 [(0, .ref (aS 0)), (1, .int (nI q)), (2, .int (oI (bst (fun k => hoN th ki va re (some k) n cl to co ke) i))), (3, .int (oI (mst (fun k => hoN th ki va re (some k) n cl to co ke) i))), (4, .int (nI i))] → W p l e (RM 4) s m args below meth c H locs 0 0 Q (F0 m 19 ls []) := by
      intro d
      induction d with
      | zero =>
        intro i hlo19 hhi19 hU H locs w ls hl
        refine lv_iload hx hb dX5_better_19 (lv_at hl 4 rfl) ?_
        refine lv_aload_n hx hb dX5_better_21 rfl (lv_at hl 0 rfl) ?_
        refine f_get G K w.1 inX5 0 (ci := 5) rfl rfl 0 rfl fl_X5_12 (v := .ref (aW 0)) rfl dX5_better_22 ?_
        refine f_get G K w.1 inX4 2 (ci := 4) rfl rfl 5 rfl fl_X5_82 (v := .int (nI n)) rfl dX5_better_25 ?_
        refine c_ge G (tgt := 70) (by omega) (by omega) dX5_better_28 (by decide) (fun c28 => ?_) (fun c28 => ?_)
        · -- taken at 28
          refine lv_iload_n hx hb dX5_better_70 rfl (lv_at hl 1 rfl) ?_
          refine z_ne G (tgt := 78) (by omega) dX5_better_71 (by decide) (fun c71 => ?_) (fun c71 => ?_)
          · -- taken at 71
            refine lv_iload_n hx hb dX5_better_78 rfl (lv_at hl 3 rfl) ?_
            exact hret _ _ _ _ _ _ (by rw [show i = n by omega]; unfold btN; first | rw [cif_t c71] | rw [cif_f (by omega)]) (by rw [show i = n by omega]) w dX5_better_79
          · -- not taken at 71
            refine lv_iload_n hx hb dX5_better_74 rfl (lv_at hl 2 rfl) ?_
            refine lv_goto (tgt := 79) hx hb dX5_better_75 (by decide) ?_
            exact hret _ _ _ _ _ _ (by rw [show i = n by omega]; unfold btN; first | rw [cif_t c71] | rw [cif_f (by omega)]) (by rw [show i = n by omega]) w dX5_better_79
        · -- not taken at 28
          exact absurd c28 (by omega)
      | succ d ih =>
        intro i hlo19 hhi19 hU H locs w ls hl
        refine lv_iload hx hb dX5_better_19 (lv_at hl 4 rfl) ?_
        refine lv_aload_n hx hb dX5_better_21 rfl (lv_at hl 0 rfl) ?_
        refine f_get G K w.1 inX5 0 (ci := 5) rfl rfl 0 rfl fl_X5_12 (v := .ref (aW 0)) rfl dX5_better_22 ?_
        refine f_get G K w.1 inX4 2 (ci := 4) rfl rfl 5 rfl fl_X5_82 (v := .int (nI n)) rfl dX5_better_25 ?_
        refine c_ge G (tgt := 70) (by omega) (by omega) dX5_better_28 (by decide) (fun c28 => ?_) (fun c28 => ?_)
        · -- taken at 28
          exact absurd c28 (by omega)
        · -- not taken at 28
          refine lv_aload_n hx hb dX5_better_31 rfl (lv_at hl 0 rfl) ?_
          refine f_get G K w.1 inX5 0 (ci := 5) rfl rfl 4 rfl fl_X5_41 (v := .ref (aT 0)) rfl dX5_better_32 ?_
          refine lv_iload hx hb dX5_better_35 (lv_at hl 4 rfl) ?_
          refine callMV (As := [.int (nI i)]) (rest := []) (q0 := 6) (ci := 2) (wr := ((wS cS aS (aW 0) (aB 0) (aC 0) (aH 0) (aT 0) aE la) ++ ((wB cI aB bt bs) ++ ((wC cI cZ aC (aW 0) (aB 0) to co ke nu fw) ++ ((wH cI aH (aW 0) lt tr sh cr ct cu ve ta ch) ++ (wE cI aE lo fo si it)))))) (ws2 := ((wS cS aS (aW 0) (aB 0) (aC 0) (aH 0) (aT 0) aE la) ++ ((wW cI aW n cl th ki va re fi) ++ ((wB cI aB bt bs) ++ ((wC cI cZ aC (aW 0) (aB 0) to co ke nu fw) ++ ((wH cI aH (aW 0) lt tr sh cr ct cu ve ta ch) ++ ((wH cI aT (aW 0) (cLT th re (some i) n (itr (fun k x => cLT th re (some k) n x (cl + 1)) lt2 i) (cl + 1)) (cTR th ki re (some i) n (itr (fun k x => cTR th ki re (some k) n x (cl + 1)) tr2 i) (cl + 1)) (cSH th ki va re (some i) n (itr (fun k x => cSH th ki va re (some k) n x (cl + 1)) sh2 i) (cl + 1)) (cCR th ki va re (some i) n (itr (fun k x => cCR th ki va re (some k) n x (cl + 1)) cr2 i) (cl + 1)) (cCT th ki va re (some i) n (itr (fun k x => cCT th ki va re (some k) n x (cl + 1)) ct2 i) (cl + 1)) (cCU th ki va re (some i) n (itr (fun k x => cCU th ki va re (some k) n x (cl + 1)) cu2 i) (cl + 1)) (cVE th ki va re (some i) n cl (itr (fun k x => cVE th ki va re (some k) n cl x cl) ve2 i) cl) (cTA th ki va re (some i) n cl (itr (fun k x => cTA th ki va re (some k) n cl x cl) ta2 i) cl) (cCH th ki va re (some i) n (cl + 1))) ++ (wE cI aE lo fo si it)))))))) G K hA w F_X2_retell (c_X2_retell aW n cl th ki va re fi aT (itr (fun k x => cLT th re (some k) n x (cl + 1)) lt2 i) (itr (fun k x => cTR th ki re (some k) n x (cl + 1)) tr2 i) (itr (fun k x => cSH th ki va re (some k) n x (cl + 1)) sh2 i) (itr (fun k x => cCR th ki va re (some k) n x (cl + 1)) cr2 i) (itr (fun k x => cCT th ki va re (some k) n x (cl + 1)) ct2 i) (itr (fun k x => cCU th ki va re (some k) n x (cl + 1)) cu2 i) (itr (fun k x => cVE th ki va re (some k) n cl x cl) ve2 i) (itr (fun k x => cTA th ki va re (some k) n cl x cl) ta2 i) (itr (fun k _ => cCH th ki va re (some k) n (cl + 1)) ch2 i) (some i) J S hU (fun v h => by cases h; omega)) ml_X5_55 [2, 3, 4, 5, 6, 7, 25, 26, 27, 28, 29, 30, 31, 32, 33] [0, 1, 8, 9, 10, 11, 12, 13, 14, 15, 16, 17, 18, 19, 20, 21, 22, 23, 24, 34, 35, 36, 37, 38, 39, 40, 41] [0, 1, 27, 28, 29, 30, 31, 32, 2, 3, 4, 5, 6, 7, 8, 9, 10, 11, 12, 13, 14, 15, 16, 17, 18, 33, 34, 35, 36, 37, 38, 39, 40, 41, 19, 20, 21, 22, 23, 24, 25, 26] rfl rfl rfl rfl rfl rfl rfl rfl rfl rfl (by decide) (by decide) rfl hl.1 (Nat.le_of_ble_eq_true rfl) dX5_better_37 (fun Hp1 lo2 w => ?_)
          have w : WW D A s.heap ((wS cS aS (aW 0) (aB 0) (aC 0) (aH 0) (aT 0) aE la) ++ ((wW cI aW n cl th ki va re fi) ++ ((wB cI aB bt bs) ++ ((wC cI cZ aC (aW 0) (aB 0) to co ke nu fw) ++ ((wH cI aH (aW 0) lt tr sh cr ct cu ve ta ch) ++ ((wH cI aT (aW 0) (itr (fun k x => cLT th re (some k) n x (cl + 1)) lt2 (i + 1)) (itr (fun k x => cTR th ki re (some k) n x (cl + 1)) tr2 (i + 1)) (itr (fun k x => cSH th ki va re (some k) n x (cl + 1)) sh2 (i + 1)) (itr (fun k x => cCR th ki va re (some k) n x (cl + 1)) cr2 (i + 1)) (itr (fun k x => cCT th ki va re (some k) n x (cl + 1)) ct2 (i + 1)) (itr (fun k x => cCU th ki va re (some k) n x (cl + 1)) cu2 (i + 1)) (itr (fun k x => cVE th ki va re (some k) n cl x cl) ve2 (i + 1)) (itr (fun k x => cTA th ki va re (some k) n cl x cl) ta2 (i + 1)) (itr (fun k _ => cCH th ki va re (some k) n (cl + 1)) ch2 (i + 1))) ++ (wE cI aE lo fo si it))))))) Hp1 lo2 := by
            exact w
          refine lv_aload_n hx hb dX5_better_40 rfl (lv_at hl 0 rfl) ?_
          refine lv_aload_n hx hb dX5_better_41 rfl (lv_at hl 0 rfl) ?_
          refine f_get G K w.1 inX5 0 (ci := 5) rfl rfl 4 rfl fl_X5_41 (v := .ref (aT 0)) rfl dX5_better_42 ?_
          refine lv_iload hx hb dX5_better_45 (lv_at hl 4 rfl) ?_
          refine callPV (As := [.ref (aT 0), .int (nI i)]) (rest := []) (q0 := 0) (ci := 5) G K F_X5_howManyHold (c_X5_howManyHold_t aS aE la aW n cl th ki va re fi aB bt bs aC to co ke nu fw aH lt tr sh cr ct cu ve ta ch aT (itr (fun k x => cLT th re (some k) n x (cl + 1)) lt2 (i + 1)) (itr (fun k x => cTR th ki re (some k) n x (cl + 1)) tr2 (i + 1)) (itr (fun k x => cSH th ki va re (some k) n x (cl + 1)) sh2 (i + 1)) (itr (fun k x => cCR th ki va re (some k) n x (cl + 1)) cr2 (i + 1)) (itr (fun k x => cCT th ki va re (some k) n x (cl + 1)) ct2 (i + 1)) (itr (fun k x => cCU th ki va re (some k) n x (cl + 1)) cu2 (i + 1)) (itr (fun k x => cVE th ki va re (some k) n cl x cl) ve2 (i + 1)) (itr (fun k x => cTA th ki va re (some k) n cl x cl) ta2 (i + 1)) (itr (fun k _ => cCH th ki va re (some k) n (cl + 1)) ch2 (i + 1)) lo fo si it (some i) J S B9 C9 H9 (IHd_c hU hn hcl (by omega)) E9 KC HOK_c (fun v h => by cases h; omega)) w.1 ml_X5_227 rfl rfl rfl (by decide) (by decide) rfl hl.1 (Nat.le_of_ble_eq_true rfl) dX5_better_47 ?_
          have hf3 := hoN_le th ki va re (some i) n cl to co ke
          refine lv_istore (lv' := [(5, .int (nI (hoN th ki va re (some i) n cl to co ke))), (0, .ref (aS 0)), (1, .int (nI q)), (2, .int (oI (bst (fun k => hoN th ki va re (some k) n cl to co ke) i))), (3, .int (oI (mst (fun k => hoN th ki va re (some k) n cl to co ke) i))), (4, .int (nI i))]) hx hb dX5_better_50 hl (by decide) rfl (fun ls hl => ?_)
          refine lv_iload hx hb dX5_better_52 (lv_at hl 0 rfl) ?_
          refine lv_iload_n hx hb dX5_better_54 rfl (lv_at hl 4 rfl) ?_
          refine no_le G (tgt := 64) (by omega) (fun w h => by have := (hms i) w h; omega) dX5_better_55 (by decide) (fun c55 => ?_) (fun c55 => ?_)
          · -- taken at 55
            have hl := lv_re (l' := [(5, .int (nI (hoN th ki va re (some i) n cl to co ke))), (0, .ref (aS 0)), (1, .int (nI q)), (2, .int (oI (bst (fun k => hoN th ki va re (some k) n cl to co ke) (i + 1)))), (3, .int (oI (mst (fun k => hoN th ki va re (some k) n cl to co ke) i))), (4, .int (nI i))]) hl (by rw [show (oI (bst (fun k => hoN th ki va re (some k) n cl to co ke) i)) = (oI (bst (fun k => hoN th ki va re (some k) n cl to co ke) (i + 1))) from (congrArg oI (bst_f (g := (fun k => hoN th ki va re (some k) n cl to co ke)) c55))])
            have hl := lv_re (l' := [(5, .int (nI (hoN th ki va re (some i) n cl to co ke))), (0, .ref (aS 0)), (1, .int (nI q)), (2, .int (oI (bst (fun k => hoN th ki va re (some k) n cl to co ke) (i + 1)))), (3, .int (oI (mst (fun k => hoN th ki va re (some k) n cl to co ke) (i + 1)))), (4, .int (nI i))]) hl (by rw [show (oI (mst (fun k => hoN th ki va re (some k) n cl to co ke) i)) = (oI (mst (fun k => hoN th ki va re (some k) n cl to co ke) (i + 1))) from (congrArg oI (mst_f (g := (fun k => hoN th ki va re (some k) n cl to co ke)) c55))])
            refine lv_iinc (v := (nI (i + 1))) (lv' := [(4, .int (nI (i + 1))), (5, .int (nI (hoN th ki va re (some i) n cl to co ke))), (0, .ref (aS 0)), (1, .int (nI q)), (2, .int (oI (bst (fun k => hoN th ki va re (some k) n cl to co ke) (i + 1)))), (3, .int (oI (mst (fun k => hoN th ki va re (some k) n cl to co ke) (i + 1))))]) hx hb dX5_better_64 hl (k := 5) rfl (nI_inc _ 1) (by decide) rfl (fun ls hl => ?_)
            refine lv_goto (tgt := 19) hx hb dX5_better_67 (by decide) ?_
            -- slot 4: have n:i + 1, want n:(i + 1)
            exact ih (i + 1) (by omega) (by omega) (IHd_c hU hn hcl (by omega)) Hp1 lo2 w ls (lv_sub hl [2, 3, 4, 5, 0] rfl)
          · -- not taken at 55
            refine lv_iload hx hb dX5_better_58 (lv_at hl 5 rfl) ?_
            refine t_i (y := (oI (bst (fun k => hoN th ki va re (some k) n cl to co ke) (i + 1)))) (congrArg oI (bst_t (g := (fun k => hoN th ki va re (some k) n cl to co ke)) c55)) ?_
            refine lv_istore_n (lv' := [(2, .int (oI (bst (fun k => hoN th ki va re (some k) n cl to co ke) (i + 1)))), (5, .int (nI (hoN th ki va re (some i) n cl to co ke))), (0, .ref (aS 0)), (1, .int (nI q)), (3, .int (oI (mst (fun k => hoN th ki va re (some k) n cl to co ke) i))), (4, .int (nI i))]) hx hb dX5_better_60 rfl hl (by decide) rfl (fun ls hl => ?_)
            refine lv_iload hx hb dX5_better_61 (lv_at hl 1 rfl) ?_
            refine t_i (y := (oI (mst (fun k => hoN th ki va re (some k) n cl to co ke) (i + 1)))) (mst_t (g := (fun k => hoN th ki va re (some k) n cl to co ke)) c55) ?_
            refine lv_istore_n (lv' := [(3, .int (oI (mst (fun k => hoN th ki va re (some k) n cl to co ke) (i + 1)))), (2, .int (oI (bst (fun k => hoN th ki va re (some k) n cl to co ke) (i + 1)))), (5, .int (nI (hoN th ki va re (some i) n cl to co ke))), (0, .ref (aS 0)), (1, .int (nI q)), (4, .int (nI i))]) hx hb dX5_better_63 rfl hl (by decide) rfl (fun ls hl => ?_)
            refine lv_iinc (v := (nI (i + 1))) (lv' := [(4, .int (nI (i + 1))), (3, .int (oI (mst (fun k => hoN th ki va re (some k) n cl to co ke) (i + 1)))), (2, .int (oI (bst (fun k => hoN th ki va re (some k) n cl to co ke) (i + 1)))), (5, .int (nI (hoN th ki va re (some i) n cl to co ke))), (0, .ref (aS 0)), (1, .int (nI q))]) hx hb dX5_better_64 hl (k := 5) rfl (nI_inc _ 1) (by decide) rfl (fun ls hl => ?_)
            refine lv_goto (tgt := 19) hx hb dX5_better_67 (by decide) ?_
            -- slot 4: have n:i + 1, want n:(i + 1)
            exact ih (i + 1) (by omega) (by omega) (IHd_c hU hn hcl (by omega)) Hp1 lo2 w ls (lv_sub hl [4, 5, 2, 1, 0] rfl)
    exact L19 (n - 0) (0) (Nat.le_refl _) (by omega) U9 s.heap [] w ls (lv_sub hl [3, 4, 2, 1, 0] rfl)
  · -- not taken at 6
    exact absurd c6 (by omega)

end
