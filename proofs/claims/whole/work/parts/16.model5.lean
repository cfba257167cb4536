section
variable {l : Launch} {D : va_G} {cI cZ cS : ClassId}

set_option maxHeartbeats 4000000 in
set_option maxRecDepth 100000 in
theorem c_X6_count_bad (a : Nat → Nat) (la : Int32) (n : Nat) (cl : Nat) (go : Option Nat) (fo : Nat → Int32) (si : Nat → Nat) (it : Nat → Int32) (mo : Nat → Int32) (th : Nat → Nat) (ki : Nat → Nat) (va : Nat → Nat) (re : Nat → Nat) (to : Nat → Prop) (co : Nat → Nat) (ke : Nat → Int32) (fw : Nat → Nat) (x : Int32) (I : IM n cl go th ki va re si co fw) (hbad : ¬ okR 8 x) : CM l D (TY cI cZ cS) yX6_count cX6_count 2 (some .int) 9 [.ref (a 0), .int x] (wM cI cZ a la n cl go fo si it mo th ki va re to co ke fw) (some (.int (-2))) (wM cI cZ a la n cl go fo si it mo th ki va re to co ke fw) := by
  refine CM.ofI (by decide +kernel) (Nat.le_of_ble_eq_true rfl) (nar_int _) ?_
  intro p e s m args below meth c Q A G K hA w hret ls hl
  obtain ⟨hx, hb, hml, hown, hts⟩ := id G
  obtain ⟨hn, hcl, hgo, hth, hki, hva, hre, hsi, hco, hfw⟩ := id I
  have hl : lv_has ls 2 [(0, .ref (a 0)), (1, .int x)] := hl
  refine lv_iload_n hx hb dX6_count_0 rfl (lv_at hl 1 rfl) ?_
  rcases sw8 x with rfl | rfl | rfl | rfl | rfl | rfl | rfl | rfl | rfl | hsw1
  · -- 0
    exact absurd ⟨0, by decide, rfl⟩ hbad
  · -- 1
    exact absurd ⟨1, by decide, rfl⟩ hbad
  · -- 2
    exact absurd ⟨2, by decide, rfl⟩ hbad
  · -- 3
    exact absurd ⟨3, by decide, rfl⟩ hbad
  · -- 4
    exact absurd ⟨4, by decide, rfl⟩ hbad
  · -- 5
    exact absurd ⟨5, by decide, rfl⟩ hbad
  · -- 6
    exact absurd ⟨6, by decide, rfl⟩ hbad
  · -- 7
    exact absurd ⟨7, by decide, rfl⟩ hbad
  · -- 8
    exact absurd ⟨8, by decide, rfl⟩ hbad
  · -- other
    refine lv_tableOut (tgt := 102) hx hb dX6_count_1 hsw1 (by decide) ?_
    refine lv_bipush (v := (-2)) hx hb dX6_count_102 (by decide) ?_
    exact hret _ _ _ _ _ _ rfl rfl w dX6_count_104
set_option maxHeartbeats 4000000 in
set_option maxRecDepth 100000 in
theorem c_X6_read_bad (a : Nat → Nat) (la : Int32) (n : Nat) (cl : Nat) (go : Option Nat) (fo : Nat → Int32) (si : Nat → Nat) (it : Nat → Int32) (mo : Nat → Int32) (th : Nat → Nat) (ki : Nat → Nat) (va : Nat → Nat) (re : Nat → Nat) (to : Nat → Prop) (co : Nat → Nat) (ke : Nat → Int32) (fw : Nat → Nat) (x : Int32) (I : IM n cl go th ki va re si co fw) (hbad : ¬ okR 3 x) : CM l D (TY cI cZ cS) yX6_read cX6_read 5 (some .int) 3 [.ref (a 0), .int x] (wM cI cZ a la n cl go fo si it mo th ki va re to co ke fw) (some (.int (-2))) (wM cI cZ a la n cl go fo si it mo th ki va re to co ke fw) := by
  refine CM.ofI (by decide +kernel) (Nat.le_of_ble_eq_true rfl) (nar_int _) ?_
  intro p e s m args below meth c Q A G K hA w hret ls hl
  obtain ⟨hx, hb, hml, hown, hts⟩ := id G
  obtain ⟨hn, hcl, hgo, hth, hki, hva, hre, hsi, hco, hfw⟩ := id I
  have hl : lv_has ls 5 [(0, .ref (a 0)), (1, .int x)] := hl
  refine lv_iload_n hx hb dX6_read_0 rfl (lv_at hl 1 rfl) ?_
  refine callPS (rest := []) G K F_X6_isSheet (c_X6_isSheet x) (va_P_nil D s.heap) ml_X6_60 (by decide) (by decide) rfl hl.1 (Nat.le_of_ble_eq_true rfl) dX6_read_1 ?_
  refine b_ne G (tgt := 10) dX6_read_4 (by decide) (fun c4 => ?_) (fun c4 => ?_)
  · -- taken at 4
    exact absurd (okRi (by decide) c4) hbad
  · -- not taken at 4
    refine lv_bipush (v := (-2)) hx hb dX6_read_7 (by decide) ?_
    exact hret _ _ _ _ _ _ rfl rfl w dX6_read_9
set_option maxHeartbeats 4000000 in
set_option maxRecDepth 100000 in
theorem c_X6_read_nul (a : Nat → Nat) (la : Int32) (n : Nat) (cl : Nat) (go : Option Nat) (fo : Nat → Int32) (si : Nat → Nat) (it : Nat → Int32) (mo : Nat → Int32) (th : Nat → Nat) (ki : Nat → Nat) (va : Nat → Nat) (re : Nat → Nat) (to : Nat → Prop) (co : Nat → Nat) (ke : Nat → Int32) (fw : Nat → Nat) (x : Nat) (I : IM n cl go th ki va re si co fw) (hx9 : x ≤ 3) (hf9 : fo x < 0) : CM l D (TY cI cZ cS) yX6_read cX6_read 5 (some .int) 3 [.ref (a 0), .int (nI x)] (wM cI cZ a la n cl go fo si it mo th ki va re to co ke fw) (some (.int ((-10) - (nI 1)))) (wM cI cZ a (nI 1) n cl go fo si it mo th ki va re to co ke fw) := by
  refine CM.ofI (by decide +kernel) (Nat.le_of_ble_eq_true rfl) (nar_int _) ?_
  intro p e s m args below meth c Q A G K hA w hret ls hl
  obtain ⟨hx, hb, hml, hown, hts⟩ := id G
  obtain ⟨hn, hcl, hgo, hth, hki, hva, hre, hsi, hco, hfw⟩ := id I
  have hl : lv_has ls 5 [(0, .ref (a 0)), (1, .int (nI x))] := hl
  refine lv_iload_n hx hb dX6_read_0 rfl (lv_at hl 1 rfl) ?_
  refine callPS (rest := []) G K F_X6_isSheet (c_X6_isSheet (nI x)) (va_P_nil D s.heap) ml_X6_60 (by decide) (by decide) rfl hl.1 (Nat.le_of_ble_eq_true rfl) dX6_read_1 ?_
  refine b_ne G (tgt := 10) dX6_read_4 (by decide) (fun c4 => ?_) (fun c4 => ?_)
  · -- taken at 4
    refine lv_aload_n hx hb dX6_read_10 rfl (lv_at hl 0 rfl) ?_
    refine f_get G K w.1 inX6 0 (ci := 6) rfl rfl 0 rfl fl_X6_7 (v := .ref (a 1)) rfl dX6_read_11 ?_
    refine lv_iload_n hx hb dX6_read_14 rfl (lv_at hl 1 rfl) ?_
    refine a_ld G K w.1 1 0 (a := (a 1)) rfl rfl (by omega) (by decide) dX6_read_15 ?_
    refine lv_if_ge (tgt := 25) hx hb dX6_read_16 (by decide) (fun c16 => ?_) (fun c16 => ?_)
    · -- taken at 16
      exact absurd c16 (neg_nge hf9)
    · -- not taken at 16
      refine lv_aload_n hx hb dX6_read_19 rfl (lv_at hl 0 rfl) ?_
      refine lv_iconst (v := (nI 1)) hx hb dX6_read_20 (by decide) ?_
      refine callMF (As := [.int (nI 1)]) (rest := []) (q0 := 0) (ci := 6) (ws' := (wM cI cZ a (nI 1) n cl go fo si it mo th ki va re to co ke fw)) G K hA w F_X6_finds (c_X6_finds a la n cl go fo si it mo th ki va re to co ke fw 1 I) ml_X6_66 rfl rfl rfl (by decide) (by decide) rfl hl.1 (Nat.le_of_ble_eq_true rfl) dX6_read_21 (fun Hp1 lo2 w => ?_)
      exact hret _ _ _ _ _ _ rfl rfl w dX6_read_24
  · -- not taken at 4
    exact absurd ((okN (m := 3) (by decide)).mpr ⟨x, hx9, rfl⟩) c4
set_option maxHeartbeats 4000000 in
set_option maxRecDepth 100000 in
theorem c_X6_read_ok (a : Nat → Nat) (la : Int32) (n : Nat) (cl : Nat) (go : Option Nat) (fo : Nat → Int32) (si : Nat → Nat) (it : Nat → Int32) (mo : Nat → Int32) (th : Nat → Nat) (ki : Nat → Nat) (va : Nat → Nat) (re : Nat → Nat) (to : Nat → Prop) (co : Nat → Nat) (ke : Nat → Int32) (fw : Nat → Nat) (x : Nat) (I : IM n cl go th ki va re si co fw) (hx9 : x ≤ 3) (hf9 : ¬ fo x < 0) : CM l D (TY cI cZ cS) yX6_read cX6_read 5 (some .int) 3 [.ref (a 0), .int (nI x)] (wM cI cZ a la n cl go fo si it mo th ki va re to co ke fw) (some (.int (nI (rdK it si n x)))) (wM cI cZ a la (n + (rdK it si n x)) cl go fo si it mo (apN th n (fun k => tN (it (60 * x + 3 * k))) (rdK it si n x)) (apN ki n (fun k => tN (it (60 * x + 3 * k + 1))) (rdK it si n x)) (apN va n (fun k => tN (it (60 * x + 3 * k + 2))) (rdK it si n x)) (apN re n (fun _ => cl) (rdK it si n x)) (apN to n (fun _ => False) (rdK it si n x)) co ke fw) := by
  refine CM.ofI (by decide +kernel) (Nat.le_of_ble_eq_true rfl) (nar_int _) ?_
  intro p e s m args below meth c Q A G K hA w hret ls hl
  obtain ⟨hx, hb, hml, hown, hts⟩ := id G
  obtain ⟨hn, hcl, hgo, hth, hki, hva, hre, hsi, hco, hfw⟩ := id I
  have hsx := hsi x
  have hl : lv_has ls 5 [(0, .ref (a 0)), (1, .int (nI x))] := hl
  refine lv_iload_n hx hb dX6_read_0 rfl (lv_at hl 1 rfl) ?_
  refine callPS (rest := []) G K F_X6_isSheet (c_X6_isSheet (nI x)) (va_P_nil D s.heap) ml_X6_60 (by decide) (by decide) rfl hl.1 (Nat.le_of_ble_eq_true rfl) dX6_read_1 ?_
  refine b_ne G (tgt := 10) dX6_read_4 (by decide) (fun c4 => ?_) (fun c4 => ?_)
  · -- taken at 4
    refine lv_aload_n hx hb dX6_read_10 rfl (lv_at hl 0 rfl) ?_
    refine f_get G K w.1 inX6 0 (ci := 6) rfl rfl 0 rfl fl_X6_7 (v := .ref (a 1)) rfl dX6_read_11 ?_
    refine lv_iload_n hx hb dX6_read_14 rfl (lv_at hl 1 rfl) ?_
    refine a_ld G K w.1 1 0 (a := (a 1)) rfl rfl (by omega) (by decide) dX6_read_15 ?_
    refine lv_if_ge (tgt := 25) hx hb dX6_read_16 (by decide) (fun c16 => ?_) (fun c16 => ?_)
    · -- taken at 16
      refine lv_iconst (v := (nI 0)) hx hb dX6_read_25 (by decide) ?_
      refine lv_istore_n (lv' := [(2, .int (nI 0)), (0, .ref (a 0)), (1, .int (nI x))]) hx hb dX6_read_26 rfl hl (by decide) rfl (fun ls hl => ?_)
      refine lv_iconst (v := (nI 1)) hx hb dX6_read_27 (by decide) ?_
      refine lv_istore_n (lv' := [(3, .int (nI 1)), (2, .int (nI 0)), (0, .ref (a 0)), (1, .int (nI x))]) hx hb dX6_read_28 rfl hl (by decide) rfl (fun ls hl => ?_)
      have L29 : ∀ (d k : Nat), 0 ≤ k → k + d = 21 → (3 * k ≤ si x) → (n + k ≤ 40) → (IM (n + k) cl go (apN th n (fun k => tN (it (60 * x + 3 * k))) k) (apN ki n (fun k => tN (it (60 * x + 3 * k + 1))) k) (apN va n (fun k => tN (it (60 * x + 3 * k + 2))) k) (apN re n (fun _ => cl) k) si co fw) → (fnd (rdS it si n x) d k = fnd (rdS it si n x) 21 0) → ∀ (H : Heap) (locs : List Loc), WW D A s.heap (wM cI cZ a la (n + k) cl go fo si it mo (apN th n (fun k => tN (it (60 * x + 3 * k))) k) (apN ki n (fun k => tN (it (60 * x + 3 * k + 1))) k) (apN va n (fun k => tN (it (60 * x + 3 * k + 2))) k) (apN re n (fun _ => cl) k) (apN to n (fun _ => False) k) co ke fw) H locs → ∀ (ls : Array Slot), lv_has ls 5 [(0, .ref (a 0)), (1, .int (nI x)), (2, .int (nI k)), (3, .int (nI 1))] → W p l e (RM 3) s m args below meth c H locs 0 0 Q (F0 m 29 ls []) := by
        intro d
        induction d with
        | zero =>
          intro k hlo29 hhi29 hk3 hnk hI hB H locs w ls hl
          exfalso; omega
        | succ d ih =>
          intro k hlo29 hhi29 hk3 hnk hI hB H locs w ls hl
          refine lv_iload_n hx hb dX6_read_29 rfl (lv_at hl 3 rfl) ?_
          refine z_eq G (tgt := 110) (by omega) dX6_read_30 (by decide) (fun c30 => ?_) (fun c30 => ?_)
          · -- taken at 30
            exact absurd c30 (by decide)
          · -- not taken at 30
            refine lv_iconst (v := (nI 3)) hx hb dX6_read_33 (by decide) ?_
            refine lv_iload_n hx hb dX6_read_34 rfl (lv_at hl 2 rfl) ?_
            refine t_mul G dX6_read_35 ?_
            refine lv_iconst (v := (nI 3)) hx hb dX6_read_36 (by decide) ?_
            refine t_add G dX6_read_37 ?_
            refine lv_aload_n hx hb dX6_read_38 rfl (lv_at hl 0 rfl) ?_
            refine f_get G K w.1 inX6 0 (ci := 6) rfl rfl 1 rfl fl_X6_13 (v := .ref (a 2)) rfl dX6_read_39 ?_
            refine lv_iload_n hx hb dX6_read_42 rfl (lv_at hl 1 rfl) ?_
            refine a_ldN G K w.1 2 0 (a := (a 2)) rfl rfl (by omega) (by decide) dX6_read_43 ?_
            have hb1 := hsi x
            refine c_gt G (tgt := 110) (by omega) (by omega) dX6_read_44 (by decide) (fun c44 => ?_) (fun c44 => ?_)
            · -- taken at 44
              refine lv_iload_n hx hb dX6_read_110 rfl (lv_at hl 2 rfl) ?_
              exact hret _ _ _ _ _ _ (congrArg nI (by rw [rdK_at hB (by first | exact fun h => hp h.2.1 | exact fun h => absurd h.2.2 (by omega) | exact fun h => absurd h.1 (by omega))]; try rfl)) (by rw [rdK_at hB (by first | exact fun h => hp h.2.1 | exact fun h => absurd h.2.2 (by omega) | exact fun h => absurd h.1 (by omega))]) w dX6_read_111
            · -- not taken at 44
              refine lv_bipush (v := (nI 60)) hx hb dX6_read_47 (by decide) ?_
              refine lv_iload_n hx hb dX6_read_49 rfl (lv_at hl 1 rfl) ?_
              refine t_mul G dX6_read_50 ?_
              refine lv_iconst (v := (nI 3)) hx hb dX6_read_51 (by decide) ?_
              refine lv_iload_n hx hb dX6_read_52 rfl (lv_at hl 2 rfl) ?_
              refine t_mul G dX6_read_53 ?_
              refine t_add G dX6_read_54 ?_
              refine lv_istore (lv' := [(4, .int (nI (60 * x + 3 * k))), (0, .ref (a 0)), (1, .int (nI x)), (2, .int (nI k)), (3, .int (nI 1))]) hx hb dX6_read_55 hl (by decide) rfl (fun ls hl => ?_)
              rcases rd_cases (it (60 * x + 3 * k)) (it (60 * x + 3 * k + 1)) (it (60 * x + 3 * k + 2)) n k with ⟨t9, k9, v9, ht9, hk9, hv9, e1, e2, e3, hp, hn9⟩ | ⟨t9, k9, v9, ht9, hk9, hv9, e1, e2, e3, hp, hn9⟩ | hp
              · -- case
                refine lv_aload_n hx hb dX6_read_57 rfl (lv_at hl 1 rfl) ?_
                refine lv_aload_n hx hb dX6_read_58 rfl (lv_at hl 1 rfl) ?_
                refine f_get G K w.1 inX6 0 (ci := 6) rfl rfl 2 rfl fl_X6_16 (v := .ref (a 3)) rfl dX6_read_59 ?_
                refine lv_iload hx hb dX6_read_62 (lv_at hl 0 rfl) ?_
                refine a_ld G K w.1 3 0 (a := (a 3)) rfl rfl (by omega) (by decide) dX6_read_64 ?_
                refine t_i (y := (nI t9)) e1 ?_
                refine lv_aload_n hx hb dX6_read_65 rfl (lv_at hl 1 rfl) ?_
                refine f_get G K w.1 inX6 0 (ci := 6) rfl rfl 2 rfl fl_X6_16 (v := .ref (a 3)) rfl dX6_read_66 ?_
                refine lv_iload hx hb dX6_read_69 (lv_at hl 0 rfl) ?_
                refine lv_iconst (v := (nI 1)) hx hb dX6_read_71 (by decide) ?_
                refine t_add G dX6_read_72 ?_
                refine a_ld G K w.1 3 0 (a := (a 3)) rfl rfl (by omega) (by decide) dX6_read_73 ?_
                refine t_i (y := (nI k9)) e2 ?_
                refine lv_aload_n hx hb dX6_read_74 rfl (lv_at hl 1 rfl) ?_
                refine f_get G K w.1 inX6 0 (ci := 6) rfl rfl 2 rfl fl_X6_16 (v := .ref (a 3)) rfl dX6_read_75 ?_
                refine lv_iload hx hb dX6_read_78 (lv_at hl 0 rfl) ?_
                refine lv_iconst (v := (nI 2)) hx hb dX6_read_80 (by decide) ?_
                refine t_add G dX6_read_81 ?_
                refine a_ld G K w.1 3 0 (a := (a 3)) rfl rfl (by omega) (by decide) dX6_read_82 ?_
                refine t_i (y := (nI v9)) e3 ?_
                refine callMF (As := [.int (nI t9), .int (nI k9), .int (nI v9)]) (rest := []) (q0 := 0) (ci := 6) (ws' := (wM cI cZ a la ((n + k) + 1) cl go fo si it mo (va_up (apN th n (fun k => tN (it (60 * x + 3 * k))) k) (n + k) t9) (va_up (apN ki n (fun k => tN (it (60 * x + 3 * k + 1))) k) (n + k) k9) (va_up (apN va n (fun k => tN (it (60 * x + 3 * k + 2))) k) (n + k) v9) (va_up (apN re n (fun _ => cl) k) (n + k) cl) (va_up (apN to n (fun _ => False) k) (n + k) False) co ke fw)) G K hA w F_X6_put (c_X6_put_ok a la (n + k) cl go fo si it mo (apN th n (fun k => tN (it (60 * x + 3 * k))) k) (apN ki n (fun k => tN (it (60 * x + 3 * k + 1))) k) (apN va n (fun k => tN (it (60 * x + 3 * k + 2))) k) (apN re n (fun _ => cl) k) (apN to n (fun _ => False) k) co ke fw t9 k9 v9 hI ht9 hk9 hv9 (by omega)) ml_X6_116 rfl rfl rfl (by decide) (by decide) rfl hl.1 (Nat.le_of_ble_eq_true rfl) dX6_read_83 (fun Hp2 lo3 w => ?_)
                refine z_lt G (tgt := 93) (by omega) dX6_read_86 (by decide) ?_
                refine lv_iconst (v := (nI 1)) hx hb dX6_read_89 (by decide) ?_
                refine lv_goto (tgt := 94) hx hb dX6_read_90 (by decide) ?_
                refine lv_istore_n (lv' := [(3, .int (nI 1)), (4, .int (nI (60 * x + 3 * k))), (0, .ref (a 0)), (1, .int (nI x)), (2, .int (nI k))]) hx hb dX6_read_94 rfl hl (by decide) rfl (fun ls hl => ?_)
                refine lv_iload_n hx hb dX6_read_95 rfl (lv_at hl 4 rfl) ?_
                refine lv_iload_n hx hb dX6_read_96 rfl (lv_at hl 0 rfl) ?_
                refine z_eq G (tgt := 104) (by omega) dX6_read_97 (by decide) (fun c97 => ?_) (fun c97 => ?_)
                · -- taken at 97
                  exact absurd c97 (by decide)
                · -- not taken at 97
                  refine lv_iconst (v := (nI 1)) hx hb dX6_read_100 (by decide) ?_
                  refine lv_goto (tgt := 105) hx hb dX6_read_101 (by decide) ?_
                  refine t_add G dX6_read_105 ?_
                  refine lv_istore_n (lv' := [(2, .int (nI (k + 1))), (3, .int (nI 1)), (4, .int (nI (60 * x + 3 * k))), (0, .ref (a 0)), (1, .int (nI x))]) hx hb dX6_read_106 rfl hl (by decide) rfl (fun ls hl => ?_)
                  have w : WW D A s.heap (wM cI cZ a la (n + (k + 1)) cl go fo si it mo (apN th n (fun k => tN (it (60 * x + 3 * k))) (k + 1)) (apN ki n (fun k => tN (it (60 * x + 3 * k + 1))) (k + 1)) (apN va n (fun k => tN (it (60 * x + 3 * k + 2))) (k + 1)) (apN re n (fun _ => cl) (k + 1)) (apN to n (fun _ => False) (k + 1)) co ke fw) Hp2 lo3 := by
                    have et : apN th n (fun k => tN (it (60 * x + 3 * k))) (k + 1) = va_up (apN th n (fun k => tN (it (60 * x + 3 * k))) k) (n + k) t9 := by show va_up _ _ (tN (it (60 * x + 3 * k))) = _; rw [e1, tN_nI (by omega)]
                    have ek : apN ki n (fun k => tN (it (60 * x + 3 * k + 1))) (k + 1) = va_up (apN ki n (fun k => tN (it (60 * x + 3 * k + 1))) k) (n + k) k9 := by show va_up _ _ (tN (it (60 * x + 3 * k + 1))) = _; rw [e2, tN_nI (by omega)]
                    have ev : apN va n (fun k => tN (it (60 * x + 3 * k + 2))) (k + 1) = va_up (apN va n (fun k => tN (it (60 * x + 3 * k + 2))) k) (n + k) v9 := by show va_up _ _ (tN (it (60 * x + 3 * k + 2))) = _; rw [e3, tN_nI (by have := okV_le hv9; omega)]
                    rw [et, ek, ev]; exact w
                  have hI2 : IM (n + (k + 1)) cl go (apN th n (fun k => tN (it (60 * x + 3 * k))) (k + 1)) (apN ki n (fun k => tN (it (60 * x + 3 * k + 1))) (k + 1)) (apN va n (fun k => tN (it (60 * x + 3 * k + 2))) (k + 1)) (apN re n (fun _ => cl) (k + 1)) si co fw := by
                    have et : apN th n (fun k => tN (it (60 * x + 3 * k))) (k + 1) = va_up (apN th n (fun k => tN (it (60 * x + 3 * k))) k) (n + k) t9 := by show va_up _ _ (tN (it (60 * x + 3 * k))) = _; rw [e1, tN_nI (by omega)]
                    have ek : apN ki n (fun k => tN (it (60 * x + 3 * k + 1))) (k + 1) = va_up (apN ki n (fun k => tN (it (60 * x + 3 * k + 1))) k) (n + k) k9 := by show va_up _ _ (tN (it (60 * x + 3 * k + 1))) = _; rw [e2, tN_nI (by omega)]
                    have ev : apN va n (fun k => tN (it (60 * x + 3 * k + 2))) (k + 1) = va_up (apN va n (fun k => tN (it (60 * x + 3 * k + 2))) k) (n + k) v9 := by show va_up _ _ (tN (it (60 * x + 3 * k + 2))) = _; rw [e3, tN_nI (by have := okV_le hv9; omega)]
                    rw [et, ek, ev]; exact IM_put hI hn9 ht9 hk9 (okV_le hv9)
                  refine lv_goto (tgt := 29) hx hb dX6_read_107 (by decide) ?_
                  -- slot 2: have n:k + 1, want n:(k + 1)
                  exact ih (k + 1) (by omega) (by omega) (by omega) (by omega) hI2 (by rw [← hB]; exact (fnd_f (q := rdS it si n x) (fun h => h ⟨c44, hp, hn9⟩)).symm) Hp2 lo3 w ls (lv_sub hl [3, 4, 0, 1] rfl)
              · -- case
                refine lv_aload_n hx hb dX6_read_57 rfl (lv_at hl 1 rfl) ?_
                refine lv_aload_n hx hb dX6_read_58 rfl (lv_at hl 1 rfl) ?_
                refine f_get G K w.1 inX6 0 (ci := 6) rfl rfl 2 rfl fl_X6_16 (v := .ref (a 3)) rfl dX6_read_59 ?_
                refine lv_iload hx hb dX6_read_62 (lv_at hl 0 rfl) ?_
                refine a_ld G K w.1 3 0 (a := (a 3)) rfl rfl (by omega) (by decide) dX6_read_64 ?_
                refine t_i (y := (nI t9)) e1 ?_
                refine lv_aload_n hx hb dX6_read_65 rfl (lv_at hl 1 rfl) ?_
                refine f_get G K w.1 inX6 0 (ci := 6) rfl rfl 2 rfl fl_X6_16 (v := .ref (a 3)) rfl dX6_read_66 ?_
                refine lv_iload hx hb dX6_read_69 (lv_at hl 0 rfl) ?_
                refine lv_iconst (v := (nI 1)) hx hb dX6_read_71 (by decide) ?_
                refine t_add G dX6_read_72 ?_
                refine a_ld G K w.1 3 0 (a := (a 3)) rfl rfl (by omega) (by decide) dX6_read_73 ?_
                refine t_i (y := (nI k9)) e2 ?_
                refine lv_aload_n hx hb dX6_read_74 rfl (lv_at hl 1 rfl) ?_
                refine f_get G K w.1 inX6 0 (ci := 6) rfl rfl 2 rfl fl_X6_16 (v := .ref (a 3)) rfl dX6_read_75 ?_
                refine lv_iload hx hb dX6_read_78 (lv_at hl 0 rfl) ?_
                refine lv_iconst (v := (nI 2)) hx hb dX6_read_80 (by decide) ?_
                refine t_add G dX6_read_81 ?_
                refine a_ld G K w.1 3 0 (a := (a 3)) rfl rfl (by omega) (by decide) dX6_read_82 ?_
                refine t_i (y := (nI v9)) e3 ?_
                refine callMF (As := [.int (nI t9), .int (nI k9), .int (nI v9)]) (rest := []) (q0 := 0) (ci := 6) (ws' := (wM cI cZ a la (n + k) cl go fo si it mo (apN th n (fun k => tN (it (60 * x + 3 * k))) k) (apN ki n (fun k => tN (it (60 * x + 3 * k + 1))) k) (apN va n (fun k => tN (it (60 * x + 3 * k + 2))) k) (apN re n (fun _ => cl) k) (apN to n (fun _ => False) k) co ke fw)) G K hA w F_X6_put (c_X6_put_full a la (n + k) cl go fo si it mo (apN th n (fun k => tN (it (60 * x + 3 * k))) k) (apN ki n (fun k => tN (it (60 * x + 3 * k + 1))) k) (apN va n (fun k => tN (it (60 * x + 3 * k + 2))) k) (apN re n (fun _ => cl) k) (apN to n (fun _ => False) k) co ke fw t9 k9 v9 hI ht9 hk9 hv9 (by omega)) ml_X6_116 rfl rfl rfl (by decide) (by decide) rfl hl.1 (Nat.le_of_ble_eq_true rfl) dX6_read_83 (fun Hp4 lo5 w => ?_)
                refine lv_if_lt (tgt := 93) hx hb dX6_read_86 (by decide) (fun c86 => ?_) (fun c86 => ?_)
                · -- taken at 86
                  refine lv_iconst (v := (nI 0)) hx hb dX6_read_93 (by decide) ?_
                  refine lv_istore_n (lv' := [(3, .int (nI 0)), (4, .int (nI (60 * x + 3 * k))), (0, .ref (a 0)), (1, .int (nI x)), (2, .int (nI k))]) hx hb dX6_read_94 rfl hl (by decide) rfl (fun ls hl => ?_)
                  refine lv_iload_n hx hb dX6_read_95 rfl (lv_at hl 4 rfl) ?_
                  refine lv_iload_n hx hb dX6_read_96 rfl (lv_at hl 0 rfl) ?_
                  refine z_eq G (tgt := 104) (by omega) dX6_read_97 (by decide) (fun c97 => ?_) (fun c97 => ?_)
                  · -- taken at 97
                    refine lv_iconst (v := (nI 0)) hx hb dX6_read_104 (by decide) ?_
                    refine t_add G dX6_read_105 ?_
                    refine lv_istore_n (lv' := [(2, .int (nI (k + 0))), (3, .int (nI 0)), (4, .int (nI (60 * x + 3 * k))), (0, .ref (a 0)), (1, .int (nI x))]) hx hb dX6_read_106 rfl hl (by decide) rfl (fun ls hl => ?_)
                    refine lv_goto (tgt := 29) hx hb dX6_read_107 (by decide) ?_
                    refine lv_iload_n hx hb dX6_read_29 rfl (lv_at hl 1 rfl) ?_
                    refine z_eq G (tgt := 110) (by omega) dX6_read_30 (by decide) (fun c30 => ?_) (fun c30 => ?_)
                    · -- taken at 30
                      refine lv_iload_n hx hb dX6_read_110 rfl (lv_at hl 0 rfl) ?_
                      exact hret _ _ _ _ _ _ (congrArg nI (by rw [rdK_at hB (by first | exact fun h => hp h.2.1 | exact fun h => absurd h.2.2 (by omega) | exact fun h => absurd h.1 (by omega))]; try rfl)) (by rw [rdK_at hB (by first | exact fun h => hp h.2.1 | exact fun h => absurd h.2.2 (by omega) | exact fun h => absurd h.1 (by omega))]) w dX6_read_111
                    · -- not taken at 30
                      exact absurd c30 (by decide)
                  · -- not taken at 97
                    exact absurd c97 (by decide)
                · -- not taken at 86
                  exact absurd (by decide) c86
              · -- case
                refine lv_aload_n hx hb dX6_read_57 rfl (lv_at hl 1 rfl) ?_
                refine lv_aload_n hx hb dX6_read_58 rfl (lv_at hl 1 rfl) ?_
                refine f_get G K w.1 inX6 0 (ci := 6) rfl rfl 2 rfl fl_X6_16 (v := .ref (a 3)) rfl dX6_read_59 ?_
                refine lv_iload hx hb dX6_read_62 (lv_at hl 0 rfl) ?_
                refine a_ld G K w.1 3 0 (a := (a 3)) rfl rfl (by omega) (by decide) dX6_read_64 ?_
                refine lv_aload_n hx hb dX6_read_65 rfl (lv_at hl 1 rfl) ?_
                refine f_get G K w.1 inX6 0 (ci := 6) rfl rfl 2 rfl fl_X6_16 (v := .ref (a 3)) rfl dX6_read_66 ?_
                refine lv_iload hx hb dX6_read_69 (lv_at hl 0 rfl) ?_
                refine lv_iconst (v := (nI 1)) hx hb dX6_read_71 (by decide) ?_
                refine t_add G dX6_read_72 ?_
                refine a_ld G K w.1 3 0 (a := (a 3)) rfl rfl (by omega) (by decide) dX6_read_73 ?_
                refine lv_aload_n hx hb dX6_read_74 rfl (lv_at hl 1 rfl) ?_
                refine f_get G K w.1 inX6 0 (ci := 6) rfl rfl 2 rfl fl_X6_16 (v := .ref (a 3)) rfl dX6_read_75 ?_
                refine lv_iload hx hb dX6_read_78 (lv_at hl 0 rfl) ?_
                refine lv_iconst (v := (nI 2)) hx hb dX6_read_80 (by decide) ?_
                refine t_add G dX6_read_81 ?_
                refine a_ld G K w.1 3 0 (a := (a 3)) rfl rfl (by omega) (by decide) dX6_read_82 ?_
                refine callMF (As := [.int (it (60 * x + 3 * k)), .int (it (60 * x + 3 * k + 1)), .int (it (60 * x + 3 * k + 2))]) (rest := []) (q0 := 0) (ci := 6) (ws' := (wM cI cZ a la (n + k) cl go fo si it mo (apN th n (fun k => tN (it (60 * x + 3 * k))) k) (apN ki n (fun k => tN (it (60 * x + 3 * k + 1))) k) (apN va n (fun k => tN (it (60 * x + 3 * k + 2))) k) (apN re n (fun _ => cl) k) (apN to n (fun _ => False) k) co ke fw)) G K hA w F_X6_put (c_X6_put_bad a la (n + k) cl go fo si it mo (apN th n (fun k => tN (it (60 * x + 3 * k))) k) (apN ki n (fun k => tN (it (60 * x + 3 * k + 1))) k) (apN va n (fun k => tN (it (60 * x + 3 * k + 2))) k) (apN re n (fun _ => cl) k) (apN to n (fun _ => False) k) co ke fw (it (60 * x + 3 * k)) (it (60 * x + 3 * k + 1)) (it (60 * x + 3 * k + 2)) hI hp) ml_X6_116 rfl rfl rfl (by decide) (by decide) rfl hl.1 (Nat.le_of_ble_eq_true rfl) dX6_read_83 (fun Hp6 lo7 w => ?_)
                refine lv_if_lt (tgt := 93) hx hb dX6_read_86 (by decide) (fun c86 => ?_) (fun c86 => ?_)
                · -- taken at 86
                  refine lv_iconst (v := (nI 0)) hx hb dX6_read_93 (by decide) ?_
                  refine lv_istore_n (lv' := [(3, .int (nI 0)), (4, .int (nI (60 * x + 3 * k))), (0, .ref (a 0)), (1, .int (nI x)), (2, .int (nI k))]) hx hb dX6_read_94 rfl hl (by decide) rfl (fun ls hl => ?_)
                  refine lv_iload_n hx hb dX6_read_95 rfl (lv_at hl 4 rfl) ?_
                  refine lv_iload_n hx hb dX6_read_96 rfl (lv_at hl 0 rfl) ?_
                  refine z_eq G (tgt := 104) (by omega) dX6_read_97 (by decide) (fun c97 => ?_) (fun c97 => ?_)
                  · -- taken at 97
                    refine lv_iconst (v := (nI 0)) hx hb dX6_read_104 (by decide) ?_
                    refine t_add G dX6_read_105 ?_
                    refine lv_istore_n (lv' := [(2, .int (nI (k + 0))), (3, .int (nI 0)), (4, .int (nI (60 * x + 3 * k))), (0, .ref (a 0)), (1, .int (nI x))]) hx hb dX6_read_106 rfl hl (by decide) rfl (fun ls hl => ?_)
                    refine lv_goto (tgt := 29) hx hb dX6_read_107 (by decide) ?_
                    refine lv_iload_n hx hb dX6_read_29 rfl (lv_at hl 1 rfl) ?_
                    refine z_eq G (tgt := 110) (by omega) dX6_read_30 (by decide) (fun c30 => ?_) (fun c30 => ?_)
                    · -- taken at 30
                      refine lv_iload_n hx hb dX6_read_110 rfl (lv_at hl 0 rfl) ?_
                      exact hret _ _ _ _ _ _ (congrArg nI (by rw [rdK_at hB (by first | exact fun h => hp h.2.1 | exact fun h => absurd h.2.2 (by omega) | exact fun h => absurd h.1 (by omega))]; try rfl)) (by rw [rdK_at hB (by first | exact fun h => hp h.2.1 | exact fun h => absurd h.2.2 (by omega) | exact fun h => absurd h.1 (by omega))]) w dX6_read_111
                    · -- not taken at 30
                      exact absurd c30 (by decide)
                  · -- not taken at 97
                    exact absurd c97 (by decide)
                · -- not taken at 86
                  exact absurd (by decide) c86
      exact L29 (21 - 0) (0) (Nat.le_refl _) (by omega) (by omega) (by omega) I rfl s.heap [] w ls (lv_sub hl [2, 3, 1, 0] rfl)
    · -- not taken at 16
      exact absurd (nneg_ge hf9) c16
  · -- not taken at 4
    exact absurd ((okN (m := 3) (by decide)).mpr ⟨x, hx9, rfl⟩) c4
set_option maxHeartbeats 4000000 in
set_option maxRecDepth 100000 in
theorem c_X6_tellsWrite (a : Nat → Nat) (la : Int32) (n : Nat) (cl : Nat) (go : Option Nat) (fo : Nat → Int32) (si : Nat → Nat) (it : Nat → Int32) (mo : Nat → Int32) (th : Nat → Nat) (ki : Nat → Nat) (va : Nat → Nat) (re : Nat → Nat) (to : Nat → Prop) (co : Nat → Nat) (ke : Nat → Int32) (fw : Nat → Nat) (h : Int64) (v : Nat) (I : IM n cl go th ki va re si co fw) (hv9 : v < n) : CP l D (TY cI cZ cS) yX6_tellsWrite cX6_tellsWrite 8 .long 9 [.ref (a 0), .long h, .int (nI v)] (wM cI cZ a la n cl go fo si it mo th ki va re to co ke fw) (.long (twV th ki va re go n cl to co ke h v)) := by
  refine CP.ofL (by decide +kernel) (Nat.le_of_ble_eq_true rfl) ?_
  intro p e s m args below meth c Q G K hP hret ls hl
  obtain ⟨hx, hb, hml, hown, hts⟩ := id G
  obtain ⟨hn, hcl, hgo, hth, hki, hva, hre, hsi, hco, hfw⟩ := id I
  have hl : lv_has ls 8 [(0, .ref (a 0)), (1, .long h), (3, .int (nI v))] := hl
  refine lv_lload_n hx hb dX6_tellsWrite_0 rfl (lv_at hl 1 rfl) ?_
  refine lv_lstore (lv' := [(4, .long h), (0, .ref (a 0)), (1, .long h), (3, .int (nI v))]) hx hb dX6_tellsWrite_1 hl (by decide) rfl (fun ls hl => ?_)
  refine lv_iconst (v := (nI 0)) hx hb dX6_tellsWrite_3 (by decide) ?_
  refine lv_istore (lv' := [(6, .int (nI 0)), (4, .long h), (0, .ref (a 0)), (1, .long h), (3, .int (nI v))]) hx hb dX6_tellsWrite_4 hl (by decide) rfl (fun ls hl => ?_)
  have L6 : ∀ (d j : Nat), 0 ≤ j → j + d = 5 → ∀ (ls : Array Slot), lv_has ls 8 [(0, .ref (a 0)), (1, .long h), (3, .int (nI v)), (4, .long (hf (fun j => nI (wrB th ki va re v j)) h j)), (6, .int (nI j))] → W p l e (RM 9) s m args below meth c s.heap [] 0 0 Q (F0 m 6 ls []) := by
    intro d
    induction d with
    | zero =>
      intro j hlo6 hhi6 ls hl
      refine lv_iload hx hb dX6_tellsWrite_6 (lv_at hl 4 rfl) ?_
      refine lv_iconst (v := (nI 5)) hx hb dX6_tellsWrite_8 (by decide) ?_
      refine c_ge G (tgt := 35) (by omega) (by omega) dX6_tellsWrite_9 (by decide) (fun c9 => ?_) (fun c9 => ?_)
      · -- taken at 9
        have hl := lv_re (l' := [(0, .ref (a 0)), (1, .long h), (3, .int (nI v)), (4, .long (hf (fun j => nI (wrB th ki va re v j)) h 5)), (6, .int (nI j))]) hl (by rw [show (hf (fun j => nI (wrB th ki va re v j)) h j) = (hf (fun j => nI (wrB th ki va re v j)) h 5) from (by rw [show j = 5 by omega])])
        refine lv_iconst (v := (nI 0)) hx hb dX6_tellsWrite_35 (by decide) ?_
        refine lv_istore (lv' := [(6, .int (nI 0)), (0, .ref (a 0)), (1, .long h), (3, .int (nI v)), (4, .long (hf (fun j => nI (wrB th ki va re v j)) h 5))]) hx hb dX6_tellsWrite_36 hl (by decide) rfl (fun ls hl => ?_)
        have L38 : ∀ (d j : Nat), 0 ≤ j → j + d = 4 → ∀ (ls : Array Slot), lv_has ls 8 [(0, .ref (a 0)), (1, .long h), (3, .int (nI v)), (4, .long (hf (fun j => cvV ki re n cl to co (nI v) (nI j)) (hf (fun j => nI (wrB th ki va re v j)) h 5) j)), (6, .int (nI j))] → W p l e (RM 9) s m args below meth c s.heap [] 0 0 Q (F0 m 38 ls []) := by
          intro d
          induction d with
          | zero =>
            intro j hlo38 hhi38 ls hl
            refine lv_iload hx hb dX6_tellsWrite_38 (lv_at hl 4 rfl) ?_
            refine lv_iconst (v := (nI 4)) hx hb dX6_tellsWrite_40 (by decide) ?_
            refine c_ge G (tgt := 67) (by omega) (by omega) dX6_tellsWrite_41 (by decide) (fun c41 => ?_) (fun c41 => ?_)
            · -- taken at 41
              have hl := lv_re (l' := [(0, .ref (a 0)), (1, .long h), (3, .int (nI v)), (4, .long (twA th ki va re n cl to co h v)), (6, .int (nI j))]) hl (by rw [show (hf (fun j => cvV ki re n cl to co (nI v) (nI j)) (hf (fun j => nI (wrB th ki va re v j)) h 5) j) = (twA th ki va re n cl to co h v) from (by rw [show j = 4 by omega]; rfl)])
              refine lv_ldc2 hx hb hown (hts _ kl_X6_251) dX6_tellsWrite_67 ?_
              refine t_l (y := (31 : Int32).toInt64) (by decide) ?_
              refine lv_lload hx hb dX6_tellsWrite_70 (lv_at hl 3 rfl) ?_
              refine lv_lmul hx hb dX6_tellsWrite_72 ?_
              refine lv_aload_n hx hb dX6_tellsWrite_73 rfl (lv_at hl 0 rfl) ?_
              refine lv_iload_n hx hb dX6_tellsWrite_74 rfl (lv_at hl 2 rfl) ?_
              refine callPV (As := [.int (nI v)]) (rest := [.long ((31 : Int32).toInt64 * (twA th ki va re n cl to co h v))]) (q0 := 0) (ci := 6) G K F_X6_covered (c_X6_covered a la n cl go fo si it mo th ki va re to co ke fw (nI v) I) hP ml_X6_256 rfl rfl rfl (by decide) (by decide) rfl hl.1 (Nat.le_of_ble_eq_true rfl) dX6_tellsWrite_75 ?_
              refine lv_i2l (v := (cdV ki re n cl to co (nI v)).toInt64) hx hb dX6_tellsWrite_78 rfl ?_
              refine lv_ladd hx hb dX6_tellsWrite_79 ?_
              refine lv_lstore (lv' := [(4, .long (((31 : Int32).toInt64 * (twA th ki va re n cl to co h v)) + (cdV ki re n cl to co (nI v)).toInt64)), (0, .ref (a 0)), (1, .long h), (3, .int (nI v)), (6, .int (nI j))]) hx hb dX6_tellsWrite_80 hl (by decide) rfl (fun ls hl => ?_)
              refine lv_ldc2 hx hb hown (hts _ kl_X6_251) dX6_tellsWrite_82 ?_
              refine t_l (y := (31 : Int32).toInt64) (by decide) ?_
              refine lv_lload hx hb dX6_tellsWrite_85 (lv_at hl 0 rfl) ?_
              refine lv_lmul hx hb dX6_tellsWrite_87 ?_
              refine lv_aload_n hx hb dX6_tellsWrite_88 rfl (lv_at hl 1 rfl) ?_
              refine lv_iload_n hx hb dX6_tellsWrite_89 rfl (lv_at hl 3 rfl) ?_
              refine lv_iconst (v := (nI 0)) hx hb dX6_tellsWrite_90 (by decide) ?_
              refine callPV (As := [.int (nI v), .int (nI 0)]) (rest := [.long ((31 : Int32).toInt64 * (((31 : Int32).toInt64 * (twA th ki va re n cl to co h v)) + (cdV ki re n cl to co (nI v)).toInt64))]) (q0 := 0) (ci := 6) G K F_X6_numberBy (c_X6_numberBy a la n cl go fo si it mo th ki va re to co ke fw (nI v) (nI 0) I) hP ml_X6_182 rfl rfl rfl (by decide) (by decide) rfl hl.1 (Nat.le_of_ble_eq_true rfl) dX6_tellsWrite_91 ?_
              refine lv_i2l (v := (nbV th ki va re n cl to co ke (nI v) (nI 0)).toInt64) hx hb dX6_tellsWrite_94 rfl ?_
              refine lv_ladd hx hb dX6_tellsWrite_95 ?_
              refine lv_lstore (lv' := [(4, .long (((31 : Int32).toInt64 * (((31 : Int32).toInt64 * (twA th ki va re n cl to co h v)) + (cdV ki re n cl to co (nI v)).toInt64)) + (nbV th ki va re n cl to co ke (nI v) (nI 0)).toInt64)), (0, .ref (a 0)), (1, .long h), (3, .int (nI v)), (6, .int (nI j))]) hx hb dX6_tellsWrite_96 hl (by decide) rfl (fun ls hl => ?_)
              refine lv_ldc2 hx hb hown (hts _ kl_X6_251) dX6_tellsWrite_98 ?_
              refine t_l (y := (31 : Int32).toInt64) (by decide) ?_
              refine lv_lload hx hb dX6_tellsWrite_101 (lv_at hl 0 rfl) ?_
              refine lv_lmul hx hb dX6_tellsWrite_103 ?_
              refine lv_aload_n hx hb dX6_tellsWrite_104 rfl (lv_at hl 1 rfl) ?_
              refine lv_iload_n hx hb dX6_tellsWrite_105 rfl (lv_at hl 3 rfl) ?_
              refine lv_iconst (v := (nI 1)) hx hb dX6_tellsWrite_106 (by decide) ?_
              refine callPV (As := [.int (nI v), .int (nI 1)]) (rest := [.long ((31 : Int32).toInt64 * (((31 : Int32).toInt64 * (((31 : Int32).toInt64 * (twA th ki va re n cl to co h v)) + (cdV ki re n cl to co (nI v)).toInt64)) + (nbV th ki va re n cl to co ke (nI v) (nI 0)).toInt64))]) (q0 := 0) (ci := 6) G K F_X6_numberBy (c_X6_numberBy a la n cl go fo si it mo th ki va re to co ke fw (nI v) (nI 1) I) hP ml_X6_182 rfl rfl rfl (by decide) (by decide) rfl hl.1 (Nat.le_of_ble_eq_true rfl) dX6_tellsWrite_107 ?_
              refine lv_i2l (v := (nbV th ki va re n cl to co ke (nI v) (nI 1)).toInt64) hx hb dX6_tellsWrite_110 rfl ?_
              refine lv_ladd hx hb dX6_tellsWrite_111 ?_
              refine lv_lstore (lv' := [(4, .long (((31 : Int32).toInt64 * (((31 : Int32).toInt64 * (((31 : Int32).toInt64 * (twA th ki va re n cl to co h v)) + (cdV ki re n cl to co (nI v)).toInt64)) + (nbV th ki va re n cl to co ke (nI v) (nI 0)).toInt64)) + (nbV th ki va re n cl to co ke (nI v) (nI 1)).toInt64)), (0, .ref (a 0)), (1, .long h), (3, .int (nI v)), (6, .int (nI j))]) hx hb dX6_tellsWrite_112 hl (by decide) rfl (fun ls hl => ?_)
              refine lv_ldc2 hx hb hown (hts _ kl_X6_251) dX6_tellsWrite_114 ?_
              refine t_l (y := (31 : Int32).toInt64) (by decide) ?_
              refine lv_lload hx hb dX6_tellsWrite_117 (lv_at hl 0 rfl) ?_
              refine lv_lmul hx hb dX6_tellsWrite_119 ?_
              refine lv_aload_n hx hb dX6_tellsWrite_120 rfl (lv_at hl 1 rfl) ?_
              refine lv_iload_n hx hb dX6_tellsWrite_121 rfl (lv_at hl 3 rfl) ?_
              refine callPV (As := [.int (nI v)]) (rest := [.long ((31 : Int32).toInt64 * (((31 : Int32).toInt64 * (((31 : Int32).toInt64 * (((31 : Int32).toInt64 * (twA th ki va re n cl to co h v)) + (cdV ki re n cl to co (nI v)).toInt64)) + (nbV th ki va re n cl to co ke (nI v) (nI 0)).toInt64)) + (nbV th ki va re n cl to co ke (nI v) (nI 1)).toInt64))]) (q0 := 0) (ci := 6) G K F_X6_flaws (c_X6_flaws a la n cl go fo si it mo th ki va re to co ke fw (nI v) I) hP ml_X6_259 rfl rfl rfl (by decide) (by decide) rfl hl.1 (Nat.le_of_ble_eq_true rfl) dX6_tellsWrite_122 ?_
              refine lv_i2l (v := (fwV th ki va re n cl to co ke (nI v)).toInt64) hx hb dX6_tellsWrite_125 rfl ?_
              refine lv_ladd hx hb dX6_tellsWrite_126 ?_
              refine t_l (y := (twB th ki va re n cl to co ke h v)) rfl ?_
              refine lv_lstore (lv' := [(4, .long (twB th ki va re n cl to co ke h v)), (0, .ref (a 0)), (1, .long h), (3, .int (nI v)), (6, .int (nI j))]) hx hb dX6_tellsWrite_127 hl (by decide) rfl (fun ls hl => ?_)
              refine lv_iconst (v := (nI 0)) hx hb dX6_tellsWrite_129 (by decide) ?_
              refine lv_istore (lv' := [(6, .int (nI 0)), (4, .long (twB th ki va re n cl to co ke h v)), (0, .ref (a 0)), (1, .long h), (3, .int (nI v))]) hx hb dX6_tellsWrite_130 hl (by decide) rfl (fun ls hl => ?_)
              have L132 : ∀ (d j : Nat), 0 ≤ j → j + d = 4 → ∀ (ls : Array Slot), lv_has ls 8 [(0, .ref (a 0)), (1, .long h), (3, .int (nI v)), (4, .long (hf (fun j => jdV th ki va re go n cl to co ke (nI v) (nI j)) (twB th ki va re n cl to co ke h v) j)), (6, .int (nI j))] → W p l e (RM 9) s m args below meth c s.heap [] 0 0 Q (F0 m 132 ls []) := by
                intro d
                induction d with
                | zero =>
                  intro j hlo132 hhi132 ls hl
                  refine lv_iload hx hb dX6_tellsWrite_132 (lv_at hl 4 rfl) ?_
                  refine lv_iconst (v := (nI 4)) hx hb dX6_tellsWrite_134 (by decide) ?_
                  refine c_ge G (tgt := 161) (by omega) (by omega) dX6_tellsWrite_135 (by decide) (fun c135 => ?_) (fun c135 => ?_)
                  · -- taken at 135
                    have hl := lv_re (l' := [(0, .ref (a 0)), (1, .long h), (3, .int (nI v)), (4, .long (hg (fun i y => hf (fun j => cgV th ki va re go n cl (nI v) (nI i) (nI j)) y 3) (twC th ki va re go n cl to co ke h v) 0)), (6, .int (nI j))]) hl (by rw [show (hf (fun j => jdV th ki va re go n cl to co ke (nI v) (nI j)) (twB th ki va re n cl to co ke h v) j) = (hg (fun i y => hf (fun j => cgV th ki va re go n cl (nI v) (nI i) (nI j)) y 3) (twC th ki va re go n cl to co ke h v) 0) from (by rw [show j = 4 by omega]; rfl)])
                    refine lv_iconst (v := (nI 0)) hx hb dX6_tellsWrite_161 (by decide) ?_
                    refine lv_istore (lv' := [(6, .int (nI 0)), (0, .ref (a 0)), (1, .long h), (3, .int (nI v)), (4, .long (hg (fun i y => hf (fun j => cgV th ki va re go n cl (nI v) (nI i) (nI j)) y 3) (twC th ki va re go n cl to co ke h v) 0))]) hx hb dX6_tellsWrite_162 hl (by decide) rfl (fun ls hl => ?_)
                    have L164 : ∀ (d i : Nat), 0 ≤ i → i + d = 5 → ∀ (ls : Array Slot), lv_has ls 8 [(0, .ref (a 0)), (1, .long h), (3, .int (nI v)), (4, .long (hg (fun i y => hf (fun j => cgV th ki va re go n cl (nI v) (nI i) (nI j)) y 3) (twC th ki va re go n cl to co ke h v) i)), (6, .int (nI i))] → W p l e (RM 9) s m args below meth c s.heap [] 0 0 Q (F0 m 164 ls []) := by
                      intro d
                      induction d with
                      | zero =>
                        intro i hlo164 hhi164 ls hl
                        refine lv_iload hx hb dX6_tellsWrite_164 (lv_at hl 4 rfl) ?_
                        refine lv_iconst (v := (nI 5)) hx hb dX6_tellsWrite_166 (by decide) ?_
                        refine c_ge G (tgt := 210) (by omega) (by omega) dX6_tellsWrite_167 (by decide) (fun c167 => ?_) (fun c167 => ?_)
                        · -- taken at 167
                          refine lv_lload hx hb dX6_tellsWrite_210 (lv_at hl 3 rfl) ?_
                          exact hret _ _ _ (by rw [show i = 5 by omega]; rfl) dX6_tellsWrite_212
                        · -- not taken at 167
                          exact absurd c167 (by omega)
                      | succ d ih =>
                        intro i hlo164 hhi164 ls hl
                        refine lv_iload hx hb dX6_tellsWrite_164 (lv_at hl 4 rfl) ?_
                        refine lv_iconst (v := (nI 5)) hx hb dX6_tellsWrite_166 (by decide) ?_
                        refine c_ge G (tgt := 210) (by omega) (by omega) dX6_tellsWrite_167 (by decide) (fun c167 => ?_) (fun c167 => ?_)
                        · -- taken at 167
                          exact absurd c167 (by omega)
                        · -- not taken at 167
                          refine lv_iconst (v := (nI 0)) hx hb dX6_tellsWrite_170 (by decide) ?_
                          refine lv_istore (lv' := [(7, .int (nI 0)), (0, .ref (a 0)), (1, .long h), (3, .int (nI v)), (4, .long (hg (fun i y => hf (fun j => cgV th ki va re go n cl (nI v) (nI i) (nI j)) y 3) (twC th ki va re go n cl to co ke h v) i)), (6, .int (nI i))]) hx hb dX6_tellsWrite_171 hl (by decide) rfl (fun ls hl => ?_)
                          have L173 : ∀ (d j : Nat), 0 ≤ j → j + d = 3 → ∀ (ls : Array Slot), lv_has ls 8 [(0, .ref (a 0)), (1, .long h), (3, .int (nI v)), (4, .long (hf (fun j => cgV th ki va re go n cl (nI v) (nI i) (nI j)) (hg (fun i y => hf (fun j => cgV th ki va re go n cl (nI v) (nI i) (nI j)) y 3) (twC th ki va re go n cl to co ke h v) i) j)), (6, .int (nI i)), (7, .int (nI j))] → W p l e (RM 9) s m args below meth c s.heap [] 0 0 Q (F0 m 173 ls []) := by
                            intro d
                            induction d with
                            | zero =>
                              intro j hlo173 hhi173 ls hl
                              refine lv_iload hx hb dX6_tellsWrite_173 (lv_at hl 5 rfl) ?_
                              refine lv_iconst (v := (nI 3)) hx hb dX6_tellsWrite_175 (by decide) ?_
                              refine c_ge G (tgt := 204) (by omega) (by omega) dX6_tellsWrite_176 (by decide) (fun c176 => ?_) (fun c176 => ?_)
                              · -- taken at 176
                                have hl := lv_re (l' := [(0, .ref (a 0)), (1, .long h), (3, .int (nI v)), (4, .long (hg (fun i y => hf (fun j => cgV th ki va re go n cl (nI v) (nI i) (nI j)) y 3) (twC th ki va re go n cl to co ke h v) (i + 1))), (6, .int (nI i)), (7, .int (nI j))]) hl (by rw [show (hf (fun j => cgV th ki va re go n cl (nI v) (nI i) (nI j)) (hg (fun i y => hf (fun j => cgV th ki va re go n cl (nI v) (nI i) (nI j)) y 3) (twC th ki va re go n cl to co ke h v) i) j) = (hg (fun i y => hf (fun j => cgV th ki va re go n cl (nI v) (nI i) (nI j)) y 3) (twC th ki va re go n cl to co ke h v) (i + 1)) from (by rw [show j = 3 by omega]; rfl)])
                                refine lv_iinc (v := (nI (i + 1))) (lv' := [(6, .int (nI (i + 1))), (0, .ref (a 0)), (1, .long h), (3, .int (nI v)), (4, .long (hg (fun i y => hf (fun j => cgV th ki va re go n cl (nI v) (nI i) (nI j)) y 3) (twC th ki va re go n cl to co ke h v) (i + 1))), (7, .int (nI j))]) hx hb dX6_tellsWrite_204 hl (k := 4) rfl (nI_inc _ 1) (by decide) rfl (fun ls hl => ?_)
                                refine lv_goto (tgt := 164) hx hb dX6_tellsWrite_207 (by decide) ?_
                                -- slot 4: have l:hg (fun i y => hf (fun j => cgV th ki va re go n cl (nI v) (nI i) (nI j)) y 3) (twC th ki va re go n cl to co ke h v) (i + 1), want l:hg (fun (i + 1) y => hf (fun j => cgV th ki va re go n cl (nI v) (nI (i + 1)) (nI j)) y 3) (twC th ki va re go n cl to co ke h v) (i + 1)
                                -- slot 6: have n:i + 1, want n:(i + 1)
                                exact ih (i + 1) (by omega) (by omega) ls (lv_sub hl [1, 2, 3, 4, 0] rfl)
                              · -- not taken at 176
                                exact absurd c176 (by omega)
                            | succ d ih =>
                              intro j hlo173 hhi173 ls hl
                              refine lv_iload hx hb dX6_tellsWrite_173 (lv_at hl 5 rfl) ?_
                              refine lv_iconst (v := (nI 3)) hx hb dX6_tellsWrite_175 (by decide) ?_
                              refine c_ge G (tgt := 204) (by omega) (by omega) dX6_tellsWrite_176 (by decide) (fun c176 => ?_) (fun c176 => ?_)
                              · -- taken at 176
                                exact absurd c176 (by omega)
                              · -- not taken at 176
                                refine lv_ldc2 hx hb hown (hts _ kl_X6_251) dX6_tellsWrite_179 ?_
                                refine t_l (y := (31 : Int32).toInt64) (by decide) ?_
                                refine lv_lload hx hb dX6_tellsWrite_182 (lv_at hl 3 rfl) ?_
                                refine lv_lmul hx hb dX6_tellsWrite_184 ?_
                                refine lv_aload_n hx hb dX6_tellsWrite_185 rfl (lv_at hl 0 rfl) ?_
                                refine lv_iload_n hx hb dX6_tellsWrite_186 rfl (lv_at hl 2 rfl) ?_
                                refine lv_iload hx hb dX6_tellsWrite_187 (lv_at hl 4 rfl) ?_
                                refine lv_iload hx hb dX6_tellsWrite_189 (lv_at hl 5 rfl) ?_
                                refine callPV (As := [.int (nI v), .int (nI i), .int (nI j)]) (rest := [.long ((31 : Int32).toInt64 * (hf (fun j => cgV th ki va re go n cl (nI v) (nI i) (nI j)) (hg (fun i y => hf (fun j => cgV th ki va re go n cl (nI v) (nI i) (nI j)) y 3) (twC th ki va re go n cl to co ke h v) i) j))]) (q0 := 0) (ci := 6) G K F_X6_change (c_X6_change a la n cl go fo si it mo th ki va re to co ke fw (nI v) (nI i) (nI j) I) hP ml_X6_265 rfl rfl rfl (by decide) (by decide) rfl hl.1 (Nat.le_of_ble_eq_true rfl) dX6_tellsWrite_191 ?_
                                refine lv_i2l (v := (cgV th ki va re go n cl (nI v) (nI i) (nI j)).toInt64) hx hb dX6_tellsWrite_194 rfl ?_
                                refine lv_ladd hx hb dX6_tellsWrite_195 ?_
                                refine t_l (y := (hf (fun j => cgV th ki va re go n cl (nI v) (nI i) (nI j)) (hg (fun i y => hf (fun j => cgV th ki va re go n cl (nI v) (nI i) (nI j)) y 3) (twC th ki va re go n cl to co ke h v) i) (j + 1))) rfl ?_
                                refine lv_lstore (lv' := [(4, .long (hf (fun j => cgV th ki va re go n cl (nI v) (nI i) (nI j)) (hg (fun i y => hf (fun j => cgV th ki va re go n cl (nI v) (nI i) (nI j)) y 3) (twC th ki va re go n cl to co ke h v) i) (j + 1))), (0, .ref (a 0)), (1, .long h), (3, .int (nI v)), (6, .int (nI i)), (7, .int (nI j))]) hx hb dX6_tellsWrite_196 hl (by decide) rfl (fun ls hl => ?_)
                                refine lv_iinc (v := (nI (j + 1))) (lv' := [(7, .int (nI (j + 1))), (4, .long (hf (fun j => cgV th ki va re go n cl (nI v) (nI i) (nI j)) (hg (fun i y => hf (fun j => cgV th ki va re go n cl (nI v) (nI i) (nI j)) y 3) (twC th ki va re go n cl to co ke h v) i) (j + 1))), (0, .ref (a 0)), (1, .long h), (3, .int (nI v)), (6, .int (nI i))]) hx hb dX6_tellsWrite_198 hl (k := 5) rfl (nI_inc _ 1) (by decide) rfl (fun ls hl => ?_)
                                refine lv_goto (tgt := 173) hx hb dX6_tellsWrite_201 (by decide) ?_
                                -- slot 4: have l:hf (fun j => cgV th ki va re go n cl (nI v) (nI i) (nI j)) (hg (fun i y => hf (fun j => cgV th ki va re go n cl (nI v) (nI i) (nI j)) y 3) (twC th ki va re go n cl to co ke h v) i) (j + 1), want l:hf (fun (j + 1) => cgV th ki va re go n cl (nI v) (nI i) (nI (j + 1))) (hg (fun i y => hf (fun (j + 1) => cgV th ki va re go n cl (nI v) (nI i) (nI (j + 1))) y 3) (twC th ki va re go n cl to co ke h v) i) (j + 1)
                                -- slot 7: have n:j + 1, want n:(j + 1)
                                exact ih (j + 1) (by omega) (by omega) ls (lv_sub hl [2, 3, 4, 1, 5, 0] rfl)
                          exact L173 (3 - 0) (0) (Nat.le_refl _) (by omega) ls (lv_sub hl [1, 2, 3, 4, 5, 0] rfl)
                    exact L164 (5 - 0) (0) (Nat.le_refl _) (by omega) ls (lv_sub hl [1, 2, 3, 4, 0] rfl)
                  · -- not taken at 135
                    exact absurd c135 (by omega)
                | succ d ih =>
                  intro j hlo132 hhi132 ls hl
                  refine lv_iload hx hb dX6_tellsWrite_132 (lv_at hl 4 rfl) ?_
                  refine lv_iconst (v := (nI 4)) hx hb dX6_tellsWrite_134 (by decide) ?_
                  refine c_ge G (tgt := 161) (by omega) (by omega) dX6_tellsWrite_135 (by decide) (fun c135 => ?_) (fun c135 => ?_)
                  · -- taken at 135
                    exact absurd c135 (by omega)
                  · -- not taken at 135
                    refine lv_ldc2 hx hb hown (hts _ kl_X6_251) dX6_tellsWrite_138 ?_
                    refine t_l (y := (31 : Int32).toInt64) (by decide) ?_
                    refine lv_lload hx hb dX6_tellsWrite_141 (lv_at hl 3 rfl) ?_
                    refine lv_lmul hx hb dX6_tellsWrite_143 ?_
                    refine lv_aload_n hx hb dX6_tellsWrite_144 rfl (lv_at hl 0 rfl) ?_
                    refine lv_iload_n hx hb dX6_tellsWrite_145 rfl (lv_at hl 2 rfl) ?_
                    refine lv_iload hx hb dX6_tellsWrite_146 (lv_at hl 4 rfl) ?_
                    refine callPV (As := [.int (nI v), .int (nI j)]) (rest := [.long ((31 : Int32).toInt64 * (hf (fun j => jdV th ki va re go n cl to co ke (nI v) (nI j)) (twB th ki va re n cl to co ke h v) j))]) (q0 := 0) (ci := 6) G K F_X6_judge (c_X6_judge a la n cl go fo si it mo th ki va re to co ke fw (nI v) (nI j) I) hP ml_X6_262 rfl rfl rfl (by decide) (by decide) rfl hl.1 (Nat.le_of_ble_eq_true rfl) dX6_tellsWrite_148 ?_
                    refine lv_i2l (v := (jdV th ki va re go n cl to co ke (nI v) (nI j)).toInt64) hx hb dX6_tellsWrite_151 rfl ?_
                    refine lv_ladd hx hb dX6_tellsWrite_152 ?_
                    refine t_l (y := (hf (fun j => jdV th ki va re go n cl to co ke (nI v) (nI j)) (twB th ki va re n cl to co ke h v) (j + 1))) rfl ?_
                    refine lv_lstore (lv' := [(4, .long (hf (fun j => jdV th ki va re go n cl to co ke (nI v) (nI j)) (twB th ki va re n cl to co ke h v) (j + 1))), (0, .ref (a 0)), (1, .long h), (3, .int (nI v)), (6, .int (nI j))]) hx hb dX6_tellsWrite_153 hl (by decide) rfl (fun ls hl => ?_)
                    refine lv_iinc (v := (nI (j + 1))) (lv' := [(6, .int (nI (j + 1))), (4, .long (hf (fun j => jdV th ki va re go n cl to co ke (nI v) (nI j)) (twB th ki va re n cl to co ke h v) (j + 1))), (0, .ref (a 0)), (1, .long h), (3, .int (nI v))]) hx hb dX6_tellsWrite_155 hl (k := 4) rfl (nI_inc _ 1) (by decide) rfl (fun ls hl => ?_)
                    refine lv_goto (tgt := 132) hx hb dX6_tellsWrite_158 (by decide) ?_
                    -- slot 4: have l:hf (fun j => jdV th ki va re go n cl to co ke (nI v) (nI j)) (twB th ki va re n cl to co ke h v) (j + 1), want l:hf (fun (j + 1) => jdV th ki va re go n cl to co ke (nI v) (nI (j + 1))) (twB th ki va re n cl to co ke h v) (j + 1)
                    -- slot 6: have n:j + 1, want n:(j + 1)
                    exact ih (j + 1) (by omega) (by omega) ls (lv_sub hl [2, 3, 4, 1, 0] rfl)
              exact L132 (4 - 0) (0) (Nat.le_refl _) (by omega) ls (lv_sub hl [2, 3, 4, 1, 0] rfl)
            · -- not taken at 41
              exact absurd c41 (by omega)
          | succ d ih =>
            intro j hlo38 hhi38 ls hl
            refine lv_iload hx hb dX6_tellsWrite_38 (lv_at hl 4 rfl) ?_
            refine lv_iconst (v := (nI 4)) hx hb dX6_tellsWrite_40 (by decide) ?_
            refine c_ge G (tgt := 67) (by omega) (by omega) dX6_tellsWrite_41 (by decide) (fun c41 => ?_) (fun c41 => ?_)
            · -- taken at 41
              exact absurd c41 (by omega)
            · -- not taken at 41
              refine lv_ldc2 hx hb hown (hts _ kl_X6_251) dX6_tellsWrite_44 ?_
              refine t_l (y := (31 : Int32).toInt64) (by decide) ?_
              refine lv_lload hx hb dX6_tellsWrite_47 (lv_at hl 3 rfl) ?_
              refine lv_lmul hx hb dX6_tellsWrite_49 ?_
              refine lv_aload_n hx hb dX6_tellsWrite_50 rfl (lv_at hl 0 rfl) ?_
              refine lv_iload_n hx hb dX6_tellsWrite_51 rfl (lv_at hl 2 rfl) ?_
              refine lv_iload hx hb dX6_tellsWrite_52 (lv_at hl 4 rfl) ?_
              refine callPV (As := [.int (nI v), .int (nI j)]) (rest := [.long ((31 : Int32).toInt64 * (hf (fun j => cvV ki re n cl to co (nI v) (nI j)) (hf (fun j => nI (wrB th ki va re v j)) h 5) j))]) (q0 := 0) (ci := 6) G K F_X6_covers (c_X6_covers a la n cl go fo si it mo th ki va re to co ke fw (nI v) (nI j) I) hP ml_X6_253 rfl rfl rfl (by decide) (by decide) rfl hl.1 (Nat.le_of_ble_eq_true rfl) dX6_tellsWrite_54 ?_
              refine lv_i2l (v := (cvV ki re n cl to co (nI v) (nI j)).toInt64) hx hb dX6_tellsWrite_57 rfl ?_
              refine lv_ladd hx hb dX6_tellsWrite_58 ?_
              refine t_l (y := (hf (fun j => cvV ki re n cl to co (nI v) (nI j)) (hf (fun j => nI (wrB th ki va re v j)) h 5) (j + 1))) rfl ?_
              refine lv_lstore (lv' := [(4, .long (hf (fun j => cvV ki re n cl to co (nI v) (nI j)) (hf (fun j => nI (wrB th ki va re v j)) h 5) (j + 1))), (0, .ref (a 0)), (1, .long h), (3, .int (nI v)), (6, .int (nI j))]) hx hb dX6_tellsWrite_59 hl (by decide) rfl (fun ls hl => ?_)
              refine lv_iinc (v := (nI (j + 1))) (lv' := [(6, .int (nI (j + 1))), (4, .long (hf (fun j => cvV ki re n cl to co (nI v) (nI j)) (hf (fun j => nI (wrB th ki va re v j)) h 5) (j + 1))), (0, .ref (a 0)), (1, .long h), (3, .int (nI v))]) hx hb dX6_tellsWrite_61 hl (k := 4) rfl (nI_inc _ 1) (by decide) rfl (fun ls hl => ?_)
              refine lv_goto (tgt := 38) hx hb dX6_tellsWrite_64 (by decide) ?_
              -- slot 4: have l:hf (fun j => cvV ki re n cl to co (nI v) (nI j)) (hf (fun j => nI (wrB th ki va re v j)) h 5) (j + 1), want l:hf (fun (j + 1) => cvV ki re n cl to co (nI v) (nI (j + 1))) (hf (fun (j + 1) => nI (wrB th ki va re v (j + 1))) h 5) (j + 1)
              -- slot 6: have n:j + 1, want n:(j + 1)
              exact ih (j + 1) (by omega) (by omega) ls (lv_sub hl [2, 3, 4, 1, 0] rfl)
        exact L38 (4 - 0) (0) (Nat.le_refl _) (by omega) ls (lv_sub hl [1, 2, 3, 4, 0] rfl)
      · -- not taken at 9
        exact absurd c9 (by omega)
    | succ d ih =>
      intro j hlo6 hhi6 ls hl
      refine lv_iload hx hb dX6_tellsWrite_6 (lv_at hl 4 rfl) ?_
      refine lv_iconst (v := (nI 5)) hx hb dX6_tellsWrite_8 (by decide) ?_
      refine c_ge G (tgt := 35) (by omega) (by omega) dX6_tellsWrite_9 (by decide) (fun c9 => ?_) (fun c9 => ?_)
      · -- taken at 9
        exact absurd c9 (by omega)
      · -- not taken at 9
        refine lv_ldc2 hx hb hown (hts _ kl_X6_251) dX6_tellsWrite_12 ?_
        refine t_l (y := (31 : Int32).toInt64) (by decide) ?_
        refine lv_lload hx hb dX6_tellsWrite_15 (lv_at hl 3 rfl) ?_
        refine lv_lmul hx hb dX6_tellsWrite_17 ?_
        refine lv_aload_n hx hb dX6_tellsWrite_18 rfl (lv_at hl 0 rfl) ?_
        refine lv_iload_n hx hb dX6_tellsWrite_19 rfl (lv_at hl 2 rfl) ?_
        refine lv_iload hx hb dX6_tellsWrite_20 (lv_at hl 4 rfl) ?_
        refine callPV (As := [.int (nI v), .int (nI j)]) (rest := [.long ((31 : Int32).toInt64 * (hf (fun j => nI (wrB th ki va re v j)) h j))]) (q0 := 0) (ci := 6) G K F_X6_writeBy (c_X6_writeBy a la n cl go fo si it mo th ki va re to co ke fw v j I (by omega) (by omega)) hP ml_X6_140 rfl rfl rfl (by decide) (by decide) rfl hl.1 (Nat.le_of_ble_eq_true rfl) dX6_tellsWrite_22 ?_
        refine lv_i2l (v := (nI (wrB th ki va re v j)).toInt64) hx hb dX6_tellsWrite_25 rfl ?_
        refine lv_ladd hx hb dX6_tellsWrite_26 ?_
        refine t_l (y := (hf (fun j => nI (wrB th ki va re v j)) h (j + 1))) rfl ?_
        refine lv_lstore (lv' := [(4, .long (hf (fun j => nI (wrB th ki va re v j)) h (j + 1))), (0, .ref (a 0)), (1, .long h), (3, .int (nI v)), (6, .int (nI j))]) hx hb dX6_tellsWrite_27 hl (by decide) rfl (fun ls hl => ?_)
        refine lv_iinc (v := (nI (j + 1))) (lv' := [(6, .int (nI (j + 1))), (4, .long (hf (fun j => nI (wrB th ki va re v j)) h (j + 1))), (0, .ref (a 0)), (1, .long h), (3, .int (nI v))]) hx hb dX6_tellsWrite_29 hl (k := 4) rfl (nI_inc _ 1) (by decide) rfl (fun ls hl => ?_)
        refine lv_goto (tgt := 6) hx hb dX6_tellsWrite_32 (by decide) ?_
        -- slot 4: have l:hf (fun j => nI (wrB th ki va re v j)) h (j + 1), want l:hf (fun (j + 1) => nI (wrB th ki va re v (j + 1))) h (j + 1)
        -- slot 6: have n:j + 1, want n:(j + 1)
        exact ih (j + 1) (by omega) (by omega) ls (lv_sub hl [2, 3, 4, 1, 0] rfl)
  exact L6 (5 - 0) (0) (Nat.le_refl _) (by omega) ls (lv_sub hl [2, 3, 4, 1, 0] rfl)
set_option maxHeartbeats 4000000 in
set_option maxRecDepth 100000 in
theorem c_X6_digest (a : Nat → Nat) (la : Int32) (n : Nat) (cl : Nat) (go : Option Nat) (fo : Nat → Int32) (si : Nat → Nat) (it : Nat → Int32) (mo : Nat → Int32) (th : Nat → Nat) (ki : Nat → Nat) (va : Nat → Nat) (re : Nat → Nat) (to : Nat → Prop) (co : Nat → Nat) (ke : Nat → Int32) (fw : Nat → Nat) (I : IM n cl go th ki va re si co fw) (hg9 : go = none) : CM l D (TY cI cZ cS) yX6_digest cX6_digest 5 (some .long) 10 [.ref (a 0)] (wM cI cZ a la n cl go fo si it mo th ki va re to co ke fw) (some (.long (dgV th ki va re go n cl to co ke la))) (wM cI cZ a la n cl go fo si it mo th ki va re to co ke (dgW th ki va re n cl to co ke fw)) := by
  refine CM.ofL (by decide +kernel) (Nat.le_of_ble_eq_true rfl) ?_
  intro p e s m args below meth c Q A G K hA w hret ls hl
  obtain ⟨hx, hb, hml, hown, hts⟩ := id G
  obtain ⟨hn, hcl, hgo, hth, hki, hva, hre, hsi, hco, hfw⟩ := id I
  have hl : lv_has ls 5 [(0, .ref (a 0))] := hl
  refine lv_ldc2 hx hb hown (hts _ kl_X6_268) dX6_digest_0 ?_
  refine t_l (y := (17 : Int32).toInt64) (by decide) ?_
  refine t_l (y := (hf (cnN th ki va re go n cl to co ke la) (17 : Int32).toInt64 0)) rfl ?_
  refine lv_lstore_n (lv' := [(1, .long (hf (cnN th ki va re go n cl to co ke la) (17 : Int32).toInt64 0)), (0, .ref (a 0))]) hx hb dX6_digest_3 rfl hl (by decide) rfl (fun ls hl => ?_)
  refine lv_iconst (v := (nI 0)) hx hb dX6_digest_4 (by decide) ?_
  refine lv_istore_n (lv' := [(3, .int (nI 0)), (1, .long (hf (cnN th ki va re go n cl to co ke la) (17 : Int32).toInt64 0)), (0, .ref (a 0))]) hx hb dX6_digest_5 rfl hl (by decide) rfl (fun ls hl => ?_)
  have L6 : ∀ (d k : Nat), 0 ≤ k → k + d = 8 → ∀ (H : Heap) (locs : List Loc), WW D A s.heap (wM cI cZ a la n cl go fo si it mo th ki va re to co ke (dgF th ki va re n cl to co ke fw k)) H locs → ∀ (ls : Array Slot), lv_has ls 5 [(0, .ref (a 0)), (1, .long (hf (cnN th ki va re go n cl to co ke la) (17 : Int32).toInt64 k)), (3, .int (nI k))] → W p l e (RM 10) s m args below meth c H locs 0 0 Q (F0 m 6 ls []) := by
    intro d
    induction d with
    | zero =>
      intro k hlo6 hhi6 H locs w ls hl
      refine lv_iload_n hx hb dX6_digest_6 rfl (lv_at hl 2 rfl) ?_
      refine lv_bipush (v := (nI 8)) hx hb dX6_digest_7 (by decide) ?_
      refine c_ge G (tgt := 31) (by omega) (by omega) dX6_digest_9 (by decide) (fun c9 => ?_) (fun c9 => ?_)
      · -- taken at 9
        have hl := lv_re (l' := [(0, .ref (a 0)), (1, .long (hg (fun r y => hs (hs (hf (fun j => rvV re n cl (nI r) (nI j)) y 4) (shV th ki va re go n cl (nI r))) (alV ki va re n cl (nI r))) (dg1 th ki va re go n cl to co ke la) 0)), (3, .int (nI k))]) hl (by rw [show (hf (cnN th ki va re go n cl to co ke la) (17 : Int32).toInt64 k) = (hg (fun r y => hs (hs (hf (fun j => rvV re n cl (nI r) (nI j)) y 4) (shV th ki va re go n cl (nI r))) (alV ki va re n cl (nI r))) (dg1 th ki va re go n cl to co ke la) 0) from (by rw [show k = 8 by omega]; rfl)])
        have w : WW D A s.heap (wM cI cZ a la n cl go fo si it mo th ki va re to co ke (dgF th ki va re n cl to co ke fw 8)) H locs := by
          rw [← show k = 8 by omega]; exact w
        refine lv_iconst (v := (nI 0)) hx hb dX6_digest_31 (by decide) ?_
        refine lv_istore_n (lv' := [(3, .int (nI 0)), (0, .ref (a 0)), (1, .long (hg (fun r y => hs (hs (hf (fun j => rvV re n cl (nI r) (nI j)) y 4) (shV th ki va re go n cl (nI r))) (alV ki va re n cl (nI r))) (dg1 th ki va re go n cl to co ke la) 0))]) hx hb dX6_digest_32 rfl hl (by decide) rfl (fun ls hl => ?_)
        have L33 : ∀ (d r : Nat), 0 ≤ r → r + d = 8 → ∀ (H : Heap) (locs : List Loc), WW D A s.heap (wM cI cZ a la n cl go fo si it mo th ki va re to co ke (dgF th ki va re n cl to co ke fw 8)) H locs → ∀ (ls : Array Slot), lv_has ls 5 [(0, .ref (a 0)), (1, .long (hg (fun r y => hs (hs (hf (fun j => rvV re n cl (nI r) (nI j)) y 4) (shV th ki va re go n cl (nI r))) (alV ki va re n cl (nI r))) (dg1 th ki va re go n cl to co ke la) r)), (3, .int (nI r))] → W p l e (RM 10) s m args below meth c H locs 0 0 Q (F0 m 33 ls []) := by
          intro d
          induction d with
          | zero =>
            intro r hlo33 hhi33 H locs w ls hl
            refine lv_iload_n hx hb dX6_digest_33 rfl (lv_at hl 2 rfl) ?_
            refine lv_bipush (v := (nI 8)) hx hb dX6_digest_34 (by decide) ?_
            refine c_ge G (tgt := 101) (by omega) (by omega) dX6_digest_36 (by decide) (fun c36 => ?_) (fun c36 => ?_)
            · -- taken at 36
              have hl := lv_re (l' := [(0, .ref (a 0)), (1, .long (hg (fun t y => hf (fun j => oI (tgB th ki va re go n t cl j)) (hs (hs y (tgV th ki va re go n cl (nI t) (nI 0) (nI 0))) (tgV th ki va re go n cl (nI t) (nI 2) (nI 1))) 3) (dg2 th ki va re go n cl (dg1 th ki va re go n cl to co ke la)) 0)), (3, .int (nI r))]) hl (by rw [show (hg (fun r y => hs (hs (hf (fun j => rvV re n cl (nI r) (nI j)) y 4) (shV th ki va re go n cl (nI r))) (alV ki va re n cl (nI r))) (dg1 th ki va re go n cl to co ke la) r) = (hg (fun t y => hf (fun j => oI (tgB th ki va re go n t cl j)) (hs (hs y (tgV th ki va re go n cl (nI t) (nI 0) (nI 0))) (tgV th ki va re go n cl (nI t) (nI 2) (nI 1))) 3) (dg2 th ki va re go n cl (dg1 th ki va re go n cl to co ke la)) 0) from (by rw [show r = 8 by omega]; rfl)])
              refine lv_iconst (v := (nI 0)) hx hb dX6_digest_101 (by decide) ?_
              refine lv_istore_n (lv' := [(3, .int (nI 0)), (0, .ref (a 0)), (1, .long (hg (fun t y => hf (fun j => oI (tgB th ki va re go n t cl j)) (hs (hs y (tgV th ki va re go n cl (nI t) (nI 0) (nI 0))) (tgV th ki va re go n cl (nI t) (nI 2) (nI 1))) 3) (dg2 th ki va re go n cl (dg1 th ki va re go n cl to co ke la)) 0))]) hx hb dX6_digest_102 rfl hl (by decide) rfl (fun ls hl => ?_)
              have L103 : ∀ (d t : Nat), 0 ≤ t → t + d = 16 → ∀ (H : Heap) (locs : List Loc), WW D A s.heap (wM cI cZ a la n cl go fo si it mo th ki va re to co ke (dgF th ki va re n cl to co ke fw 8)) H locs → ∀ (ls : Array Slot), lv_has ls 5 [(0, .ref (a 0)), (1, .long (hg (fun t y => hf (fun j => oI (tgB th ki va re go n t cl j)) (hs (hs y (tgV th ki va re go n cl (nI t) (nI 0) (nI 0))) (tgV th ki va re go n cl (nI t) (nI 2) (nI 1))) 3) (dg2 th ki va re go n cl (dg1 th ki va re go n cl to co ke la)) t)), (3, .int (nI t))] → W p l e (RM 10) s m args below meth c H locs 0 0 Q (F0 m 103 ls []) := by
                intro d
                induction d with
                | zero =>
                  intro t hlo103 hhi103 H locs w ls hl
                  refine lv_iload_n hx hb dX6_digest_103 rfl (lv_at hl 2 rfl) ?_
                  refine lv_bipush (v := (nI 16)) hx hb dX6_digest_104 (by decide) ?_
                  refine c_ge G (tgt := 179) (by omega) (by omega) dX6_digest_106 (by decide) (fun c106 => ?_) (fun c106 => ?_)
                  · -- taken at 106
                    have hl := lv_re (l' := [(0, .ref (a 0)), (1, .long (hg (fun v y => twV th ki va re go n cl to co ke y v) (dg3 th ki va re go n cl (dg2 th ki va re go n cl (dg1 th ki va re go n cl to co ke la))) 0)), (3, .int (nI t))]) hl (by rw [show (hg (fun t y => hf (fun j => oI (tgB th ki va re go n t cl j)) (hs (hs y (tgV th ki va re go n cl (nI t) (nI 0) (nI 0))) (tgV th ki va re go n cl (nI t) (nI 2) (nI 1))) 3) (dg2 th ki va re go n cl (dg1 th ki va re go n cl to co ke la)) t) = (hg (fun v y => twV th ki va re go n cl to co ke y v) (dg3 th ki va re go n cl (dg2 th ki va re go n cl (dg1 th ki va re go n cl to co ke la))) 0) from (by rw [show t = 16 by omega]; rfl)])
                    refine lv_iconst (v := (nI 0)) hx hb dX6_digest_179 (by decide) ?_
                    refine lv_istore_n (lv' := [(3, .int (nI 0)), (0, .ref (a 0)), (1, .long (hg (fun v y => twV th ki va re go n cl to co ke y v) (dg3 th ki va re go n cl (dg2 th ki va re go n cl (dg1 th ki va re go n cl to co ke la))) 0))]) hx hb dX6_digest_180 rfl hl (by decide) rfl (fun ls hl => ?_)
                    have L181 : ∀ (d v : Nat), 0 ≤ v → v + d = n → ∀ (H : Heap) (locs : List Loc), WW D A s.heap (wM cI cZ a la n cl go fo si it mo th ki va re to co ke (dgF th ki va re n cl to co ke fw 8)) H locs → ∀ (ls : Array Slot), lv_has ls 5 [(0, .ref (a 0)), (1, .long (hg (fun v y => twV th ki va re go n cl to co ke y v) (dg3 th ki va re go n cl (dg2 th ki va re go n cl (dg1 th ki va re go n cl to co ke la))) v)), (3, .int (nI v))] → W p l e (RM 10) s m args below meth c H locs 0 0 Q (F0 m 181 ls []) := by
                      intro d
                      induction d with
                      | zero =>
                        intro v hlo181 hhi181 H locs w ls hl
                        refine lv_iload_n hx hb dX6_digest_181 rfl (lv_at hl 2 rfl) ?_
                        refine lv_aload_n hx hb dX6_digest_182 rfl (lv_at hl 0 rfl) ?_
                        refine f_get G K w.1 inX6 0 (ci := 6) rfl rfl 5 rfl fl_X6_89 (v := .int (nI n)) rfl dX6_digest_183 ?_
                        refine c_ge G (tgt := 202) (by omega) (by omega) dX6_digest_186 (by decide) (fun c186 => ?_) (fun c186 => ?_)
                        · -- taken at 186
                          have hl := lv_re (l' := [(0, .ref (a 0)), (1, .long (hf (fun i => byV th ki va re n cl (nI i)) (dg4 th ki va re go n cl to co ke (dg3 th ki va re go n cl (dg2 th ki va re go n cl (dg1 th ki va re go n cl to co ke la)))) 0)), (3, .int (nI v))]) hl (by rw [show (hg (fun v y => twV th ki va re go n cl to co ke y v) (dg3 th ki va re go n cl (dg2 th ki va re go n cl (dg1 th ki va re go n cl to co ke la))) v) = (hf (fun i => byV th ki va re n cl (nI i)) (dg4 th ki va re go n cl to co ke (dg3 th ki va re go n cl (dg2 th ki va re go n cl (dg1 th ki va re go n cl to co ke la)))) 0) from (by rw [show v = n by omega]; rfl)])
                          refine lv_iconst (v := (nI 0)) hx hb dX6_digest_202 (by decide) ?_
                          refine lv_istore_n (lv' := [(3, .int (nI 0)), (0, .ref (a 0)), (1, .long (hf (fun i => byV th ki va re n cl (nI i)) (dg4 th ki va re go n cl to co ke (dg3 th ki va re go n cl (dg2 th ki va re go n cl (dg1 th ki va re go n cl to co ke la)))) 0))]) hx hb dX6_digest_203 rfl hl (by decide) rfl (fun ls hl => ?_)
                          have L204 : ∀ (d i : Nat), 0 ≤ i → i + d = 31 → ∀ (H : Heap) (locs : List Loc), WW D A s.heap (wM cI cZ a la n cl go fo si it mo th ki va re to co ke (dgF th ki va re n cl to co ke fw 8)) H locs → ∀ (ls : Array Slot), lv_has ls 5 [(0, .ref (a 0)), (1, .long (hf (fun i => byV th ki va re n cl (nI i)) (dg4 th ki va re go n cl to co ke (dg3 th ki va re go n cl (dg2 th ki va re go n cl (dg1 th ki va re go n cl to co ke la)))) i)), (3, .int (nI i))] → W p l e (RM 10) s m args below meth c H locs 0 0 Q (F0 m 204 ls []) := by
                            intro d
                            induction d with
                            | zero =>
                              intro i hlo204 hhi204 H locs w ls hl
                              refine lv_iload_n hx hb dX6_digest_204 rfl (lv_at hl 2 rfl) ?_
                              refine lv_bipush (v := (nI 31)) hx hb dX6_digest_205 (by decide) ?_
                              refine c_ge G (tgt := 229) (by omega) (by omega) dX6_digest_207 (by decide) (fun c207 => ?_) (fun c207 => ?_)
                              · -- taken at 207
                                have hl := lv_re (l' := [(0, .ref (a 0)), (1, .long (hf (fun i => byV th ki va re n cl (nI i)) (dg4 th ki va re go n cl to co ke (dg3 th ki va re go n cl (dg2 th ki va re go n cl (dg1 th ki va re go n cl to co ke la)))) 31)), (3, .int (nI i))]) hl (by rw [show (hf (fun i => byV th ki va re n cl (nI i)) (dg4 th ki va re go n cl to co ke (dg3 th ki va re go n cl (dg2 th ki va re go n cl (dg1 th ki va re go n cl to co ke la)))) i) = (hf (fun i => byV th ki va re n cl (nI i)) (dg4 th ki va re go n cl to co ke (dg3 th ki va re go n cl (dg2 th ki va re go n cl (dg1 th ki va re go n cl to co ke la)))) 31) from (by rw [show i = 31 by omega])])
                                refine lv_ldc2 hx hb hown (hts _ kl_X6_251) dX6_digest_229 ?_
                                refine t_l (y := (31 : Int32).toInt64) (by decide) ?_
                                refine lv_lload_n hx hb dX6_digest_232 rfl (lv_at hl 1 rfl) ?_
                                refine lv_lmul hx hb dX6_digest_233 ?_
                                refine lv_aload_n hx hb dX6_digest_234 rfl (lv_at hl 0 rfl) ?_
                                refine callPV (As := []) (rest := [.long ((31 : Int32).toInt64 * (hf (fun i => byV th ki va re n cl (nI i)) (dg4 th ki va re go n cl to co ke (dg3 th ki va re go n cl (dg2 th ki va re go n cl (dg1 th ki va re go n cl to co ke la)))) 31))]) (q0 := 0) (ci := 6) G K F_X6_allBytes (c_X6_allBytes a la n cl go fo si it mo th ki va re to co ke (dgF th ki va re n cl to co ke fw 8) (IM_fw I (dgF_le th ki va re n cl to co ke hfw 8))) w.1 ml_X6_128 rfl rfl rfl (by decide) (by decide) rfl hl.1 (Nat.le_of_ble_eq_true rfl) dX6_digest_235 ?_
                                refine lv_i2l (v := (nI (5 * n + 2 * cl)).toInt64) hx hb dX6_digest_238 rfl ?_
                                refine lv_ladd hx hb dX6_digest_239 ?_
                                refine t_l (y := (hf (fun j => oI (fsV th ki va re go n cl j)) (dg5 th ki va re n cl (dg4 th ki va re go n cl to co ke (dg3 th ki va re go n cl (dg2 th ki va re go n cl (dg1 th ki va re go n cl to co ke la))))) 0)) rfl ?_
                                refine lv_lstore_n (lv' := [(1, .long (hf (fun j => oI (fsV th ki va re go n cl j)) (dg5 th ki va re n cl (dg4 th ki va re go n cl to co ke (dg3 th ki va re go n cl (dg2 th ki va re go n cl (dg1 th ki va re go n cl to co ke la))))) 0)), (0, .ref (a 0)), (3, .int (nI i))]) hx hb dX6_digest_240 rfl hl (by decide) rfl (fun ls hl => ?_)
                                refine lv_iconst (v := (nI 0)) hx hb dX6_digest_241 (by decide) ?_
                                refine lv_istore_n (lv' := [(3, .int (nI 0)), (1, .long (hf (fun j => oI (fsV th ki va re go n cl j)) (dg5 th ki va re n cl (dg4 th ki va re go n cl to co ke (dg3 th ki va re go n cl (dg2 th ki va re go n cl (dg1 th ki va re go n cl to co ke la))))) 0)), (0, .ref (a 0))]) hx hb dX6_digest_242 rfl hl (by decide) rfl (fun ls hl => ?_)
                                have L243 : ∀ (d j : Nat), 0 ≤ j → j + d = 3 → ∀ (H : Heap) (locs : List Loc), WW D A s.heap (wM cI cZ a la n cl go fo si it mo th ki va re to co ke (dgF th ki va re n cl to co ke fw 8)) H locs → ∀ (ls : Array Slot), lv_has ls 5 [(0, .ref (a 0)), (1, .long (hf (fun j => oI (fsV th ki va re go n cl j)) (dg5 th ki va re n cl (dg4 th ki va re go n cl to co ke (dg3 th ki va re go n cl (dg2 th ki va re go n cl (dg1 th ki va re go n cl to co ke la))))) j)), (3, .int (nI j))] → W p l e (RM 10) s m args below meth c H locs 0 0 Q (F0 m 243 ls []) := by
                                  intro d
                                  induction d with
                                  | zero =>
                                    intro j hlo243 hhi243 H locs w ls hl
                                    refine lv_iload_n hx hb dX6_digest_243 rfl (lv_at hl 2 rfl) ?_
                                    refine lv_iconst (v := (nI 3)) hx hb dX6_digest_244 (by decide) ?_
                                    refine c_ge G (tgt := 267) (by omega) (by omega) dX6_digest_245 (by decide) (fun c245 => ?_) (fun c245 => ?_)
                                    · -- taken at 245
                                      have hl := lv_re (l' := [(0, .ref (a 0)), (1, .long (hf (fun j => nI (cif (j = 0) (hoN th ki va re go n cl to co ke) (cntP (cls ki re cl) n))) (dg6 th ki va re go n cl (dg5 th ki va re n cl (dg4 th ki va re go n cl to co ke (dg3 th ki va re go n cl (dg2 th ki va re go n cl (dg1 th ki va re go n cl to co ke la)))))) 0)), (3, .int (nI j))]) hl (by rw [show (hf (fun j => oI (fsV th ki va re go n cl j)) (dg5 th ki va re n cl (dg4 th ki va re go n cl to co ke (dg3 th ki va re go n cl (dg2 th ki va re go n cl (dg1 th ki va re go n cl to co ke la))))) j) = (hf (fun j => nI (cif (j = 0) (hoN th ki va re go n cl to co ke) (cntP (cls ki re cl) n))) (dg6 th ki va re go n cl (dg5 th ki va re n cl (dg4 th ki va re go n cl to co ke (dg3 th ki va re go n cl (dg2 th ki va re go n cl (dg1 th ki va re go n cl to co ke la)))))) 0) from (by rw [show j = 3 by omega]; rfl)])
                                      have w : WW D A s.heap (wM cI cZ a la n cl go fo si it mo th ki va re to co ke (hlF th ki va re n cl to co ke (dgF th ki va re n cl to co ke fw 8) 0)) H locs := by
                                        exact w
                                      refine lv_iconst (v := (nI 0)) hx hb dX6_digest_267 (by decide) ?_
                                      refine lv_istore_n (lv' := [(3, .int (nI 0)), (0, .ref (a 0)), (1, .long (hf (fun j => nI (cif (j = 0) (hoN th ki va re go n cl to co ke) (cntP (cls ki re cl) n))) (dg6 th ki va re go n cl (dg5 th ki va re n cl (dg4 th ki va re go n cl to co ke (dg3 th ki va re go n cl (dg2 th ki va re go n cl (dg1 th ki va re go n cl to co ke la)))))) 0))]) hx hb dX6_digest_268 rfl hl (by decide) rfl (fun ls hl => ?_)
                                      have L269 : ∀ (d j : Nat), 0 ≤ j → j + d = 2 → ∀ (H : Heap) (locs : List Loc), WW D A s.heap (wM cI cZ a la n cl go fo si it mo th ki va re to co ke (hlF th ki va re n cl to co ke (dgF th ki va re n cl to co ke fw 8) j)) H locs → ∀ (ls : Array Slot), lv_has ls 5 [(0, .ref (a 0)), (1, .long (hf (fun j => nI (cif (j = 0) (hoN th ki va re go n cl to co ke) (cntP (cls ki re cl) n))) (dg6 th ki va re go n cl (dg5 th ki va re n cl (dg4 th ki va re go n cl to co ke (dg3 th ki va re go n cl (dg2 th ki va re go n cl (dg1 th ki va re go n cl to co ke la)))))) j)), (3, .int (nI j))] → W p l e (RM 10) s m args below meth c H locs 0 0 Q (F0 m 269 ls []) := by
                                        intro d
                                        induction d with
                                        | zero =>
                                          intro j hlo269 hhi269 H locs w ls hl
                                          refine lv_iload_n hx hb dX6_digest_269 rfl (lv_at hl 2 rfl) ?_
                                          refine lv_iconst (v := (nI 2)) hx hb dX6_digest_270 (by decide) ?_
                                          refine c_ge G (tgt := 293) (by omega) (by omega) dX6_digest_271 (by decide) (fun c271 => ?_) (fun c271 => ?_)
                                          · -- taken at 271
                                            have hl := lv_re (l' := [(0, .ref (a 0)), (1, .long (dg7 th ki va re go n cl to co ke (dg6 th ki va re go n cl (dg5 th ki va re n cl (dg4 th ki va re go n cl to co ke (dg3 th ki va re go n cl (dg2 th ki va re go n cl (dg1 th ki va re go n cl to co ke la)))))))), (3, .int (nI j))]) hl (by rw [show (hf (fun j => nI (cif (j = 0) (hoN th ki va re go n cl to co ke) (cntP (cls ki re cl) n))) (dg6 th ki va re go n cl (dg5 th ki va re n cl (dg4 th ki va re go n cl to co ke (dg3 th ki va re go n cl (dg2 th ki va re go n cl (dg1 th ki va re go n cl to co ke la)))))) j) = (dg7 th ki va re go n cl to co ke (dg6 th ki va re go n cl (dg5 th ki va re n cl (dg4 th ki va re go n cl to co ke (dg3 th ki va re go n cl (dg2 th ki va re go n cl (dg1 th ki va re go n cl to co ke la))))))) from (by rw [show j = 2 by omega]; rfl)])
                                            have w : WW D A s.heap (wM cI cZ a la n cl go fo si it mo th ki va re to co ke (hlF th ki va re n cl to co ke (dgF th ki va re n cl to co ke fw 8) 2)) H locs := by
                                              rw [← show j = 2 by omega]; exact w
                                            refine lv_ldc2 hx hb hown (hts _ kl_X6_251) dX6_digest_293 ?_
                                            refine t_l (y := (31 : Int32).toInt64) (by decide) ?_
                                            refine lv_lload_n hx hb dX6_digest_296 rfl (lv_at hl 1 rfl) ?_
                                            refine lv_lmul hx hb dX6_digest_297 ?_
                                            refine lv_aload_n hx hb dX6_digest_298 rfl (lv_at hl 0 rfl) ?_
                                            refine lv_iconst (v := (nI 0)) hx hb dX6_digest_299 (by decide) ?_
                                            refine callMF (As := [.int (nI 0)]) (rest := [.long ((31 : Int32).toInt64 * (dg7 th ki va re go n cl to co ke (dg6 th ki va re go n cl (dg5 th ki va re n cl (dg4 th ki va re go n cl to co ke (dg3 th ki va re go n cl (dg2 th ki va re go n cl (dg1 th ki va re go n cl to co ke la))))))))]) (q0 := 0) (ci := 6) (ws' := (wM cI cZ a la n cl go fo si it mo th ki va re to co ke (lkA th ki va re n cl to co ke (hlF th ki va re n cl to co ke (dgF th ki va re n cl to co ke fw 8) 2)))) G K hA w F_X6_betterBy (c_X6_betterBy a la n cl go fo si it mo th ki va re to co ke (hlF th ki va re n cl to co ke (dgF th ki va re n cl to co ke fw 8) 2) 0 (IM_fw I (hlF_le th ki va re n cl to co ke (dgF_le th ki va re n cl to co ke hfw 8) 2)) (by omega) hg9) ml_X6_242 rfl rfl rfl (by decide) (by decide) rfl hl.1 (Nat.le_of_ble_eq_true rfl) dX6_digest_300 (fun Hp1 lo2 w => ?_)
                                            have w : WW D A s.heap (wM cI cZ a la n cl go fo si it mo th ki va re to co ke (hlF th ki va re n cl to co ke (dgF th ki va re n cl to co ke fw 8) 3)) Hp1 lo2 := by
                                              exact w
                                            refine lv_i2l (v := (oI (cif (0 = 0) (bst (fun k => hoN th ki va re (some k) n cl to co ke) n) (mst (fun k => hoN th ki va re (some k) n cl to co ke) n))).toInt64) hx hb dX6_digest_303 rfl ?_
                                            refine lv_ladd hx hb dX6_digest_304 ?_
                                            refine lv_lstore_n (lv' := [(1, .long (((31 : Int32).toInt64 * (dg7 th ki va re go n cl to co ke (dg6 th ki va re go n cl (dg5 th ki va re n cl (dg4 th ki va re go n cl to co ke (dg3 th ki va re go n cl (dg2 th ki va re go n cl (dg1 th ki va re go n cl to co ke la)))))))) + (oI (cif (0 = 0) (bst (fun k => hoN th ki va re (some k) n cl to co ke) n) (mst (fun k => hoN th ki va re (some k) n cl to co ke) n))).toInt64)), (0, .ref (a 0)), (3, .int (nI j))]) hx hb dX6_digest_305 rfl hl (by decide) rfl (fun ls hl => ?_)
                                            refine lv_ldc2 hx hb hown (hts _ kl_X6_251) dX6_digest_306 ?_
                                            refine t_l (y := (31 : Int32).toInt64) (by decide) ?_
                                            refine lv_lload_n hx hb dX6_digest_309 rfl (lv_at hl 0 rfl) ?_
                                            refine lv_lmul hx hb dX6_digest_310 ?_
                                            refine lv_aload_n hx hb dX6_digest_311 rfl (lv_at hl 1 rfl) ?_
                                            refine lv_iconst (v := (nI 1)) hx hb dX6_digest_312 (by decide) ?_
                                            refine callMF (As := [.int (nI 1)]) (rest := [.long ((31 : Int32).toInt64 * (((31 : Int32).toInt64 * (dg7 th ki va re go n cl to co ke (dg6 th ki va re go n cl (dg5 th ki va re n cl (dg4 th ki va re go n cl to co ke (dg3 th ki va re go n cl (dg2 th ki va re go n cl (dg1 th ki va re go n cl to co ke la)))))))) + (oI (cif (0 = 0) (bst (fun k => hoN th ki va re (some k) n cl to co ke) n) (mst (fun k => hoN th ki va re (some k) n cl to co ke) n))).toInt64))]) (q0 := 0) (ci := 6) (ws' := (wM cI cZ a la n cl go fo si it mo th ki va re to co ke (lkA th ki va re n cl to co ke (hlF th ki va re n cl to co ke (dgF th ki va re n cl to co ke fw 8) 3)))) G K hA w F_X6_betterBy (c_X6_betterBy a la n cl go fo si it mo th ki va re to co ke (hlF th ki va re n cl to co ke (dgF th ki va re n cl to co ke fw 8) 3) 1 (IM_fw I (hlF_le th ki va re n cl to co ke (dgF_le th ki va re n cl to co ke hfw 8) 3)) (by omega) hg9) ml_X6_242 rfl rfl rfl (by decide) (by decide) rfl hl.1 (Nat.le_of_ble_eq_true rfl) dX6_digest_313 (fun Hp3 lo4 w => ?_)
                                            have w : WW D A s.heap (wM cI cZ a la n cl go fo si it mo th ki va re to co ke (dgW th ki va re n cl to co ke fw)) Hp3 lo4 := by
                                              exact w
                                            refine lv_i2l (v := (oI (cif (1 = 0) (bst (fun k => hoN th ki va re (some k) n cl to co ke) n) (mst (fun k => hoN th ki va re (some k) n cl to co ke) n))).toInt64) hx hb dX6_digest_316 rfl ?_
                                            refine lv_ladd hx hb dX6_digest_317 ?_
                                            exact hret _ _ _ _ _ _ rfl rfl w dX6_digest_318
                                          · -- not taken at 271
                                            exact absurd c271 (by omega)
                                        | succ d ih =>
                                          intro j hlo269 hhi269 H locs w ls hl
                                          refine lv_iload_n hx hb dX6_digest_269 rfl (lv_at hl 2 rfl) ?_
                                          refine lv_iconst (v := (nI 2)) hx hb dX6_digest_270 (by decide) ?_
                                          refine c_ge G (tgt := 293) (by omega) (by omega) dX6_digest_271 (by decide) (fun c271 => ?_) (fun c271 => ?_)
                                          · -- taken at 271
                                            exact absurd c271 (by omega)
                                          · -- not taken at 271
                                            refine lv_ldc2 hx hb hown (hts _ kl_X6_251) dX6_digest_274 ?_
                                            refine t_l (y := (31 : Int32).toInt64) (by decide) ?_
                                            refine lv_lload_n hx hb dX6_digest_277 rfl (lv_at hl 1 rfl) ?_
                                            refine lv_lmul hx hb dX6_digest_278 ?_
                                            refine lv_aload_n hx hb dX6_digest_279 rfl (lv_at hl 0 rfl) ?_
                                            refine lv_iload_n hx hb dX6_digest_280 rfl (lv_at hl 2 rfl) ?_
                                            refine callMF (As := [.int (nI j)]) (rest := [.long ((31 : Int32).toInt64 * (hf (fun j => nI (cif (j = 0) (hoN th ki va re go n cl to co ke) (cntP (cls ki re cl) n))) (dg6 th ki va re go n cl (dg5 th ki va re n cl (dg4 th ki va re go n cl to co ke (dg3 th ki va re go n cl (dg2 th ki va re go n cl (dg1 th ki va re go n cl to co ke la)))))) j))]) (q0 := 0) (ci := 6) (ws' := (wM cI cZ a la n cl go fo si it mo th ki va re to co ke (lkA th ki va re n cl to co ke (hlF th ki va re n cl to co ke (dgF th ki va re n cl to co ke fw 8) j)))) G K hA w F_X6_holdingBy (c_X6_holdingBy a la n cl go fo si it mo th ki va re to co ke (hlF th ki va re n cl to co ke (dgF th ki va re n cl to co ke fw 8) j) j (IM_fw I (hlF_le th ki va re n cl to co ke (dgF_le th ki va re n cl to co ke hfw 8) j)) (by omega)) ml_X6_239 rfl rfl rfl (by decide) (by decide) rfl hl.1 (Nat.le_of_ble_eq_true rfl) dX6_digest_281 (fun Hp5 lo6 w => ?_)
                                            refine lv_i2l (v := (nI (cif (j = 0) (hoN th ki va re go n cl to co ke) (cntP (cls ki re cl) n))).toInt64) hx hb dX6_digest_284 rfl ?_
                                            refine lv_ladd hx hb dX6_digest_285 ?_
                                            refine t_l (y := (hf (fun j => nI (cif (j = 0) (hoN th ki va re go n cl to co ke) (cntP (cls ki re cl) n))) (dg6 th ki va re go n cl (dg5 th ki va re n cl (dg4 th ki va re go n cl to co ke (dg3 th ki va re go n cl (dg2 th ki va re go n cl (dg1 th ki va re go n cl to co ke la)))))) (j + 1))) rfl ?_
                                            refine lv_lstore_n (lv' := [(1, .long (hf (fun j => nI (cif (j = 0) (hoN th ki va re go n cl to co ke) (cntP (cls ki re cl) n))) (dg6 th ki va re go n cl (dg5 th ki va re n cl (dg4 th ki va re go n cl to co ke (dg3 th ki va re go n cl (dg2 th ki va re go n cl (dg1 th ki va re go n cl to co ke la)))))) (j + 1))), (0, .ref (a 0)), (3, .int (nI j))]) hx hb dX6_digest_286 rfl hl (by decide) rfl (fun ls hl => ?_)
                                            have w : WW D A s.heap (wM cI cZ a la n cl go fo si it mo th ki va re to co ke (hlF th ki va re n cl to co ke (dgF th ki va re n cl to co ke fw 8) (j + 1))) Hp5 lo6 := by
                                              exact w
                                            refine lv_iinc (v := (nI (j + 1))) (lv' := [(3, .int (nI (j + 1))), (1, .long (hf (fun j => nI (cif (j = 0) (hoN th ki va re go n cl to co ke) (cntP (cls ki re cl) n))) (dg6 th ki va re go n cl (dg5 th ki va re n cl (dg4 th ki va re go n cl to co ke (dg3 th ki va re go n cl (dg2 th ki va re go n cl (dg1 th ki va re go n cl to co ke la)))))) (j + 1))), (0, .ref (a 0))]) hx hb dX6_digest_287 hl (k := 2) rfl (nI_inc _ 1) (by decide) rfl (fun ls hl => ?_)
                                            refine lv_goto (tgt := 269) hx hb dX6_digest_290 (by decide) ?_
                                            -- slot 1: have l:hf (fun j => nI (cif (j = 0) (hoN th ki va re go n cl to co ke) (cntP (cls ki re cl) n))) (dg6 th ki va re go n cl (dg5 th ki va re n cl (dg4 th ki va re go n cl to co ke (dg3 th ki va re go n cl (dg2 th ki va re go n cl (dg1 th ki va re go n cl to co ke la)))))) (j + 1), want l:hf (fun (j + 1) => nI (cif ((j + 1) = 0) (hoN th ki va re go n cl to co ke) (cntP (cls ki re cl) n))) (dg6 th ki va re go n cl (dg5 th ki va re n cl (dg4 th ki va re go n cl to co ke (dg3 th ki va re go n cl (dg2 th ki va re go n cl (dg1 th ki va re go n cl to co ke la)))))) (j + 1)
                                            -- slot 3: have n:j + 1, want n:(j + 1)
                                            exact ih (j + 1) (by omega) (by omega) Hp5 lo6 w ls (lv_sub hl [2, 1, 0] rfl)
                                      exact L269 (2 - 0) (0) (Nat.le_refl _) (by omega) H locs w ls (lv_sub hl [1, 2, 0] rfl)
                                    · -- not taken at 245
                                      exact absurd c245 (by omega)
                                  | succ d ih =>
                                    intro j hlo243 hhi243 H locs w ls hl
                                    refine lv_iload_n hx hb dX6_digest_243 rfl (lv_at hl 2 rfl) ?_
                                    refine lv_iconst (v := (nI 3)) hx hb dX6_digest_244 (by decide) ?_
                                    refine c_ge G (tgt := 267) (by omega) (by omega) dX6_digest_245 (by decide) (fun c245 => ?_) (fun c245 => ?_)
                                    · -- taken at 245
                                      exact absurd c245 (by omega)
                                    · -- not taken at 245
                                      refine lv_ldc2 hx hb hown (hts _ kl_X6_251) dX6_digest_248 ?_
                                      refine t_l (y := (31 : Int32).toInt64) (by decide) ?_
                                      refine lv_lload_n hx hb dX6_digest_251 rfl (lv_at hl 1 rfl) ?_
                                      refine lv_lmul hx hb dX6_digest_252 ?_
                                      refine lv_aload_n hx hb dX6_digest_253 rfl (lv_at hl 0 rfl) ?_
                                      refine lv_iload_n hx hb dX6_digest_254 rfl (lv_at hl 2 rfl) ?_
                                      refine callPV (As := [.int (nI j)]) (rest := [.long ((31 : Int32).toInt64 * (hf (fun j => oI (fsV th ki va re go n cl j)) (dg5 th ki va re n cl (dg4 th ki va re go n cl to co ke (dg3 th ki va re go n cl (dg2 th ki va re go n cl (dg1 th ki va re go n cl to co ke la))))) j))]) (q0 := 0) (ci := 6) G K F_X6_firstBy (c_X6_firstBy a la n cl go fo si it mo th ki va re to co ke (dgF th ki va re n cl to co ke fw 8) j (IM_fw I (dgF_le th ki va re n cl to co ke hfw 8)) (by omega)) w.1 ml_X6_227 rfl rfl rfl (by decide) (by decide) rfl hl.1 (Nat.le_of_ble_eq_true rfl) dX6_digest_255 ?_
                                      refine lv_i2l (v := (oI (fsV th ki va re go n cl j)).toInt64) hx hb dX6_digest_258 rfl ?_
                                      refine lv_ladd hx hb dX6_digest_259 ?_
                                      refine t_l (y := (hf (fun j => oI (fsV th ki va re go n cl j)) (dg5 th ki va re n cl (dg4 th ki va re go n cl to co ke (dg3 th ki va re go n cl (dg2 th ki va re go n cl (dg1 th ki va re go n cl to co ke la))))) (j + 1))) rfl ?_
                                      refine lv_lstore_n (lv' := [(1, .long (hf (fun j => oI (fsV th ki va re go n cl j)) (dg5 th ki va re n cl (dg4 th ki va re go n cl to co ke (dg3 th ki va re go n cl (dg2 th ki va re go n cl (dg1 th ki va re go n cl to co ke la))))) (j + 1))), (0, .ref (a 0)), (3, .int (nI j))]) hx hb dX6_digest_260 rfl hl (by decide) rfl (fun ls hl => ?_)
                                      refine lv_iinc (v := (nI (j + 1))) (lv' := [(3, .int (nI (j + 1))), (1, .long (hf (fun j => oI (fsV th ki va re go n cl j)) (dg5 th ki va re n cl (dg4 th ki va re go n cl to co ke (dg3 th ki va re go n cl (dg2 th ki va re go n cl (dg1 th ki va re go n cl to co ke la))))) (j + 1))), (0, .ref (a 0))]) hx hb dX6_digest_261 hl (k := 2) rfl (nI_inc _ 1) (by decide) rfl (fun ls hl => ?_)
                                      refine lv_goto (tgt := 243) hx hb dX6_digest_264 (by decide) ?_
                                      -- slot 1: have l:hf (fun j => oI (fsV th ki va re go n cl j)) (dg5 th ki va re n cl (dg4 th ki va re go n cl to co ke (dg3 th ki va re go n cl (dg2 th ki va re go n cl (dg1 th ki va re go n cl to co ke la))))) (j + 1), want l:hf (fun (j + 1) => oI (fsV th ki va re go n cl (j + 1))) (dg5 th ki va re n cl (dg4 th ki va re go n cl to co ke (dg3 th ki va re go n cl (dg2 th ki va re go n cl (dg1 th ki va re go n cl to co ke la))))) (j + 1)
                                      -- slot 3: have n:j + 1, want n:(j + 1)
                                      exact ih (j + 1) (by omega) (by omega) H locs w ls (lv_sub hl [2, 1, 0] rfl)
                                exact L243 (3 - 0) (0) (Nat.le_refl _) (by omega) H locs w ls (lv_sub hl [2, 1, 0] rfl)
                              · -- not taken at 207
                                exact absurd c207 (by omega)
                            | succ d ih =>
                              intro i hlo204 hhi204 H locs w ls hl
                              refine lv_iload_n hx hb dX6_digest_204 rfl (lv_at hl 2 rfl) ?_
                              refine lv_bipush (v := (nI 31)) hx hb dX6_digest_205 (by decide) ?_
                              refine c_ge G (tgt := 229) (by omega) (by omega) dX6_digest_207 (by decide) (fun c207 => ?_) (fun c207 => ?_)
                              · -- taken at 207
                                exact absurd c207 (by omega)
                              · -- not taken at 207
                                refine lv_ldc2 hx hb hown (hts _ kl_X6_251) dX6_digest_210 ?_
                                refine t_l (y := (31 : Int32).toInt64) (by decide) ?_
                                refine lv_lload_n hx hb dX6_digest_213 rfl (lv_at hl 1 rfl) ?_
                                refine lv_lmul hx hb dX6_digest_214 ?_
                                refine lv_aload_n hx hb dX6_digest_215 rfl (lv_at hl 0 rfl) ?_
                                refine lv_iload_n hx hb dX6_digest_216 rfl (lv_at hl 2 rfl) ?_
                                refine callPV (As := [.int (nI i)]) (rest := [.long ((31 : Int32).toInt64 * (hf (fun i => byV th ki va re n cl (nI i)) (dg4 th ki va re go n cl to co ke (dg3 th ki va re go n cl (dg2 th ki va re go n cl (dg1 th ki va re go n cl to co ke la)))) i))]) (q0 := 0) (ci := 6) G K F_X6_bytes (c_X6_bytes a la n cl go fo si it mo th ki va re to co ke (dgF th ki va re n cl to co ke fw 8) (nI i) (IM_fw I (dgF_le th ki va re n cl to co ke hfw 8))) w.1 ml_X6_287 rfl rfl rfl (by decide) (by decide) rfl hl.1 (Nat.le_of_ble_eq_true rfl) dX6_digest_217 ?_
                                refine lv_i2l (v := (byV th ki va re n cl (nI i)).toInt64) hx hb dX6_digest_220 rfl ?_
                                refine lv_ladd hx hb dX6_digest_221 ?_
                                refine t_l (y := (hf (fun i => byV th ki va re n cl (nI i)) (dg4 th ki va re go n cl to co ke (dg3 th ki va re go n cl (dg2 th ki va re go n cl (dg1 th ki va re go n cl to co ke la)))) (i + 1))) rfl ?_
                                refine lv_lstore_n (lv' := [(1, .long (hf (fun i => byV th ki va re n cl (nI i)) (dg4 th ki va re go n cl to co ke (dg3 th ki va re go n cl (dg2 th ki va re go n cl (dg1 th ki va re go n cl to co ke la)))) (i + 1))), (0, .ref (a 0)), (3, .int (nI i))]) hx hb dX6_digest_222 rfl hl (by decide) rfl (fun ls hl => ?_)
                                refine lv_iinc (v := (nI (i + 1))) (lv' := [(3, .int (nI (i + 1))), (1, .long (hf (fun i => byV th ki va re n cl (nI i)) (dg4 th ki va re go n cl to co ke (dg3 th ki va re go n cl (dg2 th ki va re go n cl (dg1 th ki va re go n cl to co ke la)))) (i + 1))), (0, .ref (a 0))]) hx hb dX6_digest_223 hl (k := 2) rfl (nI_inc _ 1) (by decide) rfl (fun ls hl => ?_)
                                refine lv_goto (tgt := 204) hx hb dX6_digest_226 (by decide) ?_
                                -- slot 1: have l:hf (fun i => byV th ki va re n cl (nI i)) (dg4 th ki va re go n cl to co ke (dg3 th ki va re go n cl (dg2 th ki va re go n cl (dg1 th ki va re go n cl to co ke la)))) (i + 1), want l:hf (fun (i + 1) => byV th ki va re n cl (nI (i + 1))) (dg4 th ki va re go n cl to co ke (dg3 th ki va re go n cl (dg2 th ki va re go n cl (dg1 th ki va re go n cl to co ke la)))) (i + 1)
                                -- slot 3: have n:i + 1, want n:(i + 1)
                                exact ih (i + 1) (by omega) (by omega) H locs w ls (lv_sub hl [2, 1, 0] rfl)
                          exact L204 (31 - 0) (0) (Nat.le_refl _) (by omega) H locs w ls (lv_sub hl [1, 2, 0] rfl)
                        · -- not taken at 186
                          exact absurd c186 (by omega)
                      | succ d ih =>
                        intro v hlo181 hhi181 H locs w ls hl
                        refine lv_iload_n hx hb dX6_digest_181 rfl (lv_at hl 2 rfl) ?_
                        refine lv_aload_n hx hb dX6_digest_182 rfl (lv_at hl 0 rfl) ?_
                        refine f_get G K w.1 inX6 0 (ci := 6) rfl rfl 5 rfl fl_X6_89 (v := .int (nI n)) rfl dX6_digest_183 ?_
                        refine c_ge G (tgt := 202) (by omega) (by omega) dX6_digest_186 (by decide) (fun c186 => ?_) (fun c186 => ?_)
                        · -- taken at 186
                          exact absurd c186 (by omega)
                        · -- not taken at 186
                          refine lv_aload_n hx hb dX6_digest_189 rfl (lv_at hl 0 rfl) ?_
                          refine lv_lload_n hx hb dX6_digest_190 rfl (lv_at hl 1 rfl) ?_
                          refine lv_iload_n hx hb dX6_digest_191 rfl (lv_at hl 2 rfl) ?_
                          refine callPV (As := [.long (hg (fun v y => twV th ki va re go n cl to co ke y v) (dg3 th ki va re go n cl (dg2 th ki va re go n cl (dg1 th ki va re go n cl to co ke la))) v), .int (nI v)]) (rest := []) (q0 := 0) (ci := 6) G K F_X6_tellsWrite (c_X6_tellsWrite a la n cl go fo si it mo th ki va re to co ke (dgF th ki va re n cl to co ke fw 8) (hg (fun v y => twV th ki va re go n cl to co ke y v) (dg3 th ki va re go n cl (dg2 th ki va re go n cl (dg1 th ki va re go n cl to co ke la))) v) v (IM_fw I (dgF_le th ki va re n cl to co ke hfw 8)) (by omega)) w.1 ml_X6_283 rfl rfl rfl (by decide) (by decide) rfl hl.1 (Nat.le_of_ble_eq_true rfl) dX6_digest_192 ?_
                          refine t_l (y := (hg (fun v y => twV th ki va re go n cl to co ke y v) (dg3 th ki va re go n cl (dg2 th ki va re go n cl (dg1 th ki va re go n cl to co ke la))) (v + 1))) rfl ?_
                          refine lv_lstore_n (lv' := [(1, .long (hg (fun v y => twV th ki va re go n cl to co ke y v) (dg3 th ki va re go n cl (dg2 th ki va re go n cl (dg1 th ki va re go n cl to co ke la))) (v + 1))), (0, .ref (a 0)), (3, .int (nI v))]) hx hb dX6_digest_195 rfl hl (by decide) rfl (fun ls hl => ?_)
                          refine lv_iinc (v := (nI (v + 1))) (lv' := [(3, .int (nI (v + 1))), (1, .long (hg (fun v y => twV th ki va re go n cl to co ke y v) (dg3 th ki va re go n cl (dg2 th ki va re go n cl (dg1 th ki va re go n cl to co ke la))) (v + 1))), (0, .ref (a 0))]) hx hb dX6_digest_196 hl (k := 2) rfl (nI_inc _ 1) (by decide) rfl (fun ls hl => ?_)
                          refine lv_goto (tgt := 181) hx hb dX6_digest_199 (by decide) ?_
                          -- slot 1: have l:hg (fun v y => twV th ki va re go n cl to co ke y v) (dg3 th ki va re go n cl (dg2 th ki va re go n cl (dg1 th ki va re go n cl to co ke la))) (v + 1), want l:hg (fun (v + 1) y => twV th ki va re go n cl to co ke y (v + 1)) (dg3 th ki va re go n cl (dg2 th ki va re go n cl (dg1 th ki va re go n cl to co ke la))) (v + 1)
                          -- slot 3: have n:v + 1, want n:(v + 1)
                          exact ih (v + 1) (by omega) (by omega) H locs w ls (lv_sub hl [2, 1, 0] rfl)
                    exact L181 (n - 0) (0) (Nat.le_refl _) (by omega) H locs w ls (lv_sub hl [1, 2, 0] rfl)
                  · -- not taken at 106
                    exact absurd c106 (by omega)
                | succ d ih =>
                  intro t hlo103 hhi103 H locs w ls hl
                  refine lv_iload_n hx hb dX6_digest_103 rfl (lv_at hl 2 rfl) ?_
                  refine lv_bipush (v := (nI 16)) hx hb dX6_digest_104 (by decide) ?_
                  refine c_ge G (tgt := 179) (by omega) (by omega) dX6_digest_106 (by decide) (fun c106 => ?_) (fun c106 => ?_)
                  · -- taken at 106
                    exact absurd c106 (by omega)
                  · -- not taken at 106
                    refine lv_ldc2 hx hb hown (hts _ kl_X6_251) dX6_digest_109 ?_
                    refine t_l (y := (31 : Int32).toInt64) (by decide) ?_
                    refine lv_lload_n hx hb dX6_digest_112 rfl (lv_at hl 1 rfl) ?_
                    refine lv_lmul hx hb dX6_digest_113 ?_
                    refine lv_aload_n hx hb dX6_digest_114 rfl (lv_at hl 0 rfl) ?_
                    refine lv_iload_n hx hb dX6_digest_115 rfl (lv_at hl 2 rfl) ?_
                    refine lv_iconst (v := (nI 0)) hx hb dX6_digest_116 (by decide) ?_
                    refine lv_iconst (v := (nI 0)) hx hb dX6_digest_117 (by decide) ?_
                    refine callPV (As := [.int (nI t), .int (nI 0), .int (nI 0)]) (rest := [.long ((31 : Int32).toInt64 * (hg (fun t y => hf (fun j => oI (tgB th ki va re go n t cl j)) (hs (hs y (tgV th ki va re go n cl (nI t) (nI 0) (nI 0))) (tgV th ki va re go n cl (nI t) (nI 2) (nI 1))) 3) (dg2 th ki va re go n cl (dg1 th ki va re go n cl to co ke la)) t))]) (q0 := 0) (ci := 6) G K F_X6_thing (c_X6_thing a la n cl go fo si it mo th ki va re to co ke (dgF th ki va re n cl to co ke fw 8) (nI t) (nI 0) (nI 0) (IM_fw I (dgF_le th ki va re n cl to co ke hfw 8))) w.1 ml_X6_281 rfl rfl rfl (by decide) (by decide) rfl hl.1 (Nat.le_of_ble_eq_true rfl) dX6_digest_118 ?_
                    refine lv_i2l (v := (tgV th ki va re go n cl (nI t) (nI 0) (nI 0)).toInt64) hx hb dX6_digest_121 rfl ?_
                    refine lv_ladd hx hb dX6_digest_122 ?_
                    refine lv_lstore_n (lv' := [(1, .long (((31 : Int32).toInt64 * (hg (fun t y => hf (fun j => oI (tgB th ki va re go n t cl j)) (hs (hs y (tgV th ki va re go n cl (nI t) (nI 0) (nI 0))) (tgV th ki va re go n cl (nI t) (nI 2) (nI 1))) 3) (dg2 th ki va re go n cl (dg1 th ki va re go n cl to co ke la)) t)) + (tgV th ki va re go n cl (nI t) (nI 0) (nI 0)).toInt64)), (0, .ref (a 0)), (3, .int (nI t))]) hx hb dX6_digest_123 rfl hl (by decide) rfl (fun ls hl => ?_)
                    refine lv_ldc2 hx hb hown (hts _ kl_X6_251) dX6_digest_124 ?_
                    refine t_l (y := (31 : Int32).toInt64) (by decide) ?_
                    refine lv_lload_n hx hb dX6_digest_127 rfl (lv_at hl 0 rfl) ?_
                    refine lv_lmul hx hb dX6_digest_128 ?_
                    refine lv_aload_n hx hb dX6_digest_129 rfl (lv_at hl 1 rfl) ?_
                    refine lv_iload_n hx hb dX6_digest_130 rfl (lv_at hl 2 rfl) ?_
                    refine lv_iconst (v := (nI 2)) hx hb dX6_digest_131 (by decide) ?_
                    refine lv_iconst (v := (nI 1)) hx hb dX6_digest_132 (by decide) ?_
                    refine callPV (As := [.int (nI t), .int (nI 2), .int (nI 1)]) (rest := [.long ((31 : Int32).toInt64 * (((31 : Int32).toInt64 * (hg (fun t y => hf (fun j => oI (tgB th ki va re go n t cl j)) (hs (hs y (tgV th ki va re go n cl (nI t) (nI 0) (nI 0))) (tgV th ki va re go n cl (nI t) (nI 2) (nI 1))) 3) (dg2 th ki va re go n cl (dg1 th ki va re go n cl to co ke la)) t)) + (tgV th ki va re go n cl (nI t) (nI 0) (nI 0)).toInt64))]) (q0 := 0) (ci := 6) G K F_X6_thing (c_X6_thing a la n cl go fo si it mo th ki va re to co ke (dgF th ki va re n cl to co ke fw 8) (nI t) (nI 2) (nI 1) (IM_fw I (dgF_le th ki va re n cl to co ke hfw 8))) w.1 ml_X6_281 rfl rfl rfl (by decide) (by decide) rfl hl.1 (Nat.le_of_ble_eq_true rfl) dX6_digest_133 ?_
                    refine lv_i2l (v := (tgV th ki va re go n cl (nI t) (nI 2) (nI 1)).toInt64) hx hb dX6_digest_136 rfl ?_
                    refine lv_ladd hx hb dX6_digest_137 ?_
                    refine t_l (y := (hf (fun j => oI (tgB th ki va re go n t cl j)) (hs (hs (hg (fun t y => hf (fun j => oI (tgB th ki va re go n t cl j)) (hs (hs y (tgV th ki va re go n cl (nI t) (nI 0) (nI 0))) (tgV th ki va re go n cl (nI t) (nI 2) (nI 1))) 3) (dg2 th ki va re go n cl (dg1 th ki va re go n cl to co ke la)) t) (tgV th ki va re go n cl (nI t) (nI 0) (nI 0))) (tgV th ki va re go n cl (nI t) (nI 2) (nI 1))) 0)) rfl ?_
                    refine lv_lstore_n (lv' := [(1, .long (hf (fun j => oI (tgB th ki va re go n t cl j)) (hs (hs (hg (fun t y => hf (fun j => oI (tgB th ki va re go n t cl j)) (hs (hs y (tgV th ki va re go n cl (nI t) (nI 0) (nI 0))) (tgV th ki va re go n cl (nI t) (nI 2) (nI 1))) 3) (dg2 th ki va re go n cl (dg1 th ki va re go n cl to co ke la)) t) (tgV th ki va re go n cl (nI t) (nI 0) (nI 0))) (tgV th ki va re go n cl (nI t) (nI 2) (nI 1))) 0)), (0, .ref (a 0)), (3, .int (nI t))]) hx hb dX6_digest_138 rfl hl (by decide) rfl (fun ls hl => ?_)
                    refine lv_iconst (v := (nI 0)) hx hb dX6_digest_139 (by decide) ?_
                    refine lv_istore (lv' := [(4, .int (nI 0)), (1, .long (hf (fun j => oI (tgB th ki va re go n t cl j)) (hs (hs (hg (fun t y => hf (fun j => oI (tgB th ki va re go n t cl j)) (hs (hs y (tgV th ki va re go n cl (nI t) (nI 0) (nI 0))) (tgV th ki va re go n cl (nI t) (nI 2) (nI 1))) 3) (dg2 th ki va re go n cl (dg1 th ki va re go n cl to co ke la)) t) (tgV th ki va re go n cl (nI t) (nI 0) (nI 0))) (tgV th ki va re go n cl (nI t) (nI 2) (nI 1))) 0)), (0, .ref (a 0)), (3, .int (nI t))]) hx hb dX6_digest_140 hl (by decide) rfl (fun ls hl => ?_)
                    have L142 : ∀ (d j : Nat), 0 ≤ j → j + d = 3 → ∀ (H : Heap) (locs : List Loc), WW D A s.heap (wM cI cZ a la n cl go fo si it mo th ki va re to co ke (dgF th ki va re n cl to co ke fw 8)) H locs → ∀ (ls : Array Slot), lv_has ls 5 [(0, .ref (a 0)), (1, .long (hf (fun j => oI (tgB th ki va re go n t cl j)) (hs (hs (hg (fun t y => hf (fun j => oI (tgB th ki va re go n t cl j)) (hs (hs y (tgV th ki va re go n cl (nI t) (nI 0) (nI 0))) (tgV th ki va re go n cl (nI t) (nI 2) (nI 1))) 3) (dg2 th ki va re go n cl (dg1 th ki va re go n cl to co ke la)) t) (tgV th ki va re go n cl (nI t) (nI 0) (nI 0))) (tgV th ki va re go n cl (nI t) (nI 2) (nI 1))) j)), (3, .int (nI t)), (4, .int (nI j))] → W p l e (RM 10) s m args below meth c H locs 0 0 Q (F0 m 142 ls []) := by
                      intro d
                      induction d with
                      | zero =>
                        intro j hlo142 hhi142 H locs w ls hl
                        refine lv_iload hx hb dX6_digest_142 (lv_at hl 3 rfl) ?_
                        refine lv_iconst (v := (nI 3)) hx hb dX6_digest_144 (by decide) ?_
                        refine c_ge G (tgt := 173) (by omega) (by omega) dX6_digest_145 (by decide) (fun c145 => ?_) (fun c145 => ?_)
                        · -- taken at 145
                          have hl := lv_re (l' := [(0, .ref (a 0)), (1, .long (hg (fun t y => hf (fun j => oI (tgB th ki va re go n t cl j)) (hs (hs y (tgV th ki va re go n cl (nI t) (nI 0) (nI 0))) (tgV th ki va re go n cl (nI t) (nI 2) (nI 1))) 3) (dg2 th ki va re go n cl (dg1 th ki va re go n cl to co ke la)) (t + 1))), (3, .int (nI t)), (4, .int (nI j))]) hl (by rw [show (hf (fun j => oI (tgB th ki va re go n t cl j)) (hs (hs (hg (fun t y => hf (fun j => oI (tgB th ki va re go n t cl j)) (hs (hs y (tgV th ki va re go n cl (nI t) (nI 0) (nI 0))) (tgV th ki va re go n cl (nI t) (nI 2) (nI 1))) 3) (dg2 th ki va re go n cl (dg1 th ki va re go n cl to co ke la)) t) (tgV th ki va re go n cl (nI t) (nI 0) (nI 0))) (tgV th ki va re go n cl (nI t) (nI 2) (nI 1))) j) = (hg (fun t y => hf (fun j => oI (tgB th ki va re go n t cl j)) (hs (hs y (tgV th ki va re go n cl (nI t) (nI 0) (nI 0))) (tgV th ki va re go n cl (nI t) (nI 2) (nI 1))) 3) (dg2 th ki va re go n cl (dg1 th ki va re go n cl to co ke la)) (t + 1)) from (by rw [show j = 3 by omega]; rfl)])
                          refine lv_iinc (v := (nI (t + 1))) (lv' := [(3, .int (nI (t + 1))), (0, .ref (a 0)), (1, .long (hg (fun t y => hf (fun j => oI (tgB th ki va re go n t cl j)) (hs (hs y (tgV th ki va re go n cl (nI t) (nI 0) (nI 0))) (tgV th ki va re go n cl (nI t) (nI 2) (nI 1))) 3) (dg2 th ki va re go n cl (dg1 th ki va re go n cl to co ke la)) (t + 1))), (4, .int (nI j))]) hx hb dX6_digest_173 hl (k := 2) rfl (nI_inc _ 1) (by decide) rfl (fun ls hl => ?_)
                          refine lv_goto (tgt := 103) hx hb dX6_digest_176 (by decide) ?_
                          -- slot 1: have l:hg (fun t y => hf (fun j => oI (tgB th ki va re go n t cl j)) (hs (hs y (tgV th ki va re go n cl (nI t) (nI 0) (nI 0))) (tgV th ki va re go n cl (nI t) (nI 2) (nI 1))) 3) (dg2 th ki va re go n cl (dg1 th ki va re go n cl to co ke la)) (t + 1), want l:hg (fun (t + 1) y => hf (fun j => oI (tgB th ki va re go n (t + 1) cl j)) (hs (hs y (tgV th ki va re go n cl (nI (t + 1)) (nI 0) (nI 0))) (tgV th ki va re go n cl (nI (t + 1)) (nI 2) (nI 1))) 3) (dg2 th ki va re go n cl (dg1 th ki va re go n cl to co ke la)) (t + 1)
                          -- slot 3: have n:t + 1, want n:(t + 1)
                          exact ih (t + 1) (by omega) (by omega) H locs w ls (lv_sub hl [1, 2, 0] rfl)
                        · -- not taken at 145
                          exact absurd c145 (by omega)
                      | succ d ih =>
                        intro j hlo142 hhi142 H locs w ls hl
                        refine lv_iload hx hb dX6_digest_142 (lv_at hl 3 rfl) ?_
                        refine lv_iconst (v := (nI 3)) hx hb dX6_digest_144 (by decide) ?_
                        refine c_ge G (tgt := 173) (by omega) (by omega) dX6_digest_145 (by decide) (fun c145 => ?_) (fun c145 => ?_)
                        · -- taken at 145
                          exact absurd c145 (by omega)
                        · -- not taken at 145
                          refine lv_ldc2 hx hb hown (hts _ kl_X6_251) dX6_digest_148 ?_
                          refine t_l (y := (31 : Int32).toInt64) (by decide) ?_
                          refine lv_lload_n hx hb dX6_digest_151 rfl (lv_at hl 1 rfl) ?_
                          refine lv_lmul hx hb dX6_digest_152 ?_
                          refine lv_aload_n hx hb dX6_digest_153 rfl (lv_at hl 0 rfl) ?_
                          refine lv_iload_n hx hb dX6_digest_154 rfl (lv_at hl 2 rfl) ?_
                          refine lv_aload_n hx hb dX6_digest_155 rfl (lv_at hl 0 rfl) ?_
                          refine f_get G K w.1 inX6 0 (ci := 6) rfl rfl 13 rfl fl_X6_92 (v := .int (nI cl)) rfl dX6_digest_156 ?_
                          refine lv_iload hx hb dX6_digest_159 (lv_at hl 3 rfl) ?_
                          refine callPV (As := [.int (nI t), .int (nI cl), .int (nI j)]) (rest := [.long ((31 : Int32).toInt64 * (hf (fun j => oI (tgB th ki va re go n t cl j)) (hs (hs (hg (fun t y => hf (fun j => oI (tgB th ki va re go n t cl j)) (hs (hs y (tgV th ki va re go n cl (nI t) (nI 0) (nI 0))) (tgV th ki va re go n cl (nI t) (nI 2) (nI 1))) 3) (dg2 th ki va re go n cl (dg1 th ki va re go n cl to co ke la)) t) (tgV th ki va re go n cl (nI t) (nI 0) (nI 0))) (tgV th ki va re go n cl (nI t) (nI 2) (nI 1))) j))]) (q0 := 0) (ci := 6) G K F_X6_thingBy (c_X6_thingBy a la n cl go fo si it mo th ki va re to co ke (dgF th ki va re n cl to co ke fw 8) t cl j (IM_fw I (dgF_le th ki va re n cl to co ke hfw 8)) (by omega) (by omega) (by omega)) w.1 ml_X6_158 rfl rfl rfl (by decide) (by decide) rfl hl.1 (Nat.le_of_ble_eq_true rfl) dX6_digest_161 ?_
                          refine lv_i2l (v := (oI (tgB th ki va re go n t cl j)).toInt64) hx hb dX6_digest_164 rfl ?_
                          refine lv_ladd hx hb dX6_digest_165 ?_
                          refine t_l (y := (hf (fun j => oI (tgB th ki va re go n t cl j)) (hs (hs (hg (fun t y => hf (fun j => oI (tgB th ki va re go n t cl j)) (hs (hs y (tgV th ki va re go n cl (nI t) (nI 0) (nI 0))) (tgV th ki va re go n cl (nI t) (nI 2) (nI 1))) 3) (dg2 th ki va re go n cl (dg1 th ki va re go n cl to co ke la)) t) (tgV th ki va re go n cl (nI t) (nI 0) (nI 0))) (tgV th ki va re go n cl (nI t) (nI 2) (nI 1))) (j + 1))) rfl ?_
                          refine lv_lstore_n (lv' := [(1, .long (hf (fun j => oI (tgB th ki va re go n t cl j)) (hs (hs (hg (fun t y => hf (fun j => oI (tgB th ki va re go n t cl j)) (hs (hs y (tgV th ki va re go n cl (nI t) (nI 0) (nI 0))) (tgV th ki va re go n cl (nI t) (nI 2) (nI 1))) 3) (dg2 th ki va re go n cl (dg1 th ki va re go n cl to co ke la)) t) (tgV th ki va re go n cl (nI t) (nI 0) (nI 0))) (tgV th ki va re go n cl (nI t) (nI 2) (nI 1))) (j + 1))), (0, .ref (a 0)), (3, .int (nI t)), (4, .int (nI j))]) hx hb dX6_digest_166 rfl hl (by decide) rfl (fun ls hl => ?_)
                          refine lv_iinc (v := (nI (j + 1))) (lv' := [(4, .int (nI (j + 1))), (1, .long (hf (fun j => oI (tgB th ki va re go n t cl j)) (hs (hs (hg (fun t y => hf (fun j => oI (tgB th ki va re go n t cl j)) (hs (hs y (tgV th ki va re go n cl (nI t) (nI 0) (nI 0))) (tgV th ki va re go n cl (nI t) (nI 2) (nI 1))) 3) (dg2 th ki va re go n cl (dg1 th ki va re go n cl to co ke la)) t) (tgV th ki va re go n cl (nI t) (nI 0) (nI 0))) (tgV th ki va re go n cl (nI t) (nI 2) (nI 1))) (j + 1))), (0, .ref (a 0)), (3, .int (nI t))]) hx hb dX6_digest_167 hl (k := 3) rfl (nI_inc _ 1) (by decide) rfl (fun ls hl => ?_)
                          refine lv_goto (tgt := 142) hx hb dX6_digest_170 (by decide) ?_
                          -- slot 1: have l:hf (fun j => oI (tgB th ki va re go n t cl j)) (hs (hs (hg (fun t y => hf (fun j => oI (tgB th ki va re go n t cl j)) (hs (hs y (tgV th ki va re go n cl (nI t) (nI 0) (nI 0))) (tgV th ki va re go n cl (nI t) (nI 2) (nI 1))) 3) (dg2 th ki va re go n cl (dg1 th ki va re go n cl to co ke la)) t) (tgV th ki va re go n cl (nI t) (nI 0) (nI 0))) (tgV th ki va re go n cl (nI t) (nI 2) (nI 1))) (j + 1), want l:hf (fun (j + 1) => oI (tgB th ki va re go n t cl (j + 1))) (hs (hs (hg (fun t y => hf (fun (j + 1) => oI (tgB th ki va re go n t cl (j + 1))) (hs (hs y (tgV th ki va re go n cl (nI t) (nI 0) (nI 0))) (tgV th ki va re go n cl (nI t) (nI 2) (nI 1))) 3) (dg2 th ki va re go n cl (dg1 th ki va re go n cl to co ke la)) t) (tgV th ki va re go n cl (nI t) (nI 0) (nI 0))) (tgV th ki va re go n cl (nI t) (nI 2) (nI 1))) (j + 1)
                          -- slot 4: have n:j + 1, want n:(j + 1)
                          exact ih (j + 1) (by omega) (by omega) H locs w ls (lv_sub hl [2, 1, 3, 0] rfl)
                    exact L142 (3 - 0) (0) (Nat.le_refl _) (by omega) H locs w ls (lv_sub hl [2, 1, 3, 0] rfl)
              exact L103 (16 - 0) (0) (Nat.le_refl _) (by omega) H locs w ls (lv_sub hl [1, 2, 0] rfl)
            · -- not taken at 36
              exact absurd c36 (by omega)
          | succ d ih =>
            intro r hlo33 hhi33 H locs w ls hl
            refine lv_iload_n hx hb dX6_digest_33 rfl (lv_at hl 2 rfl) ?_
            refine lv_bipush (v := (nI 8)) hx hb dX6_digest_34 (by decide) ?_
            refine c_ge G (tgt := 101) (by omega) (by omega) dX6_digest_36 (by decide) (fun c36 => ?_) (fun c36 => ?_)
            · -- taken at 36
              exact absurd c36 (by omega)
            · -- not taken at 36
              refine lv_iconst (v := (nI 0)) hx hb dX6_digest_39 (by decide) ?_
              refine lv_istore (lv' := [(4, .int (nI 0)), (0, .ref (a 0)), (1, .long (hg (fun r y => hs (hs (hf (fun j => rvV re n cl (nI r) (nI j)) y 4) (shV th ki va re go n cl (nI r))) (alV ki va re n cl (nI r))) (dg1 th ki va re go n cl to co ke la) r)), (3, .int (nI r))]) hx hb dX6_digest_40 hl (by decide) rfl (fun ls hl => ?_)
              have L42 : ∀ (d j : Nat), 0 ≤ j → j + d = 4 → ∀ (H : Heap) (locs : List Loc), WW D A s.heap (wM cI cZ a la n cl go fo si it mo th ki va re to co ke (dgF th ki va re n cl to co ke fw 8)) H locs → ∀ (ls : Array Slot), lv_has ls 5 [(0, .ref (a 0)), (1, .long (hf (fun j => rvV re n cl (nI r) (nI j)) (hg (fun r y => hs (hs (hf (fun j => rvV re n cl (nI r) (nI j)) y 4) (shV th ki va re go n cl (nI r))) (alV ki va re n cl (nI r))) (dg1 th ki va re go n cl to co ke la) r) j)), (3, .int (nI r)), (4, .int (nI j))] → W p l e (RM 10) s m args below meth c H locs 0 0 Q (F0 m 42 ls []) := by
                intro d
                induction d with
                | zero =>
                  intro j hlo42 hhi42 H locs w ls hl
                  refine lv_iload hx hb dX6_digest_42 (lv_at hl 3 rfl) ?_
                  refine lv_iconst (v := (nI 4)) hx hb dX6_digest_44 (by decide) ?_
                  refine c_ge G (tgt := 69) (by omega) (by omega) dX6_digest_45 (by decide) (fun c45 => ?_) (fun c45 => ?_)
                  · -- taken at 45
                    have hl := lv_re (l' := [(0, .ref (a 0)), (1, .long (hf (fun j => rvV re n cl (nI r) (nI j)) (hg (fun r y => hs (hs (hf (fun j => rvV re n cl (nI r) (nI j)) y 4) (shV th ki va re go n cl (nI r))) (alV ki va re n cl (nI r))) (dg1 th ki va re go n cl to co ke la) r) 4)), (3, .int (nI r)), (4, .int (nI j))]) hl (by rw [show (hf (fun j => rvV re n cl (nI r) (nI j)) (hg (fun r y => hs (hs (hf (fun j => rvV re n cl (nI r) (nI j)) y 4) (shV th ki va re go n cl (nI r))) (alV ki va re n cl (nI r))) (dg1 th ki va re go n cl to co ke la) r) j) = (hf (fun j => rvV re n cl (nI r) (nI j)) (hg (fun r y => hs (hs (hf (fun j => rvV re n cl (nI r) (nI j)) y 4) (shV th ki va re go n cl (nI r))) (alV ki va re n cl (nI r))) (dg1 th ki va re go n cl to co ke la) r) 4) from (by rw [show j = 4 by omega])])
                    refine lv_ldc2 hx hb hown (hts _ kl_X6_251) dX6_digest_69 ?_
                    refine t_l (y := (31 : Int32).toInt64) (by decide) ?_
                    refine lv_lload_n hx hb dX6_digest_72 rfl (lv_at hl 1 rfl) ?_
                    refine lv_lmul hx hb dX6_digest_73 ?_
                    refine lv_aload_n hx hb dX6_digest_74 rfl (lv_at hl 0 rfl) ?_
                    refine lv_iload_n hx hb dX6_digest_75 rfl (lv_at hl 2 rfl) ?_
                    refine callPV (As := [.int (nI r)]) (rest := [.long ((31 : Int32).toInt64 * (hf (fun j => rvV re n cl (nI r) (nI j)) (hg (fun r y => hs (hs (hf (fun j => rvV re n cl (nI r) (nI j)) y 4) (shV th ki va re go n cl (nI r))) (alV ki va re n cl (nI r))) (dg1 th ki va re go n cl to co ke la) r) 4))]) (q0 := 0) (ci := 6) G K F_X6_shadows (c_X6_shadows a la n cl go fo si it mo th ki va re to co ke (dgF th ki va re n cl to co ke fw 8) (nI r) (IM_fw I (dgF_le th ki va re n cl to co ke hfw 8))) w.1 ml_X6_275 rfl rfl rfl (by decide) (by decide) rfl hl.1 (Nat.le_of_ble_eq_true rfl) dX6_digest_76 ?_
                    refine lv_i2l (v := (shV th ki va re go n cl (nI r)).toInt64) hx hb dX6_digest_79 rfl ?_
                    refine lv_ladd hx hb dX6_digest_80 ?_
                    refine lv_lstore_n (lv' := [(1, .long (((31 : Int32).toInt64 * (hf (fun j => rvV re n cl (nI r) (nI j)) (hg (fun r y => hs (hs (hf (fun j => rvV re n cl (nI r) (nI j)) y 4) (shV th ki va re go n cl (nI r))) (alV ki va re n cl (nI r))) (dg1 th ki va re go n cl to co ke la) r) 4)) + (shV th ki va re go n cl (nI r)).toInt64)), (0, .ref (a 0)), (3, .int (nI r)), (4, .int (nI j))]) hx hb dX6_digest_81 rfl hl (by decide) rfl (fun ls hl => ?_)
                    refine lv_ldc2 hx hb hown (hts _ kl_X6_251) dX6_digest_82 ?_
                    refine t_l (y := (31 : Int32).toInt64) (by decide) ?_
                    refine lv_lload_n hx hb dX6_digest_85 rfl (lv_at hl 0 rfl) ?_
                    refine lv_lmul hx hb dX6_digest_86 ?_
                    refine lv_aload_n hx hb dX6_digest_87 rfl (lv_at hl 1 rfl) ?_
                    refine lv_iload_n hx hb dX6_digest_88 rfl (lv_at hl 2 rfl) ?_
                    refine callPV (As := [.int (nI r)]) (rest := [.long ((31 : Int32).toInt64 * (((31 : Int32).toInt64 * (hf (fun j => rvV re n cl (nI r) (nI j)) (hg (fun r y => hs (hs (hf (fun j => rvV re n cl (nI r) (nI j)) y 4) (shV th ki va re go n cl (nI r))) (alV ki va re n cl (nI r))) (dg1 th ki va re go n cl to co ke la) r) 4)) + (shV th ki va re go n cl (nI r)).toInt64))]) (q0 := 0) (ci := 6) G K F_X6_allowed (c_X6_allowed a la n cl go fo si it mo th ki va re to co ke (dgF th ki va re n cl to co ke fw 8) (nI r) (IM_fw I (dgF_le th ki va re n cl to co ke hfw 8))) w.1 ml_X6_278 rfl rfl rfl (by decide) (by decide) rfl hl.1 (Nat.le_of_ble_eq_true rfl) dX6_digest_89 ?_
                    refine lv_i2l (v := (alV ki va re n cl (nI r)).toInt64) hx hb dX6_digest_92 rfl ?_
                    refine lv_ladd hx hb dX6_digest_93 ?_
                    refine t_l (y := (hg (fun r y => hs (hs (hf (fun j => rvV re n cl (nI r) (nI j)) y 4) (shV th ki va re go n cl (nI r))) (alV ki va re n cl (nI r))) (dg1 th ki va re go n cl to co ke la) (r + 1))) rfl ?_
                    refine lv_lstore_n (lv' := [(1, .long (hg (fun r y => hs (hs (hf (fun j => rvV re n cl (nI r) (nI j)) y 4) (shV th ki va re go n cl (nI r))) (alV ki va re n cl (nI r))) (dg1 th ki va re go n cl to co ke la) (r + 1))), (0, .ref (a 0)), (3, .int (nI r)), (4, .int (nI j))]) hx hb dX6_digest_94 rfl hl (by decide) rfl (fun ls hl => ?_)
                    refine lv_iinc (v := (nI (r + 1))) (lv' := [(3, .int (nI (r + 1))), (1, .long (hg (fun r y => hs (hs (hf (fun j => rvV re n cl (nI r) (nI j)) y 4) (shV th ki va re go n cl (nI r))) (alV ki va re n cl (nI r))) (dg1 th ki va re go n cl to co ke la) (r + 1))), (0, .ref (a 0)), (4, .int (nI j))]) hx hb dX6_digest_95 hl (k := 2) rfl (nI_inc _ 1) (by decide) rfl (fun ls hl => ?_)
                    refine lv_goto (tgt := 33) hx hb dX6_digest_98 (by decide) ?_
                    -- slot 1: have l:hg (fun r y => hs (hs (hf (fun j => rvV re n cl (nI r) (nI j)) y 4) (shV th ki va re go n cl (nI r))) (alV ki va re n cl (nI r))) (dg1 th ki va re go n cl to co ke la) (r + 1), want l:hg (fun (r + 1) y => hs (hs (hf (fun j => rvV re n cl (nI (r + 1)) (nI j)) y 4) (shV th ki va re go n cl (nI (r + 1)))) (alV ki va re n cl (nI (r + 1)))) (dg1 th ki va re go n cl to co ke la) (r + 1)
                    -- slot 3: have n:r + 1, want n:(r + 1)
                    exact ih (r + 1) (by omega) (by omega) H locs w ls (lv_sub hl [2, 1, 0] rfl)
                  · -- not taken at 45
                    exact absurd c45 (by omega)
                | succ d ih =>
                  intro j hlo42 hhi42 H locs w ls hl
                  refine lv_iload hx hb dX6_digest_42 (lv_at hl 3 rfl) ?_
                  refine lv_iconst (v := (nI 4)) hx hb dX6_digest_44 (by decide) ?_
                  refine c_ge G (tgt := 69) (by omega) (by omega) dX6_digest_45 (by decide) (fun c45 => ?_) (fun c45 => ?_)
                  · -- taken at 45
                    exact absurd c45 (by omega)
                  · -- not taken at 45
                    refine lv_ldc2 hx hb hown (hts _ kl_X6_251) dX6_digest_48 ?_
                    refine t_l (y := (31 : Int32).toInt64) (by decide) ?_
                    refine lv_lload_n hx hb dX6_digest_51 rfl (lv_at hl 1 rfl) ?_
                    refine lv_lmul hx hb dX6_digest_52 ?_
                    refine lv_aload_n hx hb dX6_digest_53 rfl (lv_at hl 0 rfl) ?_
                    refine lv_iload_n hx hb dX6_digest_54 rfl (lv_at hl 2 rfl) ?_
                    refine lv_iload hx hb dX6_digest_55 (lv_at hl 3 rfl) ?_
                    refine callPV (As := [.int (nI r), .int (nI j)]) (rest := [.long ((31 : Int32).toInt64 * (hf (fun j => rvV re n cl (nI r) (nI j)) (hg (fun r y => hs (hs (hf (fun j => rvV re n cl (nI r) (nI j)) y 4) (shV th ki va re go n cl (nI r))) (alV ki va re n cl (nI r))) (dg1 th ki va re go n cl to co ke la) r) j))]) (q0 := 0) (ci := 6) G K F_X6_revision (c_X6_revision a la n cl go fo si it mo th ki va re to co ke (dgF th ki va re n cl to co ke fw 8) (nI r) (nI j) (IM_fw I (dgF_le th ki va re n cl to co ke hfw 8))) w.1 ml_X6_273 rfl rfl rfl (by decide) (by decide) rfl hl.1 (Nat.le_of_ble_eq_true rfl) dX6_digest_57 ?_
                    refine lv_i2l (v := (rvV re n cl (nI r) (nI j)).toInt64) hx hb dX6_digest_60 rfl ?_
                    refine lv_ladd hx hb dX6_digest_61 ?_
                    refine t_l (y := (hf (fun j => rvV re n cl (nI r) (nI j)) (hg (fun r y => hs (hs (hf (fun j => rvV re n cl (nI r) (nI j)) y 4) (shV th ki va re go n cl (nI r))) (alV ki va re n cl (nI r))) (dg1 th ki va re go n cl to co ke la) r) (j + 1))) rfl ?_
                    refine lv_lstore_n (lv' := [(1, .long (hf (fun j => rvV re n cl (nI r) (nI j)) (hg (fun r y => hs (hs (hf (fun j => rvV re n cl (nI r) (nI j)) y 4) (shV th ki va re go n cl (nI r))) (alV ki va re n cl (nI r))) (dg1 th ki va re go n cl to co ke la) r) (j + 1))), (0, .ref (a 0)), (3, .int (nI r)), (4, .int (nI j))]) hx hb dX6_digest_62 rfl hl (by decide) rfl (fun ls hl => ?_)
                    refine lv_iinc (v := (nI (j + 1))) (lv' := [(4, .int (nI (j + 1))), (1, .long (hf (fun j => rvV re n cl (nI r) (nI j)) (hg (fun r y => hs (hs (hf (fun j => rvV re n cl (nI r) (nI j)) y 4) (shV th ki va re go n cl (nI r))) (alV ki va re n cl (nI r))) (dg1 th ki va re go n cl to co ke la) r) (j + 1))), (0, .ref (a 0)), (3, .int (nI r))]) hx hb dX6_digest_63 hl (k := 3) rfl (nI_inc _ 1) (by decide) rfl (fun ls hl => ?_)
                    refine lv_goto (tgt := 42) hx hb dX6_digest_66 (by decide) ?_
                    -- slot 1: have l:hf (fun j => rvV re n cl (nI r) (nI j)) (hg (fun r y => hs (hs (hf (fun j => rvV re n cl (nI r) (nI j)) y 4) (shV th ki va re go n cl (nI r))) (alV ki va re n cl (nI r))) (dg1 th ki va re go n cl to co ke la) r) (j + 1), want l:hf (fun (j + 1) => rvV re n cl (nI r) (nI (j + 1))) (hg (fun r y => hs (hs (hf (fun (j + 1) => rvV re n cl (nI r) (nI (j + 1))) y 4) (shV th ki va re go n cl (nI r))) (alV ki va re n cl (nI r))) (dg1 th ki va re go n cl to co ke la) r) (j + 1)
                    -- slot 4: have n:j + 1, want n:(j + 1)
                    exact ih (j + 1) (by omega) (by omega) H locs w ls (lv_sub hl [2, 1, 3, 0] rfl)
              exact L42 (4 - 0) (0) (Nat.le_refl _) (by omega) H locs w ls (lv_sub hl [1, 2, 3, 0] rfl)
        exact L33 (8 - 0) (0) (Nat.le_refl _) (by omega) H locs w ls (lv_sub hl [1, 2, 0] rfl)
      · -- not taken at 9
        exact absurd c9 (by omega)
    | succ d ih =>
      intro k hlo6 hhi6 H locs w ls hl
      refine lv_iload_n hx hb dX6_digest_6 rfl (lv_at hl 2 rfl) ?_
      refine lv_bipush (v := (nI 8)) hx hb dX6_digest_7 (by decide) ?_
      refine c_ge G (tgt := 31) (by omega) (by omega) dX6_digest_9 (by decide) (fun c9 => ?_) (fun c9 => ?_)
      · -- taken at 9
        exact absurd c9 (by omega)
      · -- not taken at 9
        refine lv_ldc2 hx hb hown (hts _ kl_X6_251) dX6_digest_12 ?_
        refine t_l (y := (31 : Int32).toInt64) (by decide) ?_
        refine lv_lload_n hx hb dX6_digest_15 rfl (lv_at hl 1 rfl) ?_
        refine lv_lmul hx hb dX6_digest_16 ?_
        refine lv_aload_n hx hb dX6_digest_17 rfl (lv_at hl 0 rfl) ?_
        refine lv_iload_n hx hb dX6_digest_18 rfl (lv_at hl 2 rfl) ?_
        refine callMF (As := [.int (nI k)]) (rest := [.long ((31 : Int32).toInt64 * (hf (cnN th ki va re go n cl to co ke la) (17 : Int32).toInt64 k))]) (q0 := 0) (ci := 6) (ws' := (wM cI cZ a la n cl go fo si it mo th ki va re to co ke (cif (k = 4) (lkA th ki va re n cl to co ke (dgF th ki va re n cl to co ke fw k)) (dgF th ki va re n cl to co ke fw k)))) G K hA w F_X6_count (c_X6_count_ok a la n cl go fo si it mo th ki va re to co ke (dgF th ki va re n cl to co ke fw k) k (IM_fw I (dgF_le th ki va re n cl to co ke hfw k)) (by omega)) ml_X6_270 rfl rfl rfl (by decide) (by decide) rfl hl.1 (Nat.le_of_ble_eq_true rfl) dX6_digest_19 (fun Hp7 lo8 w => ?_)
        refine lv_i2l (v := (cnN th ki va re go n cl to co ke la k).toInt64) hx hb dX6_digest_22 rfl ?_
        refine lv_ladd hx hb dX6_digest_23 ?_
        refine t_l (y := (hf (cnN th ki va re go n cl to co ke la) (17 : Int32).toInt64 (k + 1))) rfl ?_
        refine lv_lstore_n (lv' := [(1, .long (hf (cnN th ki va re go n cl to co ke la) (17 : Int32).toInt64 (k + 1))), (0, .ref (a 0)), (3, .int (nI k))]) hx hb dX6_digest_24 rfl hl (by decide) rfl (fun ls hl => ?_)
        have w : WW D A s.heap (wM cI cZ a la n cl go fo si it mo th ki va re to co ke (dgF th ki va re n cl to co ke fw (k + 1))) Hp7 lo8 := by
          exact w
        refine lv_iinc (v := (nI (k + 1))) (lv' := [(3, .int (nI (k + 1))), (1, .long (hf (cnN th ki va re go n cl to co ke la) (17 : Int32).toInt64 (k + 1))), (0, .ref (a 0))]) hx hb dX6_digest_25 hl (k := 2) rfl (nI_inc _ 1) (by decide) rfl (fun ls hl => ?_)
        refine lv_goto (tgt := 6) hx hb dX6_digest_28 (by decide) ?_
        -- slot 3: have n:k + 1, want n:(k + 1)
        exact ih (k + 1) (by omega) (by omega) Hp7 lo8 w ls (lv_sub hl [2, 1, 0] rfl)
  exact L6 (8 - 0) (0) (Nat.le_refl _) (by omega) s.heap [] w ls (lv_sub hl [2, 1, 0] rfl)

end
