section
variable {l : Launch} {D : va_G} {cI cZ cS : ClassId}

set_option maxHeartbeats 4000000 in
set_option maxRecDepth 100000 in
theorem c_X6_byteAt (a : Nat → Nat) (la : Int32) (n : Nat) (cl : Nat) (go : Option Nat) (fo : Nat → Int32) (si : Nat → Nat) (it : Nat → Int32) (mo : Nat → Int32) (th : Nat → Nat) (ki : Nat → Nat) (va : Nat → Nat) (re : Nat → Nat) (to : Nat → Prop) (co : Nat → Nat) (ke : Nat → Int32) (fw : Nat → Nat) (i : Nat) (I : IM n cl go th ki va re si co fw) (hi9 : i < 2 ^ 31) : CP l D (TY cI cZ cS) yX6_byteAt cX6_byteAt 5 .int 2 [.ref (a 0), .int (nI i)] (wM cI cZ a la n cl go fo si it mo th ki va re to co ke fw) (.int (oI (byteA th ki va re n cl i))) := by
  refine CP.ofI (by decide +kernel) (Nat.le_of_ble_eq_true rfl) (nar_int _) ?_
  intro p e s m args below meth c Q G K hP hret ls hl
  obtain ⟨hx, hb, hml, hown, hts⟩ := id G
  obtain ⟨hn, hcl, hgo, hth, hki, hva, hre, hsi, hco, hfw⟩ := id I
  have hl : lv_has ls 5 [(0, .ref (a 0)), (1, .int (nI i))] := hl
  refine lv_iconst (v := (nI 0)) hx hb dX6_byteAt_0 (by decide) ?_
  refine lv_istore_n (lv' := [(2, .int (nI 0)), (0, .ref (a 0)), (1, .int (nI i))]) hx hb dX6_byteAt_1 rfl hl (by decide) rfl (fun ls hl => ?_)
  have L2 : ∀ (d r : Nat), 0 ≤ r → r + d = cl + 1 → (byteF th ki va re n cl i d r = byteA th ki va re n cl i) → ∀ (ls : Array Slot), lv_has ls 5 [(0, .ref (a 0)), (1, .int (nI i)), (2, .int (nI r))] → W p l e (RM 2) s m args below meth c s.heap [] 0 0 Q (F0 m 2 ls []) := by
    intro d
    induction d with
    | zero =>
      intro r hlo2 hhi2 hB ls hl
      refine lv_iload_n hx hb dX6_byteAt_2 rfl (lv_at hl 2 rfl) ?_
      refine lv_aload_n hx hb dX6_byteAt_3 rfl (lv_at hl 0 rfl) ?_
      refine f_get G K hP inX6 0 (ci := 6) rfl rfl 13 rfl fl_X6_92 (v := .int (nI cl)) rfl dX6_byteAt_4 ?_
      refine c_gt G (tgt := 99) (by omega) (by omega) dX6_byteAt_7 (by decide) (fun c7 => ?_) (fun c7 => ?_)
      · -- taken at 7
        refine lv_iconst (v := (-1)) hx hb dX6_byteAt_99 (by decide) ?_
        exact hret _ _ _ (by rw [← hB]; rfl) dX6_byteAt_100
      · -- not taken at 7
        exact absurd c7 (by omega)
    | succ d ih =>
      intro r hlo2 hhi2 hB ls hl
      refine lv_iload_n hx hb dX6_byteAt_2 rfl (lv_at hl 2 rfl) ?_
      refine lv_aload_n hx hb dX6_byteAt_3 rfl (lv_at hl 0 rfl) ?_
      refine f_get G K hP inX6 0 (ci := 6) rfl rfl 13 rfl fl_X6_92 (v := .int (nI cl)) rfl dX6_byteAt_4 ?_
      refine c_gt G (tgt := 99) (by omega) (by omega) dX6_byteAt_7 (by decide) (fun c7 => ?_) (fun c7 => ?_)
      · -- taken at 7
        exact absurd c7 (by omega)
      · -- not taken at 7
        refine lv_aload_n hx hb dX6_byteAt_10 rfl (lv_at hl 0 rfl) ?_
        refine lv_iload_n hx hb dX6_byteAt_11 rfl (lv_at hl 2 rfl) ?_
        refine callPV (As := [.int (nI r)]) (rest := []) (q0 := 0) (ci := 6) G K F_X6_beginOf (c_X6_beginOf a la n cl go fo si it mo th ki va re to co ke fw r I (by omega)) hP ml_X6_122 rfl rfl rfl (by decide) (by decide) rfl hl.1 (Nat.le_of_ble_eq_true rfl) dX6_byteAt_12 ?_
        have hf1 := cnt_le re r n
        have hf2 := begB_eq re n r
        refine lv_istore_n (lv' := [(3, .int (nI (begB re n r))), (0, .ref (a 0)), (1, .int (nI i)), (2, .int (nI r))]) hx hb dX6_byteAt_15 rfl hl (by decide) rfl (fun ls hl => ?_)
        refine lv_iload_n hx hb dX6_byteAt_16 rfl (lv_at hl 0 rfl) ?_
        refine lv_iconst (v := (nI 5)) hx hb dX6_byteAt_17 (by decide) ?_
        refine lv_aload_n hx hb dX6_byteAt_18 rfl (lv_at hl 1 rfl) ?_
        refine lv_iload_n hx hb dX6_byteAt_19 rfl (lv_at hl 3 rfl) ?_
        refine callPV (As := [.int (nI r)]) (rest := [.int (nI 5), .int (nI (begB re n r))]) (q0 := 0) (ci := 6) G K F_X6_manyOf (c_X6_manyOf a la n cl go fo si it mo th ki va re to co ke fw r I (by omega)) hP ml_X6_95 rfl rfl rfl (by decide) (by decide) rfl hl.1 (Nat.le_of_ble_eq_true rfl) dX6_byteAt_20 ?_
        have hf3 := cnt_le re r n
        refine t_mul G dX6_byteAt_23 ?_
        refine t_add G dX6_byteAt_24 ?_
        refine lv_istore (lv' := [(4, .int (nI (begB re n r + 5 * (cntEq re r n)))), (3, .int (nI (begB re n r))), (0, .ref (a 0)), (1, .int (nI i)), (2, .int (nI r))]) hx hb dX6_byteAt_25 hl (by decide) rfl (fun ls hl => ?_)
        refine lv_iload_n hx hb dX6_byteAt_27 rfl (lv_at hl 3 rfl) ?_
        refine lv_iload_n hx hb dX6_byteAt_28 rfl (lv_at hl 1 rfl) ?_
        refine c_lt G (tgt := 59) (by omega) (by omega) dX6_byteAt_29 (by decide) (fun c29 => ?_) (fun c29 => ?_)
        · -- taken at 29
          refine lv_iload_n hx hb dX6_byteAt_59 rfl (lv_at hl 4 rfl) ?_
          refine lv_aload_n hx hb dX6_byteAt_60 rfl (lv_at hl 2 rfl) ?_
          refine f_get G K hP inX6 0 (ci := 6) rfl rfl 13 rfl fl_X6_92 (v := .int (nI cl)) rfl dX6_byteAt_61 ?_
          refine c_ge G (tgt := 93) (by omega) (by omega) dX6_byteAt_64 (by decide) (fun c64 => ?_) (fun c64 => ?_)
          · -- taken at 64
            refine lv_iinc (v := (nI (r + 1))) (lv' := [(2, .int (nI (r + 1))), (4, .int (nI (begB re n r + 5 * (cntEq re r n)))), (3, .int (nI (begB re n r))), (0, .ref (a 0)), (1, .int (nI i))]) hx hb dX6_byteAt_93 hl (k := 4) rfl (nI_inc _ 1) (by decide) rfl (fun ls hl => ?_)
            refine lv_goto (tgt := 2) hx hb dX6_byteAt_96 (by decide) ?_
            -- slot 2: have n:r + 1, want n:(r + 1)
            exact ih (r + 1) (by omega) (by omega) (by rw [← hB]; exact (byteF_c (by omega) (by omega)).symm) ls (lv_sub hl [3, 4, 0] rfl)
          · -- not taken at 64
            refine lv_iload_n hx hb dX6_byteAt_67 rfl (lv_at hl 3 rfl) ?_
            refine lv_iload hx hb dX6_byteAt_68 (lv_at hl 0 rfl) ?_
            refine c_lt G (tgt := 93) (by omega) (by omega) dX6_byteAt_70 (by decide) (fun c70 => ?_) (fun c70 => ?_)
            · -- taken at 70
              refine lv_iinc (v := (nI (r + 1))) (lv' := [(2, .int (nI (r + 1))), (4, .int (nI (begB re n r + 5 * (cntEq re r n)))), (3, .int (nI (begB re n r))), (0, .ref (a 0)), (1, .int (nI i))]) hx hb dX6_byteAt_93 hl (k := 4) rfl (nI_inc _ 1) (by decide) rfl (fun ls hl => ?_)
              refine lv_goto (tgt := 2) hx hb dX6_byteAt_96 (by decide) ?_
              -- slot 2: have n:r + 1, want n:(r + 1)
              exact ih (r + 1) (by omega) (by omega) (by rw [← hB]; exact (byteF_c (by omega) (by omega)).symm) ls (lv_sub hl [3, 4, 0] rfl)
            · -- not taken at 70
              refine lv_iload_n hx hb dX6_byteAt_73 rfl (lv_at hl 3 rfl) ?_
              refine lv_iload hx hb dX6_byteAt_74 (lv_at hl 0 rfl) ?_
              refine lv_iconst (v := (nI 2)) hx hb dX6_byteAt_76 (by decide) ?_
              refine t_add G dX6_byteAt_77 ?_
              refine c_ge G (tgt := 93) (by omega) (by omega) dX6_byteAt_78 (by decide) (fun c78 => ?_) (fun c78 => ?_)
              · -- taken at 78
                refine lv_iinc (v := (nI (r + 1))) (lv' := [(2, .int (nI (r + 1))), (4, .int (nI (begB re n r + 5 * (cntEq re r n)))), (3, .int (nI (begB re n r))), (0, .ref (a 0)), (1, .int (nI i))]) hx hb dX6_byteAt_93 hl (k := 4) rfl (nI_inc _ 1) (by decide) rfl (fun ls hl => ?_)
                refine lv_goto (tgt := 2) hx hb dX6_byteAt_96 (by decide) ?_
                -- slot 2: have n:r + 1, want n:(r + 1)
                exact ih (r + 1) (by omega) (by omega) (by rw [← hB]; exact (byteF_c (by omega) (by omega)).symm) ls (lv_sub hl [3, 4, 0] rfl)
              · -- not taken at 78
                refine lv_iload_n hx hb dX6_byteAt_81 rfl (lv_at hl 3 rfl) ?_
                refine lv_iload hx hb dX6_byteAt_82 (lv_at hl 0 rfl) ?_
                refine c_ne G (tgt := 91) (by omega) (by omega) dX6_byteAt_84 (by decide) (fun c84 => ?_) (fun c84 => ?_)
                · -- taken at 84
                  refine lv_iload_n hx hb dX6_byteAt_91 rfl (lv_at hl 4 rfl) ?_
                  exact hret _ _ _ (by rw [← hB, byteF_b (by omega) c64 c70 c78]; first | (rw [if_pos c84]; rfl) | (rw [if_neg c84]; rfl)) dX6_byteAt_92
                · -- not taken at 84
                  refine lv_iconst (v := (nI 0)) hx hb dX6_byteAt_87 (by decide) ?_
                  refine lv_goto (tgt := 92) hx hb dX6_byteAt_88 (by decide) ?_
                  exact hret _ _ _ (by rw [← hB, byteF_b (by omega) c64 c70 c78]; first | (rw [if_pos c84]; rfl) | (rw [if_neg c84]; rfl)) dX6_byteAt_92
        · -- not taken at 29
          refine lv_iload_n hx hb dX6_byteAt_32 rfl (lv_at hl 3 rfl) ?_
          refine lv_iload hx hb dX6_byteAt_33 (lv_at hl 0 rfl) ?_
          refine c_ge G (tgt := 59) (by omega) (by omega) dX6_byteAt_35 (by decide) (fun c35 => ?_) (fun c35 => ?_)
          · -- taken at 35
            refine lv_iload_n hx hb dX6_byteAt_59 rfl (lv_at hl 4 rfl) ?_
            refine lv_aload_n hx hb dX6_byteAt_60 rfl (lv_at hl 2 rfl) ?_
            refine f_get G K hP inX6 0 (ci := 6) rfl rfl 13 rfl fl_X6_92 (v := .int (nI cl)) rfl dX6_byteAt_61 ?_
            refine c_ge G (tgt := 93) (by omega) (by omega) dX6_byteAt_64 (by decide) (fun c64 => ?_) (fun c64 => ?_)
            · -- taken at 64
              refine lv_iinc (v := (nI (r + 1))) (lv' := [(2, .int (nI (r + 1))), (4, .int (nI (begB re n r + 5 * (cntEq re r n)))), (3, .int (nI (begB re n r))), (0, .ref (a 0)), (1, .int (nI i))]) hx hb dX6_byteAt_93 hl (k := 4) rfl (nI_inc _ 1) (by decide) rfl (fun ls hl => ?_)
              refine lv_goto (tgt := 2) hx hb dX6_byteAt_96 (by decide) ?_
              -- slot 2: have n:r + 1, want n:(r + 1)
              exact ih (r + 1) (by omega) (by omega) (by rw [← hB]; exact (byteF_c (by omega) (by omega)).symm) ls (lv_sub hl [3, 4, 0] rfl)
            · -- not taken at 64
              refine lv_iload_n hx hb dX6_byteAt_67 rfl (lv_at hl 3 rfl) ?_
              refine lv_iload hx hb dX6_byteAt_68 (lv_at hl 0 rfl) ?_
              refine c_lt G (tgt := 93) (by omega) (by omega) dX6_byteAt_70 (by decide) (fun c70 => ?_) (fun c70 => ?_)
              · -- taken at 70
                refine lv_iinc (v := (nI (r + 1))) (lv' := [(2, .int (nI (r + 1))), (4, .int (nI (begB re n r + 5 * (cntEq re r n)))), (3, .int (nI (begB re n r))), (0, .ref (a 0)), (1, .int (nI i))]) hx hb dX6_byteAt_93 hl (k := 4) rfl (nI_inc _ 1) (by decide) rfl (fun ls hl => ?_)
                refine lv_goto (tgt := 2) hx hb dX6_byteAt_96 (by decide) ?_
                -- slot 2: have n:r + 1, want n:(r + 1)
                exact ih (r + 1) (by omega) (by omega) (by rw [← hB]; exact (byteF_c (by omega) (by omega)).symm) ls (lv_sub hl [3, 4, 0] rfl)
              · -- not taken at 70
                refine lv_iload_n hx hb dX6_byteAt_73 rfl (lv_at hl 3 rfl) ?_
                refine lv_iload hx hb dX6_byteAt_74 (lv_at hl 0 rfl) ?_
                refine lv_iconst (v := (nI 2)) hx hb dX6_byteAt_76 (by decide) ?_
                refine t_add G dX6_byteAt_77 ?_
                refine c_ge G (tgt := 93) (by omega) (by omega) dX6_byteAt_78 (by decide) (fun c78 => ?_) (fun c78 => ?_)
                · -- taken at 78
                  refine lv_iinc (v := (nI (r + 1))) (lv' := [(2, .int (nI (r + 1))), (4, .int (nI (begB re n r + 5 * (cntEq re r n)))), (3, .int (nI (begB re n r))), (0, .ref (a 0)), (1, .int (nI i))]) hx hb dX6_byteAt_93 hl (k := 4) rfl (nI_inc _ 1) (by decide) rfl (fun ls hl => ?_)
                  refine lv_goto (tgt := 2) hx hb dX6_byteAt_96 (by decide) ?_
                  -- slot 2: have n:r + 1, want n:(r + 1)
                  exact ih (r + 1) (by omega) (by omega) (by rw [← hB]; exact (byteF_c (by omega) (by omega)).symm) ls (lv_sub hl [3, 4, 0] rfl)
                · -- not taken at 78
                  refine lv_iload_n hx hb dX6_byteAt_81 rfl (lv_at hl 3 rfl) ?_
                  refine lv_iload hx hb dX6_byteAt_82 (lv_at hl 0 rfl) ?_
                  refine c_ne G (tgt := 91) (by omega) (by omega) dX6_byteAt_84 (by decide) (fun c84 => ?_) (fun c84 => ?_)
                  · -- taken at 84
                    refine lv_iload_n hx hb dX6_byteAt_91 rfl (lv_at hl 4 rfl) ?_
                    exact hret _ _ _ (by rw [← hB, byteF_b (by omega) c64 c70 c78]; first | (rw [if_pos c84]; rfl) | (rw [if_neg c84]; rfl)) dX6_byteAt_92
                  · -- not taken at 84
                    refine lv_iconst (v := (nI 0)) hx hb dX6_byteAt_87 (by decide) ?_
                    refine lv_goto (tgt := 92) hx hb dX6_byteAt_88 (by decide) ?_
                    exact hret _ _ _ (by rw [← hB, byteF_b (by omega) c64 c70 c78]; first | (rw [if_pos c84]; rfl) | (rw [if_neg c84]; rfl)) dX6_byteAt_92
          · -- not taken at 35
            refine lv_aload_n hx hb dX6_byteAt_38 rfl (lv_at hl 2 rfl) ?_
            refine lv_aload_n hx hb dX6_byteAt_39 rfl (lv_at hl 2 rfl) ?_
            refine lv_iload_n hx hb dX6_byteAt_40 rfl (lv_at hl 4 rfl) ?_
            refine callPV (As := [.int (nI r)]) (rest := [.ref (a 0)]) (q0 := 0) (ci := 6) G K F_X6_firstOf (c_X6_firstOf a la n cl go fo si it mo th ki va re to co ke fw r I (by omega)) hP ml_X6_119 rfl rfl rfl (by decide) (by decide) rfl hl.1 (Nat.le_of_ble_eq_true rfl) dX6_byteAt_41 ?_
            have hf4 := cnt_le re r n
            refine lv_iload_n hx hb dX6_byteAt_44 rfl (lv_at hl 3 rfl) ?_
            refine lv_iload_n hx hb dX6_byteAt_45 rfl (lv_at hl 1 rfl) ?_
            refine t_sub G (by omega) dX6_byteAt_46 ?_
            refine lv_iconst (v := (nI 5)) hx hb dX6_byteAt_47 (by decide) ?_
            refine t_div G (by omega) (by decide) (by decide) dX6_byteAt_48 ?_
            refine t_add G dX6_byteAt_49 ?_
            refine lv_iload_n hx hb dX6_byteAt_50 rfl (lv_at hl 3 rfl) ?_
            refine lv_iload_n hx hb dX6_byteAt_51 rfl (lv_at hl 1 rfl) ?_
            refine t_sub G (by omega) dX6_byteAt_52 ?_
            refine lv_iconst (v := (nI 5)) hx hb dX6_byteAt_53 (by decide) ?_
            refine t_rem G (by omega) (by decide) (by decide) dX6_byteAt_54 ?_
            refine callPV (As := [.int (nI (cntLt re r n + ((i - (begB re n r)) / 5))), .int (nI ((i - (begB re n r)) % 5))]) (rest := []) (q0 := 0) (ci := 6) G K F_X6_byteOf (c_X6_byteOf a la n cl go fo si it mo th ki va re to co ke fw (cntLt re r n + ((i - (begB re n r)) / 5)) ((i - (begB re n r)) % 5) I (by omega) (by omega)) hP ml_X6_125 rfl rfl rfl (by decide) (by decide) rfl hl.1 (Nat.le_of_ble_eq_true rfl) dX6_byteAt_55 ?_
            exact hret _ _ _ (by rw [← hB, byteF_a c29 c35]; rfl) dX6_byteAt_58
  exact L2 (cl + 1 - 0) (0) (Nat.le_refl _) (by omega) rfl ls (lv_sub hl [1, 2, 0] rfl)
set_option maxHeartbeats 4000000 in
set_option maxRecDepth 100000 in
theorem c_X6_bytes (a : Nat → Nat) (la : Int32) (n : Nat) (cl : Nat) (go : Option Nat) (fo : Nat → Int32) (si : Nat → Nat) (it : Nat → Int32) (mo : Nat → Int32) (th : Nat → Nat) (ki : Nat → Nat) (va : Nat → Nat) (re : Nat → Nat) (to : Nat → Prop) (co : Nat → Nat) (ke : Nat → Int32) (fw : Nat → Nat) (i : Int32) (I : IM n cl go th ki va re si co fw) : CP l D (TY cI cZ cS) yX6_bytes cX6_bytes 2 .int 3 [.ref (a 0), .int i] (wM cI cZ a la n cl go fo si it mo th ki va re to co ke fw) (.int (byV th ki va re n cl i)) := by
  refine CP.ofI (by decide +kernel) (Nat.le_of_ble_eq_true rfl) (nar_int _) ?_
  intro p e s m args below meth c Q G K hP hret ls hl
  obtain ⟨hx, hb, hml, hown, hts⟩ := id G
  obtain ⟨hn, hcl, hgo, hth, hki, hva, hre, hsi, hco, hfw⟩ := id I
  have hl : lv_has ls 2 [(0, .ref (a 0)), (1, .int i)] := hl
  refine lv_iload_n hx hb dX6_bytes_0 rfl (lv_at hl 1 rfl) ?_
  refine lv_iconst (v := (-1)) hx hb dX6_bytes_1 (by decide) ?_
  refine lv_icmp_ne (tgt := 12) hx hb dX6_bytes_2 (by decide) (fun c2 => ?_) (fun c2 => ?_)
  · -- taken at 2
    refine lv_iload_n hx hb dX6_bytes_12 rfl (lv_at hl 1 rfl) ?_
    refine lv_i2l (v := i.toInt64) hx hb dX6_bytes_13 rfl ?_
    refine lv_lconst (v := ((0 : Int32)).toInt64) hx hb dX6_bytes_14 (by decide) ?_
    refine lv_aload_n hx hb dX6_bytes_15 rfl (lv_at hl 0 rfl) ?_
    refine callPV (As := []) (rest := [.long (0 : Int32).toInt64, .long i.toInt64]) (q0 := 0) (ci := 6) G K F_X6_allBytes (c_X6_allBytes a la n cl go fo si it mo th ki va re to co ke fw I) hP ml_X6_128 rfl rfl rfl (by decide) (by decide) rfl hl.1 (Nat.le_of_ble_eq_true rfl) dX6_bytes_16 ?_
    refine lv_iconst (v := (nI 1)) hx hb dX6_bytes_19 (by decide) ?_
    refine lv_isub hx hb dX6_bytes_20 ?_
    refine lv_i2l (v := ((nI (5 * n + 2 * cl)) - (nI 1)).toInt64) hx hb dX6_bytes_21 rfl ?_
    refine callPS (rest := []) G K F_X6_in (c_X6_in i (0 : Int32) ((nI (5 * n + 2 * cl)) - (nI 1))) (va_P_nil D s.heap) ml_X6_51 (by decide) (by decide) rfl hl.1 (Nat.le_of_ble_eq_true rfl) dX6_bytes_22 ?_
    refine b_eq G (tgt := 36) dX6_bytes_25 (by decide) (fun c25 => ?_) (fun c25 => ?_)
    · -- taken at 25
      refine lv_bipush (v := (-2)) hx hb dX6_bytes_36 (by decide) ?_
      exact hret _ _ _ (by first | exact byV_n | exact byV_o hn hcl c2 c25 | exact byV_k hn hcl hk) dX6_bytes_38
    · -- not taken at 25
      obtain ⟨k, hk, rfl⟩ := (okB_iff hn hcl).mp c25
      refine lv_aload_n hx hb dX6_bytes_28 rfl (lv_at hl 0 rfl) ?_
      refine lv_iload_n hx hb dX6_bytes_29 rfl (lv_at hl 1 rfl) ?_
      refine callPV (As := [.int (nI k)]) (rest := []) (q0 := 0) (ci := 6) G K F_X6_byteAt (c_X6_byteAt a la n cl go fo si it mo th ki va re to co ke fw k I (by omega)) hP ml_X6_132 rfl rfl rfl (by decide) (by decide) rfl hl.1 (Nat.le_of_ble_eq_true rfl) dX6_bytes_30 ?_
      refine lv_goto (tgt := 38) hx hb dX6_bytes_33 (by decide) ?_
      exact hret _ _ _ (by first | exact byV_n | exact byV_o hn hcl c2 c25 | exact byV_k hn hcl hk) dX6_bytes_38
  · -- not taken at 2
    subst c2
    refine lv_aload_n hx hb dX6_bytes_5 rfl (lv_at hl 0 rfl) ?_
    refine callPV (As := []) (rest := []) (q0 := 0) (ci := 6) G K F_X6_allBytes (c_X6_allBytes a la n cl go fo si it mo th ki va re to co ke fw I) hP ml_X6_128 rfl rfl rfl (by decide) (by decide) rfl hl.1 (Nat.le_of_ble_eq_true rfl) dX6_bytes_6 ?_
    refine lv_goto (tgt := 38) hx hb dX6_bytes_9 (by decide) ?_
    exact hret _ _ _ (by first | exact byV_n | exact byV_o hn hcl c2 c25 | exact byV_k hn hcl hk) dX6_bytes_38
set_option maxHeartbeats 4000000 in
set_option maxRecDepth 100000 in
theorem c_X6_write (a : Nat → Nat) (la : Int32) (n : Nat) (cl : Nat) (go : Option Nat) (fo : Nat → Int32) (si : Nat → Nat) (it : Nat → Int32) (mo : Nat → Int32) (th : Nat → Nat) (ki : Nat → Nat) (va : Nat → Nat) (re : Nat → Nat) (to : Nat → Prop) (co : Nat → Nat) (ke : Nat → Int32) (fw : Nat → Nat) (w : Int32) (q : Int32) (I : IM n cl go th ki va re si co fw) : CP l D (TY cI cZ cS) yX6_write cX6_write 3 .int 2 [.ref (a 0), .int w, .int q] (wM cI cZ a la n cl go fo si it mo th ki va re to co ke fw) (.int (wrV th ki va re n w q)) := by
  refine CP.ofI (by decide +kernel) (Nat.le_of_ble_eq_true rfl) (nar_int _) ?_
  intro p e s m args below meth c Q G K hP hret ls hl
  obtain ⟨hx, hb, hml, hown, hts⟩ := id G
  obtain ⟨hn, hcl, hgo, hth, hki, hva, hre, hsi, hco, hfw⟩ := id I
  have hl : lv_has ls 3 [(0, .ref (a 0)), (1, .int w), (2, .int q)] := hl
  refine lv_aload_n hx hb dX6_write_0 rfl (lv_at hl 0 rfl) ?_
  refine lv_iload_n hx hb dX6_write_1 rfl (lv_at hl 1 rfl) ?_
  refine callPV (As := [.int w]) (rest := []) (q0 := 0) (ci := 6) G K F_X6_isWrite (c_X6_isWrite a la n cl go fo si it mo th ki va re to co ke fw w I) hP ml_X6_106 rfl rfl rfl (by decide) (by decide) rfl hl.1 (Nat.le_of_ble_eq_true rfl) dX6_write_2 ?_
  refine b_eq G (tgt := 29) dX6_write_5 (by decide) (fun c5 => ?_) (fun c5 => ?_)
  · -- taken at 5
    refine lv_bipush (v := (-2)) hx hb dX6_write_29 (by decide) ?_
    exact hret _ _ _ (by first | exact wrV_k hn hk hj | exact wrV_w c5 | exact wrV_q c17) dX6_write_31
  · -- not taken at 5
    obtain ⟨k, hk, rfl⟩ := c5
    refine lv_iload_n hx hb dX6_write_8 rfl (lv_at hl 2 rfl) ?_
    refine lv_i2l (v := q.toInt64) hx hb dX6_write_9 rfl ?_
    refine lv_lconst (v := ((0 : Int32)).toInt64) hx hb dX6_write_10 (by decide) ?_
    refine lv_ldc2 hx hb hown (hts _ kl_X6_138) dX6_write_11 ?_
    refine t_l (y := (4 : Int32).toInt64) (by decide) ?_
    refine callPS (rest := []) G K F_X6_in (c_X6_in q (0 : Int32) (4 : Int32)) (va_P_nil D s.heap) ml_X6_51 (by decide) (by decide) rfl hl.1 (Nat.le_of_ble_eq_true rfl) dX6_write_14 ?_
    refine b_eq G (tgt := 29) dX6_write_17 (by decide) (fun c17 => ?_) (fun c17 => ?_)
    · -- taken at 17
      refine lv_bipush (v := (-2)) hx hb dX6_write_29 (by decide) ?_
      exact hret _ _ _ (by first | exact wrV_k hn hk hj | exact wrV_w c5 | exact wrV_q c17) dX6_write_31
    · -- not taken at 17
      obtain ⟨j, hj, rfl⟩ := (okN (m := 4) (by decide)).mp c17
      refine lv_aload_n hx hb dX6_write_20 rfl (lv_at hl 0 rfl) ?_
      refine lv_iload_n hx hb dX6_write_21 rfl (lv_at hl 1 rfl) ?_
      refine lv_iload_n hx hb dX6_write_22 rfl (lv_at hl 2 rfl) ?_
      refine callPV (As := [.int (nI k), .int (nI j)]) (rest := []) (q0 := 0) (ci := 6) G K F_X6_writeBy (c_X6_writeBy a la n cl go fo si it mo th ki va re to co ke fw k j I (by omega) (by omega)) hP ml_X6_140 rfl rfl rfl (by decide) (by decide) rfl hl.1 (Nat.le_of_ble_eq_true rfl) dX6_write_23 ?_
      refine lv_goto (tgt := 31) hx hb dX6_write_26 (by decide) ?_
      exact hret _ _ _ (by first | exact wrV_k hn hk hj | exact wrV_w c5 | exact wrV_q c17) dX6_write_31
set_option maxHeartbeats 4000000 in
set_option maxRecDepth 100000 in
theorem c_X6_revision (a : Nat → Nat) (la : Int32) (n : Nat) (cl : Nat) (go : Option Nat) (fo : Nat → Int32) (si : Nat → Nat) (it : Nat → Int32) (mo : Nat → Int32) (th : Nat → Nat) (ki : Nat → Nat) (va : Nat → Nat) (re : Nat → Nat) (to : Nat → Prop) (co : Nat → Nat) (ke : Nat → Int32) (fw : Nat → Nat) (x : Int32) (q : Int32) (I : IM n cl go th ki va re si co fw) : CP l D (TY cI cZ cS) yX6_revision cX6_revision 3 .int 4 [.ref (a 0), .int x, .int q] (wM cI cZ a la n cl go fo si it mo th ki va re to co ke fw) (.int (rvV re n cl x q)) := by
  refine CP.ofI (by decide +kernel) (Nat.le_of_ble_eq_true rfl) (nar_int _) ?_
  intro p e s m args below meth c Q G K hP hret ls hl
  obtain ⟨hx, hb, hml, hown, hts⟩ := id G
  obtain ⟨hn, hcl, hgo, hth, hki, hva, hre, hsi, hco, hfw⟩ := id I
  have hl : lv_has ls 3 [(0, .ref (a 0)), (1, .int x), (2, .int q)] := hl
  refine lv_aload_n hx hb dX6_revision_0 rfl (lv_at hl 0 rfl) ?_
  refine lv_iload_n hx hb dX6_revision_1 rfl (lv_at hl 1 rfl) ?_
  refine callPV (As := [.int x]) (rest := []) (q0 := 0) (ci := 6) G K F_X6_isRevision (c_X6_isRevision a la n cl go fo si it mo th ki va re to co ke fw x I) hP ml_X6_146 rfl rfl rfl (by decide) (by decide) rfl hl.1 (Nat.le_of_ble_eq_true rfl) dX6_revision_2 ?_
  refine b_eq G (tgt := 29) dX6_revision_5 (by decide) (fun c5 => ?_) (fun c5 => ?_)
  · -- taken at 5
    refine lv_bipush (v := (-2)) hx hb dX6_revision_29 (by decide) ?_
    exact hret _ _ _ (by first | exact rvV_k hcl hk hj | exact rvV_x c5 | exact rvV_q c17) dX6_revision_31
  · -- not taken at 5
    obtain ⟨k, hk, rfl⟩ := c5
    refine lv_iload_n hx hb dX6_revision_8 rfl (lv_at hl 2 rfl) ?_
    refine lv_i2l (v := q.toInt64) hx hb dX6_revision_9 rfl ?_
    refine lv_lconst (v := ((0 : Int32)).toInt64) hx hb dX6_revision_10 (by decide) ?_
    refine lv_ldc2 hx hb hown (hts _ kl_X6_58) dX6_revision_11 ?_
    refine t_l (y := (3 : Int32).toInt64) (by decide) ?_
    refine callPS (rest := []) G K F_X6_in (c_X6_in q (0 : Int32) (3 : Int32)) (va_P_nil D s.heap) ml_X6_51 (by decide) (by decide) rfl hl.1 (Nat.le_of_ble_eq_true rfl) dX6_revision_14 ?_
    refine b_eq G (tgt := 29) dX6_revision_17 (by decide) (fun c17 => ?_) (fun c17 => ?_)
    · -- taken at 17
      refine lv_bipush (v := (-2)) hx hb dX6_revision_29 (by decide) ?_
      exact hret _ _ _ (by first | exact rvV_k hcl hk hj | exact rvV_x c5 | exact rvV_q c17) dX6_revision_31
    · -- not taken at 17
      obtain ⟨j, hj, rfl⟩ := (okN (m := 3) (by decide)).mp c17
      refine lv_aload_n hx hb dX6_revision_20 rfl (lv_at hl 0 rfl) ?_
      refine lv_iload_n hx hb dX6_revision_21 rfl (lv_at hl 1 rfl) ?_
      refine lv_iload_n hx hb dX6_revision_22 rfl (lv_at hl 2 rfl) ?_
      refine callPV (As := [.int (nI k), .int (nI j)]) (rest := []) (q0 := 0) (ci := 6) G K F_X6_revisionBy (c_X6_revisionBy a la n cl go fo si it mo th ki va re to co ke fw k j I (by omega) (by omega)) hP ml_X6_149 rfl rfl rfl (by decide) (by decide) rfl hl.1 (Nat.le_of_ble_eq_true rfl) dX6_revision_23 ?_
      refine lv_goto (tgt := 31) hx hb dX6_revision_26 (by decide) ?_
      exact hret _ _ _ (by first | exact rvV_k hcl hk hj | exact rvV_x c5 | exact rvV_q c17) dX6_revision_31
set_option maxHeartbeats 4000000 in
set_option maxRecDepth 100000 in
theorem c_X6_thingBy (a : Nat → Nat) (la : Int32) (n : Nat) (cl : Nat) (go : Option Nat) (fo : Nat → Int32) (si : Nat → Nat) (it : Nat → Int32) (mo : Nat → Int32) (th : Nat → Nat) (ki : Nat → Nat) (va : Nat → Nat) (re : Nat → Nat) (to : Nat → Prop) (co : Nat → Nat) (ke : Nat → Int32) (fw : Nat → Nat) (t : Nat) (r : Nat) (q : Nat) (I : IM n cl go th ki va re si co fw) (ht9 : t < 2 ^ 31) (hr9 : r < 2 ^ 31) (hq9 : q < 2 ^ 31) : CP l D (TY cI cZ cS) yX6_thingBy cX6_thingBy 5 .int 1 [.ref (a 0), .int (nI t), .int (nI r), .int (nI q)] (wM cI cZ a la n cl go fo si it mo th ki va re to co ke fw) (.int (oI (tgB th ki va re go n t r q))) := by
  refine CP.ofI (by decide +kernel) (Nat.le_of_ble_eq_true rfl) (nar_int _) ?_
  intro p e s m args below meth c Q G K hP hret ls hl
  obtain ⟨hx, hb, hml, hown, hts⟩ := id G
  obtain ⟨hn, hcl, hgo, hth, hki, hva, hre, hsi, hco, hfw⟩ := id I
  have hl : lv_has ls 5 [(0, .ref (a 0)), (1, .int (nI t)), (2, .int (nI r)), (3, .int (nI q))] := hl
  refine lv_aload_n hx hb dX6_thingBy_0 rfl (lv_at hl 0 rfl) ?_
  refine lv_iload_n hx hb dX6_thingBy_1 rfl (lv_at hl 1 rfl) ?_
  refine lv_iload_n hx hb dX6_thingBy_2 rfl (lv_at hl 2 rfl) ?_
  refine callPV (As := [.int (nI t), .int (nI r)]) (rest := []) (q0 := 0) (ci := 6) G K F_X6_lastOf (c_X6_lastOf a la n cl go fo si it mo th ki va re to co ke fw t r I (by omega) (by omega)) hP ml_X6_152 rfl rfl rfl (by decide) (by decide) rfl hl.1 (Nat.le_of_ble_eq_true rfl) dX6_thingBy_3 ?_
  refine lv_istore (lv' := [(4, .int (oI (lastT th ki re go t r n))), (0, .ref (a 0)), (1, .int (nI t)), (2, .int (nI r)), (3, .int (nI q))]) hx hb dX6_thingBy_6 hl (by decide) rfl (fun ls hl => ?_)
  refine lv_iload hx hb dX6_thingBy_8 (lv_at hl 0 rfl) ?_
  refine lv_iconst (v := (-1)) hx hb dX6_thingBy_10 (by decide) ?_
  refine o_ne G (tgt := 18) (fun w h => by have := (lastT_lt th ki re go t r n) w h; omega) dX6_thingBy_11 (by decide) (fun c11 => ?_) (fun c11 => ?_)
  · -- taken at 11
    obtain ⟨v, hv⟩ := Option.ne_none_iff_exists'.mp c11
    have hv9 := lastT_lt th ki re go t r n v hv
    refine lv_iload_n hx hb dX6_thingBy_18 rfl (lv_at hl 4 rfl) ?_
    refine z_ne G (tgt := 32) (by omega) dX6_thingBy_19 (by decide) (fun c19 => ?_) (fun c19 => ?_)
    · -- taken at 19
      refine lv_iload_n hx hb dX6_thingBy_32 rfl (lv_at hl 4 rfl) ?_
      refine lv_iconst (v := (nI 1)) hx hb dX6_thingBy_33 (by decide) ?_
      refine c_ne G (tgt := 47) (by omega) (by omega) dX6_thingBy_34 (by decide) (fun c34 => ?_) (fun c34 => ?_)
      · -- taken at 34
        refine lv_iload hx hb dX6_thingBy_47 (lv_at hl 0 rfl) ?_
        exact hret _ _ _ (by first | exact congrArg oI (tgB_n c11) | exact congrArg oI (tgB_0 hv c19) | exact congrArg oI (tgB_1 hv c34) | exact congrArg oI (tgB_2 hv (by omega) (by omega))) dX6_thingBy_49
      · -- not taken at 34
        refine lv_aload_n hx hb dX6_thingBy_37 rfl (lv_at hl 1 rfl) ?_
        refine f_get G K hP inX6 0 (ci := 6) rfl rfl 8 rfl fl_X6_28 (v := .ref (a 7)) rfl dX6_thingBy_38 ?_
        refine lv_iload hx hb dX6_thingBy_41 (lv_at hl 0 rfl) ?_
        refine t_i (y := (nI v)) (by rw [hv]; rfl) ?_
        refine a_ldN G K hP 7 0 (a := (a 7)) rfl rfl (by omega) (by decide) dX6_thingBy_43 ?_
        have hb1 := hva v
        refine lv_goto (tgt := 49) hx hb dX6_thingBy_44 (by decide) ?_
        exact hret _ _ _ (by first | exact congrArg oI (tgB_n c11) | exact congrArg oI (tgB_0 hv c19) | exact congrArg oI (tgB_1 hv c34) | exact congrArg oI (tgB_2 hv (by omega) (by omega))) dX6_thingBy_49
    · -- not taken at 19
      refine lv_aload_n hx hb dX6_thingBy_22 rfl (lv_at hl 1 rfl) ?_
      refine f_get G K hP inX6 0 (ci := 6) rfl rfl 7 rfl fl_X6_25 (v := .ref (a 6)) rfl dX6_thingBy_23 ?_
      refine lv_iload hx hb dX6_thingBy_26 (lv_at hl 0 rfl) ?_
      refine t_i (y := (nI v)) (by rw [hv]; rfl) ?_
      refine a_ldN G K hP 6 0 (a := (a 6)) rfl rfl (by omega) (by decide) dX6_thingBy_28 ?_
      have hb2 := hki v
      refine lv_goto (tgt := 49) hx hb dX6_thingBy_29 (by decide) ?_
      exact hret _ _ _ (by first | exact congrArg oI (tgB_n c11) | exact congrArg oI (tgB_0 hv c19) | exact congrArg oI (tgB_1 hv c34) | exact congrArg oI (tgB_2 hv (by omega) (by omega))) dX6_thingBy_49
  · -- not taken at 11
    refine lv_iconst (v := (-1)) hx hb dX6_thingBy_14 (by decide) ?_
    refine lv_goto (tgt := 49) hx hb dX6_thingBy_15 (by decide) ?_
    exact hret _ _ _ (by first | exact congrArg oI (tgB_n c11) | exact congrArg oI (tgB_0 hv c19) | exact congrArg oI (tgB_1 hv c34) | exact congrArg oI (tgB_2 hv (by omega) (by omega))) dX6_thingBy_49
set_option maxHeartbeats 4000000 in
set_option maxRecDepth 100000 in
theorem c_X6_thing (a : Nat → Nat) (la : Int32) (n : Nat) (cl : Nat) (go : Option Nat) (fo : Nat → Int32) (si : Nat → Nat) (it : Nat → Int32) (mo : Nat → Int32) (th : Nat → Nat) (ki : Nat → Nat) (va : Nat → Nat) (re : Nat → Nat) (to : Nat → Prop) (co : Nat → Nat) (ke : Nat → Int32) (fw : Nat → Nat) (t : Int32) (x : Int32) (q : Int32) (I : IM n cl go th ki va re si co fw) : CP l D (TY cI cZ cS) yX6_thing cX6_thing 4 .int 2 [.ref (a 0), .int t, .int x, .int q] (wM cI cZ a la n cl go fo si it mo th ki va re to co ke fw) (.int (tgV th ki va re go n cl t x q)) := by
  refine CP.ofI (by decide +kernel) (Nat.le_of_ble_eq_true rfl) (nar_int _) ?_
  intro p e s m args below meth c Q G K hP hret ls hl
  obtain ⟨hx, hb, hml, hown, hts⟩ := id G
  obtain ⟨hn, hcl, hgo, hth, hki, hva, hre, hsi, hco, hfw⟩ := id I
  have hl : lv_has ls 4 [(0, .ref (a 0)), (1, .int t), (2, .int x), (3, .int q)] := hl
  refine lv_iload_n hx hb dX6_thing_0 rfl (lv_at hl 1 rfl) ?_
  refine callPS (rest := []) G K F_X6_isThing (c_X6_isThing t) (va_P_nil D s.heap) ml_X6_155 (by decide) (by decide) rfl hl.1 (Nat.le_of_ble_eq_true rfl) dX6_thing_1 ?_
  refine b_eq G (tgt := 37) dX6_thing_4 (by decide) (fun c4 => ?_) (fun c4 => ?_)
  · -- taken at 4
    refine lv_bipush (v := (-2)) hx hb dX6_thing_37 (by decide) ?_
    exact hret _ _ _ (by first | exact tgV_k hcl hi hk hj | exact tgV_t c4 | exact tgV_x c12 | exact tgV_q c24) dX6_thing_39
  · -- not taken at 4
    obtain ⟨i, hi, rfl⟩ := (okN (m := 15) (by decide)).mp c4
    refine lv_aload_n hx hb dX6_thing_7 rfl (lv_at hl 0 rfl) ?_
    refine lv_iload_n hx hb dX6_thing_8 rfl (lv_at hl 2 rfl) ?_
    refine callPV (As := [.int x]) (rest := []) (q0 := 0) (ci := 6) G K F_X6_isRevision (c_X6_isRevision a la n cl go fo si it mo th ki va re to co ke fw x I) hP ml_X6_146 rfl rfl rfl (by decide) (by decide) rfl hl.1 (Nat.le_of_ble_eq_true rfl) dX6_thing_9 ?_
    refine b_eq G (tgt := 37) dX6_thing_12 (by decide) (fun c12 => ?_) (fun c12 => ?_)
    · -- taken at 12
      refine lv_bipush (v := (-2)) hx hb dX6_thing_37 (by decide) ?_
      exact hret _ _ _ (by first | exact tgV_k hcl hi hk hj | exact tgV_t c4 | exact tgV_x c12 | exact tgV_q c24) dX6_thing_39
    · -- not taken at 12
      obtain ⟨k, hk, rfl⟩ := c12
      refine lv_iload_n hx hb dX6_thing_15 rfl (lv_at hl 3 rfl) ?_
      refine lv_i2l (v := q.toInt64) hx hb dX6_thing_16 rfl ?_
      refine lv_lconst (v := ((0 : Int32)).toInt64) hx hb dX6_thing_17 (by decide) ?_
      refine lv_ldc2 hx hb hown (hts _ kl_X6_64) dX6_thing_18 ?_
      refine t_l (y := (2 : Int32).toInt64) (by decide) ?_
      refine callPS (rest := []) G K F_X6_in (c_X6_in q (0 : Int32) (2 : Int32)) (va_P_nil D s.heap) ml_X6_51 (by decide) (by decide) rfl hl.1 (Nat.le_of_ble_eq_true rfl) dX6_thing_21 ?_
      refine b_eq G (tgt := 37) dX6_thing_24 (by decide) (fun c24 => ?_) (fun c24 => ?_)
      · -- taken at 24
        refine lv_bipush (v := (-2)) hx hb dX6_thing_37 (by decide) ?_
        exact hret _ _ _ (by first | exact tgV_k hcl hi hk hj | exact tgV_t c4 | exact tgV_x c12 | exact tgV_q c24) dX6_thing_39
      · -- not taken at 24
        obtain ⟨j, hj, rfl⟩ := (okN (m := 2) (by decide)).mp c24
        refine lv_aload_n hx hb dX6_thing_27 rfl (lv_at hl 0 rfl) ?_
        refine lv_iload_n hx hb dX6_thing_28 rfl (lv_at hl 1 rfl) ?_
        refine lv_iload_n hx hb dX6_thing_29 rfl (lv_at hl 2 rfl) ?_
        refine lv_iload_n hx hb dX6_thing_30 rfl (lv_at hl 3 rfl) ?_
        refine callPV (As := [.int (nI i), .int (nI k), .int (nI j)]) (rest := []) (q0 := 0) (ci := 6) G K F_X6_thingBy (c_X6_thingBy a la n cl go fo si it mo th ki va re to co ke fw i k j I (by omega) (by omega) (by omega)) hP ml_X6_158 rfl rfl rfl (by decide) (by decide) rfl hl.1 (Nat.le_of_ble_eq_true rfl) dX6_thing_31 ?_
        refine lv_goto (tgt := 39) hx hb dX6_thing_34 (by decide) ?_
        exact hret _ _ _ (by first | exact tgV_k hcl hi hk hj | exact tgV_t c4 | exact tgV_x c12 | exact tgV_q c24) dX6_thing_39
set_option maxHeartbeats 4000000 in
set_option maxRecDepth 100000 in
theorem c_X6_isShadowed (a : Nat → Nat) (la : Int32) (n : Nat) (cl : Nat) (go : Option Nat) (fo : Nat → Int32) (si : Nat → Nat) (it : Nat → Int32) (mo : Nat → Int32) (th : Nat → Nat) (ki : Nat → Nat) (va : Nat → Nat) (re : Nat → Nat) (to : Nat → Prop) (co : Nat → Nat) (ke : Nat → Int32) (fw : Nat → Nat) (t : Nat) (r : Nat) (I : IM n cl go th ki va re si co fw) (ht9 : t < 2 ^ 31) (hr9 : r < 2 ^ 31) : CP l D (TY cI cZ cS) yX6_isShadowed cX6_isShadowed 6 .boolean 0 [.ref (a 0), .int (nI t), .int (nI r)] (wM cI cZ a la n cl go fo si it mo th ki va re to co ke fw) (.int (bI (shad th ki va re go n t r))) := by
  refine CP.ofI (by decide +kernel) (Nat.le_of_ble_eq_true rfl) (bI_nar _) ?_
  intro p e s m args below meth c Q G K hP hret ls hl
  obtain ⟨hx, hb, hml, hown, hts⟩ := id G
  obtain ⟨hn, hcl, hgo, hth, hki, hva, hre, hsi, hco, hfw⟩ := id I
  have hl : lv_has ls 6 [(0, .ref (a 0)), (1, .int (nI t)), (2, .int (nI r))] := hl
  refine lv_iconst (v := (-1)) hx hb dX6_isShadowed_0 (by decide) ?_
  refine t_i (y := (oI (shL th re go t r 0))) rfl ?_
  refine lv_istore_n (lv' := [(3, .int (oI (shL th re go t r 0))), (0, .ref (a 0)), (1, .int (nI t)), (2, .int (nI r))]) hx hb dX6_isShadowed_1 rfl hl (by decide) rfl (fun ls hl => ?_)
  refine lv_iconst (v := (nI 0)) hx hb dX6_isShadowed_2 (by decide) ?_
  refine t_i (y := (bI (shI th ki va re go t r 0))) (b0 id) ?_
  refine lv_istore (lv' := [(4, .int (bI (shI th ki va re go t r 0))), (3, .int (oI (shL th re go t r 0))), (0, .ref (a 0)), (1, .int (nI t)), (2, .int (nI r))]) hx hb dX6_isShadowed_3 hl (by decide) rfl (fun ls hl => ?_)
  refine lv_iconst (v := (nI 0)) hx hb dX6_isShadowed_5 (by decide) ?_
  refine lv_istore (lv' := [(5, .int (nI 0)), (4, .int (bI (shI th ki va re go t r 0))), (3, .int (oI (shL th re go t r 0))), (0, .ref (a 0)), (1, .int (nI t)), (2, .int (nI r))]) hx hb dX6_isShadowed_6 hl (by decide) rfl (fun ls hl => ?_)
  have L8 : ∀ (d i : Nat), 0 ≤ i → i + d = n → ∀ (ls : Array Slot), lv_has ls 6 [(0, .ref (a 0)), (1, .int (nI t)), (2, .int (nI r)), (3, .int (oI (shL th re go t r i))), (4, .int (bI (shI th ki va re go t r i))), (5, .int (nI i))] → W p l e (RM 0) s m args below meth c s.heap [] 0 0 Q (F0 m 8 ls []) := by
    intro d
    induction d with
    | zero =>
      intro i hlo8 hhi8 ls hl
      refine lv_iload hx hb dX6_isShadowed_8 (lv_at hl 5 rfl) ?_
      refine lv_aload_n hx hb dX6_isShadowed_10 rfl (lv_at hl 0 rfl) ?_
      refine f_get G K hP inX6 0 (ci := 6) rfl rfl 5 rfl fl_X6_89 (v := .int (nI n)) rfl dX6_isShadowed_11 ?_
      refine c_ge G (tgt := 106) (by omega) (by omega) dX6_isShadowed_14 (by decide) (fun c14 => ?_) (fun c14 => ?_)
      · -- taken at 14
        obtain rfl : i = n := by omega
        refine lv_iload hx hb dX6_isShadowed_106 (lv_at hl 4 rfl) ?_
        exact hret _ _ _ rfl dX6_isShadowed_108
      · -- not taken at 14
        exact absurd c14 (by omega)
    | succ d ih =>
      intro i hlo8 hhi8 ls hl
      refine lv_iload hx hb dX6_isShadowed_8 (lv_at hl 5 rfl) ?_
      refine lv_aload_n hx hb dX6_isShadowed_10 rfl (lv_at hl 0 rfl) ?_
      refine f_get G K hP inX6 0 (ci := 6) rfl rfl 5 rfl fl_X6_89 (v := .int (nI n)) rfl dX6_isShadowed_11 ?_
      refine c_ge G (tgt := 106) (by omega) (by omega) dX6_isShadowed_14 (by decide) (fun c14 => ?_) (fun c14 => ?_)
      · -- taken at 14
        exact absurd c14 (by omega)
      · -- not taken at 14
        refine lv_aload_n hx hb dX6_isShadowed_17 rfl (lv_at hl 0 rfl) ?_
        refine f_get G K hP inX6 0 (ci := 6) rfl rfl 6 rfl fl_X6_22 (v := .ref (a 5)) rfl dX6_isShadowed_18 ?_
        refine lv_iload hx hb dX6_isShadowed_21 (lv_at hl 5 rfl) ?_
        refine a_ldN G K hP 5 0 (a := (a 5)) rfl rfl (by omega) (by decide) dX6_isShadowed_23 ?_
        have hb1 := hth i
        refine lv_iload_n hx hb dX6_isShadowed_24 rfl (lv_at hl 1 rfl) ?_
        refine c_ne G (tgt := 100) (by omega) (by omega) dX6_isShadowed_25 (by decide) (fun c25 => ?_) (fun c25 => ?_)
        · -- taken at 25
          have hl := lv_re (l' := [(0, .ref (a 0)), (1, .int (nI t)), (2, .int (nI r)), (3, .int (oI (shL th re go t r (i + 1)))), (4, .int (bI (shI th ki va re go t r i))), (5, .int (nI i))]) hl (by rw [show (oI (shL th re go t r i)) = (oI (shL th re go t r (i + 1))) from (by first | exact congrArg oI (shL_f1 c25) | exact congrArg oI (shL_f2 c36) | exact congrArg oI (shL_f3 c45))])
          have hl := lv_re (l' := [(0, .ref (a 0)), (1, .int (nI t)), (2, .int (nI r)), (3, .int (oI (shL th re go t r (i + 1)))), (4, .int (bI (shI th ki va re go t r (i + 1)))), (5, .int (nI i))]) hl (by rw [show (bI (shI th ki va re go t r i)) = (bI (shI th ki va re go t r (i + 1))) from (by first | exact shI_f1 c25 | exact shI_f2 c36 | exact shI_f3 c45)])
          refine lv_iinc (v := (nI (i + 1))) (lv' := [(5, .int (nI (i + 1))), (0, .ref (a 0)), (1, .int (nI t)), (2, .int (nI r)), (3, .int (oI (shL th re go t r (i + 1)))), (4, .int (bI (shI th ki va re go t r (i + 1))))]) hx hb dX6_isShadowed_100 hl (k := 5) rfl (nI_inc _ 1) (by decide) rfl (fun ls hl => ?_)
          refine lv_goto (tgt := 8) hx hb dX6_isShadowed_103 (by decide) ?_
          -- slot 5: have n:i + 1, want n:(i + 1)
          exact ih (i + 1) (by omega) (by omega) ls (lv_sub hl [1, 2, 3, 4, 5, 0] rfl)
        · -- not taken at 25
          refine lv_aload_n hx hb dX6_isShadowed_28 rfl (lv_at hl 0 rfl) ?_
          refine f_get G K hP inX6 0 (ci := 6) rfl rfl 9 rfl fl_X6_31 (v := .ref (a 8)) rfl dX6_isShadowed_29 ?_
          refine lv_iload hx hb dX6_isShadowed_32 (lv_at hl 5 rfl) ?_
          refine a_ldN G K hP 8 0 (a := (a 8)) rfl rfl (by omega) (by decide) dX6_isShadowed_34 ?_
          have hb2 := hre i
          refine lv_iload_n hx hb dX6_isShadowed_35 rfl (lv_at hl 2 rfl) ?_
          refine c_ne G (tgt := 100) (by omega) (by omega) dX6_isShadowed_36 (by decide) (fun c36 => ?_) (fun c36 => ?_)
          · -- taken at 36
            have hl := lv_re (l' := [(0, .ref (a 0)), (1, .int (nI t)), (2, .int (nI r)), (3, .int (oI (shL th re go t r (i + 1)))), (4, .int (bI (shI th ki va re go t r i))), (5, .int (nI i))]) hl (by rw [show (oI (shL th re go t r i)) = (oI (shL th re go t r (i + 1))) from (by first | exact congrArg oI (shL_f1 c25) | exact congrArg oI (shL_f2 c36) | exact congrArg oI (shL_f3 c45))])
            have hl := lv_re (l' := [(0, .ref (a 0)), (1, .int (nI t)), (2, .int (nI r)), (3, .int (oI (shL th re go t r (i + 1)))), (4, .int (bI (shI th ki va re go t r (i + 1)))), (5, .int (nI i))]) hl (by rw [show (bI (shI th ki va re go t r i)) = (bI (shI th ki va re go t r (i + 1))) from (by first | exact shI_f1 c25 | exact shI_f2 c36 | exact shI_f3 c45)])
            refine lv_iinc (v := (nI (i + 1))) (lv' := [(5, .int (nI (i + 1))), (0, .ref (a 0)), (1, .int (nI t)), (2, .int (nI r)), (3, .int (oI (shL th re go t r (i + 1)))), (4, .int (bI (shI th ki va re go t r (i + 1))))]) hx hb dX6_isShadowed_100 hl (k := 5) rfl (nI_inc _ 1) (by decide) rfl (fun ls hl => ?_)
            refine lv_goto (tgt := 8) hx hb dX6_isShadowed_103 (by decide) ?_
            -- slot 5: have n:i + 1, want n:(i + 1)
            exact ih (i + 1) (by omega) (by omega) ls (lv_sub hl [1, 2, 3, 4, 5, 0] rfl)
          · -- not taken at 36
            refine lv_iload hx hb dX6_isShadowed_39 (lv_at hl 5 rfl) ?_
            refine lv_aload_n hx hb dX6_isShadowed_41 rfl (lv_at hl 0 rfl) ?_
            refine f_get G K hP inX6 0 (ci := 6) rfl rfl 14 rfl fl_X6_44 (v := .int (oI go)) rfl dX6_isShadowed_42 ?_
            refine no_eq G (tgt := 100) (by omega) (fun w h => by have := hgo w h; omega) dX6_isShadowed_45 (by decide) (fun c45 => ?_) (fun c45 => ?_)
            · -- taken at 45
              have hl := lv_re (l' := [(0, .ref (a 0)), (1, .int (nI t)), (2, .int (nI r)), (3, .int (oI (shL th re go t r (i + 1)))), (4, .int (bI (shI th ki va re go t r i))), (5, .int (nI i))]) hl (by rw [show (oI (shL th re go t r i)) = (oI (shL th re go t r (i + 1))) from (by first | exact congrArg oI (shL_f1 c25) | exact congrArg oI (shL_f2 c36) | exact congrArg oI (shL_f3 c45))])
              have hl := lv_re (l' := [(0, .ref (a 0)), (1, .int (nI t)), (2, .int (nI r)), (3, .int (oI (shL th re go t r (i + 1)))), (4, .int (bI (shI th ki va re go t r (i + 1)))), (5, .int (nI i))]) hl (by rw [show (bI (shI th ki va re go t r i)) = (bI (shI th ki va re go t r (i + 1))) from (by first | exact shI_f1 c25 | exact shI_f2 c36 | exact shI_f3 c45)])
              refine lv_iinc (v := (nI (i + 1))) (lv' := [(5, .int (nI (i + 1))), (0, .ref (a 0)), (1, .int (nI t)), (2, .int (nI r)), (3, .int (oI (shL th re go t r (i + 1)))), (4, .int (bI (shI th ki va re go t r (i + 1))))]) hx hb dX6_isShadowed_100 hl (k := 5) rfl (nI_inc _ 1) (by decide) rfl (fun ls hl => ?_)
              refine lv_goto (tgt := 8) hx hb dX6_isShadowed_103 (by decide) ?_
              -- slot 5: have n:i + 1, want n:(i + 1)
              exact ih (i + 1) (by omega) (by omega) ls (lv_sub hl [1, 2, 3, 4, 5, 0] rfl)
            · -- not taken at 45
              refine lv_iload hx hb dX6_isShadowed_48 (lv_at hl 4 rfl) ?_
              refine b_ne G (tgt := 90) dX6_isShadowed_50 (by decide) (fun c50 => ?_) (fun c50 => ?_)
              · -- taken at 50
                refine lv_iconst (v := (nI 1)) hx hb dX6_isShadowed_90 (by decide) ?_
                refine lv_goto (tgt := 95) hx hb dX6_isShadowed_91 (by decide) ?_
                refine t_i (y := (bI (shI th ki va re go t r (i + 1)))) (by first | exact shI_a c50 | exact shI_b c25 c36 c45 hv (Or.inl c71) | exact shI_b c25 c36 c45 hv (Or.inr c87) | exact shI_c c50 c55 | exact shI_d c50 hv c71 c87) ?_
                refine lv_istore (lv' := [(4, .int (bI (shI th ki va re go t r (i + 1)))), (0, .ref (a 0)), (1, .int (nI t)), (2, .int (nI r)), (3, .int (oI (shL th re go t r i))), (5, .int (nI i))]) hx hb dX6_isShadowed_95 hl (by decide) rfl (fun ls hl => ?_)
                refine lv_iload hx hb dX6_isShadowed_97 (lv_at hl 5 rfl) ?_
                refine t_i (y := (oI (shL th re go t r (i + 1)))) (congrArg oI (shL_t c25 c36 c45)) ?_
                refine lv_istore_n (lv' := [(3, .int (oI (shL th re go t r (i + 1)))), (4, .int (bI (shI th ki va re go t r (i + 1)))), (0, .ref (a 0)), (1, .int (nI t)), (2, .int (nI r)), (5, .int (nI i))]) hx hb dX6_isShadowed_99 rfl hl (by decide) rfl (fun ls hl => ?_)
                refine lv_iinc (v := (nI (i + 1))) (lv' := [(5, .int (nI (i + 1))), (3, .int (oI (shL th re go t r (i + 1)))), (4, .int (bI (shI th ki va re go t r (i + 1)))), (0, .ref (a 0)), (1, .int (nI t)), (2, .int (nI r))]) hx hb dX6_isShadowed_100 hl (k := 5) rfl (nI_inc _ 1) (by decide) rfl (fun ls hl => ?_)
                refine lv_goto (tgt := 8) hx hb dX6_isShadowed_103 (by decide) ?_
                -- slot 5: have n:i + 1, want n:(i + 1)
                exact ih (i + 1) (by omega) (by omega) ls (lv_sub hl [3, 4, 5, 1, 2, 0] rfl)
              · -- not taken at 50
                refine lv_iload_n hx hb dX6_isShadowed_53 rfl (lv_at hl 3 rfl) ?_
                refine lv_iconst (v := (-1)) hx hb dX6_isShadowed_54 (by decide) ?_
                refine o_eq G (tgt := 94) (fun w h => by have := (shL_lt th re go t r i) w h; omega) dX6_isShadowed_55 (by decide) (fun c55 => ?_) (fun c55 => ?_)
                · -- taken at 55
                  refine lv_iconst (v := (nI 0)) hx hb dX6_isShadowed_94 (by decide) ?_
                  refine t_i (y := (bI (shI th ki va re go t r (i + 1)))) (by first | exact shI_a c50 | exact shI_b c25 c36 c45 hv (Or.inl c71) | exact shI_b c25 c36 c45 hv (Or.inr c87) | exact shI_c c50 c55 | exact shI_d c50 hv c71 c87) ?_
                  refine lv_istore (lv' := [(4, .int (bI (shI th ki va re go t r (i + 1)))), (0, .ref (a 0)), (1, .int (nI t)), (2, .int (nI r)), (3, .int (oI (shL th re go t r i))), (5, .int (nI i))]) hx hb dX6_isShadowed_95 hl (by decide) rfl (fun ls hl => ?_)
                  refine lv_iload hx hb dX6_isShadowed_97 (lv_at hl 5 rfl) ?_
                  refine t_i (y := (oI (shL th re go t r (i + 1)))) (congrArg oI (shL_t c25 c36 c45)) ?_
                  refine lv_istore_n (lv' := [(3, .int (oI (shL th re go t r (i + 1)))), (4, .int (bI (shI th ki va re go t r (i + 1)))), (0, .ref (a 0)), (1, .int (nI t)), (2, .int (nI r)), (5, .int (nI i))]) hx hb dX6_isShadowed_99 rfl hl (by decide) rfl (fun ls hl => ?_)
                  refine lv_iinc (v := (nI (i + 1))) (lv' := [(5, .int (nI (i + 1))), (3, .int (oI (shL th re go t r (i + 1)))), (4, .int (bI (shI th ki va re go t r (i + 1)))), (0, .ref (a 0)), (1, .int (nI t)), (2, .int (nI r))]) hx hb dX6_isShadowed_100 hl (k := 5) rfl (nI_inc _ 1) (by decide) rfl (fun ls hl => ?_)
                  refine lv_goto (tgt := 8) hx hb dX6_isShadowed_103 (by decide) ?_
                  -- slot 5: have n:i + 1, want n:(i + 1)
                  exact ih (i + 1) (by omega) (by omega) ls (lv_sub hl [3, 4, 5, 1, 2, 0] rfl)
                · -- not taken at 55
                  obtain ⟨v, hv⟩ := Option.ne_none_iff_exists'.mp c55
                  have hv9 := shL_lt th re go t r i v hv
                  refine lv_aload_n hx hb dX6_isShadowed_58 rfl (lv_at hl 0 rfl) ?_
                  refine f_get G K hP inX6 0 (ci := 6) rfl rfl 7 rfl fl_X6_25 (v := .ref (a 6)) rfl dX6_isShadowed_59 ?_
                  refine lv_iload_n hx hb dX6_isShadowed_62 rfl (lv_at hl 3 rfl) ?_
                  refine t_i (y := (nI v)) (by rw [hv]; rfl) ?_
                  refine a_ldN G K hP 6 0 (a := (a 6)) rfl rfl (by omega) (by decide) dX6_isShadowed_63 ?_
                  have hb3 := hki v
                  refine lv_aload_n hx hb dX6_isShadowed_64 rfl (lv_at hl 0 rfl) ?_
                  refine f_get G K hP inX6 0 (ci := 6) rfl rfl 7 rfl fl_X6_25 (v := .ref (a 6)) rfl dX6_isShadowed_65 ?_
                  refine lv_iload hx hb dX6_isShadowed_68 (lv_at hl 5 rfl) ?_
                  refine a_ldN G K hP 6 0 (a := (a 6)) rfl rfl (by omega) (by decide) dX6_isShadowed_70 ?_
                  have hb4 := hki i
                  refine c_ne G (tgt := 90) (by omega) (by omega) dX6_isShadowed_71 (by decide) (fun c71 => ?_) (fun c71 => ?_)
                  · -- taken at 71
                    refine lv_iconst (v := (nI 1)) hx hb dX6_isShadowed_90 (by decide) ?_
                    refine lv_goto (tgt := 95) hx hb dX6_isShadowed_91 (by decide) ?_
                    refine t_i (y := (bI (shI th ki va re go t r (i + 1)))) (by first | exact shI_a c50 | exact shI_b c25 c36 c45 hv (Or.inl c71) | exact shI_b c25 c36 c45 hv (Or.inr c87) | exact shI_c c50 c55 | exact shI_d c50 hv c71 c87) ?_
                    refine lv_istore (lv' := [(4, .int (bI (shI th ki va re go t r (i + 1)))), (0, .ref (a 0)), (1, .int (nI t)), (2, .int (nI r)), (3, .int (oI (shL th re go t r i))), (5, .int (nI i))]) hx hb dX6_isShadowed_95 hl (by decide) rfl (fun ls hl => ?_)
                    refine lv_iload hx hb dX6_isShadowed_97 (lv_at hl 5 rfl) ?_
                    refine t_i (y := (oI (shL th re go t r (i + 1)))) (congrArg oI (shL_t c25 c36 c45)) ?_
                    refine lv_istore_n (lv' := [(3, .int (oI (shL th re go t r (i + 1)))), (4, .int (bI (shI th ki va re go t r (i + 1)))), (0, .ref (a 0)), (1, .int (nI t)), (2, .int (nI r)), (5, .int (nI i))]) hx hb dX6_isShadowed_99 rfl hl (by decide) rfl (fun ls hl => ?_)
                    refine lv_iinc (v := (nI (i + 1))) (lv' := [(5, .int (nI (i + 1))), (3, .int (oI (shL th re go t r (i + 1)))), (4, .int (bI (shI th ki va re go t r (i + 1)))), (0, .ref (a 0)), (1, .int (nI t)), (2, .int (nI r))]) hx hb dX6_isShadowed_100 hl (k := 5) rfl (nI_inc _ 1) (by decide) rfl (fun ls hl => ?_)
                    refine lv_goto (tgt := 8) hx hb dX6_isShadowed_103 (by decide) ?_
                    -- slot 5: have n:i + 1, want n:(i + 1)
                    exact ih (i + 1) (by omega) (by omega) ls (lv_sub hl [3, 4, 5, 1, 2, 0] rfl)
                  · -- not taken at 71
                    refine lv_aload_n hx hb dX6_isShadowed_74 rfl (lv_at hl 0 rfl) ?_
                    refine f_get G K hP inX6 0 (ci := 6) rfl rfl 8 rfl fl_X6_28 (v := .ref (a 7)) rfl dX6_isShadowed_75 ?_
                    refine lv_iload_n hx hb dX6_isShadowed_78 rfl (lv_at hl 3 rfl) ?_
                    refine t_i (y := (nI v)) (by rw [hv]; rfl) ?_
                    refine a_ldN G K hP 7 0 (a := (a 7)) rfl rfl (by omega) (by decide) dX6_isShadowed_79 ?_
                    have hb5 := hva v
                    refine lv_aload_n hx hb dX6_isShadowed_80 rfl (lv_at hl 0 rfl) ?_
                    refine f_get G K hP inX6 0 (ci := 6) rfl rfl 8 rfl fl_X6_28 (v := .ref (a 7)) rfl dX6_isShadowed_81 ?_
                    refine lv_iload hx hb dX6_isShadowed_84 (lv_at hl 5 rfl) ?_
                    refine a_ldN G K hP 7 0 (a := (a 7)) rfl rfl (by omega) (by decide) dX6_isShadowed_86 ?_
                    have hb6 := hva i
                    refine c_eq G (tgt := 94) (by omega) (by omega) dX6_isShadowed_87 (by decide) (fun c87 => ?_) (fun c87 => ?_)
                    · -- taken at 87
                      refine lv_iconst (v := (nI 0)) hx hb dX6_isShadowed_94 (by decide) ?_
                      refine t_i (y := (bI (shI th ki va re go t r (i + 1)))) (by first | exact shI_a c50 | exact shI_b c25 c36 c45 hv (Or.inl c71) | exact shI_b c25 c36 c45 hv (Or.inr c87) | exact shI_c c50 c55 | exact shI_d c50 hv c71 c87) ?_
                      refine lv_istore (lv' := [(4, .int (bI (shI th ki va re go t r (i + 1)))), (0, .ref (a 0)), (1, .int (nI t)), (2, .int (nI r)), (3, .int (oI (shL th re go t r i))), (5, .int (nI i))]) hx hb dX6_isShadowed_95 hl (by decide) rfl (fun ls hl => ?_)
                      refine lv_iload hx hb dX6_isShadowed_97 (lv_at hl 5 rfl) ?_
                      refine t_i (y := (oI (shL th re go t r (i + 1)))) (congrArg oI (shL_t c25 c36 c45)) ?_
                      refine lv_istore_n (lv' := [(3, .int (oI (shL th re go t r (i + 1)))), (4, .int (bI (shI th ki va re go t r (i + 1)))), (0, .ref (a 0)), (1, .int (nI t)), (2, .int (nI r)), (5, .int (nI i))]) hx hb dX6_isShadowed_99 rfl hl (by decide) rfl (fun ls hl => ?_)
                      refine lv_iinc (v := (nI (i + 1))) (lv' := [(5, .int (nI (i + 1))), (3, .int (oI (shL th re go t r (i + 1)))), (4, .int (bI (shI th ki va re go t r (i + 1)))), (0, .ref (a 0)), (1, .int (nI t)), (2, .int (nI r))]) hx hb dX6_isShadowed_100 hl (k := 5) rfl (nI_inc _ 1) (by decide) rfl (fun ls hl => ?_)
                      refine lv_goto (tgt := 8) hx hb dX6_isShadowed_103 (by decide) ?_
                      -- slot 5: have n:i + 1, want n:(i + 1)
                      exact ih (i + 1) (by omega) (by omega) ls (lv_sub hl [3, 4, 5, 1, 2, 0] rfl)
                    · -- not taken at 87
                      refine lv_iconst (v := (nI 1)) hx hb dX6_isShadowed_90 (by decide) ?_
                      refine lv_goto (tgt := 95) hx hb dX6_isShadowed_91 (by decide) ?_
                      refine t_i (y := (bI (shI th ki va re go t r (i + 1)))) (by first | exact shI_a c50 | exact shI_b c25 c36 c45 hv (Or.inl c71) | exact shI_b c25 c36 c45 hv (Or.inr c87) | exact shI_c c50 c55 | exact shI_d c50 hv c71 c87) ?_
                      refine lv_istore (lv' := [(4, .int (bI (shI th ki va re go t r (i + 1)))), (0, .ref (a 0)), (1, .int (nI t)), (2, .int (nI r)), (3, .int (oI (shL th re go t r i))), (5, .int (nI i))]) hx hb dX6_isShadowed_95 hl (by decide) rfl (fun ls hl => ?_)
                      refine lv_iload hx hb dX6_isShadowed_97 (lv_at hl 5 rfl) ?_
                      refine t_i (y := (oI (shL th re go t r (i + 1)))) (congrArg oI (shL_t c25 c36 c45)) ?_
                      refine lv_istore_n (lv' := [(3, .int (oI (shL th re go t r (i + 1)))), (4, .int (bI (shI th ki va re go t r (i + 1)))), (0, .ref (a 0)), (1, .int (nI t)), (2, .int (nI r)), (5, .int (nI i))]) hx hb dX6_isShadowed_99 rfl hl (by decide) rfl (fun ls hl => ?_)
                      refine lv_iinc (v := (nI (i + 1))) (lv' := [(5, .int (nI (i + 1))), (3, .int (oI (shL th re go t r (i + 1)))), (4, .int (bI (shI th ki va re go t r (i + 1)))), (0, .ref (a 0)), (1, .int (nI t)), (2, .int (nI r))]) hx hb dX6_isShadowed_100 hl (k := 5) rfl (nI_inc _ 1) (by decide) rfl (fun ls hl => ?_)
                      refine lv_goto (tgt := 8) hx hb dX6_isShadowed_103 (by decide) ?_
                      -- slot 5: have n:i + 1, want n:(i + 1)
                      exact ih (i + 1) (by omega) (by omega) ls (lv_sub hl [3, 4, 5, 1, 2, 0] rfl)
  exact L8 (n - 0) (0) (Nat.le_refl _) (by omega) ls (lv_sub hl [3, 4, 5, 2, 1, 0] rfl)
set_option maxHeartbeats 4000000 in
set_option maxRecDepth 100000 in
theorem c_X6_shadowsIn (a : Nat → Nat) (la : Int32) (n : Nat) (cl : Nat) (go : Option Nat) (fo : Nat → Int32) (si : Nat → Nat) (it : Nat → Int32) (mo : Nat → Int32) (th : Nat → Nat) (ki : Nat → Nat) (va : Nat → Nat) (re : Nat → Nat) (to : Nat → Prop) (co : Nat → Nat) (ke : Nat → Int32) (fw : Nat → Nat) (r : Nat) (I : IM n cl go th ki va re si co fw) (hr9 : r < 2 ^ 31) : CP l D (TY cI cZ cS) yX6_shadowsIn cX6_shadowsIn 4 .int 1 [.ref (a 0), .int (nI r)] (wM cI cZ a la n cl go fo si it mo th ki va re to co ke fw) (.int (nI (bsm (fun t => shad th ki va re go n t r) 16))) := by
  refine CP.ofI (by decide +kernel) (Nat.le_of_ble_eq_true rfl) (nar_int _) ?_
  intro p e s m args below meth c Q G K hP hret ls hl
  obtain ⟨hx, hb, hml, hown, hts⟩ := id G
  obtain ⟨hn, hcl, hgo, hth, hki, hva, hre, hsi, hco, hfw⟩ := id I
  have hl : lv_has ls 4 [(0, .ref (a 0)), (1, .int (nI r))] := hl
  refine lv_iconst (v := (nI 0)) hx hb dX6_shadowsIn_0 (by decide) ?_
  refine lv_istore_n (lv' := [(2, .int (nI 0)), (0, .ref (a 0)), (1, .int (nI r))]) hx hb dX6_shadowsIn_1 rfl hl (by decide) rfl (fun ls hl => ?_)
  refine lv_iconst (v := (nI 0)) hx hb dX6_shadowsIn_2 (by decide) ?_
  refine lv_istore_n (lv' := [(3, .int (nI 0)), (2, .int (nI 0)), (0, .ref (a 0)), (1, .int (nI r))]) hx hb dX6_shadowsIn_3 rfl hl (by decide) rfl (fun ls hl => ?_)
  have L4 : ∀ (d t : Nat), 0 ≤ t → t + d = 16 → ∀ (ls : Array Slot), lv_has ls 4 [(0, .ref (a 0)), (1, .int (nI r)), (2, .int (nI (bsm (fun t => shad th ki va re go n t r) t))), (3, .int (nI t))] → W p l e (RM 1) s m args below meth c s.heap [] 0 0 Q (F0 m 4 ls []) := by
    intro d
    induction d with
    | zero =>
      intro t hlo4 hhi4 ls hl
      refine lv_iload_n hx hb dX6_shadowsIn_4 rfl (lv_at hl 3 rfl) ?_
      refine lv_bipush (v := (nI 16)) hx hb dX6_shadowsIn_5 (by decide) ?_
      refine c_ge G (tgt := 35) (by omega) (by omega) dX6_shadowsIn_7 (by decide) (fun c7 => ?_) (fun c7 => ?_)
      · -- taken at 7
        refine lv_iload_n hx hb dX6_shadowsIn_35 rfl (lv_at hl 2 rfl) ?_
        exact hret _ _ _ (congrArg nI (by rw [show t = 16 by omega])) dX6_shadowsIn_36
      · -- not taken at 7
        exact absurd c7 (by omega)
    | succ d ih =>
      intro t hlo4 hhi4 ls hl
      refine lv_iload_n hx hb dX6_shadowsIn_4 rfl (lv_at hl 3 rfl) ?_
      refine lv_bipush (v := (nI 16)) hx hb dX6_shadowsIn_5 (by decide) ?_
      refine c_ge G (tgt := 35) (by omega) (by omega) dX6_shadowsIn_7 (by decide) (fun c7 => ?_) (fun c7 => ?_)
      · -- taken at 7
        exact absurd c7 (by omega)
      · -- not taken at 7
        refine lv_iload_n hx hb dX6_shadowsIn_10 rfl (lv_at hl 2 rfl) ?_
        refine lv_aload_n hx hb dX6_shadowsIn_11 rfl (lv_at hl 0 rfl) ?_
        refine lv_iload_n hx hb dX6_shadowsIn_12 rfl (lv_at hl 3 rfl) ?_
        refine lv_iload_n hx hb dX6_shadowsIn_13 rfl (lv_at hl 1 rfl) ?_
        refine callPV (As := [.int (nI t), .int (nI r)]) (rest := [.int (nI (bsm (fun t => shad th ki va re go n t r) t))]) (q0 := 0) (ci := 6) G K F_X6_isShadowed (c_X6_isShadowed a la n cl go fo si it mo th ki va re to co ke fw t r I (by omega) (by omega)) hP ml_X6_161 rfl rfl rfl (by decide) (by decide) rfl hl.1 (Nat.le_of_ble_eq_true rfl) dX6_shadowsIn_14 ?_
        refine b_eq G (tgt := 26) dX6_shadowsIn_17 (by decide) (fun c17 => ?_) (fun c17 => ?_)
        · -- taken at 17
          refine lv_iconst (v := (nI 0)) hx hb dX6_shadowsIn_26 (by decide) ?_
          refine lv_ior hx hb dX6_shadowsIn_27 ?_
          refine t_i (y := (nI (bsm (fun t => shad th ki va re go n t r) (t + 1)))) (by first | exact bsm_t c7 c17 | exact bsm_f c7 c17) ?_
          refine lv_istore_n (lv' := [(2, .int (nI (bsm (fun t => shad th ki va re go n t r) (t + 1)))), (0, .ref (a 0)), (1, .int (nI r)), (3, .int (nI t))]) hx hb dX6_shadowsIn_28 rfl hl (by decide) rfl (fun ls hl => ?_)
          refine lv_iinc (v := (nI (t + 1))) (lv' := [(3, .int (nI (t + 1))), (2, .int (nI (bsm (fun t => shad th ki va re go n t r) (t + 1)))), (0, .ref (a 0)), (1, .int (nI r))]) hx hb dX6_shadowsIn_29 hl (k := 3) rfl (nI_inc _ 1) (by decide) rfl (fun ls hl => ?_)
          refine lv_goto (tgt := 4) hx hb dX6_shadowsIn_32 (by decide) ?_
          -- slot 2: have n:bsm (fun t => shad th ki va re go n t r) (t + 1), want n:bsm (fun (t + 1) => shad th ki va re go n (t + 1) r) (t + 1)
          -- slot 3: have n:t + 1, want n:(t + 1)
          exact ih (t + 1) (by omega) (by omega) ls (lv_sub hl [2, 3, 1, 0] rfl)
        · -- not taken at 17
          refine lv_iconst (v := (nI 1)) hx hb dX6_shadowsIn_20 (by decide) ?_
          refine lv_iload_n hx hb dX6_shadowsIn_21 rfl (lv_at hl 3 rfl) ?_
          refine lv_ishl hx hb dX6_shadowsIn_22 ?_
          refine t_i (y := (nI (2 ^ t))) (one_shl c7) ?_
          refine lv_goto (tgt := 27) hx hb dX6_shadowsIn_23 (by decide) ?_
          refine lv_ior hx hb dX6_shadowsIn_27 ?_
          refine t_i (y := (nI (bsm (fun t => shad th ki va re go n t r) (t + 1)))) (by first | exact bsm_t c7 c17 | exact bsm_f c7 c17) ?_
          refine lv_istore_n (lv' := [(2, .int (nI (bsm (fun t => shad th ki va re go n t r) (t + 1)))), (0, .ref (a 0)), (1, .int (nI r)), (3, .int (nI t))]) hx hb dX6_shadowsIn_28 rfl hl (by decide) rfl (fun ls hl => ?_)
          refine lv_iinc (v := (nI (t + 1))) (lv' := [(3, .int (nI (t + 1))), (2, .int (nI (bsm (fun t => shad th ki va re go n t r) (t + 1)))), (0, .ref (a 0)), (1, .int (nI r))]) hx hb dX6_shadowsIn_29 hl (k := 3) rfl (nI_inc _ 1) (by decide) rfl (fun ls hl => ?_)
          refine lv_goto (tgt := 4) hx hb dX6_shadowsIn_32 (by decide) ?_
          -- slot 2: have n:bsm (fun t => shad th ki va re go n t r) (t + 1), want n:bsm (fun (t + 1) => shad th ki va re go n (t + 1) r) (t + 1)
          -- slot 3: have n:t + 1, want n:(t + 1)
          exact ih (t + 1) (by omega) (by omega) ls (lv_sub hl [2, 3, 1, 0] rfl)
  exact L4 (16 - 0) (0) (Nat.le_refl _) (by omega) ls (lv_sub hl [2, 3, 1, 0] rfl)
set_option maxHeartbeats 4000000 in
set_option maxRecDepth 100000 in
theorem c_X6_shadows (a : Nat → Nat) (la : Int32) (n : Nat) (cl : Nat) (go : Option Nat) (fo : Nat → Int32) (si : Nat → Nat) (it : Nat → Int32) (mo : Nat → Int32) (th : Nat → Nat) (ki : Nat → Nat) (va : Nat → Nat) (re : Nat → Nat) (to : Nat → Prop) (co : Nat → Nat) (ke : Nat → Int32) (fw : Nat → Nat) (x : Int32) (I : IM n cl go th ki va re si co fw) : CP l D (TY cI cZ cS) yX6_shadows cX6_shadows 2 .int 2 [.ref (a 0), .int x] (wM cI cZ a la n cl go fo si it mo th ki va re to co ke fw) (.int (shV th ki va re go n cl x)) := by
  refine CP.ofI (by decide +kernel) (Nat.le_of_ble_eq_true rfl) (nar_int _) ?_
  intro p e s m args below meth c Q G K hP hret ls hl
  obtain ⟨hx, hb, hml, hown, hts⟩ := id G
  obtain ⟨hn, hcl, hgo, hth, hki, hva, hre, hsi, hco, hfw⟩ := id I
  have hl : lv_has ls 2 [(0, .ref (a 0)), (1, .int x)] := hl
  refine lv_aload_n hx hb dX6_shadows_0 rfl (lv_at hl 0 rfl) ?_
  refine lv_iload_n hx hb dX6_shadows_1 rfl (lv_at hl 1 rfl) ?_
  refine callPV (As := [.int x]) (rest := []) (q0 := 0) (ci := 6) G K F_X6_isRevision (c_X6_isRevision a la n cl go fo si it mo th ki va re to co ke fw x I) hP ml_X6_146 rfl rfl rfl (by decide) (by decide) rfl hl.1 (Nat.le_of_ble_eq_true rfl) dX6_shadows_2 ?_
  refine b_eq G (tgt := 16) dX6_shadows_5 (by decide) (fun c5 => ?_) (fun c5 => ?_)
  · -- taken at 5
    refine lv_bipush (v := (-2)) hx hb dX6_shadows_16 (by decide) ?_
    exact hret _ _ _ (by first | exact shV_k hcl hk | exact shV_x c5) dX6_shadows_18
  · -- not taken at 5
    obtain ⟨k, hk, rfl⟩ := c5
    refine lv_aload_n hx hb dX6_shadows_8 rfl (lv_at hl 0 rfl) ?_
    refine lv_iload_n hx hb dX6_shadows_9 rfl (lv_at hl 1 rfl) ?_
    refine callPV (As := [.int (nI k)]) (rest := []) (q0 := 0) (ci := 6) G K F_X6_shadowsIn (c_X6_shadowsIn a la n cl go fo si it mo th ki va re to co ke fw k I (by omega)) hP ml_X6_164 rfl rfl rfl (by decide) (by decide) rfl hl.1 (Nat.le_of_ble_eq_true rfl) dX6_shadows_10 ?_
    refine lv_goto (tgt := 18) hx hb dX6_shadows_13 (by decide) ?_
    exact hret _ _ _ (by first | exact shV_k hcl hk | exact shV_x c5) dX6_shadows_18
set_option maxHeartbeats 4000000 in
set_option maxRecDepth 100000 in
theorem c_X6_usual (a : Nat → Nat) (la : Int32) (n : Nat) (cl : Nat) (go : Option Nat) (fo : Nat → Int32) (si : Nat → Nat) (it : Nat → Int32) (mo : Nat → Int32) (th : Nat → Nat) (ki : Nat → Nat) (va : Nat → Nat) (re : Nat → Nat) (to : Nat → Prop) (co : Nat → Nat) (ke : Nat → Int32) (fw : Nat → Nat) (w : Nat) (q : Nat) (I : IM n cl go th ki va re si co fw) (hw9 : w < 40) (hq9 : q < 2 ^ 31) : CP l D (TY cI cZ cS) yX6_usual cX6_usual 3 .int 3 [.ref (a 0), .int (nI w), .int (nI q)] (wM cI cZ a la n cl go fo si it mo th ki va re to co ke fw) (.int (nI (usl re n cl w q))) := by
  refine CP.ofI (by decide +kernel) (Nat.le_of_ble_eq_true rfl) (nar_int _) ?_
  intro p e s m args below meth c Q G K hP hret ls hl
  obtain ⟨hx, hb, hml, hown, hts⟩ := id G
  obtain ⟨hn, hcl, hgo, hth, hki, hva, hre, hsi, hco, hfw⟩ := id I
  have hl : lv_has ls 3 [(0, .ref (a 0)), (1, .int (nI w)), (2, .int (nI q))] := hl
  refine lv_iload_n hx hb dX6_usual_0 rfl (lv_at hl 2 rfl) ?_
  refine z_ne G (tgt := 8) (by omega) dX6_usual_1 (by decide) (fun c1 => ?_) (fun c1 => ?_)
  · -- taken at 1
    refine lv_iload_n hx hb dX6_usual_8 rfl (lv_at hl 2 rfl) ?_
    refine lv_iconst (v := (nI 1)) hx hb dX6_usual_9 (by decide) ?_
    refine c_ne G (tgt := 21) (by omega) (by omega) dX6_usual_10 (by decide) (fun c10 => ?_) (fun c10 => ?_)
    · -- taken at 10
      refine lv_iload_n hx hb dX6_usual_21 rfl (lv_at hl 2 rfl) ?_
      refine lv_iconst (v := (nI 2)) hx hb dX6_usual_22 (by decide) ?_
      refine c_ne G (tgt := 36) (by omega) (by omega) dX6_usual_23 (by decide) (fun c23 => ?_) (fun c23 => ?_)
      · -- taken at 23
        refine lv_aload_n hx hb dX6_usual_36 rfl (lv_at hl 0 rfl) ?_
        refine lv_aload_n hx hb dX6_usual_37 rfl (lv_at hl 0 rfl) ?_
        refine f_get G K hP inX6 0 (ci := 6) rfl rfl 9 rfl fl_X6_31 (v := .ref (a 8)) rfl dX6_usual_38 ?_
        refine lv_iload_n hx hb dX6_usual_41 rfl (lv_at hl 1 rfl) ?_
        refine a_ldN G K hP 8 0 (a := (a 8)) rfl rfl (by omega) (by decide) dX6_usual_42 ?_
        have hb1 := hre w
        refine callPV (As := [.int (nI (re w))]) (rest := []) (q0 := 0) (ci := 6) G K F_X6_endOf (c_X6_endOf a la n cl go fo si it mo th ki va re to co ke fw (re w) I (by omega)) hP ml_X6_143 rfl rfl rfl (by decide) (by decide) rfl hl.1 (Nat.le_of_ble_eq_true rfl) dX6_usual_43 ?_
        exact hret _ _ _ (congrArg nI (by unfold usl; (repeat' split) <;> first | rfl | omega)) dX6_usual_46
      · -- not taken at 23
        refine lv_aload_n hx hb dX6_usual_26 rfl (lv_at hl 0 rfl) ?_
        refine lv_iload_n hx hb dX6_usual_27 rfl (lv_at hl 1 rfl) ?_
        refine callPV (As := [.int (nI w)]) (rest := []) (q0 := 0) (ci := 6) G K F_X6_placeOf (c_X6_placeOf a la n cl go fo si it mo th ki va re to co ke fw w I (by omega)) hP ml_X6_135 rfl rfl rfl (by decide) (by decide) rfl hl.1 (Nat.le_of_ble_eq_true rfl) dX6_usual_28 ?_
        refine lv_iconst (v := (nI 5)) hx hb dX6_usual_31 (by decide) ?_
        refine t_add G dX6_usual_32 ?_
        refine lv_goto (tgt := 46) hx hb dX6_usual_33 (by decide) ?_
        exact hret _ _ _ (congrArg nI (by unfold usl; (repeat' split) <;> first | rfl | omega)) dX6_usual_46
    · -- not taken at 10
      refine lv_aload_n hx hb dX6_usual_13 rfl (lv_at hl 0 rfl) ?_
      refine lv_iload_n hx hb dX6_usual_14 rfl (lv_at hl 1 rfl) ?_
      refine callPV (As := [.int (nI w)]) (rest := []) (q0 := 0) (ci := 6) G K F_X6_placeOf (c_X6_placeOf a la n cl go fo si it mo th ki va re to co ke fw w I (by omega)) hP ml_X6_135 rfl rfl rfl (by decide) (by decide) rfl hl.1 (Nat.le_of_ble_eq_true rfl) dX6_usual_15 ?_
      refine lv_goto (tgt := 46) hx hb dX6_usual_18 (by decide) ?_
      exact hret _ _ _ (congrArg nI (by unfold usl; (repeat' split) <;> first | rfl | omega)) dX6_usual_46
  · -- not taken at 1
    refine lv_iconst (v := (nI 0)) hx hb dX6_usual_4 (by decide) ?_
    refine lv_goto (tgt := 46) hx hb dX6_usual_5 (by decide) ?_
    exact hret _ _ _ (congrArg nI (by unfold usl; (repeat' split) <;> first | rfl | omega)) dX6_usual_46
set_option maxHeartbeats 4000000 in
set_option maxRecDepth 100000 in
theorem c_X6_coverOf (a : Nat → Nat) (la : Int32) (n : Nat) (cl : Nat) (go : Option Nat) (fo : Nat → Int32) (si : Nat → Nat) (it : Nat → Int32) (mo : Nat → Int32) (th : Nat → Nat) (ki : Nat → Nat) (va : Nat → Nat) (re : Nat → Nat) (to : Nat → Prop) (co : Nat → Nat) (ke : Nat → Int32) (fw : Nat → Nat) (w : Nat) (q : Nat) (I : IM n cl go th ki va re si co fw) (hw9 : w < 40) (hq9 : q < 4) : CP l D (TY cI cZ cS) yX6_coverOf cX6_coverOf 3 .int 4 [.ref (a 0), .int (nI w), .int (nI q)] (wM cI cZ a la n cl go fo si it mo th ki va re to co ke fw) (.int (nI (cov re n cl to co w q))) := by
  refine CP.ofI (by decide +kernel) (Nat.le_of_ble_eq_true rfl) (nar_int _) ?_
  intro p e s m args below meth c Q G K hP hret ls hl
  obtain ⟨hx, hb, hml, hown, hts⟩ := id G
  obtain ⟨hn, hcl, hgo, hth, hki, hva, hre, hsi, hco, hfw⟩ := id I
  have hl : lv_has ls 3 [(0, .ref (a 0)), (1, .int (nI w)), (2, .int (nI q))] := hl
  refine lv_aload_n hx hb dX6_coverOf_0 rfl (lv_at hl 0 rfl) ?_
  refine f_get G K hP inX6 0 (ci := 6) rfl rfl 10 rfl fl_X6_34 (v := .ref (a 9)) rfl dX6_coverOf_1 ?_
  refine lv_iload_n hx hb dX6_coverOf_4 rfl (lv_at hl 1 rfl) ?_
  refine a_ldB G K hP 9 1 (a := (a 9)) rfl rfl (by omega) (by decide) dX6_coverOf_5 ?_
  refine b_eq G (tgt := 22) dX6_coverOf_6 (by decide) (fun c6 => ?_) (fun c6 => ?_)
  · -- taken at 6
    refine lv_aload_n hx hb dX6_coverOf_22 rfl (lv_at hl 0 rfl) ?_
    refine lv_iload_n hx hb dX6_coverOf_23 rfl (lv_at hl 1 rfl) ?_
    refine lv_iload_n hx hb dX6_coverOf_24 rfl (lv_at hl 2 rfl) ?_
    refine callPV (As := [.int (nI w), .int (nI q)]) (rest := []) (q0 := 0) (ci := 6) G K F_X6_usual (c_X6_usual a la n cl go fo si it mo th ki va re to co ke fw w q I (by omega) (by omega)) hP ml_X6_167 rfl rfl rfl (by decide) (by decide) rfl hl.1 (Nat.le_of_ble_eq_true rfl) dX6_coverOf_25 ?_
    have hf1 := usl_le re n cl hn hre w (by omega) q
    exact hret _ _ _ (congrArg nI (by unfold cov; first | rw [cif_t c6] | rw [cif_f c6])) dX6_coverOf_28
  · -- not taken at 6
    refine lv_aload_n hx hb dX6_coverOf_9 rfl (lv_at hl 0 rfl) ?_
    refine f_get G K hP inX6 0 (ci := 6) rfl rfl 11 rfl fl_X6_38 (v := .ref (a 10)) rfl dX6_coverOf_10 ?_
    refine lv_iconst (v := (nI 4)) hx hb dX6_coverOf_13 (by decide) ?_
    refine lv_iload_n hx hb dX6_coverOf_14 rfl (lv_at hl 1 rfl) ?_
    refine t_mul G dX6_coverOf_15 ?_
    refine lv_iload_n hx hb dX6_coverOf_16 rfl (lv_at hl 2 rfl) ?_
    refine t_add G dX6_coverOf_17 ?_
    refine a_ldN G K hP 10 0 (a := (a 10)) rfl rfl (by omega) (by decide) dX6_coverOf_18 ?_
    have hb2 := hco (4 * w + q)
    refine lv_goto (tgt := 28) hx hb dX6_coverOf_19 (by decide) ?_
    exact hret _ _ _ (congrArg nI (by unfold cov; first | rw [cif_t c6] | rw [cif_f c6])) dX6_coverOf_28
set_option maxHeartbeats 4000000 in
set_option maxRecDepth 100000 in
theorem c_X6_covers (a : Nat → Nat) (la : Int32) (n : Nat) (cl : Nat) (go : Option Nat) (fo : Nat → Int32) (si : Nat → Nat) (it : Nat → Int32) (mo : Nat → Int32) (th : Nat → Nat) (ki : Nat → Nat) (va : Nat → Nat) (re : Nat → Nat) (to : Nat → Prop) (co : Nat → Nat) (ke : Nat → Int32) (fw : Nat → Nat) (w : Int32) (q : Int32) (I : IM n cl go th ki va re si co fw) : CP l D (TY cI cZ cS) yX6_covers cX6_covers 3 .int 5 [.ref (a 0), .int w, .int q] (wM cI cZ a la n cl go fo si it mo th ki va re to co ke fw) (.int (cvV ki re n cl to co w q)) := by
  refine CP.ofI (by decide +kernel) (Nat.le_of_ble_eq_true rfl) (nar_int _) ?_
  intro p e s m args below meth c Q G K hP hret ls hl
  obtain ⟨hx, hb, hml, hown, hts⟩ := id G
  obtain ⟨hn, hcl, hgo, hth, hki, hva, hre, hsi, hco, hfw⟩ := id I
  have hl : lv_has ls 3 [(0, .ref (a 0)), (1, .int w), (2, .int q)] := hl
  refine lv_aload_n hx hb dX6_covers_0 rfl (lv_at hl 0 rfl) ?_
  refine lv_iload_n hx hb dX6_covers_1 rfl (lv_at hl 1 rfl) ?_
  refine callPV (As := [.int w]) (rest := []) (q0 := 0) (ci := 6) G K F_X6_isWrite (c_X6_isWrite a la n cl go fo si it mo th ki va re to co ke fw w I) hP ml_X6_106 rfl rfl rfl (by decide) (by decide) rfl hl.1 (Nat.le_of_ble_eq_true rfl) dX6_covers_2 ?_
  refine b_eq G (tgt := 20) dX6_covers_5 (by decide) (fun c5 => ?_) (fun c5 => ?_)
  · -- taken at 5
    refine lv_bipush (v := (-2)) hx hb dX6_covers_20 (by decide) ?_
    exact hret _ _ _ (by first | exact cvV_k hn hk hj c28 | exact cvV_s hn hk hj c28 | exact cvV_w c5 | exact cvV_q c17) dX6_covers_22
  · -- not taken at 5
    obtain ⟨k, hk, rfl⟩ := c5
    refine lv_iload_n hx hb dX6_covers_8 rfl (lv_at hl 2 rfl) ?_
    refine lv_i2l (v := q.toInt64) hx hb dX6_covers_9 rfl ?_
    refine lv_lconst (v := ((0 : Int32)).toInt64) hx hb dX6_covers_10 (by decide) ?_
    refine lv_ldc2 hx hb hown (hts _ kl_X6_58) dX6_covers_11 ?_
    refine t_l (y := (3 : Int32).toInt64) (by decide) ?_
    refine callPS (rest := []) G K F_X6_in (c_X6_in q (0 : Int32) (3 : Int32)) (va_P_nil D s.heap) ml_X6_51 (by decide) (by decide) rfl hl.1 (Nat.le_of_ble_eq_true rfl) dX6_covers_14 ?_
    refine b_ne G (tgt := 23) dX6_covers_17 (by decide) (fun c17 => ?_) (fun c17 => ?_)
    · -- taken at 17
      obtain ⟨j, hj, rfl⟩ := (okN (m := 3) (by decide)).mp c17
      refine lv_aload_n hx hb dX6_covers_23 rfl (lv_at hl 0 rfl) ?_
      refine lv_iload_n hx hb dX6_covers_24 rfl (lv_at hl 1 rfl) ?_
      refine callPV (As := [.int (nI k)]) (rest := []) (q0 := 0) (ci := 6) G K F_X6_isSeal (c_X6_isSeal a la n cl go fo si it mo th ki va re to co ke fw k I (by omega)) hP ml_X6_101 rfl rfl rfl (by decide) (by decide) rfl hl.1 (Nat.le_of_ble_eq_true rfl) dX6_covers_25 ?_
      refine b_eq G (tgt := 40) dX6_covers_28 (by decide) (fun c28 => ?_) (fun c28 => ?_)
      · -- taken at 28
        refine lv_bipush (v := (-3)) hx hb dX6_covers_40 (by decide) ?_
        exact hret _ _ _ (by first | exact cvV_k hn hk hj c28 | exact cvV_s hn hk hj c28 | exact cvV_w c5 | exact cvV_q c17) dX6_covers_42
      · -- not taken at 28
        refine lv_aload_n hx hb dX6_covers_31 rfl (lv_at hl 0 rfl) ?_
        refine lv_iload_n hx hb dX6_covers_32 rfl (lv_at hl 1 rfl) ?_
        refine lv_iload_n hx hb dX6_covers_33 rfl (lv_at hl 2 rfl) ?_
        refine callPV (As := [.int (nI k), .int (nI j)]) (rest := []) (q0 := 0) (ci := 6) G K F_X6_coverOf (c_X6_coverOf a la n cl go fo si it mo th ki va re to co ke fw k j I (by omega) (by omega)) hP ml_X6_170 rfl rfl rfl (by decide) (by decide) rfl hl.1 (Nat.le_of_ble_eq_true rfl) dX6_covers_34 ?_
        have hf1 := cov_le re n cl to co hn hre hco k (by omega) j
        refine lv_goto (tgt := 42) hx hb dX6_covers_37 (by decide) ?_
        exact hret _ _ _ (by first | exact cvV_k hn hk hj c28 | exact cvV_s hn hk hj c28 | exact cvV_w c5 | exact cvV_q c17) dX6_covers_42
    · -- not taken at 17
      refine lv_bipush (v := (-2)) hx hb dX6_covers_20 (by decide) ?_
      exact hret _ _ _ (by first | exact cvV_k hn hk hj c28 | exact cvV_s hn hk hj c28 | exact cvV_w c5 | exact cvV_q c17) dX6_covers_22
set_option maxHeartbeats 4000000 in
set_option maxRecDepth 100000 in
theorem c_X6_coveredBy (a : Nat → Nat) (la : Int32) (n : Nat) (cl : Nat) (go : Option Nat) (fo : Nat → Int32) (si : Nat → Nat) (it : Nat → Int32) (mo : Nat → Int32) (th : Nat → Nat) (ki : Nat → Nat) (va : Nat → Nat) (re : Nat → Nat) (to : Nat → Prop) (co : Nat → Nat) (ke : Nat → Int32) (fw : Nat → Nat) (w : Nat) (I : IM n cl go th ki va re si co fw) (hw9 : w < 40) : CP l D (TY cI cZ cS) yX6_coveredBy cX6_coveredBy 5 .int 5 [.ref (a 0), .int (nI w)] (wM cI cZ a la n cl go fo si it mo th ki va re to co ke fw) (.int (cvS re n cl to co w 2)) := by
  refine CP.ofI (by decide +kernel) (Nat.le_of_ble_eq_true rfl) (nar_int _) ?_
  intro p e s m args below meth c Q G K hP hret ls hl
  obtain ⟨hx, hb, hml, hown, hts⟩ := id G
  obtain ⟨hn, hcl, hgo, hth, hki, hva, hre, hsi, hco, hfw⟩ := id I
  have hl : lv_has ls 5 [(0, .ref (a 0)), (1, .int (nI w))] := hl
  refine lv_iconst (v := (nI 0)) hx hb dX6_coveredBy_0 (by decide) ?_
  refine t_i (y := (cvS re n cl to co w 0)) rfl ?_
  refine lv_istore_n (lv' := [(2, .int (cvS re n cl to co w 0)), (0, .ref (a 0)), (1, .int (nI w))]) hx hb dX6_coveredBy_1 rfl hl (by decide) rfl (fun ls hl => ?_)
  refine lv_iconst (v := (nI 0)) hx hb dX6_coveredBy_2 (by decide) ?_
  refine lv_istore_n (lv' := [(3, .int (nI 0)), (2, .int (cvS re n cl to co w 0)), (0, .ref (a 0)), (1, .int (nI w))]) hx hb dX6_coveredBy_3 rfl hl (by decide) rfl (fun ls hl => ?_)
  have L4 : ∀ (d k : Nat), 0 ≤ k → k + d = 2 → ∀ (ls : Array Slot), lv_has ls 5 [(0, .ref (a 0)), (1, .int (nI w)), (2, .int (cvS re n cl to co w k)), (3, .int (nI k))] → W p l e (RM 5) s m args below meth c s.heap [] 0 0 Q (F0 m 4 ls []) := by
    intro d
    induction d with
    | zero =>
      intro k hlo4 hhi4 ls hl
      refine lv_iload_n hx hb dX6_coveredBy_4 rfl (lv_at hl 3 rfl) ?_
      refine lv_iconst (v := (nI 2)) hx hb dX6_coveredBy_5 (by decide) ?_
      refine c_ge G (tgt := 55) (by omega) (by omega) dX6_coveredBy_6 (by decide) (fun c6 => ?_) (fun c6 => ?_)
      · -- taken at 6
        refine lv_iload_n hx hb dX6_coveredBy_55 rfl (lv_at hl 2 rfl) ?_
        exact hret _ _ _ (by rw [show k = 2 by omega]) dX6_coveredBy_56
      · -- not taken at 6
        exact absurd c6 (by omega)
    | succ d ih =>
      intro k hlo4 hhi4 ls hl
      refine lv_iload_n hx hb dX6_coveredBy_4 rfl (lv_at hl 3 rfl) ?_
      refine lv_iconst (v := (nI 2)) hx hb dX6_coveredBy_5 (by decide) ?_
      refine c_ge G (tgt := 55) (by omega) (by omega) dX6_coveredBy_6 (by decide) (fun c6 => ?_) (fun c6 => ?_)
      · -- taken at 6
        exact absurd c6 (by omega)
      · -- not taken at 6
        refine lv_aload_n hx hb dX6_coveredBy_9 rfl (lv_at hl 0 rfl) ?_
        refine lv_iload_n hx hb dX6_coveredBy_10 rfl (lv_at hl 1 rfl) ?_
        refine lv_iconst (v := (nI 2)) hx hb dX6_coveredBy_11 (by decide) ?_
        refine lv_iload_n hx hb dX6_coveredBy_12 rfl (lv_at hl 3 rfl) ?_
        refine t_mul G dX6_coveredBy_13 ?_
        refine callPV (As := [.int (nI w), .int (nI (2 * k))]) (rest := []) (q0 := 0) (ci := 6) G K F_X6_coverOf (c_X6_coverOf a la n cl go fo si it mo th ki va re to co ke fw w (2 * k) I (by omega) (by omega)) hP ml_X6_170 rfl rfl rfl (by decide) (by decide) rfl hl.1 (Nat.le_of_ble_eq_true rfl) dX6_coveredBy_14 ?_
        have hf1 := cov_le re n cl to co hn hre hco w (by omega) (2 * k)
        refine lv_aload_n hx hb dX6_coveredBy_17 rfl (lv_at hl 0 rfl) ?_
        refine callPV (As := []) (rest := [.int (nI (cov re n cl to co w (2 * k)))]) (q0 := 0) (ci := 6) G K F_X6_allBytes (c_X6_allBytes a la n cl go fo si it mo th ki va re to co ke fw I) hP ml_X6_128 rfl rfl rfl (by decide) (by decide) rfl hl.1 (Nat.le_of_ble_eq_true rfl) dX6_coveredBy_18 ?_
        refine callPS (rest := []) G K F_X6_lesser (c_X6_lesser (cov re n cl to co w (2 * k)) (5 * n + 2 * cl) (by omega) (by omega)) (va_P_nil D s.heap) ml_X6_173 (by decide) (by decide) rfl hl.1 (Nat.le_of_ble_eq_true rfl) dX6_coveredBy_21 ?_
        refine lv_istore (lv' := [(4, .int (nI (min (cov re n cl to co w (2 * k)) (5 * n + 2 * cl)))), (0, .ref (a 0)), (1, .int (nI w)), (2, .int (cvS re n cl to co w k)), (3, .int (nI k))]) hx hb dX6_coveredBy_24 hl (by decide) rfl (fun ls hl => ?_)
        refine lv_iload_n hx hb dX6_coveredBy_26 rfl (lv_at hl 3 rfl) ?_
        refine lv_aload_n hx hb dX6_coveredBy_27 rfl (lv_at hl 1 rfl) ?_
        refine lv_iload_n hx hb dX6_coveredBy_28 rfl (lv_at hl 2 rfl) ?_
        refine lv_iconst (v := (nI 2)) hx hb dX6_coveredBy_29 (by decide) ?_
        refine lv_iload_n hx hb dX6_coveredBy_30 rfl (lv_at hl 4 rfl) ?_
        refine t_mul G dX6_coveredBy_31 ?_
        refine lv_iconst (v := (nI 1)) hx hb dX6_coveredBy_32 (by decide) ?_
        refine t_add G dX6_coveredBy_33 ?_
        refine callPV (As := [.int (nI w), .int (nI (2 * k + 1))]) (rest := [.int (cvS re n cl to co w k)]) (q0 := 0) (ci := 6) G K F_X6_coverOf (c_X6_coverOf a la n cl go fo si it mo th ki va re to co ke fw w (2 * k + 1) I (by omega) (by omega)) hP ml_X6_170 rfl rfl rfl (by decide) (by decide) rfl hl.1 (Nat.le_of_ble_eq_true rfl) dX6_coveredBy_34 ?_
        have hf2 := cov_le re n cl to co hn hre hco w (by omega) (2 * k + 1)
        refine lv_aload_n hx hb dX6_coveredBy_37 rfl (lv_at hl 1 rfl) ?_
        refine callPV (As := []) (rest := [.int (nI (cov re n cl to co w (2 * k + 1))), .int (cvS re n cl to co w k)]) (q0 := 0) (ci := 6) G K F_X6_allBytes (c_X6_allBytes a la n cl go fo si it mo th ki va re to co ke fw I) hP ml_X6_128 rfl rfl rfl (by decide) (by decide) rfl hl.1 (Nat.le_of_ble_eq_true rfl) dX6_coveredBy_38 ?_
        refine callPS (rest := [.int (cvS re n cl to co w k)]) G K F_X6_lesser (c_X6_lesser (cov re n cl to co w (2 * k + 1)) (5 * n + 2 * cl) (by omega) (by omega)) (va_P_nil D s.heap) ml_X6_173 (by decide) (by decide) rfl hl.1 (Nat.le_of_ble_eq_true rfl) dX6_coveredBy_41 ?_
        refine lv_iload hx hb dX6_coveredBy_44 (lv_at hl 0 rfl) ?_
        refine lv_isub hx hb dX6_coveredBy_46 ?_
        refine lv_iadd hx hb dX6_coveredBy_47 ?_
        refine lv_istore_n (lv' := [(2, .int ((cvS re n cl to co w k) + ((nI (min (cov re n cl to co w (2 * k + 1)) (5 * n + 2 * cl))) - (nI (min (cov re n cl to co w (2 * k)) (5 * n + 2 * cl)))))), (4, .int (nI (min (cov re n cl to co w (2 * k)) (5 * n + 2 * cl)))), (0, .ref (a 0)), (1, .int (nI w)), (3, .int (nI k))]) hx hb dX6_coveredBy_48 rfl hl (by decide) rfl (fun ls hl => ?_)
        refine lv_iinc (v := (nI (k + 1))) (lv' := [(3, .int (nI (k + 1))), (2, .int ((cvS re n cl to co w k) + ((nI (min (cov re n cl to co w (2 * k + 1)) (5 * n + 2 * cl))) - (nI (min (cov re n cl to co w (2 * k)) (5 * n + 2 * cl)))))), (4, .int (nI (min (cov re n cl to co w (2 * k)) (5 * n + 2 * cl)))), (0, .ref (a 0)), (1, .int (nI w))]) hx hb dX6_coveredBy_49 hl (k := 4) rfl (nI_inc _ 1) (by decide) rfl (fun ls hl => ?_)
        refine lv_goto (tgt := 4) hx hb dX6_coveredBy_52 (by decide) ?_
        -- slot 2: have r:(cvS re n cl to co w k) + ((nI (min (cov re n cl to co w (2 * k + 1)) (5 * n + 2 * cl))) - (nI (min (cov re n cl to co w (2 * k)) (5 * n + 2 * cl)))), want r:cvS re n cl to co w (k + 1)
        -- slot 3: have n:k + 1, want n:(k + 1)
        exact ih (k + 1) (by omega) (by omega) ls (lv_sub hl [3, 4, 1, 0] rfl)
  exact L4 (2 - 0) (0) (Nat.le_refl _) (by omega) ls (lv_sub hl [2, 3, 1, 0] rfl)
set_option maxHeartbeats 4000000 in
set_option maxRecDepth 100000 in
theorem c_X6_covered (a : Nat → Nat) (la : Int32) (n : Nat) (cl : Nat) (go : Option Nat) (fo : Nat → Int32) (si : Nat → Nat) (it : Nat → Int32) (mo : Nat → Int32) (th : Nat → Nat) (ki : Nat → Nat) (va : Nat → Nat) (re : Nat → Nat) (to : Nat → Prop) (co : Nat → Nat) (ke : Nat → Int32) (fw : Nat → Nat) (w : Int32) (I : IM n cl go th ki va re si co fw) : CP l D (TY cI cZ cS) yX6_covered cX6_covered 2 .int 6 [.ref (a 0), .int w] (wM cI cZ a la n cl go fo si it mo th ki va re to co ke fw) (.int (cdV ki re n cl to co w)) := by
  refine CP.ofI (by decide +kernel) (Nat.le_of_ble_eq_true rfl) (nar_int _) ?_
  intro p e s m args below meth c Q G K hP hret ls hl
  obtain ⟨hx, hb, hml, hown, hts⟩ := id G
  obtain ⟨hn, hcl, hgo, hth, hki, hva, hre, hsi, hco, hfw⟩ := id I
  have hl : lv_has ls 2 [(0, .ref (a 0)), (1, .int w)] := hl
  refine lv_aload_n hx hb dX6_covered_0 rfl (lv_at hl 0 rfl) ?_
  refine lv_iload_n hx hb dX6_covered_1 rfl (lv_at hl 1 rfl) ?_
  refine callPV (As := [.int w]) (rest := []) (q0 := 0) (ci := 6) G K F_X6_isWrite (c_X6_isWrite a la n cl go fo si it mo th ki va re to co ke fw w I) hP ml_X6_106 rfl rfl rfl (by decide) (by decide) rfl hl.1 (Nat.le_of_ble_eq_true rfl) dX6_covered_2 ?_
  refine b_ne G (tgt := 11) dX6_covered_5 (by decide) (fun c5 => ?_) (fun c5 => ?_)
  · -- taken at 5
    obtain ⟨k, hk, rfl⟩ := c5
    refine lv_aload_n hx hb dX6_covered_11 rfl (lv_at hl 0 rfl) ?_
    refine lv_iload_n hx hb dX6_covered_12 rfl (lv_at hl 1 rfl) ?_
    refine callPV (As := [.int (nI k)]) (rest := []) (q0 := 0) (ci := 6) G K F_X6_isSeal (c_X6_isSeal a la n cl go fo si it mo th ki va re to co ke fw k I (by omega)) hP ml_X6_101 rfl rfl rfl (by decide) (by decide) rfl hl.1 (Nat.le_of_ble_eq_true rfl) dX6_covered_13 ?_
    refine b_eq G (tgt := 27) dX6_covered_16 (by decide) (fun c16 => ?_) (fun c16 => ?_)
    · -- taken at 16
      refine lv_bipush (v := (-3)) hx hb dX6_covered_27 (by decide) ?_
      exact hret _ _ _ (by first | exact cdV_k hn hk c16 | exact cdV_s hn hk c16 | exact cdV_w c5) dX6_covered_29
    · -- not taken at 16
      refine lv_aload_n hx hb dX6_covered_19 rfl (lv_at hl 0 rfl) ?_
      refine lv_iload_n hx hb dX6_covered_20 rfl (lv_at hl 1 rfl) ?_
      refine callPV (As := [.int (nI k)]) (rest := []) (q0 := 0) (ci := 6) G K F_X6_coveredBy (c_X6_coveredBy a la n cl go fo si it mo th ki va re to co ke fw k I (by omega)) hP ml_X6_176 rfl rfl rfl (by decide) (by decide) rfl hl.1 (Nat.le_of_ble_eq_true rfl) dX6_covered_21 ?_
      refine lv_goto (tgt := 29) hx hb dX6_covered_24 (by decide) ?_
      exact hret _ _ _ (by first | exact cdV_k hn hk c16 | exact cdV_s hn hk c16 | exact cdV_w c5) dX6_covered_29
  · -- not taken at 5
    refine lv_bipush (v := (-2)) hx hb dX6_covered_8 (by decide) ?_
    exact hret _ _ _ (by first | exact cdV_k hn hk c16 | exact cdV_s hn hk c16 | exact cdV_w c5) dX6_covered_10
set_option maxHeartbeats 4000000 in
set_option maxRecDepth 100000 in
theorem c_X6_numberOf (a : Nat → Nat) (la : Int32) (n : Nat) (cl : Nat) (go : Option Nat) (fo : Nat → Int32) (si : Nat → Nat) (it : Nat → Int32) (mo : Nat → Int32) (th : Nat → Nat) (ki : Nat → Nat) (va : Nat → Nat) (re : Nat → Nat) (to : Nat → Prop) (co : Nat → Nat) (ke : Nat → Int32) (fw : Nat → Nat) (w : Nat) (I : IM n cl go th ki va re si co fw) (hw9 : w < 40) : CP l D (TY cI cZ cS) yX6_numberOf cX6_numberOf 6 .int 5 [.ref (a 0), .int (nI w)] (wM cI cZ a la n cl go fo si it mo th ki va re to co ke fw) (.int (numO th ki va re n cl to co w)) := by
  refine CP.ofI (by decide +kernel) (Nat.le_of_ble_eq_true rfl) (nar_int _) ?_
  intro p e s m args below meth c Q G K hP hret ls hl
  obtain ⟨hx, hb, hml, hown, hts⟩ := id G
  obtain ⟨hn, hcl, hgo, hth, hki, hva, hre, hsi, hco, hfw⟩ := id I
  have hl : lv_has ls 6 [(0, .ref (a 0)), (1, .int (nI w))] := hl
  refine lv_bipush (v := (nI 7)) hx hb dX6_numberOf_0 (by decide) ?_
  refine t_i (y := (nmb (fun i => oI (byteA th ki va re n cl i)) re n cl to co w 0)) rfl ?_
  refine lv_istore_n (lv' := [(2, .int (nmb (fun i => oI (byteA th ki va re n cl i)) re n cl to co w 0)), (0, .ref (a 0)), (1, .int (nI w))]) hx hb dX6_numberOf_2 rfl hl (by decide) rfl (fun ls hl => ?_)
  refine lv_iconst (v := (nI 0)) hx hb dX6_numberOf_3 (by decide) ?_
  refine lv_istore_n (lv' := [(3, .int (nI 0)), (2, .int (nmb (fun i => oI (byteA th ki va re n cl i)) re n cl to co w 0)), (0, .ref (a 0)), (1, .int (nI w))]) hx hb dX6_numberOf_4 rfl hl (by decide) rfl (fun ls hl => ?_)
  have L5 : ∀ (d k : Nat), 0 ≤ k → k + d = 2 → ∀ (ls : Array Slot), lv_has ls 6 [(0, .ref (a 0)), (1, .int (nI w)), (2, .int (nmb (fun i => oI (byteA th ki va re n cl i)) re n cl to co w k)), (3, .int (nI k))] → W p l e (RM 5) s m args below meth c s.heap [] 0 0 Q (F0 m 5 ls []) := by
    intro d
    induction d with
    | zero =>
      intro k hlo5 hhi5 ls hl
      refine lv_iload_n hx hb dX6_numberOf_5 rfl (lv_at hl 3 rfl) ?_
      refine lv_iconst (v := (nI 2)) hx hb dX6_numberOf_6 (by decide) ?_
      refine c_ge G (tgt := 70) (by omega) (by omega) dX6_numberOf_7 (by decide) (fun c7 => ?_) (fun c7 => ?_)
      · -- taken at 7
        refine lv_iload_n hx hb dX6_numberOf_70 rfl (lv_at hl 2 rfl) ?_
        exact hret _ _ _ (by rw [show k = 2 by omega]; rfl) dX6_numberOf_71
      · -- not taken at 7
        exact absurd c7 (by omega)
    | succ d ih =>
      intro k hlo5 hhi5 ls hl
      refine lv_iload_n hx hb dX6_numberOf_5 rfl (lv_at hl 3 rfl) ?_
      refine lv_iconst (v := (nI 2)) hx hb dX6_numberOf_6 (by decide) ?_
      refine c_ge G (tgt := 70) (by omega) (by omega) dX6_numberOf_7 (by decide) (fun c7 => ?_) (fun c7 => ?_)
      · -- taken at 7
        exact absurd c7 (by omega)
      · -- not taken at 7
        refine lv_aload_n hx hb dX6_numberOf_10 rfl (lv_at hl 0 rfl) ?_
        refine lv_iload_n hx hb dX6_numberOf_11 rfl (lv_at hl 1 rfl) ?_
        refine lv_iconst (v := (nI 2)) hx hb dX6_numberOf_12 (by decide) ?_
        refine lv_iload_n hx hb dX6_numberOf_13 rfl (lv_at hl 3 rfl) ?_
        refine t_mul G dX6_numberOf_14 ?_
        refine lv_iconst (v := (nI 1)) hx hb dX6_numberOf_15 (by decide) ?_
        refine t_add G dX6_numberOf_16 ?_
        refine callPV (As := [.int (nI w), .int (nI (2 * k + 1))]) (rest := []) (q0 := 0) (ci := 6) G K F_X6_coverOf (c_X6_coverOf a la n cl go fo si it mo th ki va re to co ke fw w (2 * k + 1) I (by omega) (by omega)) hP ml_X6_170 rfl rfl rfl (by decide) (by decide) rfl hl.1 (Nat.le_of_ble_eq_true rfl) dX6_numberOf_17 ?_
        have hf1 := cov_le re n cl to co hn hre hco w (by omega) (2 * k + 1)
        refine lv_aload_n hx hb dX6_numberOf_20 rfl (lv_at hl 0 rfl) ?_
        refine callPV (As := []) (rest := [.int (nI (cov re n cl to co w (2 * k + 1)))]) (q0 := 0) (ci := 6) G K F_X6_allBytes (c_X6_allBytes a la n cl go fo si it mo th ki va re to co ke fw I) hP ml_X6_128 rfl rfl rfl (by decide) (by decide) rfl hl.1 (Nat.le_of_ble_eq_true rfl) dX6_numberOf_21 ?_
        refine callPS (rest := []) G K F_X6_lesser (c_X6_lesser (cov re n cl to co w (2 * k + 1)) (5 * n + 2 * cl) (by omega) (by omega)) (va_P_nil D s.heap) ml_X6_173 (by decide) (by decide) rfl hl.1 (Nat.le_of_ble_eq_true rfl) dX6_numberOf_24 ?_
        refine lv_istore (lv' := [(4, .int (nI (min (cov re n cl to co w (2 * k + 1)) (5 * n + 2 * cl)))), (0, .ref (a 0)), (1, .int (nI w)), (2, .int (nmb (fun i => oI (byteA th ki va re n cl i)) re n cl to co w k)), (3, .int (nI k))]) hx hb dX6_numberOf_27 hl (by decide) rfl (fun ls hl => ?_)
        refine lv_aload_n hx hb dX6_numberOf_29 rfl (lv_at hl 1 rfl) ?_
        refine lv_iload_n hx hb dX6_numberOf_30 rfl (lv_at hl 2 rfl) ?_
        refine lv_iconst (v := (nI 2)) hx hb dX6_numberOf_31 (by decide) ?_
        refine lv_iload_n hx hb dX6_numberOf_32 rfl (lv_at hl 4 rfl) ?_
        refine t_mul G dX6_numberOf_33 ?_
        refine callPV (As := [.int (nI w), .int (nI (2 * k))]) (rest := []) (q0 := 0) (ci := 6) G K F_X6_coverOf (c_X6_coverOf a la n cl go fo si it mo th ki va re to co ke fw w (2 * k) I (by omega) (by omega)) hP ml_X6_170 rfl rfl rfl (by decide) (by decide) rfl hl.1 (Nat.le_of_ble_eq_true rfl) dX6_numberOf_34 ?_
        have hf2 := cov_le re n cl to co hn hre hco w (by omega) (2 * k)
        refine lv_istore (lv' := [(5, .int (nI (cov re n cl to co w (2 * k)))), (4, .int (nI (min (cov re n cl to co w (2 * k + 1)) (5 * n + 2 * cl)))), (0, .ref (a 0)), (1, .int (nI w)), (2, .int (nmb (fun i => oI (byteA th ki va re n cl i)) re n cl to co w k)), (3, .int (nI k))]) hx hb dX6_numberOf_37 hl (by decide) rfl (fun ls hl => ?_)
        have L39 : ∀ (d j : Nat), 0 ≤ j → j + d = min (cov re n cl to co w (2 * k + 1)) (5 * n + 2 * cl) - cov re n cl to co w (2 * k) → ∀ (ls : Array Slot), lv_has ls 6 [(0, .ref (a 0)), (1, .int (nI w)), (2, .int (numS (fun i => oI (byteA th ki va re n cl i)) (nmb (fun i => oI (byteA th ki va re n cl i)) re n cl to co w k) (cov re n cl to co w (2 * k)) j)), (3, .int (nI k)), (4, .int (nI (min (cov re n cl to co w (2 * k + 1)) (5 * n + 2 * cl)))), (5, .int (nI (cov re n cl to co w (2 * k) + j)))] → W p l e (RM 5) s m args below meth c s.heap [] 0 0 Q (F0 m 39 ls []) := by
          intro d
          induction d with
          | zero =>
            intro j hlo39 hhi39 ls hl
            refine lv_iload hx hb dX6_numberOf_39 (lv_at hl 5 rfl) ?_
            refine lv_iload hx hb dX6_numberOf_41 (lv_at hl 4 rfl) ?_
            refine c_ge G (tgt := 64) (by omega) (by omega) dX6_numberOf_43 (by decide) (fun c43 => ?_) (fun c43 => ?_)
            · -- taken at 43
              have hl := lv_re (l' := [(0, .ref (a 0)), (1, .int (nI w)), (2, .int (nmb (fun i => oI (byteA th ki va re n cl i)) re n cl to co w (k + 1))), (3, .int (nI k)), (4, .int (nI (min (cov re n cl to co w (2 * k + 1)) (5 * n + 2 * cl)))), (5, .int (nI (cov re n cl to co w (2 * k) + j)))]) hl (by rw [show (numS (fun i => oI (byteA th ki va re n cl i)) (nmb (fun i => oI (byteA th ki va re n cl i)) re n cl to co w k) (cov re n cl to co w (2 * k)) j) = (nmb (fun i => oI (byteA th ki va re n cl i)) re n cl to co w (k + 1)) from (by rw [show j = min (cov re n cl to co w (2 * k + 1)) (5 * n + 2 * cl) - cov re n cl to co w (2 * k) by omega]; rfl)])
              refine lv_iinc (v := (nI (k + 1))) (lv' := [(3, .int (nI (k + 1))), (0, .ref (a 0)), (1, .int (nI w)), (2, .int (nmb (fun i => oI (byteA th ki va re n cl i)) re n cl to co w (k + 1))), (4, .int (nI (min (cov re n cl to co w (2 * k + 1)) (5 * n + 2 * cl)))), (5, .int (nI (cov re n cl to co w (2 * k) + j)))]) hx hb dX6_numberOf_64 hl (k := 3) rfl (nI_inc _ 1) (by decide) rfl (fun ls hl => ?_)
              refine lv_goto (tgt := 5) hx hb dX6_numberOf_67 (by decide) ?_
              -- slot 3: have n:k + 1, want n:(k + 1)
              exact ih (k + 1) (by omega) (by omega) ls (lv_sub hl [1, 2, 3, 0] rfl)
            · -- not taken at 43
              exact absurd c43 (by omega)
          | succ d ih =>
            intro j hlo39 hhi39 ls hl
            refine lv_iload hx hb dX6_numberOf_39 (lv_at hl 5 rfl) ?_
            refine lv_iload hx hb dX6_numberOf_41 (lv_at hl 4 rfl) ?_
            refine c_ge G (tgt := 64) (by omega) (by omega) dX6_numberOf_43 (by decide) (fun c43 => ?_) (fun c43 => ?_)
            · -- taken at 43
              exact absurd c43 (by omega)
            · -- not taken at 43
              refine lv_bipush (v := (nI 31)) hx hb dX6_numberOf_46 (by decide) ?_
              refine lv_iload_n hx hb dX6_numberOf_48 rfl (lv_at hl 2 rfl) ?_
              refine lv_imul hx hb dX6_numberOf_49 ?_
              refine lv_aload_n hx hb dX6_numberOf_50 rfl (lv_at hl 0 rfl) ?_
              refine lv_iload hx hb dX6_numberOf_51 (lv_at hl 5 rfl) ?_
              refine callPV (As := [.int (nI (cov re n cl to co w (2 * k) + j))]) (rest := [.int ((nI 31) * (numS (fun i => oI (byteA th ki va re n cl i)) (nmb (fun i => oI (byteA th ki va re n cl i)) re n cl to co w k) (cov re n cl to co w (2 * k)) j))]) (q0 := 0) (ci := 6) G K F_X6_byteAt (c_X6_byteAt a la n cl go fo si it mo th ki va re to co ke fw (cov re n cl to co w (2 * k) + j) I (by omega)) hP ml_X6_132 rfl rfl rfl (by decide) (by decide) rfl hl.1 (Nat.le_of_ble_eq_true rfl) dX6_numberOf_53 ?_
              refine lv_iadd hx hb dX6_numberOf_56 ?_
              refine t_i (y := (numS (fun i => oI (byteA th ki va re n cl i)) (nmb (fun i => oI (byteA th ki va re n cl i)) re n cl to co w k) (cov re n cl to co w (2 * k)) (j + 1))) rfl ?_
              refine lv_istore_n (lv' := [(2, .int (numS (fun i => oI (byteA th ki va re n cl i)) (nmb (fun i => oI (byteA th ki va re n cl i)) re n cl to co w k) (cov re n cl to co w (2 * k)) (j + 1))), (0, .ref (a 0)), (1, .int (nI w)), (3, .int (nI k)), (4, .int (nI (min (cov re n cl to co w (2 * k + 1)) (5 * n + 2 * cl)))), (5, .int (nI (cov re n cl to co w (2 * k) + j)))]) hx hb dX6_numberOf_57 rfl hl (by decide) rfl (fun ls hl => ?_)
              refine lv_iinc (v := (nI (cov re n cl to co w (2 * k) + j + 1))) (lv' := [(5, .int (nI (cov re n cl to co w (2 * k) + j + 1))), (2, .int (numS (fun i => oI (byteA th ki va re n cl i)) (nmb (fun i => oI (byteA th ki va re n cl i)) re n cl to co w k) (cov re n cl to co w (2 * k)) (j + 1))), (0, .ref (a 0)), (1, .int (nI w)), (3, .int (nI k)), (4, .int (nI (min (cov re n cl to co w (2 * k + 1)) (5 * n + 2 * cl))))]) hx hb dX6_numberOf_58 hl (k := 5) rfl (nI_inc _ 1) (by decide) rfl (fun ls hl => ?_)
              refine lv_goto (tgt := 39) hx hb dX6_numberOf_61 (by decide) ?_
              -- slot 5: have n:cov re n cl to co w (2 * k) + j + 1, want n:cov re n cl to co w (2 * k) + (j + 1)
              exact ih (j + 1) (by omega) (by omega) ls (lv_sub hl [2, 3, 1, 4, 5, 0] rfl)
        exact L39 (min (cov re n cl to co w (2 * k + 1)) (5 * n + 2 * cl) - cov re n cl to co w (2 * k) - 0) (0) (Nat.le_refl _) (by omega) ls (lv_sub hl [2, 3, 4, 5, 1, 0] rfl)
  exact L5 (2 - 0) (0) (Nat.le_refl _) (by omega) ls (lv_sub hl [2, 3, 1, 0] rfl)
set_option maxHeartbeats 4000000 in
set_option maxRecDepth 100000 in
theorem c_X6_numberBy (a : Nat → Nat) (la : Int32) (n : Nat) (cl : Nat) (go : Option Nat) (fo : Nat → Int32) (si : Nat → Nat) (it : Nat → Int32) (mo : Nat → Int32) (th : Nat → Nat) (ki : Nat → Nat) (va : Nat → Nat) (re : Nat → Nat) (to : Nat → Prop) (co : Nat → Nat) (ke : Nat → Int32) (fw : Nat → Nat) (w : Int32) (q : Int32) (I : IM n cl go th ki va re si co fw) : CP l D (TY cI cZ cS) yX6_numberBy cX6_numberBy 3 .int 6 [.ref (a 0), .int w, .int q] (wM cI cZ a la n cl go fo si it mo th ki va re to co ke fw) (.int (nbV th ki va re n cl to co ke w q)) := by
  refine CP.ofI (by decide +kernel) (Nat.le_of_ble_eq_true rfl) (nar_int _) ?_
  intro p e s m args below meth c Q G K hP hret ls hl
  obtain ⟨hx, hb, hml, hown, hts⟩ := id G
  obtain ⟨hn, hcl, hgo, hth, hki, hva, hre, hsi, hco, hfw⟩ := id I
  have hl : lv_has ls 3 [(0, .ref (a 0)), (1, .int w), (2, .int q)] := hl
  refine lv_aload_n hx hb dX6_numberBy_0 rfl (lv_at hl 0 rfl) ?_
  refine lv_iload_n hx hb dX6_numberBy_1 rfl (lv_at hl 1 rfl) ?_
  refine callPV (As := [.int w]) (rest := []) (q0 := 0) (ci := 6) G K F_X6_isWrite (c_X6_isWrite a la n cl go fo si it mo th ki va re to co ke fw w I) hP ml_X6_106 rfl rfl rfl (by decide) (by decide) rfl hl.1 (Nat.le_of_ble_eq_true rfl) dX6_numberBy_2 ?_
  refine b_eq G (tgt := 23) dX6_numberBy_5 (by decide) (fun c5 => ?_) (fun c5 => ?_)
  · -- taken at 5
    refine lv_ldc hx hb hown (hts _ kc_X6_78) dX6_numberBy_23 ?_
    refine lv_goto (tgt := 46) hx hb dX6_numberBy_25 (by decide) ?_
    exact hret _ _ _ (by first | exact nbV_0 hn hk hj c20 c29 | exact nbV_1 hn hk hj c20 c29 | exact nbV_c hn hk c20 | exact nbV_w c5 | exact nbV_q c12) dX6_numberBy_46
  · -- not taken at 5
    obtain ⟨k, hk, rfl⟩ := c5
    refine lv_iload_n hx hb dX6_numberBy_8 rfl (lv_at hl 2 rfl) ?_
    refine callPS (rest := []) G K F_X6_isTwo (c_X6_isTwo q) (va_P_nil D s.heap) ml_X6_179 (by decide) (by decide) rfl hl.1 (Nat.le_of_ble_eq_true rfl) dX6_numberBy_9 ?_
    refine b_eq G (tgt := 23) dX6_numberBy_12 (by decide) (fun c12 => ?_) (fun c12 => ?_)
    · -- taken at 12
      refine lv_ldc hx hb hown (hts _ kc_X6_78) dX6_numberBy_23 ?_
      refine lv_goto (tgt := 46) hx hb dX6_numberBy_25 (by decide) ?_
      exact hret _ _ _ (by first | exact nbV_0 hn hk hj c20 c29 | exact nbV_1 hn hk hj c20 c29 | exact nbV_c hn hk c20 | exact nbV_w c5 | exact nbV_q c12) dX6_numberBy_46
    · -- not taken at 12
      obtain ⟨j, hj, rfl⟩ := (okN (m := 1) (by decide)).mp c12
      refine lv_aload_n hx hb dX6_numberBy_15 rfl (lv_at hl 0 rfl) ?_
      refine lv_iload_n hx hb dX6_numberBy_16 rfl (lv_at hl 1 rfl) ?_
      refine callPV (As := [.int (nI k)]) (rest := []) (q0 := 0) (ci := 6) G K F_X6_isClosed (c_X6_isClosed a la n cl go fo si it mo th ki va re to co ke fw k I (by omega)) hP ml_X6_113 rfl rfl rfl (by decide) (by decide) rfl hl.1 (Nat.le_of_ble_eq_true rfl) dX6_numberBy_17 ?_
      refine b_ne G (tgt := 28) dX6_numberBy_20 (by decide) (fun c20 => ?_) (fun c20 => ?_)
      · -- taken at 20
        refine lv_iload_n hx hb dX6_numberBy_28 rfl (lv_at hl 2 rfl) ?_
        refine z_ne G (tgt := 40) (by omega) dX6_numberBy_29 (by decide) (fun c29 => ?_) (fun c29 => ?_)
        · -- taken at 29
          refine lv_aload_n hx hb dX6_numberBy_40 rfl (lv_at hl 0 rfl) ?_
          refine f_get G K hP inX6 0 (ci := 6) rfl rfl 12 rfl fl_X6_41 (v := .ref (a 11)) rfl dX6_numberBy_41 ?_
          refine lv_iload_n hx hb dX6_numberBy_44 rfl (lv_at hl 1 rfl) ?_
          refine a_ld G K hP 11 0 (a := (a 11)) rfl rfl (by omega) (by decide) dX6_numberBy_45 ?_
          exact hret _ _ _ (by first | exact nbV_0 hn hk hj c20 c29 | exact nbV_1 hn hk hj c20 c29 | exact nbV_c hn hk c20 | exact nbV_w c5 | exact nbV_q c12) dX6_numberBy_46
        · -- not taken at 29
          refine lv_aload_n hx hb dX6_numberBy_32 rfl (lv_at hl 0 rfl) ?_
          refine lv_iload_n hx hb dX6_numberBy_33 rfl (lv_at hl 1 rfl) ?_
          refine callPV (As := [.int (nI k)]) (rest := []) (q0 := 0) (ci := 6) G K F_X6_numberOf (c_X6_numberOf a la n cl go fo si it mo th ki va re to co ke fw k I (by omega)) hP ml_X6_98 rfl rfl rfl (by decide) (by decide) rfl hl.1 (Nat.le_of_ble_eq_true rfl) dX6_numberBy_34 ?_
          refine lv_goto (tgt := 46) hx hb dX6_numberBy_37 (by decide) ?_
          exact hret _ _ _ (by first | exact nbV_0 hn hk hj c20 c29 | exact nbV_1 hn hk hj c20 c29 | exact nbV_c hn hk c20 | exact nbV_w c5 | exact nbV_q c12) dX6_numberBy_46
      · -- not taken at 20
        refine lv_ldc hx hb hown (hts _ kc_X6_78) dX6_numberBy_23 ?_
        refine lv_goto (tgt := 46) hx hb dX6_numberBy_25 (by decide) ?_
        exact hret _ _ _ (by first | exact nbV_0 hn hk hj c20 c29 | exact nbV_1 hn hk hj c20 c29 | exact nbV_c hn hk c20 | exact nbV_w c5 | exact nbV_q c12) dX6_numberBy_46
set_option maxHeartbeats 4000000 in
set_option maxRecDepth 100000 in
theorem c_X6_number (a : Nat → Nat) (la : Int32) (n : Nat) (cl : Nat) (go : Option Nat) (fo : Nat → Int32) (si : Nat → Nat) (it : Nat → Int32) (mo : Nat → Int32) (th : Nat → Nat) (ki : Nat → Nat) (va : Nat → Nat) (re : Nat → Nat) (to : Nat → Prop) (co : Nat → Nat) (ke : Nat → Int32) (fw : Nat → Nat) (w : Int32) (q : Int32) (I : IM n cl go th ki va re si co fw) : CP l D (TY cI cZ cS) yX6_number cX6_number 3 .int 7 [.ref (a 0), .int w, .int q] (wM cI cZ a la n cl go fo si it mo th ki va re to co ke fw) (.int (nbV th ki va re n cl to co ke w q)) := by
  refine CP.ofI (by decide +kernel) (Nat.le_of_ble_eq_true rfl) (nar_int _) ?_
  intro p e s m args below meth c Q G K hP hret ls hl
  obtain ⟨hx, hb, hml, hown, hts⟩ := id G
  obtain ⟨hn, hcl, hgo, hth, hki, hva, hre, hsi, hco, hfw⟩ := id I
  have hl : lv_has ls 3 [(0, .ref (a 0)), (1, .int w), (2, .int q)] := hl
  refine lv_aload_n hx hb dX6_number_0 rfl (lv_at hl 0 rfl) ?_
  refine lv_iload_n hx hb dX6_number_1 rfl (lv_at hl 1 rfl) ?_
  refine lv_iload_n hx hb dX6_number_2 rfl (lv_at hl 2 rfl) ?_
  refine callPV (As := [.int w, .int q]) (rest := []) (q0 := 0) (ci := 6) G K F_X6_numberBy (c_X6_numberBy a la n cl go fo si it mo th ki va re to co ke fw w q I) hP ml_X6_182 rfl rfl rfl (by decide) (by decide) rfl hl.1 (Nat.le_of_ble_eq_true rfl) dX6_number_3 ?_
  exact hret _ _ _ rfl dX6_number_6
set_option maxHeartbeats 4000000 in
set_option maxRecDepth 100000 in
theorem c_X6_flawsOf (a : Nat → Nat) (la : Int32) (n : Nat) (cl : Nat) (go : Option Nat) (fo : Nat → Int32) (si : Nat → Nat) (it : Nat → Int32) (mo : Nat → Int32) (th : Nat → Nat) (ki : Nat → Nat) (va : Nat → Nat) (re : Nat → Nat) (to : Nat → Prop) (co : Nat → Nat) (ke : Nat → Int32) (fw : Nat → Nat) (w : Nat) (I : IM n cl go th ki va re si co fw) (hw9 : w < 40) : CP l D (TY cI cZ cS) yX6_flawsOf cX6_flawsOf 3 .int 6 [.ref (a 0), .int (nI w)] (wM cI cZ a la n cl go fo si it mo th ki va re to co ke fw) (.int (nI (flO th ki va re n cl to co ke w))) := by
  refine CP.ofI (by decide +kernel) (Nat.le_of_ble_eq_true rfl) (nar_int _) ?_
  intro p e s m args below meth c Q G K hP hret ls hl
  obtain ⟨hx, hb, hml, hown, hts⟩ := id G
  obtain ⟨hn, hcl, hgo, hth, hki, hva, hre, hsi, hco, hfw⟩ := id I
  have hl : lv_has ls 3 [(0, .ref (a 0)), (1, .int (nI w))] := hl
  have J14 : W p l e (RM 6) s m args below meth c s.heap [] 0 0 Q (F0 m 14 ls [.int (nI (cif (0 < cov re n cl to co w 0) 1 0))]) := by
    refine lv_istore_n (lv' := [(2, .int (nI (cif (0 < cov re n cl to co w 0) 1 0))), (0, .ref (a 0)), (1, .int (nI w))]) hx hb dX6_flawsOf_14 rfl hl (by decide) rfl (fun ls hl => ?_)
    have J51 : W p l e (RM 6) s m args below meth c s.heap [] 0 0 Q (F0 m 51 ls [.int (nI (cif (cov re n cl to co w 1 ≠ usl re n cl w 1 ∨ cov re n cl to co w 2 ≠ usl re n cl w 2) 2 0)), .int (nI (cif (0 < cov re n cl to co w 0) 1 0))]) := by
      refine lv_ior hx hb dX6_flawsOf_51 ?_
      refine t_i (y := (nI (cif (0 < cov re n cl to co w 0) 1 0 + cif (cov re n cl to co w 1 ≠ usl re n cl w 1 ∨ cov re n cl to co w 2 ≠ usl re n cl w 2) 2 0))) (c2_or _ _) ?_
      refine lv_istore_n (lv' := [(2, .int (nI (cif (0 < cov re n cl to co w 0) 1 0 + cif (cov re n cl to co w 1 ≠ usl re n cl w 1 ∨ cov re n cl to co w 2 ≠ usl re n cl w 2) 2 0))), (0, .ref (a 0)), (1, .int (nI w))]) hx hb dX6_flawsOf_52 rfl hl (by decide) rfl (fun ls hl => ?_)
      have J74 : W p l e (RM 6) s m args below meth c s.heap [] 0 0 Q (F0 m 74 ls [.int (nI (cif (cov re n cl to co w 3 ≠ usl re n cl w 3) 4 0)), .int (nI (cif (0 < cov re n cl to co w 0) 1 0 + cif (cov re n cl to co w 1 ≠ usl re n cl w 1 ∨ cov re n cl to co w 2 ≠ usl re n cl w 2) 2 0))]) := by
        refine lv_ior hx hb dX6_flawsOf_74 ?_
        refine t_i (y := (nI (cif (0 < cov re n cl to co w 0) 1 0 + cif (cov re n cl to co w 1 ≠ usl re n cl w 1 ∨ cov re n cl to co w 2 ≠ usl re n cl w 2) 2 0 + cif (cov re n cl to co w 3 ≠ usl re n cl w 3) 4 0))) (c4_or _ _ _) ?_
        refine lv_istore_n (lv' := [(2, .int (nI (cif (0 < cov re n cl to co w 0) 1 0 + cif (cov re n cl to co w 1 ≠ usl re n cl w 1 ∨ cov re n cl to co w 2 ≠ usl re n cl w 2) 2 0 + cif (cov re n cl to co w 3 ≠ usl re n cl w 3) 4 0))), (0, .ref (a 0)), (1, .int (nI w))]) hx hb dX6_flawsOf_75 rfl hl (by decide) rfl (fun ls hl => ?_)
        have J97 : W p l e (RM 6) s m args below meth c s.heap [] 0 0 Q (F0 m 97 ls [.int (nI (cif (numO th ki va re n cl to co w ≠ ke w) 8 0)), .int (nI (cif (0 < cov re n cl to co w 0) 1 0 + cif (cov re n cl to co w 1 ≠ usl re n cl w 1 ∨ cov re n cl to co w 2 ≠ usl re n cl w 2) 2 0 + cif (cov re n cl to co w 3 ≠ usl re n cl w 3) 4 0))]) := by
          refine lv_ior hx hb dX6_flawsOf_97 ?_
          exact hret _ _ _ (c8_or _ _ _ _) dX6_flawsOf_98
        refine lv_iload_n hx hb dX6_flawsOf_76 rfl (lv_at hl 0 rfl) ?_
        refine lv_aload_n hx hb dX6_flawsOf_77 rfl (lv_at hl 1 rfl) ?_
        refine lv_iload_n hx hb dX6_flawsOf_78 rfl (lv_at hl 2 rfl) ?_
        refine callPV (As := [.int (nI w)]) (rest := [.int (nI (cif (0 < cov re n cl to co w 0) 1 0 + cif (cov re n cl to co w 1 ≠ usl re n cl w 1 ∨ cov re n cl to co w 2 ≠ usl re n cl w 2) 2 0 + cif (cov re n cl to co w 3 ≠ usl re n cl w 3) 4 0))]) (q0 := 0) (ci := 6) G K F_X6_numberOf (c_X6_numberOf a la n cl go fo si it mo th ki va re to co ke fw w I (by omega)) hP ml_X6_98 rfl rfl rfl (by decide) (by decide) rfl hl.1 (Nat.le_of_ble_eq_true rfl) dX6_flawsOf_79 ?_
        refine lv_aload_n hx hb dX6_flawsOf_82 rfl (lv_at hl 1 rfl) ?_
        refine f_get G K hP inX6 0 (ci := 6) rfl rfl 12 rfl fl_X6_41 (v := .ref (a 11)) rfl dX6_flawsOf_83 ?_
        refine lv_iload_n hx hb dX6_flawsOf_86 rfl (lv_at hl 2 rfl) ?_
        refine a_ld G K hP 11 0 (a := (a 11)) rfl rfl (by omega) (by decide) dX6_flawsOf_87 ?_
        refine lv_icmp_eq (tgt := 96) hx hb dX6_flawsOf_88 (by decide) (fun c88 => ?_) (fun c88 => ?_)
        · -- taken at 88
          refine lv_iconst (v := (nI 0)) hx hb dX6_flawsOf_96 (by decide) ?_
          refine t_i (y := (nI (cif (numO th ki va re n cl to co w ≠ ke w) 8 0))) (congrArg nI (by first | rw [cif_t c88] | rw [cif_f (fun h => h c88)])) ?_
          exact J97
        · -- not taken at 88
          refine lv_bipush (v := (nI 8)) hx hb dX6_flawsOf_91 (by decide) ?_
          refine lv_goto (tgt := 97) hx hb dX6_flawsOf_93 (by decide) ?_
          refine t_i (y := (nI (cif (numO th ki va re n cl to co w ≠ ke w) 8 0))) (congrArg nI (by first | rw [cif_t c88] | rw [cif_f (fun h => h c88)])) ?_
          exact J97
      refine lv_iload_n hx hb dX6_flawsOf_53 rfl (lv_at hl 0 rfl) ?_
      refine lv_aload_n hx hb dX6_flawsOf_54 rfl (lv_at hl 1 rfl) ?_
      refine lv_iload_n hx hb dX6_flawsOf_55 rfl (lv_at hl 2 rfl) ?_
      refine lv_iconst (v := (nI 3)) hx hb dX6_flawsOf_56 (by decide) ?_
      refine callPV (As := [.int (nI w), .int (nI 3)]) (rest := [.int (nI (cif (0 < cov re n cl to co w 0) 1 0 + cif (cov re n cl to co w 1 ≠ usl re n cl w 1 ∨ cov re n cl to co w 2 ≠ usl re n cl w 2) 2 0))]) (q0 := 0) (ci := 6) G K F_X6_coverOf (c_X6_coverOf a la n cl go fo si it mo th ki va re to co ke fw w 3 I (by omega) (by omega)) hP ml_X6_170 rfl rfl rfl (by decide) (by decide) rfl hl.1 (Nat.le_of_ble_eq_true rfl) dX6_flawsOf_57 ?_
      have hf1 := cov_le re n cl to co hn hre hco w (by omega) 3
      refine lv_aload_n hx hb dX6_flawsOf_60 rfl (lv_at hl 1 rfl) ?_
      refine lv_iload_n hx hb dX6_flawsOf_61 rfl (lv_at hl 2 rfl) ?_
      refine lv_iconst (v := (nI 3)) hx hb dX6_flawsOf_62 (by decide) ?_
      refine callPV (As := [.int (nI w), .int (nI 3)]) (rest := [.int (nI (cov re n cl to co w 3)), .int (nI (cif (0 < cov re n cl to co w 0) 1 0 + cif (cov re n cl to co w 1 ≠ usl re n cl w 1 ∨ cov re n cl to co w 2 ≠ usl re n cl w 2) 2 0))]) (q0 := 0) (ci := 6) G K F_X6_usual (c_X6_usual a la n cl go fo si it mo th ki va re to co ke fw w 3 I (by omega) (by omega)) hP ml_X6_167 rfl rfl rfl (by decide) (by decide) rfl hl.1 (Nat.le_of_ble_eq_true rfl) dX6_flawsOf_63 ?_
      have hf2 := usl_le re n cl hn hre w (by omega) 3
      refine c_eq G (tgt := 73) (by omega) (by omega) dX6_flawsOf_66 (by decide) (fun c66 => ?_) (fun c66 => ?_)
      · -- taken at 66
        refine lv_iconst (v := (nI 0)) hx hb dX6_flawsOf_73 (by decide) ?_
        refine t_i (y := (nI (cif (cov re n cl to co w 3 ≠ usl re n cl w 3) 4 0))) (congrArg nI (by first | rw [cif_t c66] | rw [cif_f (fun h => h c66)])) ?_
        exact J74
      · -- not taken at 66
        refine lv_iconst (v := (nI 4)) hx hb dX6_flawsOf_69 (by decide) ?_
        refine lv_goto (tgt := 74) hx hb dX6_flawsOf_70 (by decide) ?_
        refine t_i (y := (nI (cif (cov re n cl to co w 3 ≠ usl re n cl w 3) 4 0))) (congrArg nI (by first | rw [cif_t c66] | rw [cif_f (fun h => h c66)])) ?_
        exact J74
    refine lv_iload_n hx hb dX6_flawsOf_15 rfl (lv_at hl 0 rfl) ?_
    refine lv_aload_n hx hb dX6_flawsOf_16 rfl (lv_at hl 1 rfl) ?_
    refine lv_iload_n hx hb dX6_flawsOf_17 rfl (lv_at hl 2 rfl) ?_
    refine lv_iconst (v := (nI 1)) hx hb dX6_flawsOf_18 (by decide) ?_
    refine callPV (As := [.int (nI w), .int (nI 1)]) (rest := [.int (nI (cif (0 < cov re n cl to co w 0) 1 0))]) (q0 := 0) (ci := 6) G K F_X6_coverOf (c_X6_coverOf a la n cl go fo si it mo th ki va re to co ke fw w 1 I (by omega) (by omega)) hP ml_X6_170 rfl rfl rfl (by decide) (by decide) rfl hl.1 (Nat.le_of_ble_eq_true rfl) dX6_flawsOf_19 ?_
    have hf3 := cov_le re n cl to co hn hre hco w (by omega) 1
    refine lv_aload_n hx hb dX6_flawsOf_22 rfl (lv_at hl 1 rfl) ?_
    refine lv_iload_n hx hb dX6_flawsOf_23 rfl (lv_at hl 2 rfl) ?_
    refine lv_iconst (v := (nI 1)) hx hb dX6_flawsOf_24 (by decide) ?_
    refine callPV (As := [.int (nI w), .int (nI 1)]) (rest := [.int (nI (cov re n cl to co w 1)), .int (nI (cif (0 < cov re n cl to co w 0) 1 0))]) (q0 := 0) (ci := 6) G K F_X6_usual (c_X6_usual a la n cl go fo si it mo th ki va re to co ke fw w 1 I (by omega) (by omega)) hP ml_X6_167 rfl rfl rfl (by decide) (by decide) rfl hl.1 (Nat.le_of_ble_eq_true rfl) dX6_flawsOf_25 ?_
    have hf4 := usl_le re n cl hn hre w (by omega) 1
    refine c_ne G (tgt := 46) (by omega) (by omega) dX6_flawsOf_28 (by decide) (fun c28 => ?_) (fun c28 => ?_)
    · -- taken at 28
      refine lv_iconst (v := (nI 2)) hx hb dX6_flawsOf_46 (by decide) ?_
      refine lv_goto (tgt := 51) hx hb dX6_flawsOf_47 (by decide) ?_
      refine t_i (y := (nI (cif (cov re n cl to co w 1 ≠ usl re n cl w 1 ∨ cov re n cl to co w 2 ≠ usl re n cl w 2) 2 0))) (congrArg nI (by first | rw [cif_t (Or.inl c28)] | rw [cif_t (Or.inr c43)] | rw [cif_f (fun h => h.elim (fun q => q c28) (fun q => q c43))])) ?_
      exact J51
    · -- not taken at 28
      refine lv_aload_n hx hb dX6_flawsOf_31 rfl (lv_at hl 1 rfl) ?_
      refine lv_iload_n hx hb dX6_flawsOf_32 rfl (lv_at hl 2 rfl) ?_
      refine lv_iconst (v := (nI 2)) hx hb dX6_flawsOf_33 (by decide) ?_
      refine callPV (As := [.int (nI w), .int (nI 2)]) (rest := [.int (nI (cif (0 < cov re n cl to co w 0) 1 0))]) (q0 := 0) (ci := 6) G K F_X6_coverOf (c_X6_coverOf a la n cl go fo si it mo th ki va re to co ke fw w 2 I (by omega) (by omega)) hP ml_X6_170 rfl rfl rfl (by decide) (by decide) rfl hl.1 (Nat.le_of_ble_eq_true rfl) dX6_flawsOf_34 ?_
      have hf5 := cov_le re n cl to co hn hre hco w (by omega) 2
      refine lv_aload_n hx hb dX6_flawsOf_37 rfl (lv_at hl 1 rfl) ?_
      refine lv_iload_n hx hb dX6_flawsOf_38 rfl (lv_at hl 2 rfl) ?_
      refine lv_iconst (v := (nI 2)) hx hb dX6_flawsOf_39 (by decide) ?_
      refine callPV (As := [.int (nI w), .int (nI 2)]) (rest := [.int (nI (cov re n cl to co w 2)), .int (nI (cif (0 < cov re n cl to co w 0) 1 0))]) (q0 := 0) (ci := 6) G K F_X6_usual (c_X6_usual a la n cl go fo si it mo th ki va re to co ke fw w 2 I (by omega) (by omega)) hP ml_X6_167 rfl rfl rfl (by decide) (by decide) rfl hl.1 (Nat.le_of_ble_eq_true rfl) dX6_flawsOf_40 ?_
      have hf6 := usl_le re n cl hn hre w (by omega) 2
      refine c_eq G (tgt := 50) (by omega) (by omega) dX6_flawsOf_43 (by decide) (fun c43 => ?_) (fun c43 => ?_)
      · -- taken at 43
        refine lv_iconst (v := (nI 0)) hx hb dX6_flawsOf_50 (by decide) ?_
        refine t_i (y := (nI (cif (cov re n cl to co w 1 ≠ usl re n cl w 1 ∨ cov re n cl to co w 2 ≠ usl re n cl w 2) 2 0))) (congrArg nI (by first | rw [cif_t (Or.inl c28)] | rw [cif_t (Or.inr c43)] | rw [cif_f (fun h => h.elim (fun q => q c28) (fun q => q c43))])) ?_
        exact J51
      · -- not taken at 43
        refine lv_iconst (v := (nI 2)) hx hb dX6_flawsOf_46 (by decide) ?_
        refine lv_goto (tgt := 51) hx hb dX6_flawsOf_47 (by decide) ?_
        refine t_i (y := (nI (cif (cov re n cl to co w 1 ≠ usl re n cl w 1 ∨ cov re n cl to co w 2 ≠ usl re n cl w 2) 2 0))) (congrArg nI (by first | rw [cif_t (Or.inl c28)] | rw [cif_t (Or.inr c43)] | rw [cif_f (fun h => h.elim (fun q => q c28) (fun q => q c43))])) ?_
        exact J51
  refine lv_aload_n hx hb dX6_flawsOf_0 rfl (lv_at hl 0 rfl) ?_
  refine lv_iload_n hx hb dX6_flawsOf_1 rfl (lv_at hl 1 rfl) ?_
  refine lv_iconst (v := (nI 0)) hx hb dX6_flawsOf_2 (by decide) ?_
  refine callPV (As := [.int (nI w), .int (nI 0)]) (rest := []) (q0 := 0) (ci := 6) G K F_X6_coverOf (c_X6_coverOf a la n cl go fo si it mo th ki va re to co ke fw w 0 I (by omega) (by omega)) hP ml_X6_170 rfl rfl rfl (by decide) (by decide) rfl hl.1 (Nat.le_of_ble_eq_true rfl) dX6_flawsOf_3 ?_
  have hf7 := cov_le re n cl to co hn hre hco w (by omega) 0
  refine z_eq G (tgt := 13) (by omega) dX6_flawsOf_6 (by decide) (fun c6 => ?_) (fun c6 => ?_)
  · -- taken at 6
    refine lv_iconst (v := (nI 0)) hx hb dX6_flawsOf_13 (by decide) ?_
    refine t_i (y := (nI (cif (0 < cov re n cl to co w 0) 1 0))) (congrArg nI (by first | rw [cif_f (by omega)] | rw [cif_t c6])) ?_
    exact J14
  · -- not taken at 6
    refine lv_iconst (v := (nI 1)) hx hb dX6_flawsOf_9 (by decide) ?_
    refine lv_goto (tgt := 14) hx hb dX6_flawsOf_10 (by decide) ?_
    refine t_i (y := (nI (cif (0 < cov re n cl to co w 0) 1 0))) (congrArg nI (by first | rw [cif_f (by omega)] | rw [cif_t c6])) ?_
    exact J14
set_option maxHeartbeats 4000000 in
set_option maxRecDepth 100000 in
theorem c_X6_flaws (a : Nat → Nat) (la : Int32) (n : Nat) (cl : Nat) (go : Option Nat) (fo : Nat → Int32) (si : Nat → Nat) (it : Nat → Int32) (mo : Nat → Int32) (th : Nat → Nat) (ki : Nat → Nat) (va : Nat → Nat) (re : Nat → Nat) (to : Nat → Prop) (co : Nat → Nat) (ke : Nat → Int32) (fw : Nat → Nat) (w : Int32) (I : IM n cl go th ki va re si co fw) : CP l D (TY cI cZ cS) yX6_flaws cX6_flaws 2 .int 7 [.ref (a 0), .int w] (wM cI cZ a la n cl go fo si it mo th ki va re to co ke fw) (.int (fwV th ki va re n cl to co ke w)) := by
  refine CP.ofI (by decide +kernel) (Nat.le_of_ble_eq_true rfl) (nar_int _) ?_
  intro p e s m args below meth c Q G K hP hret ls hl
  obtain ⟨hx, hb, hml, hown, hts⟩ := id G
  obtain ⟨hn, hcl, hgo, hth, hki, hva, hre, hsi, hco, hfw⟩ := id I
  have hl : lv_has ls 2 [(0, .ref (a 0)), (1, .int w)] := hl
  refine lv_aload_n hx hb dX6_flaws_0 rfl (lv_at hl 0 rfl) ?_
  refine lv_iload_n hx hb dX6_flaws_1 rfl (lv_at hl 1 rfl) ?_
  refine callPV (As := [.int w]) (rest := []) (q0 := 0) (ci := 6) G K F_X6_isWrite (c_X6_isWrite a la n cl go fo si it mo th ki va re to co ke fw w I) hP ml_X6_106 rfl rfl rfl (by decide) (by decide) rfl hl.1 (Nat.le_of_ble_eq_true rfl) dX6_flaws_2 ?_
  refine b_ne G (tgt := 11) dX6_flaws_5 (by decide) (fun c5 => ?_) (fun c5 => ?_)
  · -- taken at 5
    obtain ⟨k, hk, rfl⟩ := c5
    refine lv_aload_n hx hb dX6_flaws_11 rfl (lv_at hl 0 rfl) ?_
    refine lv_iload_n hx hb dX6_flaws_12 rfl (lv_at hl 1 rfl) ?_
    refine callPV (As := [.int (nI k)]) (rest := []) (q0 := 0) (ci := 6) G K F_X6_isClosed (c_X6_isClosed a la n cl go fo si it mo th ki va re to co ke fw k I (by omega)) hP ml_X6_113 rfl rfl rfl (by decide) (by decide) rfl hl.1 (Nat.le_of_ble_eq_true rfl) dX6_flaws_13 ?_
    refine b_eq G (tgt := 27) dX6_flaws_16 (by decide) (fun c16 => ?_) (fun c16 => ?_)
    · -- taken at 16
      refine lv_bipush (v := (-3)) hx hb dX6_flaws_27 (by decide) ?_
      exact hret _ _ _ (by first | exact fwV_k hn hk c16 | exact fwV_s hn hk c16 | exact fwV_w c5) dX6_flaws_29
    · -- not taken at 16
      refine lv_aload_n hx hb dX6_flaws_19 rfl (lv_at hl 0 rfl) ?_
      refine lv_iload_n hx hb dX6_flaws_20 rfl (lv_at hl 1 rfl) ?_
      refine callPV (As := [.int (nI k)]) (rest := []) (q0 := 0) (ci := 6) G K F_X6_flawsOf (c_X6_flawsOf a la n cl go fo si it mo th ki va re to co ke fw k I (by omega)) hP ml_X6_185 rfl rfl rfl (by decide) (by decide) rfl hl.1 (Nat.le_of_ble_eq_true rfl) dX6_flaws_21 ?_
      have hf1 := flO_le th ki va re n cl to co ke k
      refine lv_goto (tgt := 29) hx hb dX6_flaws_24 (by decide) ?_
      exact hret _ _ _ (by first | exact fwV_k hn hk c16 | exact fwV_s hn hk c16 | exact fwV_w c5) dX6_flaws_29
  · -- not taken at 5
    refine lv_bipush (v := (-2)) hx hb dX6_flaws_8 (by decide) ?_
    exact hret _ _ _ (by first | exact fwV_k hn hk c16 | exact fwV_s hn hk c16 | exact fwV_w c5) dX6_flaws_10

end
