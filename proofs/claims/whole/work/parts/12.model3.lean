section
variable {l : Launch} {D : va_G} {cI cZ cS : ClassId}

set_option maxHeartbeats 4000000 in
set_option maxRecDepth 100000 in
theorem c_X6_kindAt (a : Nat → Nat) (la : Int32) (n : Nat) (cl : Nat) (go : Option Nat) (fo : Nat → Int32) (si : Nat → Nat) (it : Nat → Int32) (mo : Nat → Int32) (th : Nat → Nat) (ki : Nat → Nat) (va : Nat → Nat) (re : Nat → Nat) (to : Nat → Prop) (co : Nat → Nat) (ke : Nat → Int32) (fw : Nat → Nat) (o : Option Nat) (I : IM n cl go th ki va re si co fw) (ho : ∀ w, o = some w → w < 40) : CP l D (TY cI cZ cS) yX6_kindAt cX6_kindAt 2 .int 0 [.ref (a 0), .int (oI o)] (wM cI cZ a la n cl go fo si it mo th ki va re to co ke fw) (.int (oI (o.map ki))) := by
  refine CP.ofI (by decide +kernel) (Nat.le_of_ble_eq_true rfl) (nar_int _) ?_
  intro p e s m args below meth c Q G K hP hret ls hl
  obtain ⟨hx, hb, hml, hown, hts⟩ := id G
  obtain ⟨hn, hcl, hgo, hth, hki, hva, hre, hsi, hco, hfw⟩ := id I
  have hl : lv_has ls 2 [(0, .ref (a 0)), (1, .int (oI o))] := hl
  refine lv_iload_n hx hb dX6_kindAt_0 rfl (lv_at hl 1 rfl) ?_
  refine lv_iconst (v := (-1)) hx hb dX6_kindAt_1 (by decide) ?_
  refine o_ne G (tgt := 9) (fun w h => by have := ho w h; omega) dX6_kindAt_2 (by decide) (fun c2 => ?_) (fun c2 => ?_)
  · -- taken at 2
    obtain ⟨v, hv⟩ := Option.ne_none_iff_exists'.mp c2
    have hv9 := ho v hv
    refine lv_aload_n hx hb dX6_kindAt_9 rfl (lv_at hl 0 rfl) ?_
    refine f_get G K hP inX6 0 (ci := 6) rfl rfl 7 rfl fl_X6_25 (v := .ref (a 6)) rfl dX6_kindAt_10 ?_
    refine lv_iload_n hx hb dX6_kindAt_13 rfl (lv_at hl 1 rfl) ?_
    refine t_i (y := (nI v)) (by rw [hv]; rfl) ?_
    refine a_ldN G K hP 6 0 (a := (a 6)) rfl rfl (by omega) (by decide) dX6_kindAt_14 ?_
    have hb1 := hki v
    exact hret _ _ _ (by first | (rw [c2]; rfl) | (rw [hv]; rfl)) dX6_kindAt_15
  · -- not taken at 2
    refine lv_iconst (v := (-1)) hx hb dX6_kindAt_5 (by decide) ?_
    refine lv_goto (tgt := 15) hx hb dX6_kindAt_6 (by decide) ?_
    exact hret _ _ _ (by first | (rw [c2]; rfl) | (rw [hv]; rfl)) dX6_kindAt_15
set_option maxHeartbeats 4000000 in
set_option maxRecDepth 100000 in
theorem c_X6_isNoteOrNone (o : Option Nat) (ho : ∀ w, o = some w → w < 2 ^ 31) : CP l D (TY cI cZ cS) yX6_isNoteOrNone cX6_isNoteOrNone 1 .boolean 0 [.int (oI o)] [] (.int (bI (isNN o))) := by
  refine CP.ofI (by decide +kernel) (Nat.le_of_ble_eq_true rfl) (bI_nar _) ?_
  intro p e s m args below meth c Q G K hP hret ls hl
  obtain ⟨hx, hb, hml, hown, hts⟩ := id G
  have hl : lv_has ls 1 [(0, .int (oI o))] := hl
  refine lv_iload_n hx hb dX6_isNoteOrNone_0 rfl (lv_at hl 0 rfl) ?_
  refine lv_iconst (v := (-1)) hx hb dX6_isNoteOrNone_1 (by decide) ?_
  refine o_eq G (tgt := 10) (fun w h => by have := ho w h; omega) dX6_isNoteOrNone_2 (by decide) (fun c2 => ?_) (fun c2 => ?_)
  · -- taken at 2
    refine lv_iconst (v := (nI 1)) hx hb dX6_isNoteOrNone_10 (by decide) ?_
    refine lv_goto (tgt := 15) hx hb dX6_isNoteOrNone_11 (by decide) ?_
    exact hret _ _ _ (by first | exact b1 (Or.inl c2) | exact b1 (Or.inr c7) | exact b0 (fun h => h.elim c2 c7)) dX6_isNoteOrNone_15
  · -- not taken at 2
    refine lv_iload_n hx hb dX6_isNoteOrNone_5 rfl (lv_at hl 0 rfl) ?_
    refine lv_iconst (v := (nI 2)) hx hb dX6_isNoteOrNone_6 (by decide) ?_
    refine on_ne G (tgt := 14) (by omega) (fun w h => by have := ho w h; omega) dX6_isNoteOrNone_7 (by decide) (fun c7 => ?_) (fun c7 => ?_)
    · -- taken at 7
      refine lv_iconst (v := (nI 0)) hx hb dX6_isNoteOrNone_14 (by decide) ?_
      exact hret _ _ _ (by first | exact b1 (Or.inl c2) | exact b1 (Or.inr c7) | exact b0 (fun h => h.elim c2 c7)) dX6_isNoteOrNone_15
    · -- not taken at 7
      refine lv_iconst (v := (nI 1)) hx hb dX6_isNoteOrNone_10 (by decide) ?_
      refine lv_goto (tgt := 15) hx hb dX6_isNoteOrNone_11 (by decide) ?_
      exact hret _ _ _ (by first | exact b1 (Or.inl c2) | exact b1 (Or.inr c7) | exact b0 (fun h => h.elim c2 c7)) dX6_isNoteOrNone_15
set_option maxHeartbeats 4000000 in
set_option maxRecDepth 100000 in
theorem c_X6_isFree (a : Nat → Nat) (la : Int32) (n : Nat) (cl : Nat) (go : Option Nat) (fo : Nat → Int32) (si : Nat → Nat) (it : Nat → Int32) (mo : Nat → Int32) (th : Nat → Nat) (ki : Nat → Nat) (va : Nat → Nat) (re : Nat → Nat) (to : Nat → Prop) (co : Nat → Nat) (ke : Nat → Int32) (fw : Nat → Nat) (x : Nat) (y : Nat) (z : Nat) (I : IM n cl go th ki va re si co fw) (hx9 : x ≤ 65535) (hy9 : y ≤ 65535) (hs9 : z < 2 ^ 31) : CP l D (TY cI cZ cS) yX6_isFree cX6_isFree 6 .boolean 1 [.ref (a 0), .int (nI x), .int (nI y), .int (nI z)] (wM cI cZ a la n cl go fo si it mo th ki va re to co ke fw) (.int (bI (frE th ki re go n x y z 16))) := by
  refine CP.ofI (by decide +kernel) (Nat.le_of_ble_eq_true rfl) (bI_nar _) ?_
  intro p e s m args below meth c Q G K hP hret ls hl
  obtain ⟨hx, hb, hml, hown, hts⟩ := id G
  obtain ⟨hn, hcl, hgo, hth, hki, hva, hre, hsi, hco, hfw⟩ := id I
  have hl : lv_has ls 6 [(0, .ref (a 0)), (1, .int (nI x)), (2, .int (nI y)), (3, .int (nI z))] := hl
  refine lv_iconst (v := (nI 1)) hx hb dX6_isFree_0 (by decide) ?_
  refine t_i (y := (bI (frE th ki re go n x y z 0))) (b1 (fun u hu => absurd hu (Nat.not_lt_zero u))) ?_
  refine lv_istore (lv' := [(4, .int (bI (frE th ki re go n x y z 0))), (0, .ref (a 0)), (1, .int (nI x)), (2, .int (nI y)), (3, .int (nI z))]) hx hb dX6_isFree_1 hl (by decide) rfl (fun ls hl => ?_)
  refine lv_iconst (v := (nI 0)) hx hb dX6_isFree_3 (by decide) ?_
  refine lv_istore (lv' := [(5, .int (nI 0)), (4, .int (bI (frE th ki re go n x y z 0))), (0, .ref (a 0)), (1, .int (nI x)), (2, .int (nI y)), (3, .int (nI z))]) hx hb dX6_isFree_4 hl (by decide) rfl (fun ls hl => ?_)
  have L6 : ∀ (d t : Nat), 0 ≤ t → t + d = 16 → ∀ (ls : Array Slot), lv_has ls 6 [(0, .ref (a 0)), (1, .int (nI x)), (2, .int (nI y)), (3, .int (nI z)), (4, .int (bI (frE th ki re go n x y z t))), (5, .int (nI t))] → W p l e (RM 1) s m args below meth c s.heap [] 0 0 Q (F0 m 6 ls []) := by
    intro d
    induction d with
    | zero =>
      intro t hlo6 hhi6 ls hl
      refine lv_iload hx hb dX6_isFree_6 (lv_at hl 5 rfl) ?_
      refine lv_bipush (v := (nI 16)) hx hb dX6_isFree_8 (by decide) ?_
      refine c_ge G (tgt := 53) (by omega) (by omega) dX6_isFree_10 (by decide) (fun c10 => ?_) (fun c10 => ?_)
      · -- taken at 10
        refine lv_iload hx hb dX6_isFree_53 (lv_at hl 4 rfl) ?_
        exact hret _ _ _ (by rw [show t = 16 by omega]) dX6_isFree_55
      · -- not taken at 10
        exact absurd c10 (by omega)
    | succ d ih =>
      intro t hlo6 hhi6 ls hl
      refine lv_iload hx hb dX6_isFree_6 (lv_at hl 5 rfl) ?_
      refine lv_bipush (v := (nI 16)) hx hb dX6_isFree_8 (by decide) ?_
      refine c_ge G (tgt := 53) (by omega) (by omega) dX6_isFree_10 (by decide) (fun c10 => ?_) (fun c10 => ?_)
      · -- taken at 10
        exact absurd c10 (by omega)
      · -- not taken at 10
        refine lv_iload hx hb dX6_isFree_13 (lv_at hl 4 rfl) ?_
        refine b_eq G (tgt := 44) dX6_isFree_15 (by decide) (fun c15 => ?_) (fun c15 => ?_)
        · -- taken at 15
          refine lv_iconst (v := (nI 0)) hx hb dX6_isFree_44 (by decide) ?_
          refine t_i (y := (bI (frE th ki re go n x y z (t + 1)))) (by first | exact frE_a c15 | exact frE_b c26 c37 | exact frE_s c15 (fun _ => c37) | exact frE_s c15 (fun h => absurd h c26)) ?_
          refine lv_istore (lv' := [(4, .int (bI (frE th ki re go n x y z (t + 1)))), (0, .ref (a 0)), (1, .int (nI x)), (2, .int (nI y)), (3, .int (nI z)), (5, .int (nI t))]) hx hb dX6_isFree_45 hl (by decide) rfl (fun ls hl => ?_)
          refine lv_iinc (v := (nI (t + 1))) (lv' := [(5, .int (nI (t + 1))), (4, .int (bI (frE th ki re go n x y z (t + 1)))), (0, .ref (a 0)), (1, .int (nI x)), (2, .int (nI y)), (3, .int (nI z))]) hx hb dX6_isFree_47 hl (k := 5) rfl (nI_inc _ 1) (by decide) rfl (fun ls hl => ?_)
          refine lv_goto (tgt := 6) hx hb dX6_isFree_50 (by decide) ?_
          -- slot 5: have n:t + 1, want n:(t + 1)
          exact ih (t + 1) (by omega) (by omega) ls (lv_sub hl [2, 3, 4, 5, 1, 0] rfl)
        · -- not taken at 15
          refine lv_iload_n hx hb dX6_isFree_18 rfl (lv_at hl 1 rfl) ?_
          refine lv_iload_n hx hb dX6_isFree_19 rfl (lv_at hl 2 rfl) ?_
          refine lv_ixor hx hb dX6_isFree_20 ?_
          refine t_i (y := (nI (x ^^^ y))) (nI_xor x y) ?_
          refine lv_iload hx hb dX6_isFree_21 (lv_at hl 5 rfl) ?_
          refine callPS (rest := []) G K F_X6_isIn (c_X6_isIn (x ^^^ y) t (xor_lt hx9 hy9) (by omega)) (va_P_nil D s.heap) ml_X6_188 (by decide) (by decide) rfl hl.1 (Nat.le_of_ble_eq_true rfl) dX6_isFree_23 ?_
          refine b_eq G (tgt := 40) dX6_isFree_26 (by decide) (fun c26 => ?_) (fun c26 => ?_)
          · -- taken at 26
            refine lv_iconst (v := (nI 1)) hx hb dX6_isFree_40 (by decide) ?_
            refine lv_goto (tgt := 45) hx hb dX6_isFree_41 (by decide) ?_
            refine t_i (y := (bI (frE th ki re go n x y z (t + 1)))) (by first | exact frE_a c15 | exact frE_b c26 c37 | exact frE_s c15 (fun _ => c37) | exact frE_s c15 (fun h => absurd h c26)) ?_
            refine lv_istore (lv' := [(4, .int (bI (frE th ki re go n x y z (t + 1)))), (0, .ref (a 0)), (1, .int (nI x)), (2, .int (nI y)), (3, .int (nI z)), (5, .int (nI t))]) hx hb dX6_isFree_45 hl (by decide) rfl (fun ls hl => ?_)
            refine lv_iinc (v := (nI (t + 1))) (lv' := [(5, .int (nI (t + 1))), (4, .int (bI (frE th ki re go n x y z (t + 1)))), (0, .ref (a 0)), (1, .int (nI x)), (2, .int (nI y)), (3, .int (nI z))]) hx hb dX6_isFree_47 hl (k := 5) rfl (nI_inc _ 1) (by decide) rfl (fun ls hl => ?_)
            refine lv_goto (tgt := 6) hx hb dX6_isFree_50 (by decide) ?_
            -- slot 5: have n:t + 1, want n:(t + 1)
            exact ih (t + 1) (by omega) (by omega) ls (lv_sub hl [2, 3, 4, 5, 1, 0] rfl)
          · -- not taken at 26
            refine lv_aload_n hx hb dX6_isFree_29 rfl (lv_at hl 0 rfl) ?_
            refine lv_iload hx hb dX6_isFree_30 (lv_at hl 5 rfl) ?_
            refine lv_iload_n hx hb dX6_isFree_32 rfl (lv_at hl 3 rfl) ?_
            refine callPV (As := [.int (nI t), .int (nI z)]) (rest := []) (q0 := 0) (ci := 6) G K F_X6_lastOf (c_X6_lastOf a la n cl go fo si it mo th ki va re to co ke fw t z I (by omega) (by omega)) hP ml_X6_152 rfl rfl rfl (by decide) (by decide) rfl hl.1 (Nat.le_of_ble_eq_true rfl) dX6_isFree_33 ?_
            refine lv_iconst (v := (-1)) hx hb dX6_isFree_36 (by decide) ?_
            refine o_ne G (tgt := 44) (fun w h => by have := (lastT_lt th ki re go t z n) w h; omega) dX6_isFree_37 (by decide) (fun c37 => ?_) (fun c37 => ?_)
            · -- taken at 37
              refine lv_iconst (v := (nI 0)) hx hb dX6_isFree_44 (by decide) ?_
              refine t_i (y := (bI (frE th ki re go n x y z (t + 1)))) (by first | exact frE_a c15 | exact frE_b c26 c37 | exact frE_s c15 (fun _ => c37) | exact frE_s c15 (fun h => absurd h c26)) ?_
              refine lv_istore (lv' := [(4, .int (bI (frE th ki re go n x y z (t + 1)))), (0, .ref (a 0)), (1, .int (nI x)), (2, .int (nI y)), (3, .int (nI z)), (5, .int (nI t))]) hx hb dX6_isFree_45 hl (by decide) rfl (fun ls hl => ?_)
              refine lv_iinc (v := (nI (t + 1))) (lv' := [(5, .int (nI (t + 1))), (4, .int (bI (frE th ki re go n x y z (t + 1)))), (0, .ref (a 0)), (1, .int (nI x)), (2, .int (nI y)), (3, .int (nI z))]) hx hb dX6_isFree_47 hl (k := 5) rfl (nI_inc _ 1) (by decide) rfl (fun ls hl => ?_)
              refine lv_goto (tgt := 6) hx hb dX6_isFree_50 (by decide) ?_
              -- slot 5: have n:t + 1, want n:(t + 1)
              exact ih (t + 1) (by omega) (by omega) ls (lv_sub hl [2, 3, 4, 5, 1, 0] rfl)
            · -- not taken at 37
              refine lv_iconst (v := (nI 1)) hx hb dX6_isFree_40 (by decide) ?_
              refine lv_goto (tgt := 45) hx hb dX6_isFree_41 (by decide) ?_
              refine t_i (y := (bI (frE th ki re go n x y z (t + 1)))) (by first | exact frE_a c15 | exact frE_b c26 c37 | exact frE_s c15 (fun _ => c37) | exact frE_s c15 (fun h => absurd h c26)) ?_
              refine lv_istore (lv' := [(4, .int (bI (frE th ki re go n x y z (t + 1)))), (0, .ref (a 0)), (1, .int (nI x)), (2, .int (nI y)), (3, .int (nI z)), (5, .int (nI t))]) hx hb dX6_isFree_45 hl (by decide) rfl (fun ls hl => ?_)
              refine lv_iinc (v := (nI (t + 1))) (lv' := [(5, .int (nI (t + 1))), (4, .int (bI (frE th ki re go n x y z (t + 1)))), (0, .ref (a 0)), (1, .int (nI x)), (2, .int (nI y)), (3, .int (nI z))]) hx hb dX6_isFree_47 hl (k := 5) rfl (nI_inc _ 1) (by decide) rfl (fun ls hl => ?_)
              refine lv_goto (tgt := 6) hx hb dX6_isFree_50 (by decide) ?_
              -- slot 5: have n:t + 1, want n:(t + 1)
              exact ih (t + 1) (by omega) (by omega) ls (lv_sub hl [2, 3, 4, 5, 1, 0] rfl)
  exact L6 (16 - 0) (0) (Nat.le_refl _) (by omega) ls (lv_sub hl [2, 3, 4, 5, 1, 0] rfl)
set_option maxHeartbeats 4000000 in
set_option maxRecDepth 100000 in
theorem c_X6_sortOf (a : Nat → Nat) (la : Int32) (n : Nat) (cl : Nat) (go : Option Nat) (fo : Nat → Int32) (si : Nat → Nat) (it : Nat → Int32) (mo : Nat → Int32) (th : Nat → Nat) (ki : Nat → Nat) (va : Nat → Nat) (re : Nat → Nat) (to : Nat → Prop) (co : Nat → Nat) (ke : Nat → Int32) (fw : Nat → Nat) (t : Nat) (r : Nat) (z : Nat) (I : IM n cl go th ki va re si co fw) (ht9 : t < 2 ^ 31) (hr1 : 1 ≤ r) (hr9 : r < 2 ^ 31) (hs9 : z < 2 ^ 31) : CP l D (TY cI cZ cS) yX6_sortOf cX6_sortOf 10 .int 2 [.ref (a 0), .int (nI t), .int (nI r), .int (nI z)] (wM cI cZ a la n cl go fo si it mo th ki va re to co ke fw) (.int (nI (srt th ki va re go n t r z))) := by
  refine CP.ofI (by decide +kernel) (Nat.le_of_ble_eq_true rfl) (nar_int _) ?_
  intro p e s m args below meth c Q G K hP hret ls hl
  obtain ⟨hx, hb, hml, hown, hts⟩ := id G
  obtain ⟨hn, hcl, hgo, hth, hki, hva, hre, hsi, hco, hfw⟩ := id I
  have hl : lv_has ls 10 [(0, .ref (a 0)), (1, .int (nI t)), (2, .int (nI r)), (3, .int (nI z))] := hl
  refine lv_aload_n hx hb dX6_sortOf_0 rfl (lv_at hl 0 rfl) ?_
  refine lv_iload_n hx hb dX6_sortOf_1 rfl (lv_at hl 1 rfl) ?_
  refine lv_iload_n hx hb dX6_sortOf_2 rfl (lv_at hl 2 rfl) ?_
  refine callPV (As := [.int (nI t), .int (nI r)]) (rest := []) (q0 := 0) (ci := 6) G K F_X6_isShadowed (c_X6_isShadowed a la n cl go fo si it mo th ki va re to co ke fw t r I (by omega) (by omega)) hP ml_X6_161 rfl rfl rfl (by decide) (by decide) rfl hl.1 (Nat.le_of_ble_eq_true rfl) dX6_sortOf_3 ?_
  refine b_eq G (tgt := 11) dX6_sortOf_6 (by decide) (fun c6 => ?_) (fun c6 => ?_)
  · -- taken at 6
    refine lv_aload_n hx hb dX6_sortOf_11 rfl (lv_at hl 0 rfl) ?_
    refine lv_iload_n hx hb dX6_sortOf_12 rfl (lv_at hl 1 rfl) ?_
    refine lv_iload_n hx hb dX6_sortOf_13 rfl (lv_at hl 2 rfl) ?_
    refine lv_iconst (v := (nI 1)) hx hb dX6_sortOf_14 (by decide) ?_
    refine t_sub G (by omega) dX6_sortOf_15 ?_
    refine callPV (As := [.int (nI t), .int (nI (r - 1))]) (rest := []) (q0 := 0) (ci := 6) G K F_X6_lastOf (c_X6_lastOf a la n cl go fo si it mo th ki va re to co ke fw t (r - 1) I (by omega) (by omega)) hP ml_X6_152 rfl rfl rfl (by decide) (by decide) rfl hl.1 (Nat.le_of_ble_eq_true rfl) dX6_sortOf_16 ?_
    refine lv_istore (lv' := [(4, .int (oI (lastT th ki re go t (r - 1) n))), (0, .ref (a 0)), (1, .int (nI t)), (2, .int (nI r)), (3, .int (nI z))]) hx hb dX6_sortOf_19 hl (by decide) rfl (fun ls hl => ?_)
    refine lv_aload_n hx hb dX6_sortOf_21 rfl (lv_at hl 1 rfl) ?_
    refine lv_iload_n hx hb dX6_sortOf_22 rfl (lv_at hl 2 rfl) ?_
    refine lv_iload_n hx hb dX6_sortOf_23 rfl (lv_at hl 3 rfl) ?_
    refine callPV (As := [.int (nI t), .int (nI r)]) (rest := []) (q0 := 0) (ci := 6) G K F_X6_lastOf (c_X6_lastOf a la n cl go fo si it mo th ki va re to co ke fw t r I (by omega) (by omega)) hP ml_X6_152 rfl rfl rfl (by decide) (by decide) rfl hl.1 (Nat.le_of_ble_eq_true rfl) dX6_sortOf_24 ?_
    refine lv_istore (lv' := [(5, .int (oI (lastT th ki re go t r n))), (4, .int (oI (lastT th ki re go t (r - 1) n))), (0, .ref (a 0)), (1, .int (nI t)), (2, .int (nI r)), (3, .int (nI z))]) hx hb dX6_sortOf_27 hl (by decide) rfl (fun ls hl => ?_)
    refine lv_aload_n hx hb dX6_sortOf_29 rfl (lv_at hl 2 rfl) ?_
    refine lv_iload hx hb dX6_sortOf_30 (lv_at hl 1 rfl) ?_
    have hA9 := lastT_lt th ki re go t (r - 1) n
    have hB9 := lastT_lt th ki re go t r n
    refine callPV (As := [.int (oI (lastT th ki re go t (r - 1) n))]) (rest := []) (q0 := 0) (ci := 6) G K F_X6_kindAt (c_X6_kindAt a la n cl go fo si it mo th ki va re to co ke fw (lastT th ki re go t (r - 1) n) I (fun w h => by have := hA9 w h; omega)) hP ml_X6_191 rfl rfl rfl (by decide) (by decide) rfl hl.1 (Nat.le_of_ble_eq_true rfl) dX6_sortOf_32 ?_
    refine lv_istore (lv' := [(6, .int (oI ((lastT th ki re go t (r - 1) n).map ki))), (5, .int (oI (lastT th ki re go t r n))), (4, .int (oI (lastT th ki re go t (r - 1) n))), (0, .ref (a 0)), (1, .int (nI t)), (2, .int (nI r)), (3, .int (nI z))]) hx hb dX6_sortOf_35 hl (by decide) rfl (fun ls hl => ?_)
    refine lv_aload_n hx hb dX6_sortOf_37 rfl (lv_at hl 3 rfl) ?_
    refine lv_iload hx hb dX6_sortOf_38 (lv_at hl 1 rfl) ?_
    refine callPV (As := [.int (oI (lastT th ki re go t r n))]) (rest := []) (q0 := 0) (ci := 6) G K F_X6_kindAt (c_X6_kindAt a la n cl go fo si it mo th ki va re to co ke fw (lastT th ki re go t r n) I (fun w h => by have := hB9 w h; omega)) hP ml_X6_191 rfl rfl rfl (by decide) (by decide) rfl hl.1 (Nat.le_of_ble_eq_true rfl) dX6_sortOf_40 ?_
    refine lv_istore (lv' := [(7, .int (oI ((lastT th ki re go t r n).map ki))), (6, .int (oI ((lastT th ki re go t (r - 1) n).map ki))), (5, .int (oI (lastT th ki re go t r n))), (4, .int (oI (lastT th ki re go t (r - 1) n))), (0, .ref (a 0)), (1, .int (nI t)), (2, .int (nI r)), (3, .int (nI z))]) hx hb dX6_sortOf_43 hl (by decide) rfl (fun ls hl => ?_)
    have J77 : (¬ (Option.map ki (lastT th ki re go t (r - 1) n) = Option.map ki (lastT th ki re go t r n) ∧ (lastT th ki re go t (r - 1) n = none ∨ vO va (lastT th ki re go t (r - 1) n) = vO va (lastT th ki re go t r n)))) → W p l e (RM 2) s m args below meth c s.heap [] 0 0 Q (F0 m 77 ls []) := by
      intro hne
      have J103 : (¬ ((Option.map ki (lastT th ki re go t (r - 1) n) = some 1 ∧ Option.map ki (lastT th ki re go t r n) = some 1) ∨ (Option.map ki (lastT th ki re go t (r - 1) n) = none ∧ Option.map ki (lastT th ki re go t r n) = some 4))) → W p l e (RM 2) s m args below meth c s.heap [] 0 0 Q (F0 m 103 ls []) := by
        intro hn1
        have J134 : W p l e (RM 2) s m args below meth c s.heap [] 0 0 Q (F0 m 134 ls [.int (bI (isNN (Option.map ki (lastT th ki re go t (r - 1) n)) ∧ isNN (Option.map ki (lastT th ki re go t r n)) ∧ lastT th ki re go t z n = none))]) := by
          refine lv_istore (lv' := [(8, .int (bI (isNN (Option.map ki (lastT th ki re go t (r - 1) n)) ∧ isNN (Option.map ki (lastT th ki re go t r n)) ∧ lastT th ki re go t z n = none))), (7, .int (oI ((lastT th ki re go t r n).map ki))), (6, .int (oI ((lastT th ki re go t (r - 1) n).map ki))), (5, .int (oI (lastT th ki re go t r n))), (4, .int (oI (lastT th ki re go t (r - 1) n))), (0, .ref (a 0)), (1, .int (nI t)), (2, .int (nI r)), (3, .int (nI z))]) hx hb dX6_sortOf_134 hl (by decide) rfl (fun ls hl => ?_)
          have J175 : W p l e (RM 2) s m args below meth c s.heap [] 0 0 Q (F0 m 175 ls [.int (bI (Option.map ki (lastT th ki re go t (r - 1) n) = some 3 ∧ Option.map ki (lastT th ki re go t r n) = some 3 ∧ frE th ki re go n (vO va (lastT th ki re go t (r - 1) n)) (vO va (lastT th ki re go t r n)) z 16))]) := by
            refine lv_istore (lv' := [(9, .int (bI (Option.map ki (lastT th ki re go t (r - 1) n) = some 3 ∧ Option.map ki (lastT th ki re go t r n) = some 3 ∧ frE th ki re go n (vO va (lastT th ki re go t (r - 1) n)) (vO va (lastT th ki re go t r n)) z 16))), (8, .int (bI (isNN (Option.map ki (lastT th ki re go t (r - 1) n)) ∧ isNN (Option.map ki (lastT th ki re go t r n)) ∧ lastT th ki re go t z n = none))), (7, .int (oI ((lastT th ki re go t r n).map ki))), (6, .int (oI ((lastT th ki re go t (r - 1) n).map ki))), (5, .int (oI (lastT th ki re go t r n))), (4, .int (oI (lastT th ki re go t (r - 1) n))), (0, .ref (a 0)), (1, .int (nI t)), (2, .int (nI r)), (3, .int (nI z))]) hx hb dX6_sortOf_175 hl (by decide) rfl (fun ls hl => ?_)
            refine lv_iload hx hb dX6_sortOf_177 (lv_at hl 1 rfl) ?_
            refine b_ne G (tgt := 187) dX6_sortOf_179 (by decide) (fun c179 => ?_) (fun c179 => ?_)
            · -- taken at 179
              refine lv_iconst (v := (nI 2)) hx hb dX6_sortOf_187 (by decide) ?_
              refine lv_goto (tgt := 192) hx hb dX6_sortOf_188 (by decide) ?_
              exact hret _ _ _ (congrArg nI (by unfold srt sr2; rw [cif_f c6, cif_f hne, cif_f hn1]; first | rw [cif_t (Or.inl c179)] | rw [cif_t (Or.inr c184)] | rw [cif_f (fun h => h.elim c179 c184)])) dX6_sortOf_192
            · -- not taken at 179
              refine lv_iload hx hb dX6_sortOf_182 (lv_at hl 0 rfl) ?_
              refine b_eq G (tgt := 191) dX6_sortOf_184 (by decide) (fun c184 => ?_) (fun c184 => ?_)
              · -- taken at 184
                refine lv_iconst (v := (nI 3)) hx hb dX6_sortOf_191 (by decide) ?_
                exact hret _ _ _ (congrArg nI (by unfold srt sr2; rw [cif_f c6, cif_f hne, cif_f hn1]; first | rw [cif_t (Or.inl c179)] | rw [cif_t (Or.inr c184)] | rw [cif_f (fun h => h.elim c179 c184)])) dX6_sortOf_192
              · -- not taken at 184
                refine lv_iconst (v := (nI 2)) hx hb dX6_sortOf_187 (by decide) ?_
                refine lv_goto (tgt := 192) hx hb dX6_sortOf_188 (by decide) ?_
                exact hret _ _ _ (congrArg nI (by unfold srt sr2; rw [cif_f c6, cif_f hne, cif_f hn1]; first | rw [cif_t (Or.inl c179)] | rw [cif_t (Or.inr c184)] | rw [cif_f (fun h => h.elim c179 c184)])) dX6_sortOf_192
          refine lv_iload hx hb dX6_sortOf_136 (lv_at hl 2 rfl) ?_
          refine lv_iconst (v := (nI 3)) hx hb dX6_sortOf_138 (by decide) ?_
          refine on_ne G (tgt := 174) (by omega) (fun w h => by have := (kO_lt hki (lastT th ki re go t (r - 1) n)) w h; omega) dX6_sortOf_139 (by decide) (fun c139 => ?_) (fun c139 => ?_)
          · -- taken at 139
            refine lv_iconst (v := (nI 0)) hx hb dX6_sortOf_174 (by decide) ?_
            refine t_i (y := (bI (Option.map ki (lastT th ki re go t (r - 1) n) = some 3 ∧ Option.map ki (lastT th ki re go t r n) = some 3 ∧ frE th ki re go n (vO va (lastT th ki re go t (r - 1) n)) (vO va (lastT th ki re go t r n)) z 16))) (by first | exact b1 ⟨c139, c145, by rw [hva9, hvb9]; exact c167⟩ | exact b0 (fun h => c139 h.1) | exact b0 (fun h => c145 h.2.1) | exact b0 (fun h => c167 (by have h3 := h.2.2; rw [hva9, hvb9] at h3; exact h3))) ?_
            exact J175
          · -- not taken at 139
            refine lv_iload hx hb dX6_sortOf_142 (lv_at hl 1 rfl) ?_
            refine lv_iconst (v := (nI 3)) hx hb dX6_sortOf_144 (by decide) ?_
            refine on_ne G (tgt := 174) (by omega) (fun w h => by have := (kO_lt hki (lastT th ki re go t r n)) w h; omega) dX6_sortOf_145 (by decide) (fun c145 => ?_) (fun c145 => ?_)
            · -- taken at 145
              refine lv_iconst (v := (nI 0)) hx hb dX6_sortOf_174 (by decide) ?_
              refine t_i (y := (bI (Option.map ki (lastT th ki re go t (r - 1) n) = some 3 ∧ Option.map ki (lastT th ki re go t r n) = some 3 ∧ frE th ki re go n (vO va (lastT th ki re go t (r - 1) n)) (vO va (lastT th ki re go t r n)) z 16))) (by first | exact b1 ⟨c139, c145, by rw [hva9, hvb9]; exact c167⟩ | exact b0 (fun h => c139 h.1) | exact b0 (fun h => c145 h.2.1) | exact b0 (fun h => c167 (by have h3 := h.2.2; rw [hva9, hvb9] at h3; exact h3))) ?_
              exact J175
            · -- not taken at 145
              obtain ⟨va9, hva9'⟩ := Option.ne_none_iff_exists'.mp (fun e => by rw [map_none.mpr e] at c139; cases c139)
              have hva0 := hA9 va9 hva9'
              obtain ⟨vb9, hvb9'⟩ := Option.ne_none_iff_exists'.mp (fun e => by rw [map_none.mpr e] at c145; cases c145)
              have hvb0 := hB9 vb9 hvb9'
              have hva9 : vO va (lastT th ki re go t (r - 1) n) = va va9 := by rw [hva9']; rfl
              have hvb9 : vO va (lastT th ki re go t r n) = va vb9 := by rw [hvb9']; rfl
              refine lv_aload_n hx hb dX6_sortOf_148 rfl (lv_at hl 5 rfl) ?_
              refine lv_aload_n hx hb dX6_sortOf_149 rfl (lv_at hl 5 rfl) ?_
              refine f_get G K hP inX6 0 (ci := 6) rfl rfl 8 rfl fl_X6_28 (v := .ref (a 7)) rfl dX6_sortOf_150 ?_
              refine lv_iload hx hb dX6_sortOf_153 (lv_at hl 4 rfl) ?_
              refine t_i (y := (nI va9)) (by rw [hva9']; rfl) ?_
              refine a_ldN G K hP 7 0 (a := (a 7)) rfl rfl (by omega) (by decide) dX6_sortOf_155 ?_
              have hb1 := hva va9
              refine lv_aload_n hx hb dX6_sortOf_156 rfl (lv_at hl 5 rfl) ?_
              refine f_get G K hP inX6 0 (ci := 6) rfl rfl 8 rfl fl_X6_28 (v := .ref (a 7)) rfl dX6_sortOf_157 ?_
              refine lv_iload hx hb dX6_sortOf_160 (lv_at hl 3 rfl) ?_
              refine t_i (y := (nI vb9)) (by rw [hvb9']; rfl) ?_
              refine a_ldN G K hP 7 0 (a := (a 7)) rfl rfl (by omega) (by decide) dX6_sortOf_162 ?_
              have hb2 := hva vb9
              refine lv_iload_n hx hb dX6_sortOf_163 rfl (lv_at hl 8 rfl) ?_
              refine callPV (As := [.int (nI (va va9)), .int (nI (va vb9)), .int (nI z)]) (rest := []) (q0 := 0) (ci := 6) G K F_X6_isFree (c_X6_isFree a la n cl go fo si it mo th ki va re to co ke fw (va va9) (va vb9) z I (by omega) (by omega) (by omega)) hP ml_X6_197 rfl rfl rfl (by decide) (by decide) rfl hl.1 (Nat.le_of_ble_eq_true rfl) dX6_sortOf_164 ?_
              refine b_eq G (tgt := 174) dX6_sortOf_167 (by decide) (fun c167 => ?_) (fun c167 => ?_)
              · -- taken at 167
                refine lv_iconst (v := (nI 0)) hx hb dX6_sortOf_174 (by decide) ?_
                refine t_i (y := (bI (Option.map ki (lastT th ki re go t (r - 1) n) = some 3 ∧ Option.map ki (lastT th ki re go t r n) = some 3 ∧ frE th ki re go n (vO va (lastT th ki re go t (r - 1) n)) (vO va (lastT th ki re go t r n)) z 16))) (by first | exact b1 ⟨c139, c145, by rw [hva9, hvb9]; exact c167⟩ | exact b0 (fun h => c139 h.1) | exact b0 (fun h => c145 h.2.1) | exact b0 (fun h => c167 (by have h3 := h.2.2; rw [hva9, hvb9] at h3; exact h3))) ?_
                exact J175
              · -- not taken at 167
                refine lv_iconst (v := (nI 1)) hx hb dX6_sortOf_170 (by decide) ?_
                refine lv_goto (tgt := 175) hx hb dX6_sortOf_171 (by decide) ?_
                refine t_i (y := (bI (Option.map ki (lastT th ki re go t (r - 1) n) = some 3 ∧ Option.map ki (lastT th ki re go t r n) = some 3 ∧ frE th ki re go n (vO va (lastT th ki re go t (r - 1) n)) (vO va (lastT th ki re go t r n)) z 16))) (by first | exact b1 ⟨c139, c145, by rw [hva9, hvb9]; exact c167⟩ | exact b0 (fun h => c139 h.1) | exact b0 (fun h => c145 h.2.1) | exact b0 (fun h => c167 (by have h3 := h.2.2; rw [hva9, hvb9] at h3; exact h3))) ?_
                exact J175
        refine lv_iload hx hb dX6_sortOf_103 (lv_at hl 1 rfl) ?_
        refine callPS (rest := []) G K F_X6_isNoteOrNone (c_X6_isNoteOrNone ((lastT th ki re go t (r - 1) n).map ki) (fun w h => by have := kO_lt hki _ w h; omega)) (va_P_nil D s.heap) ml_X6_194 (by decide) (by decide) rfl hl.1 (Nat.le_of_ble_eq_true rfl) dX6_sortOf_105 ?_
        refine b_eq G (tgt := 133) dX6_sortOf_108 (by decide) (fun c108 => ?_) (fun c108 => ?_)
        · -- taken at 108
          refine lv_iconst (v := (nI 0)) hx hb dX6_sortOf_133 (by decide) ?_
          refine t_i (y := (bI (isNN (Option.map ki (lastT th ki re go t (r - 1) n)) ∧ isNN (Option.map ki (lastT th ki re go t r n)) ∧ lastT th ki re go t z n = none))) (by first | exact b1 ⟨c108, c116, c126⟩ | exact b0 (fun h => c108 h.1) | exact b0 (fun h => c116 h.2.1) | exact b0 (fun h => c126 h.2.2)) ?_
          exact J134
        · -- not taken at 108
          refine lv_iload hx hb dX6_sortOf_111 (lv_at hl 0 rfl) ?_
          refine callPS (rest := []) G K F_X6_isNoteOrNone (c_X6_isNoteOrNone ((lastT th ki re go t r n).map ki) (fun w h => by have := kO_lt hki _ w h; omega)) (va_P_nil D s.heap) ml_X6_194 (by decide) (by decide) rfl hl.1 (Nat.le_of_ble_eq_true rfl) dX6_sortOf_113 ?_
          refine b_eq G (tgt := 133) dX6_sortOf_116 (by decide) (fun c116 => ?_) (fun c116 => ?_)
          · -- taken at 116
            refine lv_iconst (v := (nI 0)) hx hb dX6_sortOf_133 (by decide) ?_
            refine t_i (y := (bI (isNN (Option.map ki (lastT th ki re go t (r - 1) n)) ∧ isNN (Option.map ki (lastT th ki re go t r n)) ∧ lastT th ki re go t z n = none))) (by first | exact b1 ⟨c108, c116, c126⟩ | exact b0 (fun h => c108 h.1) | exact b0 (fun h => c116 h.2.1) | exact b0 (fun h => c126 h.2.2)) ?_
            exact J134
          · -- not taken at 116
            refine lv_aload_n hx hb dX6_sortOf_119 rfl (lv_at hl 4 rfl) ?_
            refine lv_iload_n hx hb dX6_sortOf_120 rfl (lv_at hl 5 rfl) ?_
            refine lv_iload_n hx hb dX6_sortOf_121 rfl (lv_at hl 7 rfl) ?_
            refine callPV (As := [.int (nI t), .int (nI z)]) (rest := []) (q0 := 0) (ci := 6) G K F_X6_lastOf (c_X6_lastOf a la n cl go fo si it mo th ki va re to co ke fw t z I (by omega) (by omega)) hP ml_X6_152 rfl rfl rfl (by decide) (by decide) rfl hl.1 (Nat.le_of_ble_eq_true rfl) dX6_sortOf_122 ?_
            refine lv_iconst (v := (-1)) hx hb dX6_sortOf_125 (by decide) ?_
            refine o_ne G (tgt := 133) (fun w h => by have := (lastT_lt th ki re go t z n) w h; omega) dX6_sortOf_126 (by decide) (fun c126 => ?_) (fun c126 => ?_)
            · -- taken at 126
              refine lv_iconst (v := (nI 0)) hx hb dX6_sortOf_133 (by decide) ?_
              refine t_i (y := (bI (isNN (Option.map ki (lastT th ki re go t (r - 1) n)) ∧ isNN (Option.map ki (lastT th ki re go t r n)) ∧ lastT th ki re go t z n = none))) (by first | exact b1 ⟨c108, c116, c126⟩ | exact b0 (fun h => c108 h.1) | exact b0 (fun h => c116 h.2.1) | exact b0 (fun h => c126 h.2.2)) ?_
              exact J134
            · -- not taken at 126
              refine lv_iconst (v := (nI 1)) hx hb dX6_sortOf_129 (by decide) ?_
              refine lv_goto (tgt := 134) hx hb dX6_sortOf_130 (by decide) ?_
              refine t_i (y := (bI (isNN (Option.map ki (lastT th ki re go t (r - 1) n)) ∧ isNN (Option.map ki (lastT th ki re go t r n)) ∧ lastT th ki re go t z n = none))) (by first | exact b1 ⟨c108, c116, c126⟩ | exact b0 (fun h => c108 h.1) | exact b0 (fun h => c116 h.2.1) | exact b0 (fun h => c126 h.2.2)) ?_
              exact J134
      refine lv_iload hx hb dX6_sortOf_77 (lv_at hl 1 rfl) ?_
      refine lv_iconst (v := (nI 1)) hx hb dX6_sortOf_79 (by decide) ?_
      refine on_ne G (tgt := 89) (by omega) (fun w h => by have := (kO_lt hki (lastT th ki re go t (r - 1) n)) w h; omega) dX6_sortOf_80 (by decide) (fun c80 => ?_) (fun c80 => ?_)
      · -- taken at 80
        refine lv_iload hx hb dX6_sortOf_89 (lv_at hl 1 rfl) ?_
        refine lv_iconst (v := (-1)) hx hb dX6_sortOf_91 (by decide) ?_
        refine o_ne G (tgt := 103) (fun w h => by have := (kO_lt hki (lastT th ki re go t (r - 1) n)) w h; omega) dX6_sortOf_92 (by decide) (fun c92 => ?_) (fun c92 => ?_)
        · -- taken at 92
          exact J103 (by first | exact fun h => h.elim (fun q => c80 q.1) (fun q => c92 (map_none.mp q.1 ▸ q.1)) | exact fun h => h.elim (fun q => c80 q.1) (fun q => c98 q.2) | exact fun h => h.elim (fun q => c86 q.2) (fun q => c92 q.1) | exact fun h => h.elim (fun q => c86 q.2) (fun q => c98 q.2) | exact fun h => h.elim (fun q => c80 q.1) (fun q => c92 q.1))
        · -- not taken at 92
          refine lv_iload hx hb dX6_sortOf_95 (lv_at hl 0 rfl) ?_
          refine lv_iconst (v := (nI 4)) hx hb dX6_sortOf_97 (by decide) ?_
          refine on_ne G (tgt := 103) (by omega) (fun w h => by have := (kO_lt hki (lastT th ki re go t r n)) w h; omega) dX6_sortOf_98 (by decide) (fun c98 => ?_) (fun c98 => ?_)
          · -- taken at 98
            exact J103 (by first | exact fun h => h.elim (fun q => c80 q.1) (fun q => c92 (map_none.mp q.1 ▸ q.1)) | exact fun h => h.elim (fun q => c80 q.1) (fun q => c98 q.2) | exact fun h => h.elim (fun q => c86 q.2) (fun q => c92 q.1) | exact fun h => h.elim (fun q => c86 q.2) (fun q => c98 q.2) | exact fun h => h.elim (fun q => c80 q.1) (fun q => c92 q.1))
          · -- not taken at 98
            refine lv_iconst (v := (nI 1)) hx hb dX6_sortOf_101 (by decide) ?_
            exact hret _ _ _ (congrArg nI (by unfold srt sr2; rw [cif_f c6, cif_f hne, cif_t (by first | exact Or.inl ⟨c80, c86⟩ | exact Or.inr ⟨c92, c98⟩)])) dX6_sortOf_102
      · -- not taken at 80
        refine lv_iload hx hb dX6_sortOf_83 (lv_at hl 0 rfl) ?_
        refine lv_iconst (v := (nI 1)) hx hb dX6_sortOf_85 (by decide) ?_
        refine on_eq G (tgt := 101) (by omega) (fun w h => by have := (kO_lt hki (lastT th ki re go t r n)) w h; omega) dX6_sortOf_86 (by decide) (fun c86 => ?_) (fun c86 => ?_)
        · -- taken at 86
          refine lv_iconst (v := (nI 1)) hx hb dX6_sortOf_101 (by decide) ?_
          exact hret _ _ _ (congrArg nI (by unfold srt sr2; rw [cif_f c6, cif_f hne, cif_t (by first | exact Or.inl ⟨c80, c86⟩ | exact Or.inr ⟨c92, c98⟩)])) dX6_sortOf_102
        · -- not taken at 86
          refine lv_iload hx hb dX6_sortOf_89 (lv_at hl 1 rfl) ?_
          refine lv_iconst (v := (-1)) hx hb dX6_sortOf_91 (by decide) ?_
          refine o_ne G (tgt := 103) (fun w h => by have := (kO_lt hki (lastT th ki re go t (r - 1) n)) w h; omega) dX6_sortOf_92 (by decide) (fun c92 => ?_) (fun c92 => ?_)
          · -- taken at 92
            exact J103 (by first | exact fun h => h.elim (fun q => c80 q.1) (fun q => c92 (map_none.mp q.1 ▸ q.1)) | exact fun h => h.elim (fun q => c80 q.1) (fun q => c98 q.2) | exact fun h => h.elim (fun q => c86 q.2) (fun q => c92 q.1) | exact fun h => h.elim (fun q => c86 q.2) (fun q => c98 q.2) | exact fun h => h.elim (fun q => c80 q.1) (fun q => c92 q.1))
          · -- not taken at 92
            refine lv_iload hx hb dX6_sortOf_95 (lv_at hl 0 rfl) ?_
            refine lv_iconst (v := (nI 4)) hx hb dX6_sortOf_97 (by decide) ?_
            refine on_ne G (tgt := 103) (by omega) (fun w h => by have := (kO_lt hki (lastT th ki re go t r n)) w h; omega) dX6_sortOf_98 (by decide) (fun c98 => ?_) (fun c98 => ?_)
            · -- taken at 98
              exact J103 (by first | exact fun h => h.elim (fun q => c80 q.1) (fun q => c92 (map_none.mp q.1 ▸ q.1)) | exact fun h => h.elim (fun q => c80 q.1) (fun q => c98 q.2) | exact fun h => h.elim (fun q => c86 q.2) (fun q => c92 q.1) | exact fun h => h.elim (fun q => c86 q.2) (fun q => c98 q.2) | exact fun h => h.elim (fun q => c80 q.1) (fun q => c92 q.1))
            · -- not taken at 98
              refine lv_iconst (v := (nI 1)) hx hb dX6_sortOf_101 (by decide) ?_
              exact hret _ _ _ (congrArg nI (by unfold srt sr2; rw [cif_f c6, cif_f hne, cif_t (by first | exact Or.inl ⟨c80, c86⟩ | exact Or.inr ⟨c92, c98⟩)])) dX6_sortOf_102
    refine lv_iload hx hb dX6_sortOf_45 (lv_at hl 1 rfl) ?_
    refine lv_iload hx hb dX6_sortOf_47 (lv_at hl 0 rfl) ?_
    refine oo_ne G (tgt := 77) (fun w h => by have := (kO_lt hki (lastT th ki re go t (r - 1) n)) w h; omega) (fun w h => by have := (kO_lt hki (lastT th ki re go t r n)) w h; omega) dX6_sortOf_49 (by decide) (fun c49 => ?_) (fun c49 => ?_)
    · -- taken at 49
      exact J77 (by first | exact fun h => c49 h.1 | exact fun h => h.2.elim c55 (fun e => c72 (by rw [hva9, hvb9] at e; exact e)))
    · -- not taken at 49
      refine lv_iload hx hb dX6_sortOf_52 (lv_at hl 3 rfl) ?_
      refine lv_iconst (v := (-1)) hx hb dX6_sortOf_54 (by decide) ?_
      refine o_eq G (tgt := 75) (fun w h => by have := (lastT_lt th ki re go t (r - 1) n) w h; omega) dX6_sortOf_55 (by decide) (fun c55 => ?_) (fun c55 => ?_)
      · -- taken at 55
        refine lv_iconst (v := (nI 0)) hx hb dX6_sortOf_75 (by decide) ?_
        exact hret _ _ _ (congrArg nI (by unfold srt sr2; rw [cif_f c6, cif_t ⟨c49, by first | exact Or.inl c55 | exact Or.inr (by rw [hva9, hvb9]; exact c72)⟩])) dX6_sortOf_76
      · -- not taken at 55
        obtain ⟨va9, hva9'⟩ := Option.ne_none_iff_exists'.mp c55
        have hva0 := hA9 va9 hva9'
        obtain ⟨vb9, hvb9'⟩ := Option.ne_none_iff_exists'.mp (fun e => c55 (map_none.mp (c49.trans (map_none.mpr e))))
        have hvb0 := hB9 vb9 hvb9'
        have hva9 : vO va (lastT th ki re go t (r - 1) n) = va va9 := by rw [hva9']; rfl
        have hvb9 : vO va (lastT th ki re go t r n) = va vb9 := by rw [hvb9']; rfl
        refine lv_aload_n hx hb dX6_sortOf_58 rfl (lv_at hl 4 rfl) ?_
        refine f_get G K hP inX6 0 (ci := 6) rfl rfl 8 rfl fl_X6_28 (v := .ref (a 7)) rfl dX6_sortOf_59 ?_
        refine lv_iload hx hb dX6_sortOf_62 (lv_at hl 3 rfl) ?_
        refine t_i (y := (nI va9)) (by rw [hva9']; rfl) ?_
        refine a_ldN G K hP 7 0 (a := (a 7)) rfl rfl (by omega) (by decide) dX6_sortOf_64 ?_
        have hb3 := hva va9
        refine lv_aload_n hx hb dX6_sortOf_65 rfl (lv_at hl 4 rfl) ?_
        refine f_get G K hP inX6 0 (ci := 6) rfl rfl 8 rfl fl_X6_28 (v := .ref (a 7)) rfl dX6_sortOf_66 ?_
        refine lv_iload hx hb dX6_sortOf_69 (lv_at hl 2 rfl) ?_
        refine t_i (y := (nI vb9)) (by rw [hvb9']; rfl) ?_
        refine a_ldN G K hP 7 0 (a := (a 7)) rfl rfl (by omega) (by decide) dX6_sortOf_71 ?_
        have hb4 := hva vb9
        refine c_ne G (tgt := 77) (by omega) (by omega) dX6_sortOf_72 (by decide) (fun c72 => ?_) (fun c72 => ?_)
        · -- taken at 72
          exact J77 (by first | exact fun h => c49 h.1 | exact fun h => h.2.elim c55 (fun e => c72 (by rw [hva9, hvb9] at e; exact e)))
        · -- not taken at 72
          refine lv_iconst (v := (nI 0)) hx hb dX6_sortOf_75 (by decide) ?_
          exact hret _ _ _ (congrArg nI (by unfold srt sr2; rw [cif_f c6, cif_t ⟨c49, by first | exact Or.inl c55 | exact Or.inr (by rw [hva9, hvb9]; exact c72)⟩])) dX6_sortOf_76
  · -- not taken at 6
    refine lv_iconst (v := (nI 3)) hx hb dX6_sortOf_9 (by decide) ?_
    exact hret _ _ _ (srt_3 c6) dX6_sortOf_10
set_option maxHeartbeats 4000000 in
set_option maxRecDepth 100000 in
theorem c_X6_verdictOf (a : Nat → Nat) (la : Int32) (n : Nat) (cl : Nat) (go : Option Nat) (fo : Nat → Int32) (si : Nat → Nat) (it : Nat → Int32) (mo : Nat → Int32) (th : Nat → Nat) (ki : Nat → Nat) (va : Nat → Nat) (re : Nat → Nat) (to : Nat → Prop) (co : Nat → Nat) (ke : Nat → Int32) (fw : Nat → Nat) (w : Nat) (I : IM n cl go th ki va re si co fw) (hw9 : w < 40) : CP l D (TY cI cZ cS) yX6_verdictOf cX6_verdictOf 4 .int 3 [.ref (a 0), .int (nI w)] (wM cI cZ a la n cl go fo si it mo th ki va re to co ke fw) (.int (nI (vrd th ki va re go n cl (re w)))) := by
  refine CP.ofI (by decide +kernel) (Nat.le_of_ble_eq_true rfl) (nar_int _) ?_
  intro p e s m args below meth c Q G K hP hret ls hl
  obtain ⟨hx, hb, hml, hown, hts⟩ := id G
  obtain ⟨hn, hcl, hgo, hth, hki, hva, hre, hsi, hco, hfw⟩ := id I
  have hrw := hre w
  have hl : lv_has ls 4 [(0, .ref (a 0)), (1, .int (nI w))] := hl
  refine lv_iconst (v := (nI 0)) hx hb dX6_verdictOf_0 (by decide) ?_
  refine lv_istore_n (lv' := [(2, .int (nI 0)), (0, .ref (a 0)), (1, .int (nI w))]) hx hb dX6_verdictOf_1 rfl hl (by decide) rfl (fun ls hl => ?_)
  refine lv_bipush (v := (nI 16)) hx hb dX6_verdictOf_2 (by decide) ?_
  refine lv_aload_n hx hb dX6_verdictOf_4 rfl (lv_at hl 1 rfl) ?_
  refine f_get G K hP inX6 0 (ci := 6) rfl rfl 9 rfl fl_X6_31 (v := .ref (a 8)) rfl dX6_verdictOf_5 ?_
  refine lv_iload_n hx hb dX6_verdictOf_8 rfl (lv_at hl 2 rfl) ?_
  refine a_ldN G K hP 8 0 (a := (a 8)) rfl rfl (by omega) (by decide) dX6_verdictOf_9 ?_
  have hb1 := hre w
  refine lv_iconst (v := (nI 1)) hx hb dX6_verdictOf_10 (by decide) ?_
  refine t_add G dX6_verdictOf_11 ?_
  refine t_mul G dX6_verdictOf_12 ?_
  refine t_i (y := (nI (16 * (re w + 1) + 0))) rfl ?_
  refine lv_istore_n (lv' := [(3, .int (nI (16 * (re w + 1) + 0))), (2, .int (nI 0)), (0, .ref (a 0)), (1, .int (nI w))]) hx hb dX6_verdictOf_13 rfl hl (by decide) rfl (fun ls hl => ?_)
  have L14 : ∀ (d j : Nat), 0 ≤ j → j + d = 16 * (cl + 1) - 16 * (re w + 1) → ∀ (ls : Array Slot), lv_has ls 4 [(0, .ref (a 0)), (1, .int (nI w)), (2, .int (nI (mxP (sjt th ki va re go n (re w)) j))), (3, .int (nI (16 * (re w + 1) + j)))] → W p l e (RM 3) s m args below meth c s.heap [] 0 0 Q (F0 m 14 ls []) := by
    intro d
    induction d with
    | zero =>
      intro j hlo14 hhi14 ls hl
      have hmx := mxP_le (z := 3) (f := sjt th ki va re go n (re w)) (fun j => srt_le th ki va re go n _ _ (re w)) j
      refine lv_iload_n hx hb dX6_verdictOf_14 rfl (lv_at hl 3 rfl) ?_
      refine lv_bipush (v := (nI 16)) hx hb dX6_verdictOf_15 (by decide) ?_
      refine lv_aload_n hx hb dX6_verdictOf_17 rfl (lv_at hl 0 rfl) ?_
      refine f_get G K hP inX6 0 (ci := 6) rfl rfl 13 rfl fl_X6_92 (v := .int (nI cl)) rfl dX6_verdictOf_18 ?_
      refine lv_iconst (v := (nI 1)) hx hb dX6_verdictOf_21 (by decide) ?_
      refine t_add G dX6_verdictOf_22 ?_
      refine t_mul G dX6_verdictOf_23 ?_
      refine c_ge G (tgt := 56) (by omega) (by omega) dX6_verdictOf_24 (by decide) (fun c24 => ?_) (fun c24 => ?_)
      · -- taken at 24
        refine lv_iload_n hx hb dX6_verdictOf_56 rfl (lv_at hl 2 rfl) ?_
        exact hret _ _ _ (congrArg nI (by unfold vrd; rw [show j = 16 * (cl + 1) - 16 * (re w + 1) by omega])) dX6_verdictOf_57
      · -- not taken at 24
        exact absurd c24 (by omega)
    | succ d ih =>
      intro j hlo14 hhi14 ls hl
      have hmx := mxP_le (z := 3) (f := sjt th ki va re go n (re w)) (fun j => srt_le th ki va re go n _ _ (re w)) j
      refine lv_iload_n hx hb dX6_verdictOf_14 rfl (lv_at hl 3 rfl) ?_
      refine lv_bipush (v := (nI 16)) hx hb dX6_verdictOf_15 (by decide) ?_
      refine lv_aload_n hx hb dX6_verdictOf_17 rfl (lv_at hl 0 rfl) ?_
      refine f_get G K hP inX6 0 (ci := 6) rfl rfl 13 rfl fl_X6_92 (v := .int (nI cl)) rfl dX6_verdictOf_18 ?_
      refine lv_iconst (v := (nI 1)) hx hb dX6_verdictOf_21 (by decide) ?_
      refine t_add G dX6_verdictOf_22 ?_
      refine t_mul G dX6_verdictOf_23 ?_
      refine c_ge G (tgt := 56) (by omega) (by omega) dX6_verdictOf_24 (by decide) (fun c24 => ?_) (fun c24 => ?_)
      · -- taken at 24
        exact absurd c24 (by omega)
      · -- not taken at 24
        refine lv_aload_n hx hb dX6_verdictOf_27 rfl (lv_at hl 0 rfl) ?_
        refine lv_iload_n hx hb dX6_verdictOf_28 rfl (lv_at hl 3 rfl) ?_
        refine lv_bipush (v := (nI 16)) hx hb dX6_verdictOf_29 (by decide) ?_
        refine t_rem G (by omega) (by decide) (by decide) dX6_verdictOf_31 ?_
        refine lv_iload_n hx hb dX6_verdictOf_32 rfl (lv_at hl 3 rfl) ?_
        refine lv_bipush (v := (nI 16)) hx hb dX6_verdictOf_33 (by decide) ?_
        refine t_div G (by omega) (by decide) (by decide) dX6_verdictOf_35 ?_
        refine lv_aload_n hx hb dX6_verdictOf_36 rfl (lv_at hl 0 rfl) ?_
        refine f_get G K hP inX6 0 (ci := 6) rfl rfl 9 rfl fl_X6_31 (v := .ref (a 8)) rfl dX6_verdictOf_37 ?_
        refine lv_iload_n hx hb dX6_verdictOf_40 rfl (lv_at hl 1 rfl) ?_
        refine a_ldN G K hP 8 0 (a := (a 8)) rfl rfl (by omega) (by decide) dX6_verdictOf_41 ?_
        have hb2 := hre w
        refine callPV (As := [.int (nI ((16 * (re w + 1) + j) % 16)), .int (nI ((16 * (re w + 1) + j) / 16)), .int (nI (re w))]) (rest := []) (q0 := 0) (ci := 6) G K F_X6_sortOf (c_X6_sortOf a la n cl go fo si it mo th ki va re to co ke fw ((16 * (re w + 1) + j) % 16) ((16 * (re w + 1) + j) / 16) (re w) I (by omega) (by omega) (by omega) (by omega)) hP ml_X6_201 rfl rfl rfl (by decide) (by decide) rfl hl.1 (Nat.le_of_ble_eq_true rfl) dX6_verdictOf_42 ?_
        have hf3 := srt_le th ki va re go n ((16 * (re w + 1) + j) % 16) ((16 * (re w + 1) + j) / 16) (re w)
        refine lv_iload_n hx hb dX6_verdictOf_45 rfl (lv_at hl 2 rfl) ?_
        refine callPS (rest := []) G K F_X6_greater (c_X6_greater (srt th ki va re go n ((16 * (re w + 1) + j) % 16) ((16 * (re w + 1) + j) / 16) (re w)) (mxP (sjt th ki va re go n (re w)) j) (by omega) (by omega)) (va_P_nil D s.heap) ml_X6_204 (by decide) (by decide) rfl hl.1 (Nat.le_of_ble_eq_true rfl) dX6_verdictOf_46 ?_
        refine t_i (y := (nI (mxP (sjt th ki va re go n (re w)) (j + 1)))) rfl ?_
        refine lv_istore_n (lv' := [(2, .int (nI (mxP (sjt th ki va re go n (re w)) (j + 1)))), (0, .ref (a 0)), (1, .int (nI w)), (3, .int (nI (16 * (re w + 1) + j)))]) hx hb dX6_verdictOf_49 rfl hl (by decide) rfl (fun ls hl => ?_)
        refine lv_iinc (v := (nI (16 * (re w + 1) + j + 1))) (lv' := [(3, .int (nI (16 * (re w + 1) + j + 1))), (2, .int (nI (mxP (sjt th ki va re go n (re w)) (j + 1)))), (0, .ref (a 0)), (1, .int (nI w))]) hx hb dX6_verdictOf_50 hl (k := 3) rfl (nI_inc _ 1) (by decide) rfl (fun ls hl => ?_)
        refine lv_goto (tgt := 14) hx hb dX6_verdictOf_53 (by decide) ?_
        -- slot 3: have n:16 * (re w + 1) + j + 1, want n:16 * (re w + 1) + (j + 1)
        exact ih (j + 1) (by omega) (by omega) ls (lv_sub hl [2, 3, 1, 0] rfl)
  exact L14 (16 * (cl + 1) - 16 * (re w + 1) - 0) (0) (Nat.le_refl _) (by omega) ls (lv_sub hl [2, 3, 1, 0] rfl)
set_option maxHeartbeats 4000000 in
set_option maxRecDepth 100000 in
theorem c_X6_manyChanges (a : Nat → Nat) (la : Int32) (n : Nat) (cl : Nat) (go : Option Nat) (fo : Nat → Int32) (si : Nat → Nat) (it : Nat → Int32) (mo : Nat → Int32) (th : Nat → Nat) (ki : Nat → Nat) (va : Nat → Nat) (re : Nat → Nat) (to : Nat → Prop) (co : Nat → Nat) (ke : Nat → Int32) (fw : Nat → Nat) (w : Nat) (q : Nat) (I : IM n cl go th ki va re si co fw) (hw9 : w < 40) (hq9 : q < 2 ^ 31) : CP l D (TY cI cZ cS) yX6_manyChanges cX6_manyChanges 5 .int 3 [.ref (a 0), .int (nI w), .int (nI q)] (wM cI cZ a la n cl go fo si it mo th ki va re to co ke fw) (.int (nI (mch th ki va re go n cl (re w) q))) := by
  refine CP.ofI (by decide +kernel) (Nat.le_of_ble_eq_true rfl) (nar_int _) ?_
  intro p e s m args below meth c Q G K hP hret ls hl
  obtain ⟨hx, hb, hml, hown, hts⟩ := id G
  obtain ⟨hn, hcl, hgo, hth, hki, hva, hre, hsi, hco, hfw⟩ := id I
  have hrw := hre w
  have hl : lv_has ls 5 [(0, .ref (a 0)), (1, .int (nI w)), (2, .int (nI q))] := hl
  refine lv_iconst (v := (nI 0)) hx hb dX6_manyChanges_0 (by decide) ?_
  refine lv_istore_n (lv' := [(3, .int (nI 0)), (0, .ref (a 0)), (1, .int (nI w)), (2, .int (nI q))]) hx hb dX6_manyChanges_1 rfl hl (by decide) rfl (fun ls hl => ?_)
  refine lv_bipush (v := (nI 16)) hx hb dX6_manyChanges_2 (by decide) ?_
  refine lv_aload_n hx hb dX6_manyChanges_4 rfl (lv_at hl 1 rfl) ?_
  refine f_get G K hP inX6 0 (ci := 6) rfl rfl 9 rfl fl_X6_31 (v := .ref (a 8)) rfl dX6_manyChanges_5 ?_
  refine lv_iload_n hx hb dX6_manyChanges_8 rfl (lv_at hl 2 rfl) ?_
  refine a_ldN G K hP 8 0 (a := (a 8)) rfl rfl (by omega) (by decide) dX6_manyChanges_9 ?_
  have hb1 := hre w
  refine lv_iconst (v := (nI 1)) hx hb dX6_manyChanges_10 (by decide) ?_
  refine t_add G dX6_manyChanges_11 ?_
  refine t_mul G dX6_manyChanges_12 ?_
  refine t_i (y := (nI (16 * (re w + 1) + 0))) rfl ?_
  refine lv_istore (lv' := [(4, .int (nI (16 * (re w + 1) + 0))), (3, .int (nI 0)), (0, .ref (a 0)), (1, .int (nI w)), (2, .int (nI q))]) hx hb dX6_manyChanges_13 hl (by decide) rfl (fun ls hl => ?_)
  have L15 : ∀ (d j : Nat), 0 ≤ j → j + d = 16 * (cl + 1) - 16 * (re w + 1) → ∀ (ls : Array Slot), lv_has ls 5 [(0, .ref (a 0)), (1, .int (nI w)), (2, .int (nI q)), (3, .int (nI (cntP (fun j => q ≤ sjt th ki va re go n (re w) j) j))), (4, .int (nI (16 * (re w + 1) + j)))] → W p l e (RM 3) s m args below meth c s.heap [] 0 0 Q (F0 m 15 ls []) := by
    intro d
    induction d with
    | zero =>
      intro j hlo15 hhi15 ls hl
      refine lv_iload hx hb dX6_manyChanges_15 (lv_at hl 4 rfl) ?_
      refine lv_bipush (v := (nI 16)) hx hb dX6_manyChanges_17 (by decide) ?_
      refine lv_aload_n hx hb dX6_manyChanges_19 rfl (lv_at hl 0 rfl) ?_
      refine f_get G K hP inX6 0 (ci := 6) rfl rfl 13 rfl fl_X6_92 (v := .int (nI cl)) rfl dX6_manyChanges_20 ?_
      refine lv_iconst (v := (nI 1)) hx hb dX6_manyChanges_23 (by decide) ?_
      refine t_add G dX6_manyChanges_24 ?_
      refine t_mul G dX6_manyChanges_25 ?_
      refine c_ge G (tgt := 67) (by omega) (by omega) dX6_manyChanges_26 (by decide) (fun c26 => ?_) (fun c26 => ?_)
      · -- taken at 26
        refine lv_iload_n hx hb dX6_manyChanges_67 rfl (lv_at hl 3 rfl) ?_
        exact hret _ _ _ (congrArg nI (by unfold mch; rw [show j = 16 * (cl + 1) - 16 * (re w + 1) by omega])) dX6_manyChanges_68
      · -- not taken at 26
        exact absurd c26 (by omega)
    | succ d ih =>
      intro j hlo15 hhi15 ls hl
      refine lv_iload hx hb dX6_manyChanges_15 (lv_at hl 4 rfl) ?_
      refine lv_bipush (v := (nI 16)) hx hb dX6_manyChanges_17 (by decide) ?_
      refine lv_aload_n hx hb dX6_manyChanges_19 rfl (lv_at hl 0 rfl) ?_
      refine f_get G K hP inX6 0 (ci := 6) rfl rfl 13 rfl fl_X6_92 (v := .int (nI cl)) rfl dX6_manyChanges_20 ?_
      refine lv_iconst (v := (nI 1)) hx hb dX6_manyChanges_23 (by decide) ?_
      refine t_add G dX6_manyChanges_24 ?_
      refine t_mul G dX6_manyChanges_25 ?_
      refine c_ge G (tgt := 67) (by omega) (by omega) dX6_manyChanges_26 (by decide) (fun c26 => ?_) (fun c26 => ?_)
      · -- taken at 26
        exact absurd c26 (by omega)
      · -- not taken at 26
        refine lv_iload_n hx hb dX6_manyChanges_29 rfl (lv_at hl 3 rfl) ?_
        refine lv_aload_n hx hb dX6_manyChanges_30 rfl (lv_at hl 0 rfl) ?_
        refine lv_iload hx hb dX6_manyChanges_31 (lv_at hl 4 rfl) ?_
        refine lv_bipush (v := (nI 16)) hx hb dX6_manyChanges_33 (by decide) ?_
        refine t_rem G (by omega) (by decide) (by decide) dX6_manyChanges_35 ?_
        refine lv_iload hx hb dX6_manyChanges_36 (lv_at hl 4 rfl) ?_
        refine lv_bipush (v := (nI 16)) hx hb dX6_manyChanges_38 (by decide) ?_
        refine t_div G (by omega) (by decide) (by decide) dX6_manyChanges_40 ?_
        refine lv_aload_n hx hb dX6_manyChanges_41 rfl (lv_at hl 0 rfl) ?_
        refine f_get G K hP inX6 0 (ci := 6) rfl rfl 9 rfl fl_X6_31 (v := .ref (a 8)) rfl dX6_manyChanges_42 ?_
        refine lv_iload_n hx hb dX6_manyChanges_45 rfl (lv_at hl 1 rfl) ?_
        refine a_ldN G K hP 8 0 (a := (a 8)) rfl rfl (by omega) (by decide) dX6_manyChanges_46 ?_
        have hb2 := hre w
        refine callPV (As := [.int (nI ((16 * (re w + 1) + j) % 16)), .int (nI ((16 * (re w + 1) + j) / 16)), .int (nI (re w))]) (rest := [.int (nI (cntP (fun j => q ≤ sjt th ki va re go n (re w) j) j))]) (q0 := 0) (ci := 6) G K F_X6_sortOf (c_X6_sortOf a la n cl go fo si it mo th ki va re to co ke fw ((16 * (re w + 1) + j) % 16) ((16 * (re w + 1) + j) / 16) (re w) I (by omega) (by omega) (by omega) (by omega)) hP ml_X6_201 rfl rfl rfl (by decide) (by decide) rfl hl.1 (Nat.le_of_ble_eq_true rfl) dX6_manyChanges_47 ?_
        have hf3 := srt_le th ki va re go n ((16 * (re w + 1) + j) % 16) ((16 * (re w + 1) + j) / 16) (re w)
        refine lv_iload_n hx hb dX6_manyChanges_50 rfl (lv_at hl 2 rfl) ?_
        refine c_lt G (tgt := 58) (by omega) (by omega) dX6_manyChanges_51 (by decide) (fun c51 => ?_) (fun c51 => ?_)
        · -- taken at 51
          refine lv_iconst (v := (nI 0)) hx hb dX6_manyChanges_58 (by decide) ?_
          refine t_add G dX6_manyChanges_59 ?_
          refine t_i (y := (nI (cntP (fun j => q ≤ sjt th ki va re go n (re w) j) (j + 1)))) (congrArg nI (by first | exact cntP_t (q := fun j => q ≤ sjt th ki va re go n (re w) j) c51 | exact cntP_f (q := fun j => q ≤ sjt th ki va re go n (re w) j) (Nat.not_le.mpr c51))) ?_
          refine lv_istore_n (lv' := [(3, .int (nI (cntP (fun j => q ≤ sjt th ki va re go n (re w) j) (j + 1)))), (0, .ref (a 0)), (1, .int (nI w)), (2, .int (nI q)), (4, .int (nI (16 * (re w + 1) + j)))]) hx hb dX6_manyChanges_60 rfl hl (by decide) rfl (fun ls hl => ?_)
          refine lv_iinc (v := (nI (16 * (re w + 1) + j + 1))) (lv' := [(4, .int (nI (16 * (re w + 1) + j + 1))), (3, .int (nI (cntP (fun j => q ≤ sjt th ki va re go n (re w) j) (j + 1)))), (0, .ref (a 0)), (1, .int (nI w)), (2, .int (nI q))]) hx hb dX6_manyChanges_61 hl (k := 4) rfl (nI_inc _ 1) (by decide) rfl (fun ls hl => ?_)
          refine lv_goto (tgt := 15) hx hb dX6_manyChanges_64 (by decide) ?_
          -- slot 3: have n:cntP (fun j => q ≤ sjt th ki va re go n (re w) j) (j + 1), want n:cntP (fun (j + 1) => q ≤ sjt th ki va re go n (re w) (j + 1)) (j + 1)
          -- slot 4: have n:16 * (re w + 1) + j + 1, want n:16 * (re w + 1) + (j + 1)
          exact ih (j + 1) (by omega) (by omega) ls (lv_sub hl [2, 3, 4, 1, 0] rfl)
        · -- not taken at 51
          refine lv_iconst (v := (nI 1)) hx hb dX6_manyChanges_54 (by decide) ?_
          refine lv_goto (tgt := 59) hx hb dX6_manyChanges_55 (by decide) ?_
          refine t_add G dX6_manyChanges_59 ?_
          refine t_i (y := (nI (cntP (fun j => q ≤ sjt th ki va re go n (re w) j) (j + 1)))) (congrArg nI (by first | exact cntP_t (q := fun j => q ≤ sjt th ki va re go n (re w) j) c51 | exact cntP_f (q := fun j => q ≤ sjt th ki va re go n (re w) j) (Nat.not_le.mpr c51))) ?_
          refine lv_istore_n (lv' := [(3, .int (nI (cntP (fun j => q ≤ sjt th ki va re go n (re w) j) (j + 1)))), (0, .ref (a 0)), (1, .int (nI w)), (2, .int (nI q)), (4, .int (nI (16 * (re w + 1) + j)))]) hx hb dX6_manyChanges_60 rfl hl (by decide) rfl (fun ls hl => ?_)
          refine lv_iinc (v := (nI (16 * (re w + 1) + j + 1))) (lv' := [(4, .int (nI (16 * (re w + 1) + j + 1))), (3, .int (nI (cntP (fun j => q ≤ sjt th ki va re go n (re w) j) (j + 1)))), (0, .ref (a 0)), (1, .int (nI w)), (2, .int (nI q))]) hx hb dX6_manyChanges_61 hl (k := 4) rfl (nI_inc _ 1) (by decide) rfl (fun ls hl => ?_)
          refine lv_goto (tgt := 15) hx hb dX6_manyChanges_64 (by decide) ?_
          -- slot 3: have n:cntP (fun j => q ≤ sjt th ki va re go n (re w) j) (j + 1), want n:cntP (fun (j + 1) => q ≤ sjt th ki va re go n (re w) (j + 1)) (j + 1)
          -- slot 4: have n:16 * (re w + 1) + j + 1, want n:16 * (re w + 1) + (j + 1)
          exact ih (j + 1) (by omega) (by omega) ls (lv_sub hl [2, 3, 4, 1, 0] rfl)
  exact L15 (16 * (cl + 1) - 16 * (re w + 1) - 0) (0) (Nat.le_refl _) (by omega) ls (lv_sub hl [2, 3, 4, 1, 0] rfl)
set_option maxHeartbeats 4000000 in
set_option maxRecDepth 100000 in
theorem c_X6_isHolding (a : Nat → Nat) (la : Int32) (n : Nat) (cl : Nat) (go : Option Nat) (fo : Nat → Int32) (si : Nat → Nat) (it : Nat → Int32) (mo : Nat → Int32) (th : Nat → Nat) (ki : Nat → Nat) (va : Nat → Nat) (re : Nat → Nat) (to : Nat → Prop) (co : Nat → Nat) (ke : Nat → Int32) (fw : Nat → Nat) (w : Nat) (f : Nat) (I : IM n cl go th ki va re si co fw) (hw9 : w < 40) (hf9 : f < 2 ^ 31) : CP l D (TY cI cZ cS) yX6_isHolding cX6_isHolding 3 .boolean 4 [.ref (a 0), .int (nI w), .int (nI f)] (wM cI cZ a la n cl go fo si it mo th ki va re to co ke fw) (.int (bI (f = 0 ∧ vrd th ki va re go n cl (re w) ≤ va w))) := by
  refine CP.ofI (by decide +kernel) (Nat.le_of_ble_eq_true rfl) (bI_nar _) ?_
  intro p e s m args below meth c Q G K hP hret ls hl
  obtain ⟨hx, hb, hml, hown, hts⟩ := id G
  obtain ⟨hn, hcl, hgo, hth, hki, hva, hre, hsi, hco, hfw⟩ := id I
  have hl : lv_has ls 3 [(0, .ref (a 0)), (1, .int (nI w)), (2, .int (nI f))] := hl
  refine lv_iload_n hx hb dX6_isHolding_0 rfl (lv_at hl 2 rfl) ?_
  refine z_ne G (tgt := 22) (by omega) dX6_isHolding_1 (by decide) (fun c1 => ?_) (fun c1 => ?_)
  · -- taken at 1
    refine lv_iconst (v := (nI 0)) hx hb dX6_isHolding_22 (by decide) ?_
    exact hret _ _ _ (by first | exact b1 ⟨c1, c15⟩ | exact b0 (fun h => Nat.not_le.mpr c15 h.2) | exact b0 (fun h => by omega)) dX6_isHolding_23
  · -- not taken at 1
    refine lv_aload_n hx hb dX6_isHolding_4 rfl (lv_at hl 0 rfl) ?_
    refine lv_iload_n hx hb dX6_isHolding_5 rfl (lv_at hl 1 rfl) ?_
    refine callPV (As := [.int (nI w)]) (rest := []) (q0 := 0) (ci := 6) G K F_X6_verdictOf (c_X6_verdictOf a la n cl go fo si it mo th ki va re to co ke fw w I (by omega)) hP ml_X6_207 rfl rfl rfl (by decide) (by decide) rfl hl.1 (Nat.le_of_ble_eq_true rfl) dX6_isHolding_6 ?_
    have hf1 := vrd_le th ki va re go n cl (re w)
    refine lv_aload_n hx hb dX6_isHolding_9 rfl (lv_at hl 0 rfl) ?_
    refine f_get G K hP inX6 0 (ci := 6) rfl rfl 8 rfl fl_X6_28 (v := .ref (a 7)) rfl dX6_isHolding_10 ?_
    refine lv_iload_n hx hb dX6_isHolding_13 rfl (lv_at hl 1 rfl) ?_
    refine a_ldN G K hP 7 0 (a := (a 7)) rfl rfl (by omega) (by decide) dX6_isHolding_14 ?_
    have hb2 := hva w
    refine c_gt G (tgt := 22) (by omega) (by omega) dX6_isHolding_15 (by decide) (fun c15 => ?_) (fun c15 => ?_)
    · -- taken at 15
      refine lv_iconst (v := (nI 0)) hx hb dX6_isHolding_22 (by decide) ?_
      exact hret _ _ _ (by first | exact b1 ⟨c1, c15⟩ | exact b0 (fun h => Nat.not_le.mpr c15 h.2) | exact b0 (fun h => by omega)) dX6_isHolding_23
    · -- not taken at 15
      refine lv_iconst (v := (nI 1)) hx hb dX6_isHolding_18 (by decide) ?_
      refine lv_goto (tgt := 23) hx hb dX6_isHolding_19 (by decide) ?_
      exact hret _ _ _ (by first | exact b1 ⟨c1, c15⟩ | exact b0 (fun h => Nat.not_le.mpr c15 h.2) | exact b0 (fun h => by omega)) dX6_isHolding_23
set_option maxHeartbeats 4000000 in
set_option maxRecDepth 100000 in
theorem c_X6_judgeBy (a : Nat → Nat) (la : Int32) (n : Nat) (cl : Nat) (go : Option Nat) (fo : Nat → Int32) (si : Nat → Nat) (it : Nat → Int32) (mo : Nat → Int32) (th : Nat → Nat) (ki : Nat → Nat) (va : Nat → Nat) (re : Nat → Nat) (to : Nat → Prop) (co : Nat → Nat) (ke : Nat → Int32) (fw : Nat → Nat) (w : Nat) (q : Nat) (I : IM n cl go th ki va re si co fw) (hw9 : w < 40) (hq9 : q < 2 ^ 31) : CP l D (TY cI cZ cS) yX6_judgeBy cX6_judgeBy 3 .int 7 [.ref (a 0), .int (nI w), .int (nI q)] (wM cI cZ a la n cl go fo si it mo th ki va re to co ke fw) (.int (nI (jdB th ki va re go n cl to co ke w q))) := by
  refine CP.ofI (by decide +kernel) (Nat.le_of_ble_eq_true rfl) (nar_int _) ?_
  intro p e s m args below meth c Q G K hP hret ls hl
  obtain ⟨hx, hb, hml, hown, hts⟩ := id G
  obtain ⟨hn, hcl, hgo, hth, hki, hva, hre, hsi, hco, hfw⟩ := id I
  have hl : lv_has ls 3 [(0, .ref (a 0)), (1, .int (nI w)), (2, .int (nI q))] := hl
  refine lv_iload_n hx hb dX6_judgeBy_0 rfl (lv_at hl 2 rfl) ?_
  refine z_ne G (tgt := 12) (by omega) dX6_judgeBy_1 (by decide) (fun c1 => ?_) (fun c1 => ?_)
  · -- taken at 1
    refine lv_iload_n hx hb dX6_judgeBy_12 rfl (lv_at hl 2 rfl) ?_
    refine lv_iconst (v := (nI 1)) hx hb dX6_judgeBy_13 (by decide) ?_
    refine c_ne G (tgt := 26) (by omega) (by omega) dX6_judgeBy_14 (by decide) (fun c14 => ?_) (fun c14 => ?_)
    · -- taken at 14
      refine lv_iload_n hx hb dX6_judgeBy_26 rfl (lv_at hl 2 rfl) ?_
      refine lv_iconst (v := (nI 2)) hx hb dX6_judgeBy_27 (by decide) ?_
      refine c_ne G (tgt := 40) (by omega) (by omega) dX6_judgeBy_28 (by decide) (fun c28 => ?_) (fun c28 => ?_)
      · -- taken at 28
        refine lv_aload_n hx hb dX6_judgeBy_40 rfl (lv_at hl 0 rfl) ?_
        refine lv_iload_n hx hb dX6_judgeBy_41 rfl (lv_at hl 1 rfl) ?_
        refine lv_aload_n hx hb dX6_judgeBy_42 rfl (lv_at hl 0 rfl) ?_
        refine lv_iload_n hx hb dX6_judgeBy_43 rfl (lv_at hl 1 rfl) ?_
        refine callPV (As := [.int (nI w)]) (rest := [.int (nI w), .ref (a 0)]) (q0 := 0) (ci := 6) G K F_X6_flawsOf (c_X6_flawsOf a la n cl go fo si it mo th ki va re to co ke fw w I (by omega)) hP ml_X6_185 rfl rfl rfl (by decide) (by decide) rfl hl.1 (Nat.le_of_ble_eq_true rfl) dX6_judgeBy_44 ?_
        have hf1 := flO_le th ki va re n cl to co ke w
        refine callPV (As := [.int (nI w), .int (nI (flO th ki va re n cl to co ke w))]) (rest := []) (q0 := 0) (ci := 6) G K F_X6_isHolding (c_X6_isHolding a la n cl go fo si it mo th ki va re to co ke fw w (flO th ki va re n cl to co ke w) I (by omega) (by omega)) hP ml_X6_213 rfl rfl rfl (by decide) (by decide) rfl hl.1 (Nat.le_of_ble_eq_true rfl) dX6_judgeBy_47 ?_
        refine b_eq G (tgt := 57) dX6_judgeBy_50 (by decide) (fun c50 => ?_) (fun c50 => ?_)
        · -- taken at 50
          refine lv_iconst (v := (nI 0)) hx hb dX6_judgeBy_57 (by decide) ?_
          exact hret _ _ _ (congrArg nI (by unfold jdB; (repeat' split) <;> first | rfl | omega | exact (cif_t c50).symm | exact (cif_f c50).symm)) dX6_judgeBy_58
        · -- not taken at 50
          refine lv_iconst (v := (nI 1)) hx hb dX6_judgeBy_53 (by decide) ?_
          refine lv_goto (tgt := 58) hx hb dX6_judgeBy_54 (by decide) ?_
          exact hret _ _ _ (congrArg nI (by unfold jdB; (repeat' split) <;> first | rfl | omega | exact (cif_t c50).symm | exact (cif_f c50).symm)) dX6_judgeBy_58
      · -- not taken at 28
        refine lv_aload_n hx hb dX6_judgeBy_31 rfl (lv_at hl 0 rfl) ?_
        refine lv_iload_n hx hb dX6_judgeBy_32 rfl (lv_at hl 1 rfl) ?_
        refine lv_iconst (v := (nI 3)) hx hb dX6_judgeBy_33 (by decide) ?_
        refine callPV (As := [.int (nI w), .int (nI 3)]) (rest := []) (q0 := 0) (ci := 6) G K F_X6_manyChanges (c_X6_manyChanges a la n cl go fo si it mo th ki va re to co ke fw w 3 I (by omega) (by omega)) hP ml_X6_210 rfl rfl rfl (by decide) (by decide) rfl hl.1 (Nat.le_of_ble_eq_true rfl) dX6_judgeBy_34 ?_
        refine lv_goto (tgt := 58) hx hb dX6_judgeBy_37 (by decide) ?_
        exact hret _ _ _ (congrArg nI (by unfold jdB; (repeat' split) <;> first | rfl | omega | exact (cif_t c50).symm | exact (cif_f c50).symm)) dX6_judgeBy_58
    · -- not taken at 14
      refine lv_aload_n hx hb dX6_judgeBy_17 rfl (lv_at hl 0 rfl) ?_
      refine lv_iload_n hx hb dX6_judgeBy_18 rfl (lv_at hl 1 rfl) ?_
      refine lv_iconst (v := (nI 1)) hx hb dX6_judgeBy_19 (by decide) ?_
      refine callPV (As := [.int (nI w), .int (nI 1)]) (rest := []) (q0 := 0) (ci := 6) G K F_X6_manyChanges (c_X6_manyChanges a la n cl go fo si it mo th ki va re to co ke fw w 1 I (by omega) (by omega)) hP ml_X6_210 rfl rfl rfl (by decide) (by decide) rfl hl.1 (Nat.le_of_ble_eq_true rfl) dX6_judgeBy_20 ?_
      refine lv_goto (tgt := 58) hx hb dX6_judgeBy_23 (by decide) ?_
      exact hret _ _ _ (congrArg nI (by unfold jdB; (repeat' split) <;> first | rfl | omega | exact (cif_t c50).symm | exact (cif_f c50).symm)) dX6_judgeBy_58
  · -- not taken at 1
    refine lv_aload_n hx hb dX6_judgeBy_4 rfl (lv_at hl 0 rfl) ?_
    refine lv_iload_n hx hb dX6_judgeBy_5 rfl (lv_at hl 1 rfl) ?_
    refine callPV (As := [.int (nI w)]) (rest := []) (q0 := 0) (ci := 6) G K F_X6_verdictOf (c_X6_verdictOf a la n cl go fo si it mo th ki va re to co ke fw w I (by omega)) hP ml_X6_207 rfl rfl rfl (by decide) (by decide) rfl hl.1 (Nat.le_of_ble_eq_true rfl) dX6_judgeBy_6 ?_
    have hf2 := vrd_le th ki va re go n cl (re w)
    refine lv_goto (tgt := 58) hx hb dX6_judgeBy_9 (by decide) ?_
    exact hret _ _ _ (congrArg nI (by unfold jdB; (repeat' split) <;> first | rfl | omega | exact (cif_t c50).symm | exact (cif_f c50).symm)) dX6_judgeBy_58
set_option maxHeartbeats 4000000 in
set_option maxRecDepth 100000 in
theorem c_X6_judge (a : Nat → Nat) (la : Int32) (n : Nat) (cl : Nat) (go : Option Nat) (fo : Nat → Int32) (si : Nat → Nat) (it : Nat → Int32) (mo : Nat → Int32) (th : Nat → Nat) (ki : Nat → Nat) (va : Nat → Nat) (re : Nat → Nat) (to : Nat → Prop) (co : Nat → Nat) (ke : Nat → Int32) (fw : Nat → Nat) (w : Int32) (q : Int32) (I : IM n cl go th ki va re si co fw) : CP l D (TY cI cZ cS) yX6_judge cX6_judge 3 .int 8 [.ref (a 0), .int w, .int q] (wM cI cZ a la n cl go fo si it mo th ki va re to co ke fw) (.int (jdV th ki va re go n cl to co ke w q)) := by
  refine CP.ofI (by decide +kernel) (Nat.le_of_ble_eq_true rfl) (nar_int _) ?_
  intro p e s m args below meth c Q G K hP hret ls hl
  obtain ⟨hx, hb, hml, hown, hts⟩ := id G
  obtain ⟨hn, hcl, hgo, hth, hki, hva, hre, hsi, hco, hfw⟩ := id I
  have hl : lv_has ls 3 [(0, .ref (a 0)), (1, .int w), (2, .int q)] := hl
  refine lv_aload_n hx hb dX6_judge_0 rfl (lv_at hl 0 rfl) ?_
  refine lv_iload_n hx hb dX6_judge_1 rfl (lv_at hl 1 rfl) ?_
  refine callPV (As := [.int w]) (rest := []) (q0 := 0) (ci := 6) G K F_X6_isWrite (c_X6_isWrite a la n cl go fo si it mo th ki va re to co ke fw w I) hP ml_X6_106 rfl rfl rfl (by decide) (by decide) rfl hl.1 (Nat.le_of_ble_eq_true rfl) dX6_judge_2 ?_
  refine b_eq G (tgt := 20) dX6_judge_5 (by decide) (fun c5 => ?_) (fun c5 => ?_)
  · -- taken at 5
    refine lv_bipush (v := (-2)) hx hb dX6_judge_20 (by decide) ?_
    exact hret _ _ _ (by first | exact jdV_k hn hk hj c28 | exact jdV_s hn hk hj c28 | exact jdV_w c5 | exact jdV_q c17) dX6_judge_22
  · -- not taken at 5
    obtain ⟨k, hk, rfl⟩ := c5
    refine lv_iload_n hx hb dX6_judge_8 rfl (lv_at hl 2 rfl) ?_
    refine lv_i2l (v := q.toInt64) hx hb dX6_judge_9 rfl ?_
    refine lv_lconst (v := ((0 : Int32)).toInt64) hx hb dX6_judge_10 (by decide) ?_
    refine lv_ldc2 hx hb hown (hts _ kl_X6_58) dX6_judge_11 ?_
    refine t_l (y := (3 : Int32).toInt64) (by decide) ?_
    refine callPS (rest := []) G K F_X6_in (c_X6_in q (0 : Int32) (3 : Int32)) (va_P_nil D s.heap) ml_X6_51 (by decide) (by decide) rfl hl.1 (Nat.le_of_ble_eq_true rfl) dX6_judge_14 ?_
    refine b_ne G (tgt := 23) dX6_judge_17 (by decide) (fun c17 => ?_) (fun c17 => ?_)
    · -- taken at 17
      obtain ⟨j, hj, rfl⟩ := (okN (m := 3) (by decide)).mp c17
      refine lv_aload_n hx hb dX6_judge_23 rfl (lv_at hl 0 rfl) ?_
      refine lv_iload_n hx hb dX6_judge_24 rfl (lv_at hl 1 rfl) ?_
      refine callPV (As := [.int (nI k)]) (rest := []) (q0 := 0) (ci := 6) G K F_X6_isClosed (c_X6_isClosed a la n cl go fo si it mo th ki va re to co ke fw k I (by omega)) hP ml_X6_113 rfl rfl rfl (by decide) (by decide) rfl hl.1 (Nat.le_of_ble_eq_true rfl) dX6_judge_25 ?_
      refine b_eq G (tgt := 40) dX6_judge_28 (by decide) (fun c28 => ?_) (fun c28 => ?_)
      · -- taken at 28
        refine lv_bipush (v := (-3)) hx hb dX6_judge_40 (by decide) ?_
        exact hret _ _ _ (by first | exact jdV_k hn hk hj c28 | exact jdV_s hn hk hj c28 | exact jdV_w c5 | exact jdV_q c17) dX6_judge_42
      · -- not taken at 28
        refine lv_aload_n hx hb dX6_judge_31 rfl (lv_at hl 0 rfl) ?_
        refine lv_iload_n hx hb dX6_judge_32 rfl (lv_at hl 1 rfl) ?_
        refine lv_iload_n hx hb dX6_judge_33 rfl (lv_at hl 2 rfl) ?_
        refine callPV (As := [.int (nI k), .int (nI j)]) (rest := []) (q0 := 0) (ci := 6) G K F_X6_judgeBy (c_X6_judgeBy a la n cl go fo si it mo th ki va re to co ke fw k j I (by omega) (by omega)) hP ml_X6_216 rfl rfl rfl (by decide) (by decide) rfl hl.1 (Nat.le_of_ble_eq_true rfl) dX6_judge_34 ?_
        refine lv_goto (tgt := 42) hx hb dX6_judge_37 (by decide) ?_
        exact hret _ _ _ (by first | exact jdV_k hn hk hj c28 | exact jdV_s hn hk hj c28 | exact jdV_w c5 | exact jdV_q c17) dX6_judge_42
    · -- not taken at 17
      refine lv_bipush (v := (-2)) hx hb dX6_judge_20 (by decide) ?_
      exact hret _ _ _ (by first | exact jdV_k hn hk hj c28 | exact jdV_s hn hk hj c28 | exact jdV_w c5 | exact jdV_q c17) dX6_judge_22
set_option maxHeartbeats 4000000 in
set_option maxRecDepth 100000 in
theorem c_X6_changeBy (a : Nat → Nat) (la : Int32) (n : Nat) (cl : Nat) (go : Option Nat) (fo : Nat → Int32) (si : Nat → Nat) (it : Nat → Int32) (mo : Nat → Int32) (th : Nat → Nat) (ki : Nat → Nat) (va : Nat → Nat) (re : Nat → Nat) (to : Nat → Prop) (co : Nat → Nat) (ke : Nat → Int32) (fw : Nat → Nat) (w : Nat) (k : Nat) (q : Nat) (I : IM n cl go th ki va re si co fw) (hw9 : w < 40) (hk9 : k < 2 ^ 31) (hq9 : q < 2 ^ 31) : CP l D (TY cI cZ cS) yX6_changeBy cX6_changeBy 7 .int 3 [.ref (a 0), .int (nI w), .int (nI k), .int (nI q)] (wM cI cZ a la n cl go fo si it mo th ki va re to co ke fw) (.int (oI (chV2 th ki va re go n cl (re w) k q))) := by
  refine CP.ofI (by decide +kernel) (Nat.le_of_ble_eq_true rfl) (nar_int _) ?_
  intro p e s m args below meth c Q G K hP hret ls hl
  obtain ⟨hx, hb, hml, hown, hts⟩ := id G
  obtain ⟨hn, hcl, hgo, hth, hki, hva, hre, hsi, hco, hfw⟩ := id I
  have hrw := hre w
  have hl : lv_has ls 7 [(0, .ref (a 0)), (1, .int (nI w)), (2, .int (nI k)), (3, .int (nI q))] := hl
  refine lv_iconst (v := (nI 0)) hx hb dX6_changeBy_0 (by decide) ?_
  refine lv_istore (lv' := [(4, .int (nI 0)), (0, .ref (a 0)), (1, .int (nI w)), (2, .int (nI k)), (3, .int (nI q))]) hx hb dX6_changeBy_1 hl (by decide) rfl (fun ls hl => ?_)
  refine lv_bipush (v := (nI 16)) hx hb dX6_changeBy_3 (by decide) ?_
  refine lv_aload_n hx hb dX6_changeBy_5 rfl (lv_at hl 1 rfl) ?_
  refine f_get G K hP inX6 0 (ci := 6) rfl rfl 9 rfl fl_X6_31 (v := .ref (a 8)) rfl dX6_changeBy_6 ?_
  refine lv_iload_n hx hb dX6_changeBy_9 rfl (lv_at hl 2 rfl) ?_
  refine a_ldN G K hP 8 0 (a := (a 8)) rfl rfl (by omega) (by decide) dX6_changeBy_10 ?_
  have hb1 := hre w
  refine lv_iconst (v := (nI 1)) hx hb dX6_changeBy_11 (by decide) ?_
  refine t_add G dX6_changeBy_12 ?_
  refine t_mul G dX6_changeBy_13 ?_
  refine t_i (y := (nI (16 * (re w + 1) + 0))) rfl ?_
  refine lv_istore (lv' := [(5, .int (nI (16 * (re w + 1) + 0))), (4, .int (nI 0)), (0, .ref (a 0)), (1, .int (nI w)), (2, .int (nI k)), (3, .int (nI q))]) hx hb dX6_changeBy_14 hl (by decide) rfl (fun ls hl => ?_)
  have L16 : ∀ (d j : Nat), 0 ≤ j → j + d = 16 * (cl + 1) - 16 * (re w + 1) → (fnd (fun j => 1 ≤ sjt th ki va re go n (re w) j ∧ cntP (fun j => 1 ≤ sjt th ki va re go n (re w) j) j = k) d j = chB th ki va re go n cl (re w) k) → ∀ (ls : Array Slot), lv_has ls 7 [(0, .ref (a 0)), (1, .int (nI w)), (2, .int (nI k)), (3, .int (nI q)), (4, .int (nI (cntP (fun j => 1 ≤ sjt th ki va re go n (re w) j) j))), (5, .int (nI (16 * (re w + 1) + j)))] → W p l e (RM 3) s m args below meth c s.heap [] 0 0 Q (F0 m 16 ls []) := by
    intro d
    induction d with
    | zero =>
      intro j hlo16 hhi16 hB ls hl
      have hcn := cntP_le (fun j => 1 ≤ sjt th ki va re go n (re w) j) j
      refine lv_iload hx hb dX6_changeBy_16 (lv_at hl 5 rfl) ?_
      refine lv_bipush (v := (nI 16)) hx hb dX6_changeBy_18 (by decide) ?_
      refine lv_aload_n hx hb dX6_changeBy_20 rfl (lv_at hl 0 rfl) ?_
      refine f_get G K hP inX6 0 (ci := 6) rfl rfl 13 rfl fl_X6_92 (v := .int (nI cl)) rfl dX6_changeBy_21 ?_
      refine lv_iconst (v := (nI 1)) hx hb dX6_changeBy_24 (by decide) ?_
      refine t_add G dX6_changeBy_25 ?_
      refine t_mul G dX6_changeBy_26 ?_
      refine c_ge G (tgt := 100) (by omega) (by omega) dX6_changeBy_27 (by decide) (fun c27 => ?_) (fun c27 => ?_)
      · -- taken at 27
        refine lv_iconst (v := (-1)) hx hb dX6_changeBy_100 (by decide) ?_
        exact hret _ _ _ (by unfold chV2; rw [← hB]; rfl) dX6_changeBy_101
      · -- not taken at 27
        exact absurd c27 (by omega)
    | succ d ih =>
      intro j hlo16 hhi16 hB ls hl
      have hcn := cntP_le (fun j => 1 ≤ sjt th ki va re go n (re w) j) j
      refine lv_iload hx hb dX6_changeBy_16 (lv_at hl 5 rfl) ?_
      refine lv_bipush (v := (nI 16)) hx hb dX6_changeBy_18 (by decide) ?_
      refine lv_aload_n hx hb dX6_changeBy_20 rfl (lv_at hl 0 rfl) ?_
      refine f_get G K hP inX6 0 (ci := 6) rfl rfl 13 rfl fl_X6_92 (v := .int (nI cl)) rfl dX6_changeBy_21 ?_
      refine lv_iconst (v := (nI 1)) hx hb dX6_changeBy_24 (by decide) ?_
      refine t_add G dX6_changeBy_25 ?_
      refine t_mul G dX6_changeBy_26 ?_
      refine c_ge G (tgt := 100) (by omega) (by omega) dX6_changeBy_27 (by decide) (fun c27 => ?_) (fun c27 => ?_)
      · -- taken at 27
        exact absurd c27 (by omega)
      · -- not taken at 27
        refine lv_aload_n hx hb dX6_changeBy_30 rfl (lv_at hl 0 rfl) ?_
        refine lv_iload hx hb dX6_changeBy_31 (lv_at hl 5 rfl) ?_
        refine lv_bipush (v := (nI 16)) hx hb dX6_changeBy_33 (by decide) ?_
        refine t_rem G (by omega) (by decide) (by decide) dX6_changeBy_35 ?_
        refine lv_iload hx hb dX6_changeBy_36 (lv_at hl 5 rfl) ?_
        refine lv_bipush (v := (nI 16)) hx hb dX6_changeBy_38 (by decide) ?_
        refine t_div G (by omega) (by decide) (by decide) dX6_changeBy_40 ?_
        refine lv_aload_n hx hb dX6_changeBy_41 rfl (lv_at hl 0 rfl) ?_
        refine f_get G K hP inX6 0 (ci := 6) rfl rfl 9 rfl fl_X6_31 (v := .ref (a 8)) rfl dX6_changeBy_42 ?_
        refine lv_iload_n hx hb dX6_changeBy_45 rfl (lv_at hl 1 rfl) ?_
        refine a_ldN G K hP 8 0 (a := (a 8)) rfl rfl (by omega) (by decide) dX6_changeBy_46 ?_
        have hb2 := hre w
        refine callPV (As := [.int (nI ((16 * (re w + 1) + j) % 16)), .int (nI ((16 * (re w + 1) + j) / 16)), .int (nI (re w))]) (rest := []) (q0 := 0) (ci := 6) G K F_X6_sortOf (c_X6_sortOf a la n cl go fo si it mo th ki va re to co ke fw ((16 * (re w + 1) + j) % 16) ((16 * (re w + 1) + j) / 16) (re w) I (by omega) (by omega) (by omega) (by omega)) hP ml_X6_201 rfl rfl rfl (by decide) (by decide) rfl hl.1 (Nat.le_of_ble_eq_true rfl) dX6_changeBy_47 ?_
        have hf3 := srt_le th ki va re go n ((16 * (re w + 1) + j) % 16) ((16 * (re w + 1) + j) / 16) (re w)
        refine lv_istore (lv' := [(6, .int (nI (srt th ki va re go n ((16 * (re w + 1) + j) % 16) ((16 * (re w + 1) + j) / 16) (re w)))), (0, .ref (a 0)), (1, .int (nI w)), (2, .int (nI k)), (3, .int (nI q)), (4, .int (nI (cntP (fun j => 1 ≤ sjt th ki va re go n (re w) j) j))), (5, .int (nI (16 * (re w + 1) + j)))]) hx hb dX6_changeBy_50 hl (by decide) rfl (fun ls hl => ?_)
        refine lv_iload hx hb dX6_changeBy_52 (lv_at hl 0 rfl) ?_
        refine z_le G (tgt := 94) (by omega) dX6_changeBy_54 (by decide) (fun c54 => ?_) (fun c54 => ?_)
        · -- taken at 54
          have hl := lv_re (l' := [(6, .int (nI (srt th ki va re go n ((16 * (re w + 1) + j) % 16) ((16 * (re w + 1) + j) / 16) (re w)))), (0, .ref (a 0)), (1, .int (nI w)), (2, .int (nI k)), (3, .int (nI q)), (4, .int (nI (cntP (fun j => 1 ≤ sjt th ki va re go n (re w) j) (j + 1)))), (5, .int (nI (16 * (re w + 1) + j)))]) hl (by rw [show (nI (cntP (fun j => 1 ≤ sjt th ki va re go n (re w) j) j)) = (nI (cntP (fun j => 1 ≤ sjt th ki va re go n (re w) j) (j + 1))) from (congrArg nI (cntP_f' (q := (fun j => 1 ≤ sjt th ki va re go n (re w) j)) (by show ¬ 1 ≤ srt th ki va re go n ((16 * (re w + 1) + j) % 16) ((16 * (re w + 1) + j) / 16) (re w); omega)))])
          refine lv_iinc (v := (nI (16 * (re w + 1) + j + 1))) (lv' := [(5, .int (nI (16 * (re w + 1) + j + 1))), (6, .int (nI (srt th ki va re go n ((16 * (re w + 1) + j) % 16) ((16 * (re w + 1) + j) / 16) (re w)))), (0, .ref (a 0)), (1, .int (nI w)), (2, .int (nI k)), (3, .int (nI q)), (4, .int (nI (cntP (fun j => 1 ≤ sjt th ki va re go n (re w) j) (j + 1))))]) hx hb dX6_changeBy_94 hl (k := 6) rfl (nI_inc _ 1) (by decide) rfl (fun ls hl => ?_)
          refine lv_goto (tgt := 16) hx hb dX6_changeBy_97 (by decide) ?_
          -- slot 4: have n:cntP (fun j => 1 ≤ sjt th ki va re go n (re w) j) (j + 1), want n:cntP (fun (j + 1) => 1 ≤ sjt th ki va re go n (re w) (j + 1)) (j + 1)
          -- slot 5: have n:16 * (re w + 1) + j + 1, want n:16 * (re w + 1) + (j + 1)
          exact ih (j + 1) (by omega) (by omega) (by rw [← hB]; exact (fnd_f (q := (fun j => 1 ≤ sjt th ki va re go n (re w) j ∧ cntP (fun j => 1 ≤ sjt th ki va re go n (re w) j) j = k)) (by first | exact fun h => c60 h.2 | exact fun h => absurd h.1 (by show ¬ 1 ≤ srt th ki va re go n ((16 * (re w + 1) + j) % 16) ((16 * (re w + 1) + j) / 16) (re w); omega))).symm) ls (lv_sub hl [2, 3, 4, 5, 6, 0] rfl)
        · -- not taken at 54
          refine lv_iload hx hb dX6_changeBy_57 (lv_at hl 5 rfl) ?_
          refine lv_iload_n hx hb dX6_changeBy_59 rfl (lv_at hl 3 rfl) ?_
          refine c_ne G (tgt := 91) (by omega) (by omega) dX6_changeBy_60 (by decide) (fun c60 => ?_) (fun c60 => ?_)
          · -- taken at 60
            refine lv_iinc (v := (nI (cntP (fun j => 1 ≤ sjt th ki va re go n (re w) j) (j + 1)))) (lv' := [(4, .int (nI (cntP (fun j => 1 ≤ sjt th ki va re go n (re w) j) (j + 1)))), (6, .int (nI (srt th ki va re go n ((16 * (re w + 1) + j) % 16) ((16 * (re w + 1) + j) / 16) (re w)))), (0, .ref (a 0)), (1, .int (nI w)), (2, .int (nI k)), (3, .int (nI q)), (5, .int (nI (16 * (re w + 1) + j)))]) hx hb dX6_changeBy_91 hl (k := 5) rfl ((nI_inc _ 1).trans (congrArg nI (cntP_t (q := (fun j => 1 ≤ sjt th ki va re go n (re w) j)) c54))) (by decide) rfl (fun ls hl => ?_)
            refine lv_iinc (v := (nI (16 * (re w + 1) + j + 1))) (lv' := [(5, .int (nI (16 * (re w + 1) + j + 1))), (4, .int (nI (cntP (fun j => 1 ≤ sjt th ki va re go n (re w) j) (j + 1)))), (6, .int (nI (srt th ki va re go n ((16 * (re w + 1) + j) % 16) ((16 * (re w + 1) + j) / 16) (re w)))), (0, .ref (a 0)), (1, .int (nI w)), (2, .int (nI k)), (3, .int (nI q))]) hx hb dX6_changeBy_94 hl (k := 6) rfl (nI_inc _ 1) (by decide) rfl (fun ls hl => ?_)
            refine lv_goto (tgt := 16) hx hb dX6_changeBy_97 (by decide) ?_
            -- slot 4: have n:cntP (fun j => 1 ≤ sjt th ki va re go n (re w) j) (j + 1), want n:cntP (fun (j + 1) => 1 ≤ sjt th ki va re go n (re w) (j + 1)) (j + 1)
            -- slot 5: have n:16 * (re w + 1) + j + 1, want n:16 * (re w + 1) + (j + 1)
            exact ih (j + 1) (by omega) (by omega) (by rw [← hB]; exact (fnd_f (q := (fun j => 1 ≤ sjt th ki va re go n (re w) j ∧ cntP (fun j => 1 ≤ sjt th ki va re go n (re w) j) j = k)) (by first | exact fun h => c60 h.2 | exact fun h => absurd h.1 (by show ¬ 1 ≤ srt th ki va re go n ((16 * (re w + 1) + j) % 16) ((16 * (re w + 1) + j) / 16) (re w); omega))).symm) ls (lv_sub hl [3, 4, 5, 6, 1, 0] rfl)
          · -- not taken at 60
            refine lv_iload_n hx hb dX6_changeBy_63 rfl (lv_at hl 4 rfl) ?_
            refine z_ne G (tgt := 75) (by omega) dX6_changeBy_64 (by decide) (fun c64 => ?_) (fun c64 => ?_)
            · -- taken at 64
              refine lv_iload_n hx hb dX6_changeBy_75 rfl (lv_at hl 4 rfl) ?_
              refine lv_iconst (v := (nI 1)) hx hb dX6_changeBy_76 (by decide) ?_
              refine c_ne G (tgt := 88) (by omega) (by omega) dX6_changeBy_77 (by decide) (fun c77 => ?_) (fun c77 => ?_)
              · -- taken at 77
                refine lv_iload hx hb dX6_changeBy_88 (lv_at hl 0 rfl) ?_
                exact hret _ _ _ (by unfold chV2; rw [← hB, fnd_t (q := (fun j => 1 ≤ sjt th ki va re go n (re w) j ∧ cntP (fun j => 1 ≤ sjt th ki va re go n (re w) j) j = k)) ⟨c54, c60⟩]; show _ = nI (chV th ki va re go n (re w) q j); refine congrArg nI ?_; unfold chV; (repeat' split) <;> first | rfl | omega) dX6_changeBy_90
              · -- not taken at 77
                refine lv_iload hx hb dX6_changeBy_80 (lv_at hl 6 rfl) ?_
                refine lv_bipush (v := (nI 16)) hx hb dX6_changeBy_82 (by decide) ?_
                refine t_rem G (by omega) (by decide) (by decide) dX6_changeBy_84 ?_
                refine lv_goto (tgt := 90) hx hb dX6_changeBy_85 (by decide) ?_
                exact hret _ _ _ (by unfold chV2; rw [← hB, fnd_t (q := (fun j => 1 ≤ sjt th ki va re go n (re w) j ∧ cntP (fun j => 1 ≤ sjt th ki va re go n (re w) j) j = k)) ⟨c54, c60⟩]; show _ = nI (chV th ki va re go n (re w) q j); refine congrArg nI ?_; unfold chV; (repeat' split) <;> first | rfl | omega) dX6_changeBy_90
            · -- not taken at 64
              refine lv_iload hx hb dX6_changeBy_67 (lv_at hl 6 rfl) ?_
              refine lv_bipush (v := (nI 16)) hx hb dX6_changeBy_69 (by decide) ?_
              refine t_div G (by omega) (by decide) (by decide) dX6_changeBy_71 ?_
              refine lv_goto (tgt := 90) hx hb dX6_changeBy_72 (by decide) ?_
              exact hret _ _ _ (by unfold chV2; rw [← hB, fnd_t (q := (fun j => 1 ≤ sjt th ki va re go n (re w) j ∧ cntP (fun j => 1 ≤ sjt th ki va re go n (re w) j) j = k)) ⟨c54, c60⟩]; show _ = nI (chV th ki va re go n (re w) q j); refine congrArg nI ?_; unfold chV; (repeat' split) <;> first | rfl | omega) dX6_changeBy_90
  exact L16 (16 * (cl + 1) - 16 * (re w + 1) - 0) (0) (Nat.le_refl _) (by omega) rfl ls (lv_sub hl [2, 3, 4, 5, 1, 0] rfl)
set_option maxHeartbeats 4000000 in
set_option maxRecDepth 100000 in
theorem c_X6_change (a : Nat → Nat) (la : Int32) (n : Nat) (cl : Nat) (go : Option Nat) (fo : Nat → Int32) (si : Nat → Nat) (it : Nat → Int32) (mo : Nat → Int32) (th : Nat → Nat) (ki : Nat → Nat) (va : Nat → Nat) (re : Nat → Nat) (to : Nat → Prop) (co : Nat → Nat) (ke : Nat → Int32) (fw : Nat → Nat) (w : Int32) (i : Int32) (q : Int32) (I : IM n cl go th ki va re si co fw) : CP l D (TY cI cZ cS) yX6_change cX6_change 4 .int 4 [.ref (a 0), .int w, .int i, .int q] (wM cI cZ a la n cl go fo si it mo th ki va re to co ke fw) (.int (cgV th ki va re go n cl w i q)) := by
  refine CP.ofI (by decide +kernel) (Nat.le_of_ble_eq_true rfl) (nar_int _) ?_
  intro p e s m args below meth c Q G K hP hret ls hl
  obtain ⟨hx, hb, hml, hown, hts⟩ := id G
  obtain ⟨hn, hcl, hgo, hth, hki, hva, hre, hsi, hco, hfw⟩ := id I
  have hl : lv_has ls 4 [(0, .ref (a 0)), (1, .int w), (2, .int i), (3, .int q)] := hl
  refine lv_aload_n hx hb dX6_change_0 rfl (lv_at hl 0 rfl) ?_
  refine lv_iload_n hx hb dX6_change_1 rfl (lv_at hl 1 rfl) ?_
  refine callPV (As := [.int w]) (rest := []) (q0 := 0) (ci := 6) G K F_X6_isWrite (c_X6_isWrite a la n cl go fo si it mo th ki va re to co ke fw w I) hP ml_X6_106 rfl rfl rfl (by decide) (by decide) rfl hl.1 (Nat.le_of_ble_eq_true rfl) dX6_change_2 ?_
  refine b_eq G (tgt := 32) dX6_change_5 (by decide) (fun c5 => ?_) (fun c5 => ?_)
  · -- taken at 5
    refine lv_bipush (v := (-2)) hx hb dX6_change_32 (by decide) ?_
    exact hret _ _ _ (by first | exact cgV_k hn hk hi9 hj c40 | exact cgV_s hn hk hi9 hj c40 | exact cgV_w c5 | exact cgV_i c17 | exact cgV_q c29) dX6_change_34
  · -- not taken at 5
    obtain ⟨k, hk, rfl⟩ := c5
    refine lv_iload_n hx hb dX6_change_8 rfl (lv_at hl 2 rfl) ?_
    refine lv_i2l (v := i.toInt64) hx hb dX6_change_9 rfl ?_
    refine lv_lconst (v := ((0 : Int32)).toInt64) hx hb dX6_change_10 (by decide) ?_
    refine lv_ldc2 hx hb hown (hts _ kl_X6_219) dX6_change_11 ?_
    refine t_l (y := (99 : Int32).toInt64) (by decide) ?_
    refine callPS (rest := []) G K F_X6_in (c_X6_in i (0 : Int32) (99 : Int32)) (va_P_nil D s.heap) ml_X6_51 (by decide) (by decide) rfl hl.1 (Nat.le_of_ble_eq_true rfl) dX6_change_14 ?_
    refine b_eq G (tgt := 32) dX6_change_17 (by decide) (fun c17 => ?_) (fun c17 => ?_)
    · -- taken at 17
      refine lv_bipush (v := (-2)) hx hb dX6_change_32 (by decide) ?_
      exact hret _ _ _ (by first | exact cgV_k hn hk hi9 hj c40 | exact cgV_s hn hk hi9 hj c40 | exact cgV_w c5 | exact cgV_i c17 | exact cgV_q c29) dX6_change_34
    · -- not taken at 17
      obtain ⟨i9, hi9, rfl⟩ := (okN (m := 99) (by decide)).mp c17
      refine lv_iload_n hx hb dX6_change_20 rfl (lv_at hl 3 rfl) ?_
      refine lv_i2l (v := q.toInt64) hx hb dX6_change_21 rfl ?_
      refine lv_lconst (v := ((0 : Int32)).toInt64) hx hb dX6_change_22 (by decide) ?_
      refine lv_ldc2 hx hb hown (hts _ kl_X6_64) dX6_change_23 ?_
      refine t_l (y := (2 : Int32).toInt64) (by decide) ?_
      refine callPS (rest := []) G K F_X6_in (c_X6_in q (0 : Int32) (2 : Int32)) (va_P_nil D s.heap) ml_X6_51 (by decide) (by decide) rfl hl.1 (Nat.le_of_ble_eq_true rfl) dX6_change_26 ?_
      refine b_ne G (tgt := 35) dX6_change_29 (by decide) (fun c29 => ?_) (fun c29 => ?_)
      · -- taken at 29
        obtain ⟨j, hj, rfl⟩ := (okN (m := 2) (by decide)).mp c29
        refine lv_aload_n hx hb dX6_change_35 rfl (lv_at hl 0 rfl) ?_
        refine lv_iload_n hx hb dX6_change_36 rfl (lv_at hl 1 rfl) ?_
        refine callPV (As := [.int (nI k)]) (rest := []) (q0 := 0) (ci := 6) G K F_X6_isClosed (c_X6_isClosed a la n cl go fo si it mo th ki va re to co ke fw k I (by omega)) hP ml_X6_113 rfl rfl rfl (by decide) (by decide) rfl hl.1 (Nat.le_of_ble_eq_true rfl) dX6_change_37 ?_
        refine b_eq G (tgt := 53) dX6_change_40 (by decide) (fun c40 => ?_) (fun c40 => ?_)
        · -- taken at 40
          refine lv_bipush (v := (-3)) hx hb dX6_change_53 (by decide) ?_
          exact hret _ _ _ (by first | exact cgV_k hn hk hi9 hj c40 | exact cgV_s hn hk hi9 hj c40 | exact cgV_w c5 | exact cgV_i c17 | exact cgV_q c29) dX6_change_55
        · -- not taken at 40
          refine lv_aload_n hx hb dX6_change_43 rfl (lv_at hl 0 rfl) ?_
          refine lv_iload_n hx hb dX6_change_44 rfl (lv_at hl 1 rfl) ?_
          refine lv_iload_n hx hb dX6_change_45 rfl (lv_at hl 2 rfl) ?_
          refine lv_iload_n hx hb dX6_change_46 rfl (lv_at hl 3 rfl) ?_
          refine callPV (As := [.int (nI k), .int (nI i9), .int (nI j)]) (rest := []) (q0 := 0) (ci := 6) G K F_X6_changeBy (c_X6_changeBy a la n cl go fo si it mo th ki va re to co ke fw k i9 j I (by omega) (by omega) (by omega)) hP ml_X6_221 rfl rfl rfl (by decide) (by decide) rfl hl.1 (Nat.le_of_ble_eq_true rfl) dX6_change_47 ?_
          refine lv_goto (tgt := 55) hx hb dX6_change_50 (by decide) ?_
          exact hret _ _ _ (by first | exact cgV_k hn hk hi9 hj c40 | exact cgV_s hn hk hi9 hj c40 | exact cgV_w c5 | exact cgV_i c17 | exact cgV_q c29) dX6_change_55
      · -- not taken at 29
        refine lv_bipush (v := (-2)) hx hb dX6_change_32 (by decide) ?_
        exact hret _ _ _ (by first | exact cgV_k hn hk hi9 hj c40 | exact cgV_s hn hk hi9 hj c40 | exact cgV_w c5 | exact cgV_i c17 | exact cgV_q c29) dX6_change_34
set_option maxHeartbeats 4000000 in
set_option maxRecDepth 100000 in
theorem c_X6_allowedIn (a : Nat → Nat) (la : Int32) (n : Nat) (cl : Nat) (go : Option Nat) (fo : Nat → Int32) (si : Nat → Nat) (it : Nat → Int32) (mo : Nat → Int32) (th : Nat → Nat) (ki : Nat → Nat) (va : Nat → Nat) (re : Nat → Nat) (to : Nat → Prop) (co : Nat → Nat) (ke : Nat → Int32) (fw : Nat → Nat) (r : Nat) (I : IM n cl go th ki va re si co fw) (hr9 : r < 2 ^ 31) : CP l D (TY cI cZ cS) yX6_allowedIn cX6_allowedIn 4 .int 1 [.ref (a 0), .int (nI r)] (wM cI cZ a la n cl go fo si it mo th ki va re to co ke fw) (.int (nI (alw ki va re r n))) := by
  refine CP.ofI (by decide +kernel) (Nat.le_of_ble_eq_true rfl) (nar_int _) ?_
  intro p e s m args below meth c Q G K hP hret ls hl
  obtain ⟨hx, hb, hml, hown, hts⟩ := id G
  obtain ⟨hn, hcl, hgo, hth, hki, hva, hre, hsi, hco, hfw⟩ := id I
  have hl : lv_has ls 4 [(0, .ref (a 0)), (1, .int (nI r))] := hl
  refine lv_iconst (v := (nI 3)) hx hb dX6_allowedIn_0 (by decide) ?_
  refine lv_istore_n (lv' := [(2, .int (nI 3)), (0, .ref (a 0)), (1, .int (nI r))]) hx hb dX6_allowedIn_1 rfl hl (by decide) rfl (fun ls hl => ?_)
  refine lv_iconst (v := (nI 0)) hx hb dX6_allowedIn_2 (by decide) ?_
  refine lv_istore_n (lv' := [(3, .int (nI 0)), (2, .int (nI 3)), (0, .ref (a 0)), (1, .int (nI r))]) hx hb dX6_allowedIn_3 rfl hl (by decide) rfl (fun ls hl => ?_)
  have L4 : ∀ (d i : Nat), 0 ≤ i → i + d = n → ∀ (ls : Array Slot), lv_has ls 4 [(0, .ref (a 0)), (1, .int (nI r)), (2, .int (nI (alw ki va re r i))), (3, .int (nI i))] → W p l e (RM 1) s m args below meth c s.heap [] 0 0 Q (F0 m 4 ls []) := by
    intro d
    induction d with
    | zero =>
      intro i hlo4 hhi4 ls hl
      have hal := alw_le ki va re r i
      refine lv_iload_n hx hb dX6_allowedIn_4 rfl (lv_at hl 3 rfl) ?_
      refine lv_aload_n hx hb dX6_allowedIn_5 rfl (lv_at hl 0 rfl) ?_
      refine f_get G K hP inX6 0 (ci := 6) rfl rfl 5 rfl fl_X6_89 (v := .int (nI n)) rfl dX6_allowedIn_6 ?_
      refine c_ge G (tgt := 51) (by omega) (by omega) dX6_allowedIn_9 (by decide) (fun c9 => ?_) (fun c9 => ?_)
      · -- taken at 9
        refine lv_iload_n hx hb dX6_allowedIn_51 rfl (lv_at hl 2 rfl) ?_
        exact hret _ _ _ (congrArg nI (by rw [show i = n by omega])) dX6_allowedIn_52
      · -- not taken at 9
        exact absurd c9 (by omega)
    | succ d ih =>
      intro i hlo4 hhi4 ls hl
      have hal := alw_le ki va re r i
      refine lv_iload_n hx hb dX6_allowedIn_4 rfl (lv_at hl 3 rfl) ?_
      refine lv_aload_n hx hb dX6_allowedIn_5 rfl (lv_at hl 0 rfl) ?_
      refine f_get G K hP inX6 0 (ci := 6) rfl rfl 5 rfl fl_X6_89 (v := .int (nI n)) rfl dX6_allowedIn_6 ?_
      refine c_ge G (tgt := 51) (by omega) (by omega) dX6_allowedIn_9 (by decide) (fun c9 => ?_) (fun c9 => ?_)
      · -- taken at 9
        exact absurd c9 (by omega)
      · -- not taken at 9
        refine lv_aload_n hx hb dX6_allowedIn_12 rfl (lv_at hl 0 rfl) ?_
        refine lv_iload_n hx hb dX6_allowedIn_13 rfl (lv_at hl 3 rfl) ?_
        refine callPV (As := [.int (nI i)]) (rest := []) (q0 := 0) (ci := 6) G K F_X6_isSeal (c_X6_isSeal a la n cl go fo si it mo th ki va re to co ke fw i I (by omega)) hP ml_X6_101 rfl rfl rfl (by decide) (by decide) rfl hl.1 (Nat.le_of_ble_eq_true rfl) dX6_allowedIn_14 ?_
        refine b_eq G (tgt := 43) dX6_allowedIn_17 (by decide) (fun c17 => ?_) (fun c17 => ?_)
        · -- taken at 17
          refine lv_iload_n hx hb dX6_allowedIn_43 rfl (lv_at hl 2 rfl) ?_
          refine t_i (y := (nI (alw ki va re r (i + 1)))) (congrArg nI (by first | exact alw_t c17 c27 | exact alw_f (fun h => c17 h.1) | exact alw_f (fun h => Nat.not_lt.mpr c27 h.2))) ?_
          refine lv_istore_n (lv' := [(2, .int (nI (alw ki va re r (i + 1)))), (0, .ref (a 0)), (1, .int (nI r)), (3, .int (nI i))]) hx hb dX6_allowedIn_44 rfl hl (by decide) rfl (fun ls hl => ?_)
          refine lv_iinc (v := (nI (i + 1))) (lv' := [(3, .int (nI (i + 1))), (2, .int (nI (alw ki va re r (i + 1)))), (0, .ref (a 0)), (1, .int (nI r))]) hx hb dX6_allowedIn_45 hl (k := 3) rfl (nI_inc _ 1) (by decide) rfl (fun ls hl => ?_)
          refine lv_goto (tgt := 4) hx hb dX6_allowedIn_48 (by decide) ?_
          -- slot 3: have n:i + 1, want n:(i + 1)
          exact ih (i + 1) (by omega) (by omega) ls (lv_sub hl [2, 3, 1, 0] rfl)
        · -- not taken at 17
          refine lv_aload_n hx hb dX6_allowedIn_20 rfl (lv_at hl 0 rfl) ?_
          refine f_get G K hP inX6 0 (ci := 6) rfl rfl 9 rfl fl_X6_31 (v := .ref (a 8)) rfl dX6_allowedIn_21 ?_
          refine lv_iload_n hx hb dX6_allowedIn_24 rfl (lv_at hl 3 rfl) ?_
          refine a_ldN G K hP 8 0 (a := (a 8)) rfl rfl (by omega) (by decide) dX6_allowedIn_25 ?_
          have hb1 := hre i
          refine lv_iload_n hx hb dX6_allowedIn_26 rfl (lv_at hl 1 rfl) ?_
          refine c_ge G (tgt := 43) (by omega) (by omega) dX6_allowedIn_27 (by decide) (fun c27 => ?_) (fun c27 => ?_)
          · -- taken at 27
            refine lv_iload_n hx hb dX6_allowedIn_43 rfl (lv_at hl 2 rfl) ?_
            refine t_i (y := (nI (alw ki va re r (i + 1)))) (congrArg nI (by first | exact alw_t c17 c27 | exact alw_f (fun h => c17 h.1) | exact alw_f (fun h => Nat.not_lt.mpr c27 h.2))) ?_
            refine lv_istore_n (lv' := [(2, .int (nI (alw ki va re r (i + 1)))), (0, .ref (a 0)), (1, .int (nI r)), (3, .int (nI i))]) hx hb dX6_allowedIn_44 rfl hl (by decide) rfl (fun ls hl => ?_)
            refine lv_iinc (v := (nI (i + 1))) (lv' := [(3, .int (nI (i + 1))), (2, .int (nI (alw ki va re r (i + 1)))), (0, .ref (a 0)), (1, .int (nI r))]) hx hb dX6_allowedIn_45 hl (k := 3) rfl (nI_inc _ 1) (by decide) rfl (fun ls hl => ?_)
            refine lv_goto (tgt := 4) hx hb dX6_allowedIn_48 (by decide) ?_
            -- slot 3: have n:i + 1, want n:(i + 1)
            exact ih (i + 1) (by omega) (by omega) ls (lv_sub hl [2, 3, 1, 0] rfl)
          · -- not taken at 27
            refine lv_aload_n hx hb dX6_allowedIn_30 rfl (lv_at hl 0 rfl) ?_
            refine f_get G K hP inX6 0 (ci := 6) rfl rfl 8 rfl fl_X6_28 (v := .ref (a 7)) rfl dX6_allowedIn_31 ?_
            refine lv_iload_n hx hb dX6_allowedIn_34 rfl (lv_at hl 3 rfl) ?_
            refine a_ldN G K hP 7 0 (a := (a 7)) rfl rfl (by omega) (by decide) dX6_allowedIn_35 ?_
            have hb2 := hva i
            refine lv_iload_n hx hb dX6_allowedIn_36 rfl (lv_at hl 2 rfl) ?_
            refine callPS (rest := []) G K F_X6_lesser (c_X6_lesser (va i) (alw ki va re r i) (by omega) (by omega)) (va_P_nil D s.heap) ml_X6_173 (by decide) (by decide) rfl hl.1 (Nat.le_of_ble_eq_true rfl) dX6_allowedIn_37 ?_
            refine lv_goto (tgt := 44) hx hb dX6_allowedIn_40 (by decide) ?_
            refine t_i (y := (nI (alw ki va re r (i + 1)))) (congrArg nI (by first | exact alw_t c17 c27 | exact alw_f (fun h => c17 h.1) | exact alw_f (fun h => Nat.not_lt.mpr c27 h.2))) ?_
            refine lv_istore_n (lv' := [(2, .int (nI (alw ki va re r (i + 1)))), (0, .ref (a 0)), (1, .int (nI r)), (3, .int (nI i))]) hx hb dX6_allowedIn_44 rfl hl (by decide) rfl (fun ls hl => ?_)
            refine lv_iinc (v := (nI (i + 1))) (lv' := [(3, .int (nI (i + 1))), (2, .int (nI (alw ki va re r (i + 1)))), (0, .ref (a 0)), (1, .int (nI r))]) hx hb dX6_allowedIn_45 hl (k := 3) rfl (nI_inc _ 1) (by decide) rfl (fun ls hl => ?_)
            refine lv_goto (tgt := 4) hx hb dX6_allowedIn_48 (by decide) ?_
            -- slot 3: have n:i + 1, want n:(i + 1)
            exact ih (i + 1) (by omega) (by omega) ls (lv_sub hl [2, 3, 1, 0] rfl)
  exact L4 (n - 0) (0) (Nat.le_refl _) (by omega) ls (lv_sub hl [2, 3, 1, 0] rfl)
set_option maxHeartbeats 4000000 in
set_option maxRecDepth 100000 in
theorem c_X6_allowed (a : Nat → Nat) (la : Int32) (n : Nat) (cl : Nat) (go : Option Nat) (fo : Nat → Int32) (si : Nat → Nat) (it : Nat → Int32) (mo : Nat → Int32) (th : Nat → Nat) (ki : Nat → Nat) (va : Nat → Nat) (re : Nat → Nat) (to : Nat → Prop) (co : Nat → Nat) (ke : Nat → Int32) (fw : Nat → Nat) (x : Int32) (I : IM n cl go th ki va re si co fw) : CP l D (TY cI cZ cS) yX6_allowed cX6_allowed 2 .int 2 [.ref (a 0), .int x] (wM cI cZ a la n cl go fo si it mo th ki va re to co ke fw) (.int (alV ki va re n cl x)) := by
  refine CP.ofI (by decide +kernel) (Nat.le_of_ble_eq_true rfl) (nar_int _) ?_
  intro p e s m args below meth c Q G K hP hret ls hl
  obtain ⟨hx, hb, hml, hown, hts⟩ := id G
  obtain ⟨hn, hcl, hgo, hth, hki, hva, hre, hsi, hco, hfw⟩ := id I
  have hl : lv_has ls 2 [(0, .ref (a 0)), (1, .int x)] := hl
  refine lv_aload_n hx hb dX6_allowed_0 rfl (lv_at hl 0 rfl) ?_
  refine lv_iload_n hx hb dX6_allowed_1 rfl (lv_at hl 1 rfl) ?_
  refine callPV (As := [.int x]) (rest := []) (q0 := 0) (ci := 6) G K F_X6_isRevision (c_X6_isRevision a la n cl go fo si it mo th ki va re to co ke fw x I) hP ml_X6_146 rfl rfl rfl (by decide) (by decide) rfl hl.1 (Nat.le_of_ble_eq_true rfl) dX6_allowed_2 ?_
  refine b_eq G (tgt := 16) dX6_allowed_5 (by decide) (fun c5 => ?_) (fun c5 => ?_)
  · -- taken at 5
    refine lv_bipush (v := (-2)) hx hb dX6_allowed_16 (by decide) ?_
    exact hret _ _ _ (by first | exact alV_k hcl hk | exact alV_x c5) dX6_allowed_18
  · -- not taken at 5
    obtain ⟨k, hk, rfl⟩ := c5
    refine lv_aload_n hx hb dX6_allowed_8 rfl (lv_at hl 0 rfl) ?_
    refine lv_iload_n hx hb dX6_allowed_9 rfl (lv_at hl 1 rfl) ?_
    refine callPV (As := [.int (nI k)]) (rest := []) (q0 := 0) (ci := 6) G K F_X6_allowedIn (c_X6_allowedIn a la n cl go fo si it mo th ki va re to co ke fw k I (by omega)) hP ml_X6_224 rfl rfl rfl (by decide) (by decide) rfl hl.1 (Nat.le_of_ble_eq_true rfl) dX6_allowed_10 ?_
    have hf1 := alw_le ki va re k n
    refine lv_goto (tgt := 18) hx hb dX6_allowed_13 (by decide) ?_
    exact hret _ _ _ (by first | exact alV_k hcl hk | exact alV_x c5) dX6_allowed_18
set_option maxHeartbeats 4000000 in
set_option maxRecDepth 100000 in
theorem c_X6_firstBy (a : Nat → Nat) (la : Int32) (n : Nat) (cl : Nat) (go : Option Nat) (fo : Nat → Int32) (si : Nat → Nat) (it : Nat → Int32) (mo : Nat → Int32) (th : Nat → Nat) (ki : Nat → Nat) (va : Nat → Nat) (re : Nat → Nat) (to : Nat → Prop) (co : Nat → Nat) (ke : Nat → Int32) (fw : Nat → Nat) (q : Nat) (I : IM n cl go th ki va re si co fw) (hq9 : q < 2 ^ 31) : CP l D (TY cI cZ cS) yX6_firstBy cX6_firstBy 4 .int 3 [.ref (a 0), .int (nI q)] (wM cI cZ a la n cl go fo si it mo th ki va re to co ke fw) (.int (oI (fsV th ki va re go n cl q))) := by
  refine CP.ofI (by decide +kernel) (Nat.le_of_ble_eq_true rfl) (nar_int _) ?_
  intro p e s m args below meth c Q G K hP hret ls hl
  obtain ⟨hx, hb, hml, hown, hts⟩ := id G
  obtain ⟨hn, hcl, hgo, hth, hki, hva, hre, hsi, hco, hfw⟩ := id I
  have hl : lv_has ls 4 [(0, .ref (a 0)), (1, .int (nI q))] := hl
  refine lv_iconst (v := (nI 0)) hx hb dX6_firstBy_0 (by decide) ?_
  refine lv_istore_n (lv' := [(2, .int (nI 0)), (0, .ref (a 0)), (1, .int (nI q))]) hx hb dX6_firstBy_1 rfl hl (by decide) rfl (fun ls hl => ?_)
  have L2 : ∀ (d i : Nat), 0 ≤ i → i + d = 16 * (cl + 1) → (fnd (fun i => fnd (bad th ki va re go n cl i) n 0 ≠ none) d i = fsI th ki va re go n cl) → ∀ (ls : Array Slot), lv_has ls 4 [(0, .ref (a 0)), (1, .int (nI q)), (2, .int (nI i))] → W p l e (RM 3) s m args below meth c s.heap [] 0 0 Q (F0 m 2 ls []) := by
    intro d
    induction d with
    | zero =>
      intro i hlo2 hhi2 hB ls hl
      refine lv_iload_n hx hb dX6_firstBy_2 rfl (lv_at hl 2 rfl) ?_
      refine lv_bipush (v := (nI 16)) hx hb dX6_firstBy_3 (by decide) ?_
      refine lv_aload_n hx hb dX6_firstBy_5 rfl (lv_at hl 0 rfl) ?_
      refine f_get G K hP inX6 0 (ci := 6) rfl rfl 13 rfl fl_X6_92 (v := .int (nI cl)) rfl dX6_firstBy_6 ?_
      refine lv_iconst (v := (nI 1)) hx hb dX6_firstBy_9 (by decide) ?_
      refine t_add G dX6_firstBy_10 ?_
      refine t_mul G dX6_firstBy_11 ?_
      refine c_ge G (tgt := 110) (by omega) (by omega) dX6_firstBy_12 (by decide) (fun c12 => ?_) (fun c12 => ?_)
      · -- taken at 12
        refine lv_iconst (v := (-1)) hx hb dX6_firstBy_110 (by decide) ?_
        exact hret _ _ _ (by unfold fsV; rw [← hB]; rfl) dX6_firstBy_111
      · -- not taken at 12
        exact absurd c12 (by omega)
    | succ d ih =>
      intro i hlo2 hhi2 hB ls hl
      refine lv_iload_n hx hb dX6_firstBy_2 rfl (lv_at hl 2 rfl) ?_
      refine lv_bipush (v := (nI 16)) hx hb dX6_firstBy_3 (by decide) ?_
      refine lv_aload_n hx hb dX6_firstBy_5 rfl (lv_at hl 0 rfl) ?_
      refine f_get G K hP inX6 0 (ci := 6) rfl rfl 13 rfl fl_X6_92 (v := .int (nI cl)) rfl dX6_firstBy_6 ?_
      refine lv_iconst (v := (nI 1)) hx hb dX6_firstBy_9 (by decide) ?_
      refine t_add G dX6_firstBy_10 ?_
      refine t_mul G dX6_firstBy_11 ?_
      refine c_ge G (tgt := 110) (by omega) (by omega) dX6_firstBy_12 (by decide) (fun c12 => ?_) (fun c12 => ?_)
      · -- taken at 12
        exact absurd c12 (by omega)
      · -- not taken at 12
        refine lv_iconst (v := (nI 0)) hx hb dX6_firstBy_15 (by decide) ?_
        refine lv_istore_n (lv' := [(3, .int (nI 0)), (0, .ref (a 0)), (1, .int (nI q)), (2, .int (nI i))]) hx hb dX6_firstBy_16 rfl hl (by decide) rfl (fun ls hl => ?_)
        have L17 : ∀ (d w : Nat), 0 ≤ w → w + d = n → (fnd (bad th ki va re go n cl i) d w = fnd (bad th ki va re go n cl i) n 0) → ∀ (ls : Array Slot), lv_has ls 4 [(0, .ref (a 0)), (1, .int (nI q)), (2, .int (nI i)), (3, .int (nI w))] → W p l e (RM 3) s m args below meth c s.heap [] 0 0 Q (F0 m 17 ls []) := by
          intro d
          induction d with
          | zero =>
            intro w hlo17 hhi17 hC ls hl
            refine lv_iload_n hx hb dX6_firstBy_17 rfl (lv_at hl 3 rfl) ?_
            refine lv_aload_n hx hb dX6_firstBy_18 rfl (lv_at hl 0 rfl) ?_
            refine f_get G K hP inX6 0 (ci := 6) rfl rfl 5 rfl fl_X6_89 (v := .int (nI n)) rfl dX6_firstBy_19 ?_
            refine c_ge G (tgt := 104) (by omega) (by omega) dX6_firstBy_22 (by decide) (fun c22 => ?_) (fun c22 => ?_)
            · -- taken at 22
              refine lv_iinc (v := (nI (i + 1))) (lv' := [(2, .int (nI (i + 1))), (0, .ref (a 0)), (1, .int (nI q)), (3, .int (nI w))]) hx hb dX6_firstBy_104 hl (k := 2) rfl (nI_inc _ 1) (by decide) rfl (fun ls hl => ?_)
              refine lv_goto (tgt := 2) hx hb dX6_firstBy_107 (by decide) ?_
              -- slot 2: have n:i + 1, want n:(i + 1)
              exact ih (i + 1) (by omega) (by omega) (by rw [← hB]; exact (fnd_f (q := (fun i => fnd (bad th ki va re go n cl i) n 0 ≠ none)) (fun h => h (by rw [← hC]; rfl))).symm) ls (lv_sub hl [1, 2, 0] rfl)
            · -- not taken at 22
              exact absurd c22 (by omega)
          | succ d ih =>
            intro w hlo17 hhi17 hC ls hl
            refine lv_iload_n hx hb dX6_firstBy_17 rfl (lv_at hl 3 rfl) ?_
            refine lv_aload_n hx hb dX6_firstBy_18 rfl (lv_at hl 0 rfl) ?_
            refine f_get G K hP inX6 0 (ci := 6) rfl rfl 5 rfl fl_X6_89 (v := .int (nI n)) rfl dX6_firstBy_19 ?_
            refine c_ge G (tgt := 104) (by omega) (by omega) dX6_firstBy_22 (by decide) (fun c22 => ?_) (fun c22 => ?_)
            · -- taken at 22
              exact absurd c22 (by omega)
            · -- not taken at 22
              refine lv_aload_n hx hb dX6_firstBy_25 rfl (lv_at hl 0 rfl) ?_
              refine lv_iload_n hx hb dX6_firstBy_26 rfl (lv_at hl 3 rfl) ?_
              refine callPV (As := [.int (nI w)]) (rest := []) (q0 := 0) (ci := 6) G K F_X6_isClosed (c_X6_isClosed a la n cl go fo si it mo th ki va re to co ke fw w I (by omega)) hP ml_X6_113 rfl rfl rfl (by decide) (by decide) rfl hl.1 (Nat.le_of_ble_eq_true rfl) dX6_firstBy_27 ?_
              refine b_eq G (tgt := 98) dX6_firstBy_30 (by decide) (fun c30 => ?_) (fun c30 => ?_)
              · -- taken at 30
                refine lv_iinc (v := (nI (w + 1))) (lv' := [(3, .int (nI (w + 1))), (0, .ref (a 0)), (1, .int (nI q)), (2, .int (nI i))]) hx hb dX6_firstBy_98 hl (k := 3) rfl (nI_inc _ 1) (by decide) rfl (fun ls hl => ?_)
                refine lv_goto (tgt := 17) hx hb dX6_firstBy_101 (by decide) ?_
                -- slot 3: have n:w + 1, want n:(w + 1)
                exact ih (w + 1) (by omega) (by omega) (by rw [← hC]; exact (fnd_f (q := bad th ki va re go n cl i) (by first | exact fun h => c30 h.1 | exact fun h => Nat.not_lt.mpr c43 h.2.1 | exact fun h => Nat.not_lt.mpr c70 h.2.2)).symm) ls (lv_sub hl [1, 2, 3, 0] rfl)
              · -- not taken at 30
                refine lv_aload_n hx hb dX6_firstBy_33 rfl (lv_at hl 0 rfl) ?_
                refine f_get G K hP inX6 0 (ci := 6) rfl rfl 9 rfl fl_X6_31 (v := .ref (a 8)) rfl dX6_firstBy_34 ?_
                refine lv_iload_n hx hb dX6_firstBy_37 rfl (lv_at hl 3 rfl) ?_
                refine a_ldN G K hP 8 0 (a := (a 8)) rfl rfl (by omega) (by decide) dX6_firstBy_38 ?_
                have hb1 := hre w
                refine lv_iload_n hx hb dX6_firstBy_39 rfl (lv_at hl 2 rfl) ?_
                refine lv_bipush (v := (nI 16)) hx hb dX6_firstBy_40 (by decide) ?_
                refine t_div G (by omega) (by decide) (by decide) dX6_firstBy_42 ?_
                refine c_ge G (tgt := 98) (by omega) (by omega) dX6_firstBy_43 (by decide) (fun c43 => ?_) (fun c43 => ?_)
                · -- taken at 43
                  refine lv_iinc (v := (nI (w + 1))) (lv' := [(3, .int (nI (w + 1))), (0, .ref (a 0)), (1, .int (nI q)), (2, .int (nI i))]) hx hb dX6_firstBy_98 hl (k := 3) rfl (nI_inc _ 1) (by decide) rfl (fun ls hl => ?_)
                  refine lv_goto (tgt := 17) hx hb dX6_firstBy_101 (by decide) ?_
                  -- slot 3: have n:w + 1, want n:(w + 1)
                  exact ih (w + 1) (by omega) (by omega) (by rw [← hC]; exact (fnd_f (q := bad th ki va re go n cl i) (by first | exact fun h => c30 h.1 | exact fun h => Nat.not_lt.mpr c43 h.2.1 | exact fun h => Nat.not_lt.mpr c70 h.2.2)).symm) ls (lv_sub hl [1, 2, 3, 0] rfl)
                · -- not taken at 43
                  refine lv_aload_n hx hb dX6_firstBy_46 rfl (lv_at hl 0 rfl) ?_
                  refine lv_iload_n hx hb dX6_firstBy_47 rfl (lv_at hl 2 rfl) ?_
                  refine lv_bipush (v := (nI 16)) hx hb dX6_firstBy_48 (by decide) ?_
                  refine t_rem G (by omega) (by decide) (by decide) dX6_firstBy_50 ?_
                  refine lv_iload_n hx hb dX6_firstBy_51 rfl (lv_at hl 2 rfl) ?_
                  refine lv_bipush (v := (nI 16)) hx hb dX6_firstBy_52 (by decide) ?_
                  refine t_div G (by omega) (by decide) (by decide) dX6_firstBy_54 ?_
                  refine lv_aload_n hx hb dX6_firstBy_55 rfl (lv_at hl 0 rfl) ?_
                  refine f_get G K hP inX6 0 (ci := 6) rfl rfl 9 rfl fl_X6_31 (v := .ref (a 8)) rfl dX6_firstBy_56 ?_
                  refine lv_iload_n hx hb dX6_firstBy_59 rfl (lv_at hl 3 rfl) ?_
                  refine a_ldN G K hP 8 0 (a := (a 8)) rfl rfl (by omega) (by decide) dX6_firstBy_60 ?_
                  have hb2 := hre w
                  refine callPV (As := [.int (nI (i % 16)), .int (nI (i / 16)), .int (nI (re w))]) (rest := []) (q0 := 0) (ci := 6) G K F_X6_sortOf (c_X6_sortOf a la n cl go fo si it mo th ki va re to co ke fw (i % 16) (i / 16) (re w) I (by omega) (by omega) (by omega) (by omega)) hP ml_X6_201 rfl rfl rfl (by decide) (by decide) rfl hl.1 (Nat.le_of_ble_eq_true rfl) dX6_firstBy_61 ?_
                  have hf3 := srt_le th ki va re go n (i % 16) (i / 16) (re w)
                  refine lv_aload_n hx hb dX6_firstBy_64 rfl (lv_at hl 0 rfl) ?_
                  refine f_get G K hP inX6 0 (ci := 6) rfl rfl 8 rfl fl_X6_28 (v := .ref (a 7)) rfl dX6_firstBy_65 ?_
                  refine lv_iload_n hx hb dX6_firstBy_68 rfl (lv_at hl 3 rfl) ?_
                  refine a_ldN G K hP 7 0 (a := (a 7)) rfl rfl (by omega) (by decide) dX6_firstBy_69 ?_
                  have hb4 := hva w
                  refine c_le G (tgt := 98) (by omega) (by omega) dX6_firstBy_70 (by decide) (fun c70 => ?_) (fun c70 => ?_)
                  · -- taken at 70
                    refine lv_iinc (v := (nI (w + 1))) (lv' := [(3, .int (nI (w + 1))), (0, .ref (a 0)), (1, .int (nI q)), (2, .int (nI i))]) hx hb dX6_firstBy_98 hl (k := 3) rfl (nI_inc _ 1) (by decide) rfl (fun ls hl => ?_)
                    refine lv_goto (tgt := 17) hx hb dX6_firstBy_101 (by decide) ?_
                    -- slot 3: have n:w + 1, want n:(w + 1)
                    exact ih (w + 1) (by omega) (by omega) (by rw [← hC]; exact (fnd_f (q := bad th ki va re go n cl i) (by first | exact fun h => c30 h.1 | exact fun h => Nat.not_lt.mpr c43 h.2.1 | exact fun h => Nat.not_lt.mpr c70 h.2.2)).symm) ls (lv_sub hl [1, 2, 3, 0] rfl)
                  · -- not taken at 70
                    refine lv_iload_n hx hb dX6_firstBy_73 rfl (lv_at hl 1 rfl) ?_
                    refine z_ne G (tgt := 84) (by omega) dX6_firstBy_74 (by decide) (fun c74 => ?_) (fun c74 => ?_)
                    · -- taken at 74
                      refine lv_iload_n hx hb dX6_firstBy_84 rfl (lv_at hl 1 rfl) ?_
                      refine lv_iconst (v := (nI 1)) hx hb dX6_firstBy_85 (by decide) ?_
                      refine c_ne G (tgt := 96) (by omega) (by omega) dX6_firstBy_86 (by decide) (fun c86 => ?_) (fun c86 => ?_)
                      · -- taken at 86
                        refine lv_iload_n hx hb dX6_firstBy_96 rfl (lv_at hl 3 rfl) ?_
                        exact hret _ _ _ (by have hw : fnd (bad th ki va re go n cl i) n 0 = some w := hC.symm.trans (fnd_t (q := bad th ki va re go n cl i) ⟨c30, c43, c70⟩); unfold fsV; rw [← hB, fnd_t (q := (fun i => fnd (bad th ki va re go n cl i) n 0 ≠ none)) (by rw [hw]; exact fun h => by cases h)]; show _ = nI (if q = 0 then i / 16 else if q = 1 then i % 16 else ((fnd (bad th ki va re go n cl i) n 0).getD 0)); rw [hw]; refine congrArg nI ?_; (repeat' split) <;> first | rfl | omega) dX6_firstBy_97
                      · -- not taken at 86
                        refine lv_iload_n hx hb dX6_firstBy_89 rfl (lv_at hl 2 rfl) ?_
                        refine lv_bipush (v := (nI 16)) hx hb dX6_firstBy_90 (by decide) ?_
                        refine t_rem G (by omega) (by decide) (by decide) dX6_firstBy_92 ?_
                        refine lv_goto (tgt := 97) hx hb dX6_firstBy_93 (by decide) ?_
                        exact hret _ _ _ (by have hw : fnd (bad th ki va re go n cl i) n 0 = some w := hC.symm.trans (fnd_t (q := bad th ki va re go n cl i) ⟨c30, c43, c70⟩); unfold fsV; rw [← hB, fnd_t (q := (fun i => fnd (bad th ki va re go n cl i) n 0 ≠ none)) (by rw [hw]; exact fun h => by cases h)]; show _ = nI (if q = 0 then i / 16 else if q = 1 then i % 16 else ((fnd (bad th ki va re go n cl i) n 0).getD 0)); rw [hw]; refine congrArg nI ?_; (repeat' split) <;> first | rfl | omega) dX6_firstBy_97
                    · -- not taken at 74
                      refine lv_iload_n hx hb dX6_firstBy_77 rfl (lv_at hl 2 rfl) ?_
                      refine lv_bipush (v := (nI 16)) hx hb dX6_firstBy_78 (by decide) ?_
                      refine t_div G (by omega) (by decide) (by decide) dX6_firstBy_80 ?_
                      refine lv_goto (tgt := 97) hx hb dX6_firstBy_81 (by decide) ?_
                      exact hret _ _ _ (by have hw : fnd (bad th ki va re go n cl i) n 0 = some w := hC.symm.trans (fnd_t (q := bad th ki va re go n cl i) ⟨c30, c43, c70⟩); unfold fsV; rw [← hB, fnd_t (q := (fun i => fnd (bad th ki va re go n cl i) n 0 ≠ none)) (by rw [hw]; exact fun h => by cases h)]; show _ = nI (if q = 0 then i / 16 else if q = 1 then i % 16 else ((fnd (bad th ki va re go n cl i) n 0).getD 0)); rw [hw]; refine congrArg nI ?_; (repeat' split) <;> first | rfl | omega) dX6_firstBy_97
        exact L17 (n - 0) (0) (Nat.le_refl _) (by omega) rfl ls (lv_sub hl [1, 2, 3, 0] rfl)
  exact L2 (16 * (cl + 1) - 0) (0) (Nat.le_refl _) (by omega) rfl ls (lv_sub hl [1, 2, 0] rfl)
set_option maxHeartbeats 4000000 in
set_option maxRecDepth 100000 in
theorem c_X6_first (a : Nat → Nat) (la : Int32) (n : Nat) (cl : Nat) (go : Option Nat) (fo : Nat → Int32) (si : Nat → Nat) (it : Nat → Int32) (mo : Nat → Int32) (th : Nat → Nat) (ki : Nat → Nat) (va : Nat → Nat) (re : Nat → Nat) (to : Nat → Prop) (co : Nat → Nat) (ke : Nat → Int32) (fw : Nat → Nat) (q : Int32) (I : IM n cl go th ki va re si co fw) : CP l D (TY cI cZ cS) yX6_first cX6_first 2 .int 4 [.ref (a 0), .int q] (wM cI cZ a la n cl go fo si it mo th ki va re to co ke fw) (.int (fsW th ki va re go n cl q)) := by
  refine CP.ofI (by decide +kernel) (Nat.le_of_ble_eq_true rfl) (nar_int _) ?_
  intro p e s m args below meth c Q G K hP hret ls hl
  obtain ⟨hx, hb, hml, hown, hts⟩ := id G
  obtain ⟨hn, hcl, hgo, hth, hki, hva, hre, hsi, hco, hfw⟩ := id I
  have hl : lv_has ls 2 [(0, .ref (a 0)), (1, .int q)] := hl
  refine lv_iload_n hx hb dX6_first_0 rfl (lv_at hl 1 rfl) ?_
  refine lv_i2l (v := q.toInt64) hx hb dX6_first_1 rfl ?_
  refine lv_lconst (v := ((0 : Int32)).toInt64) hx hb dX6_first_2 (by decide) ?_
  refine lv_ldc2 hx hb hown (hts _ kl_X6_64) dX6_first_3 ?_
  refine t_l (y := (2 : Int32).toInt64) (by decide) ?_
  refine callPS (rest := []) G K F_X6_in (c_X6_in q (0 : Int32) (2 : Int32)) (va_P_nil D s.heap) ml_X6_51 (by decide) (by decide) rfl hl.1 (Nat.le_of_ble_eq_true rfl) dX6_first_6 ?_
  refine b_eq G (tgt := 20) dX6_first_9 (by decide) (fun c9 => ?_) (fun c9 => ?_)
  · -- taken at 9
    refine lv_bipush (v := (-2)) hx hb dX6_first_20 (by decide) ?_
    exact hret _ _ _ (by first | exact fsW_k hj | exact fsW_q c9) dX6_first_22
  · -- not taken at 9
    obtain ⟨j, hj, rfl⟩ := (okN (m := 2) (by decide)).mp c9
    refine lv_aload_n hx hb dX6_first_12 rfl (lv_at hl 0 rfl) ?_
    refine lv_iload_n hx hb dX6_first_13 rfl (lv_at hl 1 rfl) ?_
    refine callPV (As := [.int (nI j)]) (rest := []) (q0 := 0) (ci := 6) G K F_X6_firstBy (c_X6_firstBy a la n cl go fo si it mo th ki va re to co ke fw j I (by omega)) hP ml_X6_227 rfl rfl rfl (by decide) (by decide) rfl hl.1 (Nat.le_of_ble_eq_true rfl) dX6_first_14 ?_
    refine lv_goto (tgt := 22) hx hb dX6_first_17 (by decide) ?_
    exact hret _ _ _ (by first | exact fsW_k hj | exact fsW_q c9) dX6_first_22
set_option maxHeartbeats 4000000 in
set_option maxRecDepth 100000 in
theorem c_X6_manyHold (a : Nat → Nat) (la : Int32) (n : Nat) (cl : Nat) (go : Option Nat) (fo : Nat → Int32) (si : Nat → Nat) (it : Nat → Int32) (mo : Nat → Int32) (th : Nat → Nat) (ki : Nat → Nat) (va : Nat → Nat) (re : Nat → Nat) (to : Nat → Prop) (co : Nat → Nat) (ke : Nat → Int32) (fw : Nat → Nat) (I : IM n cl go th ki va re si co fw) : CP l D (TY cI cZ cS) yX6_manyHold cX6_manyHold 3 .int 5 [.ref (a 0)] (wM cI cZ a la n cl go fo si it mo th ki va re to co ke fw) (.int (nI (mho th ki va re go n cl fw n))) := by
  refine CP.ofI (by decide +kernel) (Nat.le_of_ble_eq_true rfl) (nar_int _) ?_
  intro p e s m args below meth c Q G K hP hret ls hl
  obtain ⟨hx, hb, hml, hown, hts⟩ := id G
  obtain ⟨hn, hcl, hgo, hth, hki, hva, hre, hsi, hco, hfw⟩ := id I
  have hl : lv_has ls 3 [(0, .ref (a 0))] := hl
  refine lv_iconst (v := (nI 0)) hx hb dX6_manyHold_0 (by decide) ?_
  refine lv_istore_n (lv' := [(1, .int (nI 0)), (0, .ref (a 0))]) hx hb dX6_manyHold_1 rfl hl (by decide) rfl (fun ls hl => ?_)
  refine lv_iconst (v := (nI 0)) hx hb dX6_manyHold_2 (by decide) ?_
  refine lv_istore_n (lv' := [(2, .int (nI 0)), (1, .int (nI 0)), (0, .ref (a 0))]) hx hb dX6_manyHold_3 rfl hl (by decide) rfl (fun ls hl => ?_)
  have L4 : ∀ (d i : Nat), 0 ≤ i → i + d = n → ∀ (ls : Array Slot), lv_has ls 3 [(0, .ref (a 0)), (1, .int (nI (mho th ki va re go n cl fw i))), (2, .int (nI i))] → W p l e (RM 5) s m args below meth c s.heap [] 0 0 Q (F0 m 4 ls []) := by
    intro d
    induction d with
    | zero =>
      intro i hlo4 hhi4 ls hl
      refine lv_iload_n hx hb dX6_manyHold_4 rfl (lv_at hl 2 rfl) ?_
      refine lv_aload_n hx hb dX6_manyHold_5 rfl (lv_at hl 0 rfl) ?_
      refine f_get G K hP inX6 0 (ci := 6) rfl rfl 5 rfl fl_X6_89 (v := .int (nI n)) rfl dX6_manyHold_6 ?_
      refine c_ge G (tgt := 56) (by omega) (by omega) dX6_manyHold_9 (by decide) (fun c9 => ?_) (fun c9 => ?_)
      · -- taken at 9
        refine lv_iload_n hx hb dX6_manyHold_56 rfl (lv_at hl 1 rfl) ?_
        exact hret _ _ _ (congrArg nI (by rw [show i = n by omega])) dX6_manyHold_57
      · -- not taken at 9
        exact absurd c9 (by omega)
    | succ d ih =>
      intro i hlo4 hhi4 ls hl
      refine lv_iload_n hx hb dX6_manyHold_4 rfl (lv_at hl 2 rfl) ?_
      refine lv_aload_n hx hb dX6_manyHold_5 rfl (lv_at hl 0 rfl) ?_
      refine f_get G K hP inX6 0 (ci := 6) rfl rfl 5 rfl fl_X6_89 (v := .int (nI n)) rfl dX6_manyHold_6 ?_
      refine c_ge G (tgt := 56) (by omega) (by omega) dX6_manyHold_9 (by decide) (fun c9 => ?_) (fun c9 => ?_)
      · -- taken at 9
        exact absurd c9 (by omega)
      · -- not taken at 9
        refine lv_iload_n hx hb dX6_manyHold_12 rfl (lv_at hl 1 rfl) ?_
        refine lv_aload_n hx hb dX6_manyHold_13 rfl (lv_at hl 0 rfl) ?_
        refine lv_iload_n hx hb dX6_manyHold_14 rfl (lv_at hl 2 rfl) ?_
        refine callPV (As := [.int (nI i)]) (rest := [.int (nI (mho th ki va re go n cl fw i))]) (q0 := 0) (ci := 6) G K F_X6_isClosed (c_X6_isClosed a la n cl go fo si it mo th ki va re to co ke fw i I (by omega)) hP ml_X6_113 rfl rfl rfl (by decide) (by decide) rfl hl.1 (Nat.le_of_ble_eq_true rfl) dX6_manyHold_15 ?_
        refine b_eq G (tgt := 47) dX6_manyHold_18 (by decide) (fun c18 => ?_) (fun c18 => ?_)
        · -- taken at 18
          refine lv_iconst (v := (nI 0)) hx hb dX6_manyHold_47 (by decide) ?_
          refine t_add G dX6_manyHold_48 ?_
          refine t_i (y := (nI (mho th ki va re go n cl fw (i + 1)))) (congrArg nI (by first | exact cntP_t (q := (fun w => cls ki re cl w ∧ ¬ go = some w ∧ (fw w = 0 ∧ vrd th ki va re go n cl (re w) ≤ va w))) ⟨c18, c26, c40⟩ | exact cntP_f (q := (fun w => cls ki re cl w ∧ ¬ go = some w ∧ (fw w = 0 ∧ vrd th ki va re go n cl (re w) ≤ va w))) (fun h => c18 h.1) | exact cntP_f (q := (fun w => cls ki re cl w ∧ ¬ go = some w ∧ (fw w = 0 ∧ vrd th ki va re go n cl (re w) ≤ va w))) (fun h => h.2.1 c26) | exact cntP_f (q := (fun w => cls ki re cl w ∧ ¬ go = some w ∧ (fw w = 0 ∧ vrd th ki va re go n cl (re w) ≤ va w))) (fun h => c40 h.2.2))) ?_
          refine lv_istore_n (lv' := [(1, .int (nI (mho th ki va re go n cl fw (i + 1)))), (0, .ref (a 0)), (2, .int (nI i))]) hx hb dX6_manyHold_49 rfl hl (by decide) rfl (fun ls hl => ?_)
          refine lv_iinc (v := (nI (i + 1))) (lv' := [(2, .int (nI (i + 1))), (1, .int (nI (mho th ki va re go n cl fw (i + 1)))), (0, .ref (a 0))]) hx hb dX6_manyHold_50 hl (k := 2) rfl (nI_inc _ 1) (by decide) rfl (fun ls hl => ?_)
          refine lv_goto (tgt := 4) hx hb dX6_manyHold_53 (by decide) ?_
          -- slot 2: have n:i + 1, want n:(i + 1)
          exact ih (i + 1) (by omega) (by omega) ls (lv_sub hl [2, 1, 0] rfl)
        · -- not taken at 18
          refine lv_iload_n hx hb dX6_manyHold_21 rfl (lv_at hl 2 rfl) ?_
          refine lv_aload_n hx hb dX6_manyHold_22 rfl (lv_at hl 0 rfl) ?_
          refine f_get G K hP inX6 0 (ci := 6) rfl rfl 14 rfl fl_X6_44 (v := .int (oI go)) rfl dX6_manyHold_23 ?_
          refine no_eq G (tgt := 47) (by omega) (fun w h => by have := hgo w h; omega) dX6_manyHold_26 (by decide) (fun c26 => ?_) (fun c26 => ?_)
          · -- taken at 26
            refine lv_iconst (v := (nI 0)) hx hb dX6_manyHold_47 (by decide) ?_
            refine t_add G dX6_manyHold_48 ?_
            refine t_i (y := (nI (mho th ki va re go n cl fw (i + 1)))) (congrArg nI (by first | exact cntP_t (q := (fun w => cls ki re cl w ∧ ¬ go = some w ∧ (fw w = 0 ∧ vrd th ki va re go n cl (re w) ≤ va w))) ⟨c18, c26, c40⟩ | exact cntP_f (q := (fun w => cls ki re cl w ∧ ¬ go = some w ∧ (fw w = 0 ∧ vrd th ki va re go n cl (re w) ≤ va w))) (fun h => c18 h.1) | exact cntP_f (q := (fun w => cls ki re cl w ∧ ¬ go = some w ∧ (fw w = 0 ∧ vrd th ki va re go n cl (re w) ≤ va w))) (fun h => h.2.1 c26) | exact cntP_f (q := (fun w => cls ki re cl w ∧ ¬ go = some w ∧ (fw w = 0 ∧ vrd th ki va re go n cl (re w) ≤ va w))) (fun h => c40 h.2.2))) ?_
            refine lv_istore_n (lv' := [(1, .int (nI (mho th ki va re go n cl fw (i + 1)))), (0, .ref (a 0)), (2, .int (nI i))]) hx hb dX6_manyHold_49 rfl hl (by decide) rfl (fun ls hl => ?_)
            refine lv_iinc (v := (nI (i + 1))) (lv' := [(2, .int (nI (i + 1))), (1, .int (nI (mho th ki va re go n cl fw (i + 1)))), (0, .ref (a 0))]) hx hb dX6_manyHold_50 hl (k := 2) rfl (nI_inc _ 1) (by decide) rfl (fun ls hl => ?_)
            refine lv_goto (tgt := 4) hx hb dX6_manyHold_53 (by decide) ?_
            -- slot 2: have n:i + 1, want n:(i + 1)
            exact ih (i + 1) (by omega) (by omega) ls (lv_sub hl [2, 1, 0] rfl)
          · -- not taken at 26
            refine lv_aload_n hx hb dX6_manyHold_29 rfl (lv_at hl 0 rfl) ?_
            refine lv_iload_n hx hb dX6_manyHold_30 rfl (lv_at hl 2 rfl) ?_
            refine lv_aload_n hx hb dX6_manyHold_31 rfl (lv_at hl 0 rfl) ?_
            refine f_get G K hP inX6 0 (ci := 6) rfl rfl 15 rfl fl_X6_48 (v := .ref (a 12)) rfl dX6_manyHold_32 ?_
            refine lv_iload_n hx hb dX6_manyHold_35 rfl (lv_at hl 2 rfl) ?_
            refine a_ldN G K hP 12 0 (a := (a 12)) rfl rfl (by omega) (by decide) dX6_manyHold_36 ?_
            have hb1 := hfw i
            refine callPV (As := [.int (nI i), .int (nI (fw i))]) (rest := [.int (nI (mho th ki va re go n cl fw i))]) (q0 := 0) (ci := 6) G K F_X6_isHolding (c_X6_isHolding a la n cl go fo si it mo th ki va re to co ke fw i (fw i) I (by omega) (by omega)) hP ml_X6_213 rfl rfl rfl (by decide) (by decide) rfl hl.1 (Nat.le_of_ble_eq_true rfl) dX6_manyHold_37 ?_
            refine b_eq G (tgt := 47) dX6_manyHold_40 (by decide) (fun c40 => ?_) (fun c40 => ?_)
            · -- taken at 40
              refine lv_iconst (v := (nI 0)) hx hb dX6_manyHold_47 (by decide) ?_
              refine t_add G dX6_manyHold_48 ?_
              refine t_i (y := (nI (mho th ki va re go n cl fw (i + 1)))) (congrArg nI (by first | exact cntP_t (q := (fun w => cls ki re cl w ∧ ¬ go = some w ∧ (fw w = 0 ∧ vrd th ki va re go n cl (re w) ≤ va w))) ⟨c18, c26, c40⟩ | exact cntP_f (q := (fun w => cls ki re cl w ∧ ¬ go = some w ∧ (fw w = 0 ∧ vrd th ki va re go n cl (re w) ≤ va w))) (fun h => c18 h.1) | exact cntP_f (q := (fun w => cls ki re cl w ∧ ¬ go = some w ∧ (fw w = 0 ∧ vrd th ki va re go n cl (re w) ≤ va w))) (fun h => h.2.1 c26) | exact cntP_f (q := (fun w => cls ki re cl w ∧ ¬ go = some w ∧ (fw w = 0 ∧ vrd th ki va re go n cl (re w) ≤ va w))) (fun h => c40 h.2.2))) ?_
              refine lv_istore_n (lv' := [(1, .int (nI (mho th ki va re go n cl fw (i + 1)))), (0, .ref (a 0)), (2, .int (nI i))]) hx hb dX6_manyHold_49 rfl hl (by decide) rfl (fun ls hl => ?_)
              refine lv_iinc (v := (nI (i + 1))) (lv' := [(2, .int (nI (i + 1))), (1, .int (nI (mho th ki va re go n cl fw (i + 1)))), (0, .ref (a 0))]) hx hb dX6_manyHold_50 hl (k := 2) rfl (nI_inc _ 1) (by decide) rfl (fun ls hl => ?_)
              refine lv_goto (tgt := 4) hx hb dX6_manyHold_53 (by decide) ?_
              -- slot 2: have n:i + 1, want n:(i + 1)
              exact ih (i + 1) (by omega) (by omega) ls (lv_sub hl [2, 1, 0] rfl)
            · -- not taken at 40
              refine lv_iconst (v := (nI 1)) hx hb dX6_manyHold_43 (by decide) ?_
              refine lv_goto (tgt := 48) hx hb dX6_manyHold_44 (by decide) ?_
              refine t_add G dX6_manyHold_48 ?_
              refine t_i (y := (nI (mho th ki va re go n cl fw (i + 1)))) (congrArg nI (by first | exact cntP_t (q := (fun w => cls ki re cl w ∧ ¬ go = some w ∧ (fw w = 0 ∧ vrd th ki va re go n cl (re w) ≤ va w))) ⟨c18, c26, c40⟩ | exact cntP_f (q := (fun w => cls ki re cl w ∧ ¬ go = some w ∧ (fw w = 0 ∧ vrd th ki va re go n cl (re w) ≤ va w))) (fun h => c18 h.1) | exact cntP_f (q := (fun w => cls ki re cl w ∧ ¬ go = some w ∧ (fw w = 0 ∧ vrd th ki va re go n cl (re w) ≤ va w))) (fun h => h.2.1 c26) | exact cntP_f (q := (fun w => cls ki re cl w ∧ ¬ go = some w ∧ (fw w = 0 ∧ vrd th ki va re go n cl (re w) ≤ va w))) (fun h => c40 h.2.2))) ?_
              refine lv_istore_n (lv' := [(1, .int (nI (mho th ki va re go n cl fw (i + 1)))), (0, .ref (a 0)), (2, .int (nI i))]) hx hb dX6_manyHold_49 rfl hl (by decide) rfl (fun ls hl => ?_)
              refine lv_iinc (v := (nI (i + 1))) (lv' := [(2, .int (nI (i + 1))), (1, .int (nI (mho th ki va re go n cl fw (i + 1)))), (0, .ref (a 0))]) hx hb dX6_manyHold_50 hl (k := 2) rfl (nI_inc _ 1) (by decide) rfl (fun ls hl => ?_)
              refine lv_goto (tgt := 4) hx hb dX6_manyHold_53 (by decide) ?_
              -- slot 2: have n:i + 1, want n:(i + 1)
              exact ih (i + 1) (by omega) (by omega) ls (lv_sub hl [2, 1, 0] rfl)
  exact L4 (n - 0) (0) (Nat.le_refl _) (by omega) ls (lv_sub hl [2, 1, 0] rfl)
set_option maxHeartbeats 4000000 in
set_option maxRecDepth 100000 in
theorem c_X6_manySeals (a : Nat → Nat) (la : Int32) (n : Nat) (cl : Nat) (go : Option Nat) (fo : Nat → Int32) (si : Nat → Nat) (it : Nat → Int32) (mo : Nat → Int32) (th : Nat → Nat) (ki : Nat → Nat) (va : Nat → Nat) (re : Nat → Nat) (to : Nat → Prop) (co : Nat → Nat) (ke : Nat → Int32) (fw : Nat → Nat) (I : IM n cl go th ki va re si co fw) : CP l D (TY cI cZ cS) yX6_manySeals cX6_manySeals 3 .int 2 [.ref (a 0)] (wM cI cZ a la n cl go fo si it mo th ki va re to co ke fw) (.int (nI (cntP (cls ki re cl) n))) := by
  refine CP.ofI (by decide +kernel) (Nat.le_of_ble_eq_true rfl) (nar_int _) ?_
  intro p e s m args below meth c Q G K hP hret ls hl
  obtain ⟨hx, hb, hml, hown, hts⟩ := id G
  obtain ⟨hn, hcl, hgo, hth, hki, hva, hre, hsi, hco, hfw⟩ := id I
  have hl : lv_has ls 3 [(0, .ref (a 0))] := hl
  refine lv_iconst (v := (nI 0)) hx hb dX6_manySeals_0 (by decide) ?_
  refine lv_istore_n (lv' := [(1, .int (nI 0)), (0, .ref (a 0))]) hx hb dX6_manySeals_1 rfl hl (by decide) rfl (fun ls hl => ?_)
  refine lv_iconst (v := (nI 0)) hx hb dX6_manySeals_2 (by decide) ?_
  refine lv_istore_n (lv' := [(2, .int (nI 0)), (1, .int (nI 0)), (0, .ref (a 0))]) hx hb dX6_manySeals_3 rfl hl (by decide) rfl (fun ls hl => ?_)
  have L4 : ∀ (d i : Nat), 0 ≤ i → i + d = n → ∀ (ls : Array Slot), lv_has ls 3 [(0, .ref (a 0)), (1, .int (nI (cntP (cls ki re cl) i))), (2, .int (nI i))] → W p l e (RM 2) s m args below meth c s.heap [] 0 0 Q (F0 m 4 ls []) := by
    intro d
    induction d with
    | zero =>
      intro i hlo4 hhi4 ls hl
      refine lv_iload_n hx hb dX6_manySeals_4 rfl (lv_at hl 2 rfl) ?_
      refine lv_aload_n hx hb dX6_manySeals_5 rfl (lv_at hl 0 rfl) ?_
      refine f_get G K hP inX6 0 (ci := 6) rfl rfl 5 rfl fl_X6_89 (v := .int (nI n)) rfl dX6_manySeals_6 ?_
      refine c_ge G (tgt := 34) (by omega) (by omega) dX6_manySeals_9 (by decide) (fun c9 => ?_) (fun c9 => ?_)
      · -- taken at 9
        refine lv_iload_n hx hb dX6_manySeals_34 rfl (lv_at hl 1 rfl) ?_
        exact hret _ _ _ (congrArg nI (by rw [show i = n by omega])) dX6_manySeals_35
      · -- not taken at 9
        exact absurd c9 (by omega)
    | succ d ih =>
      intro i hlo4 hhi4 ls hl
      refine lv_iload_n hx hb dX6_manySeals_4 rfl (lv_at hl 2 rfl) ?_
      refine lv_aload_n hx hb dX6_manySeals_5 rfl (lv_at hl 0 rfl) ?_
      refine f_get G K hP inX6 0 (ci := 6) rfl rfl 5 rfl fl_X6_89 (v := .int (nI n)) rfl dX6_manySeals_6 ?_
      refine c_ge G (tgt := 34) (by omega) (by omega) dX6_manySeals_9 (by decide) (fun c9 => ?_) (fun c9 => ?_)
      · -- taken at 9
        exact absurd c9 (by omega)
      · -- not taken at 9
        refine lv_iload_n hx hb dX6_manySeals_12 rfl (lv_at hl 1 rfl) ?_
        refine lv_aload_n hx hb dX6_manySeals_13 rfl (lv_at hl 0 rfl) ?_
        refine lv_iload_n hx hb dX6_manySeals_14 rfl (lv_at hl 2 rfl) ?_
        refine callPV (As := [.int (nI i)]) (rest := [.int (nI (cntP (cls ki re cl) i))]) (q0 := 0) (ci := 6) G K F_X6_isClosed (c_X6_isClosed a la n cl go fo si it mo th ki va re to co ke fw i I (by omega)) hP ml_X6_113 rfl rfl rfl (by decide) (by decide) rfl hl.1 (Nat.le_of_ble_eq_true rfl) dX6_manySeals_15 ?_
        refine b_eq G (tgt := 25) dX6_manySeals_18 (by decide) (fun c18 => ?_) (fun c18 => ?_)
        · -- taken at 18
          refine lv_iconst (v := (nI 0)) hx hb dX6_manySeals_25 (by decide) ?_
          refine t_add G dX6_manySeals_26 ?_
          refine t_i (y := (nI (cntP (cls ki re cl) (i + 1)))) (congrArg nI (by first | exact cntP_t (q := cls ki re cl) c18 | exact cntP_f (q := cls ki re cl) c18)) ?_
          refine lv_istore_n (lv' := [(1, .int (nI (cntP (cls ki re cl) (i + 1)))), (0, .ref (a 0)), (2, .int (nI i))]) hx hb dX6_manySeals_27 rfl hl (by decide) rfl (fun ls hl => ?_)
          refine lv_iinc (v := (nI (i + 1))) (lv' := [(2, .int (nI (i + 1))), (1, .int (nI (cntP (cls ki re cl) (i + 1)))), (0, .ref (a 0))]) hx hb dX6_manySeals_28 hl (k := 2) rfl (nI_inc _ 1) (by decide) rfl (fun ls hl => ?_)
          refine lv_goto (tgt := 4) hx hb dX6_manySeals_31 (by decide) ?_
          -- slot 2: have n:i + 1, want n:(i + 1)
          exact ih (i + 1) (by omega) (by omega) ls (lv_sub hl [2, 1, 0] rfl)
        · -- not taken at 18
          refine lv_iconst (v := (nI 1)) hx hb dX6_manySeals_21 (by decide) ?_
          refine lv_goto (tgt := 26) hx hb dX6_manySeals_22 (by decide) ?_
          refine t_add G dX6_manySeals_26 ?_
          refine t_i (y := (nI (cntP (cls ki re cl) (i + 1)))) (congrArg nI (by first | exact cntP_t (q := cls ki re cl) c18 | exact cntP_f (q := cls ki re cl) c18)) ?_
          refine lv_istore_n (lv' := [(1, .int (nI (cntP (cls ki re cl) (i + 1)))), (0, .ref (a 0)), (2, .int (nI i))]) hx hb dX6_manySeals_27 rfl hl (by decide) rfl (fun ls hl => ?_)
          refine lv_iinc (v := (nI (i + 1))) (lv' := [(2, .int (nI (i + 1))), (1, .int (nI (cntP (cls ki re cl) (i + 1)))), (0, .ref (a 0))]) hx hb dX6_manySeals_28 hl (k := 2) rfl (nI_inc _ 1) (by decide) rfl (fun ls hl => ?_)
          refine lv_goto (tgt := 4) hx hb dX6_manySeals_31 (by decide) ?_
          -- slot 2: have n:i + 1, want n:(i + 1)
          exact ih (i + 1) (by omega) (by omega) ls (lv_sub hl [2, 1, 0] rfl)
  exact L4 (n - 0) (0) (Nat.le_refl _) (by omega) ls (lv_sub hl [2, 1, 0] rfl)
set_option maxHeartbeats 4000000 in
set_option maxRecDepth 100000 in
theorem c_X6_manyThere (a : Nat → Nat) (la : Int32) (n : Nat) (cl : Nat) (go : Option Nat) (fo : Nat → Int32) (si : Nat → Nat) (it : Nat → Int32) (mo : Nat → Int32) (th : Nat → Nat) (ki : Nat → Nat) (va : Nat → Nat) (re : Nat → Nat) (to : Nat → Prop) (co : Nat → Nat) (ke : Nat → Int32) (fw : Nat → Nat) (I : IM n cl go th ki va re si co fw) : CP l D (TY cI cZ cS) yX6_manyThere cX6_manyThere 3 .int 1 [.ref (a 0)] (wM cI cZ a la n cl go fo si it mo th ki va re to co ke fw) (.int (nI (cntP (fun t => ¬ lastT th ki re go t cl n = none) 16))) := by
  refine CP.ofI (by decide +kernel) (Nat.le_of_ble_eq_true rfl) (nar_int _) ?_
  intro p e s m args below meth c Q G K hP hret ls hl
  obtain ⟨hx, hb, hml, hown, hts⟩ := id G
  obtain ⟨hn, hcl, hgo, hth, hki, hva, hre, hsi, hco, hfw⟩ := id I
  have hl : lv_has ls 3 [(0, .ref (a 0))] := hl
  refine lv_iconst (v := (nI 0)) hx hb dX6_manyThere_0 (by decide) ?_
  refine lv_istore_n (lv' := [(1, .int (nI 0)), (0, .ref (a 0))]) hx hb dX6_manyThere_1 rfl hl (by decide) rfl (fun ls hl => ?_)
  refine lv_iconst (v := (nI 0)) hx hb dX6_manyThere_2 (by decide) ?_
  refine lv_istore_n (lv' := [(2, .int (nI 0)), (1, .int (nI 0)), (0, .ref (a 0))]) hx hb dX6_manyThere_3 rfl hl (by decide) rfl (fun ls hl => ?_)
  have L4 : ∀ (d t : Nat), 0 ≤ t → t + d = 16 → ∀ (ls : Array Slot), lv_has ls 3 [(0, .ref (a 0)), (1, .int (nI (cntP (fun t => ¬ lastT th ki re go t cl n = none) t))), (2, .int (nI t))] → W p l e (RM 1) s m args below meth c s.heap [] 0 0 Q (F0 m 4 ls []) := by
    intro d
    induction d with
    | zero =>
      intro t hlo4 hhi4 ls hl
      refine lv_iload_n hx hb dX6_manyThere_4 rfl (lv_at hl 2 rfl) ?_
      refine lv_bipush (v := (nI 16)) hx hb dX6_manyThere_5 (by decide) ?_
      refine c_ge G (tgt := 37) (by omega) (by omega) dX6_manyThere_7 (by decide) (fun c7 => ?_) (fun c7 => ?_)
      · -- taken at 7
        refine lv_iload_n hx hb dX6_manyThere_37 rfl (lv_at hl 1 rfl) ?_
        exact hret _ _ _ (congrArg nI (by rw [show t = 16 by omega])) dX6_manyThere_38
      · -- not taken at 7
        exact absurd c7 (by omega)
    | succ d ih =>
      intro t hlo4 hhi4 ls hl
      refine lv_iload_n hx hb dX6_manyThere_4 rfl (lv_at hl 2 rfl) ?_
      refine lv_bipush (v := (nI 16)) hx hb dX6_manyThere_5 (by decide) ?_
      refine c_ge G (tgt := 37) (by omega) (by omega) dX6_manyThere_7 (by decide) (fun c7 => ?_) (fun c7 => ?_)
      · -- taken at 7
        exact absurd c7 (by omega)
      · -- not taken at 7
        refine lv_iload_n hx hb dX6_manyThere_10 rfl (lv_at hl 1 rfl) ?_
        refine lv_aload_n hx hb dX6_manyThere_11 rfl (lv_at hl 0 rfl) ?_
        refine lv_iload_n hx hb dX6_manyThere_12 rfl (lv_at hl 2 rfl) ?_
        refine lv_aload_n hx hb dX6_manyThere_13 rfl (lv_at hl 0 rfl) ?_
        refine f_get G K hP inX6 0 (ci := 6) rfl rfl 13 rfl fl_X6_92 (v := .int (nI cl)) rfl dX6_manyThere_14 ?_
        refine callPV (As := [.int (nI t), .int (nI cl)]) (rest := [.int (nI (cntP (fun t => ¬ lastT th ki re go t cl n = none) t))]) (q0 := 0) (ci := 6) G K F_X6_lastOf (c_X6_lastOf a la n cl go fo si it mo th ki va re to co ke fw t cl I (by omega) (by omega)) hP ml_X6_152 rfl rfl rfl (by decide) (by decide) rfl hl.1 (Nat.le_of_ble_eq_true rfl) dX6_manyThere_17 ?_
        refine lv_iconst (v := (-1)) hx hb dX6_manyThere_20 (by decide) ?_
        refine o_eq G (tgt := 28) (fun w h => by have := (lastT_lt th ki re go t cl n) w h; omega) dX6_manyThere_21 (by decide) (fun c21 => ?_) (fun c21 => ?_)
        · -- taken at 21
          refine lv_iconst (v := (nI 0)) hx hb dX6_manyThere_28 (by decide) ?_
          refine t_add G dX6_manyThere_29 ?_
          refine t_i (y := (nI (cntP (fun t => ¬ lastT th ki re go t cl n = none) (t + 1)))) (congrArg nI (by first | exact cntP_t (q := (fun t => ¬ lastT th ki re go t cl n = none)) c21 | exact cntP_f (q := (fun t => ¬ lastT th ki re go t cl n = none)) (fun h => h c21))) ?_
          refine lv_istore_n (lv' := [(1, .int (nI (cntP (fun t => ¬ lastT th ki re go t cl n = none) (t + 1)))), (0, .ref (a 0)), (2, .int (nI t))]) hx hb dX6_manyThere_30 rfl hl (by decide) rfl (fun ls hl => ?_)
          refine lv_iinc (v := (nI (t + 1))) (lv' := [(2, .int (nI (t + 1))), (1, .int (nI (cntP (fun t => ¬ lastT th ki re go t cl n = none) (t + 1)))), (0, .ref (a 0))]) hx hb dX6_manyThere_31 hl (k := 2) rfl (nI_inc _ 1) (by decide) rfl (fun ls hl => ?_)
          refine lv_goto (tgt := 4) hx hb dX6_manyThere_34 (by decide) ?_
          -- slot 1: have n:cntP (fun t => ¬ lastT th ki re go t cl n = none) (t + 1), want n:cntP (fun (t + 1) => ¬ lastT th ki re go (t + 1) cl n = none) (t + 1)
          -- slot 2: have n:t + 1, want n:(t + 1)
          exact ih (t + 1) (by omega) (by omega) ls (lv_sub hl [2, 1, 0] rfl)
        · -- not taken at 21
          refine lv_iconst (v := (nI 1)) hx hb dX6_manyThere_24 (by decide) ?_
          refine lv_goto (tgt := 29) hx hb dX6_manyThere_25 (by decide) ?_
          refine t_add G dX6_manyThere_29 ?_
          refine t_i (y := (nI (cntP (fun t => ¬ lastT th ki re go t cl n = none) (t + 1)))) (congrArg nI (by first | exact cntP_t (q := (fun t => ¬ lastT th ki re go t cl n = none)) c21 | exact cntP_f (q := (fun t => ¬ lastT th ki re go t cl n = none)) (fun h => h c21))) ?_
          refine lv_istore_n (lv' := [(1, .int (nI (cntP (fun t => ¬ lastT th ki re go t cl n = none) (t + 1)))), (0, .ref (a 0)), (2, .int (nI t))]) hx hb dX6_manyThere_30 rfl hl (by decide) rfl (fun ls hl => ?_)
          refine lv_iinc (v := (nI (t + 1))) (lv' := [(2, .int (nI (t + 1))), (1, .int (nI (cntP (fun t => ¬ lastT th ki re go t cl n = none) (t + 1)))), (0, .ref (a 0))]) hx hb dX6_manyThere_31 hl (k := 2) rfl (nI_inc _ 1) (by decide) rfl (fun ls hl => ?_)
          refine lv_goto (tgt := 4) hx hb dX6_manyThere_34 (by decide) ?_
          -- slot 1: have n:cntP (fun t => ¬ lastT th ki re go t cl n = none) (t + 1), want n:cntP (fun (t + 1) => ¬ lastT th ki re go (t + 1) cl n = none) (t + 1)
          -- slot 2: have n:t + 1, want n:(t + 1)
          exact ih (t + 1) (by omega) (by omega) ls (lv_sub hl [2, 1, 0] rfl)
  exact L4 (16 - 0) (0) (Nat.le_refl _) (by omega) ls (lv_sub hl [2, 1, 0] rfl)
set_option maxHeartbeats 4000000 in
set_option maxRecDepth 100000 in
theorem c_X6_manyShadowed (a : Nat → Nat) (la : Int32) (n : Nat) (cl : Nat) (go : Option Nat) (fo : Nat → Int32) (si : Nat → Nat) (it : Nat → Int32) (mo : Nat → Int32) (th : Nat → Nat) (ki : Nat → Nat) (va : Nat → Nat) (re : Nat → Nat) (to : Nat → Prop) (co : Nat → Nat) (ke : Nat → Int32) (fw : Nat → Nat) (I : IM n cl go th ki va re si co fw) : CP l D (TY cI cZ cS) yX6_manyShadowed cX6_manyShadowed 3 .int 1 [.ref (a 0)] (wM cI cZ a la n cl go fo si it mo th ki va re to co ke fw) (.int (nI (cntP (fun i => shad th ki va re go n (i % 16) (i / 16)) (16 * (cl + 1))))) := by
  refine CP.ofI (by decide +kernel) (Nat.le_of_ble_eq_true rfl) (nar_int _) ?_
  intro p e s m args below meth c Q G K hP hret ls hl
  obtain ⟨hx, hb, hml, hown, hts⟩ := id G
  obtain ⟨hn, hcl, hgo, hth, hki, hva, hre, hsi, hco, hfw⟩ := id I
  have hl : lv_has ls 3 [(0, .ref (a 0))] := hl
  refine lv_iconst (v := (nI 0)) hx hb dX6_manyShadowed_0 (by decide) ?_
  refine lv_istore_n (lv' := [(1, .int (nI 0)), (0, .ref (a 0))]) hx hb dX6_manyShadowed_1 rfl hl (by decide) rfl (fun ls hl => ?_)
  refine lv_iconst (v := (nI 0)) hx hb dX6_manyShadowed_2 (by decide) ?_
  refine lv_istore_n (lv' := [(2, .int (nI 0)), (1, .int (nI 0)), (0, .ref (a 0))]) hx hb dX6_manyShadowed_3 rfl hl (by decide) rfl (fun ls hl => ?_)
  have L4 : ∀ (d i : Nat), 0 ≤ i → i + d = 16 * (cl + 1) → ∀ (ls : Array Slot), lv_has ls 3 [(0, .ref (a 0)), (1, .int (nI (cntP (fun i => shad th ki va re go n (i % 16) (i / 16)) i))), (2, .int (nI i))] → W p l e (RM 1) s m args below meth c s.heap [] 0 0 Q (F0 m 4 ls []) := by
    intro d
    induction d with
    | zero =>
      intro i hlo4 hhi4 ls hl
      refine lv_iload_n hx hb dX6_manyShadowed_4 rfl (lv_at hl 2 rfl) ?_
      refine lv_bipush (v := (nI 16)) hx hb dX6_manyShadowed_5 (by decide) ?_
      refine lv_aload_n hx hb dX6_manyShadowed_7 rfl (lv_at hl 0 rfl) ?_
      refine f_get G K hP inX6 0 (ci := 6) rfl rfl 13 rfl fl_X6_92 (v := .int (nI cl)) rfl dX6_manyShadowed_8 ?_
      refine lv_iconst (v := (nI 1)) hx hb dX6_manyShadowed_11 (by decide) ?_
      refine t_add G dX6_manyShadowed_12 ?_
      refine t_mul G dX6_manyShadowed_13 ?_
      refine c_ge G (tgt := 46) (by omega) (by omega) dX6_manyShadowed_14 (by decide) (fun c14 => ?_) (fun c14 => ?_)
      · -- taken at 14
        refine lv_iload_n hx hb dX6_manyShadowed_46 rfl (lv_at hl 1 rfl) ?_
        exact hret _ _ _ (congrArg nI (by rw [show i = 16 * (cl + 1) by omega])) dX6_manyShadowed_47
      · -- not taken at 14
        exact absurd c14 (by omega)
    | succ d ih =>
      intro i hlo4 hhi4 ls hl
      refine lv_iload_n hx hb dX6_manyShadowed_4 rfl (lv_at hl 2 rfl) ?_
      refine lv_bipush (v := (nI 16)) hx hb dX6_manyShadowed_5 (by decide) ?_
      refine lv_aload_n hx hb dX6_manyShadowed_7 rfl (lv_at hl 0 rfl) ?_
      refine f_get G K hP inX6 0 (ci := 6) rfl rfl 13 rfl fl_X6_92 (v := .int (nI cl)) rfl dX6_manyShadowed_8 ?_
      refine lv_iconst (v := (nI 1)) hx hb dX6_manyShadowed_11 (by decide) ?_
      refine t_add G dX6_manyShadowed_12 ?_
      refine t_mul G dX6_manyShadowed_13 ?_
      refine c_ge G (tgt := 46) (by omega) (by omega) dX6_manyShadowed_14 (by decide) (fun c14 => ?_) (fun c14 => ?_)
      · -- taken at 14
        exact absurd c14 (by omega)
      · -- not taken at 14
        refine lv_iload_n hx hb dX6_manyShadowed_17 rfl (lv_at hl 1 rfl) ?_
        refine lv_aload_n hx hb dX6_manyShadowed_18 rfl (lv_at hl 0 rfl) ?_
        refine lv_iload_n hx hb dX6_manyShadowed_19 rfl (lv_at hl 2 rfl) ?_
        refine lv_bipush (v := (nI 16)) hx hb dX6_manyShadowed_20 (by decide) ?_
        refine t_rem G (by omega) (by decide) (by decide) dX6_manyShadowed_22 ?_
        refine lv_iload_n hx hb dX6_manyShadowed_23 rfl (lv_at hl 2 rfl) ?_
        refine lv_bipush (v := (nI 16)) hx hb dX6_manyShadowed_24 (by decide) ?_
        refine t_div G (by omega) (by decide) (by decide) dX6_manyShadowed_26 ?_
        refine callPV (As := [.int (nI (i % 16)), .int (nI (i / 16))]) (rest := [.int (nI (cntP (fun i => shad th ki va re go n (i % 16) (i / 16)) i))]) (q0 := 0) (ci := 6) G K F_X6_isShadowed (c_X6_isShadowed a la n cl go fo si it mo th ki va re to co ke fw (i % 16) (i / 16) I (by omega) (by omega)) hP ml_X6_161 rfl rfl rfl (by decide) (by decide) rfl hl.1 (Nat.le_of_ble_eq_true rfl) dX6_manyShadowed_27 ?_
        refine b_eq G (tgt := 37) dX6_manyShadowed_30 (by decide) (fun c30 => ?_) (fun c30 => ?_)
        · -- taken at 30
          refine lv_iconst (v := (nI 0)) hx hb dX6_manyShadowed_37 (by decide) ?_
          refine t_add G dX6_manyShadowed_38 ?_
          refine t_i (y := (nI (cntP (fun i => shad th ki va re go n (i % 16) (i / 16)) (i + 1)))) (congrArg nI (by first | exact cntP_t (q := (fun i => shad th ki va re go n (i % 16) (i / 16))) c30 | exact cntP_f (q := (fun i => shad th ki va re go n (i % 16) (i / 16))) c30)) ?_
          refine lv_istore_n (lv' := [(1, .int (nI (cntP (fun i => shad th ki va re go n (i % 16) (i / 16)) (i + 1)))), (0, .ref (a 0)), (2, .int (nI i))]) hx hb dX6_manyShadowed_39 rfl hl (by decide) rfl (fun ls hl => ?_)
          refine lv_iinc (v := (nI (i + 1))) (lv' := [(2, .int (nI (i + 1))), (1, .int (nI (cntP (fun i => shad th ki va re go n (i % 16) (i / 16)) (i + 1)))), (0, .ref (a 0))]) hx hb dX6_manyShadowed_40 hl (k := 2) rfl (nI_inc _ 1) (by decide) rfl (fun ls hl => ?_)
          refine lv_goto (tgt := 4) hx hb dX6_manyShadowed_43 (by decide) ?_
          -- slot 1: have n:cntP (fun i => shad th ki va re go n (i % 16) (i / 16)) (i + 1), want n:cntP (fun (i + 1) => shad th ki va re go n ((i + 1) % 16) ((i + 1) / 16)) (i + 1)
          -- slot 2: have n:i + 1, want n:(i + 1)
          exact ih (i + 1) (by omega) (by omega) ls (lv_sub hl [2, 1, 0] rfl)
        · -- not taken at 30
          refine lv_iconst (v := (nI 1)) hx hb dX6_manyShadowed_33 (by decide) ?_
          refine lv_goto (tgt := 38) hx hb dX6_manyShadowed_34 (by decide) ?_
          refine t_add G dX6_manyShadowed_38 ?_
          refine t_i (y := (nI (cntP (fun i => shad th ki va re go n (i % 16) (i / 16)) (i + 1)))) (congrArg nI (by first | exact cntP_t (q := (fun i => shad th ki va re go n (i % 16) (i / 16))) c30 | exact cntP_f (q := (fun i => shad th ki va re go n (i % 16) (i / 16))) c30)) ?_
          refine lv_istore_n (lv' := [(1, .int (nI (cntP (fun i => shad th ki va re go n (i % 16) (i / 16)) (i + 1)))), (0, .ref (a 0)), (2, .int (nI i))]) hx hb dX6_manyShadowed_39 rfl hl (by decide) rfl (fun ls hl => ?_)
          refine lv_iinc (v := (nI (i + 1))) (lv' := [(2, .int (nI (i + 1))), (1, .int (nI (cntP (fun i => shad th ki va re go n (i % 16) (i / 16)) (i + 1)))), (0, .ref (a 0))]) hx hb dX6_manyShadowed_40 hl (k := 2) rfl (nI_inc _ 1) (by decide) rfl (fun ls hl => ?_)
          refine lv_goto (tgt := 4) hx hb dX6_manyShadowed_43 (by decide) ?_
          -- slot 1: have n:cntP (fun i => shad th ki va re go n (i % 16) (i / 16)) (i + 1), want n:cntP (fun (i + 1) => shad th ki va re go n ((i + 1) % 16) ((i + 1) / 16)) (i + 1)
          -- slot 2: have n:i + 1, want n:(i + 1)
          exact ih (i + 1) (by omega) (by omega) ls (lv_sub hl [2, 1, 0] rfl)
  exact L4 (16 * (cl + 1) - 0) (0) (Nat.le_refl _) (by omega) ls (lv_sub hl [2, 1, 0] rfl)
set_option maxHeartbeats 4000000 in
set_option maxRecDepth 100000 in
theorem c_X6_cut (f : Int32) (v : Int32) : CP l D (TY cI cZ cS) yX6_cut cX6_cut 2 .int 0 [.int f, .int v] [] (.int (cutV f v)) := by
  refine CP.ofI (by decide +kernel) (Nat.le_of_ble_eq_true rfl) (nar_int _) ?_
  intro p e s m args below meth c Q G K hP hret ls hl
  obtain ⟨hx, hb, hml, hown, hts⟩ := id G
  have hl : lv_has ls 2 [(0, .int f), (1, .int v)] := hl
  refine lv_iload_n hx hb dX6_cut_0 rfl (lv_at hl 0 rfl) ?_
  refine lv_if_ne (tgt := 9) hx hb dX6_cut_1 (by decide) (fun c1 => ?_) (fun c1 => ?_)
  · -- taken at 1
    refine lv_iload_n hx hb dX6_cut_9 rfl (lv_at hl 0 rfl) ?_
    refine lv_iconst (v := (nI 1)) hx hb dX6_cut_10 (by decide) ?_
    refine lv_icmp_ne (tgt := 19) hx hb dX6_cut_11 (by decide) (fun c11 => ?_) (fun c11 => ?_)
    · -- taken at 11
      refine lv_iload_n hx hb dX6_cut_19 rfl (lv_at hl 1 rfl) ?_
      exact hret _ _ _ (by unfold cutV; first | rw [if_pos c1] | rw [if_neg c1, if_pos c11] | rw [if_neg c1, if_neg c11]) dX6_cut_20
    · -- not taken at 11
      refine lv_iload_n hx hb dX6_cut_14 rfl (lv_at hl 1 rfl) ?_
      refine lv_i2s (v := v.toInt16.toInt32) hx hb dX6_cut_15 rfl ?_
      refine lv_goto (tgt := 20) hx hb dX6_cut_16 (by decide) ?_
      exact hret _ _ _ (by unfold cutV; first | rw [if_pos c1] | rw [if_neg c1, if_pos c11] | rw [if_neg c1, if_neg c11]) dX6_cut_20
  · -- not taken at 1
    refine lv_iload_n hx hb dX6_cut_4 rfl (lv_at hl 1 rfl) ?_
    refine lv_i2b (v := v.toInt8.toInt32) hx hb dX6_cut_5 rfl ?_
    refine lv_goto (tgt := 20) hx hb dX6_cut_6 (by decide) ?_
    exact hret _ _ _ (by unfold cutV; first | rw [if_pos c1] | rw [if_neg c1, if_pos c11] | rw [if_neg c1, if_neg c11]) dX6_cut_20

end
