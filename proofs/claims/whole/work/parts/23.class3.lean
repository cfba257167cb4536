section
variable {l : Launch} {D : va_G} {cI cZ cS : ClassId}

set_option maxHeartbeats 4000000 in
set_option maxRecDepth 100000 in
theorem c_X2_retell (aW : Nat → Nat) (n : Nat) (cl : Nat) (th : Nat → Nat) (ki : Nat → Nat) (va : Nat → Nat) (re : Nat → Nat) (fi : Nat → Nat) (aH : Nat → Nat) (lt : Nat → Option Nat) (tr : Nat → Nat) (sh : Nat → Nat) (cr : Nat → Nat) (ct : Nat → Nat) (cu : Nat → Nat) (ve : Nat → Nat) (ta : Nat → Nat) (ch : Nat) (go : Option Nat) (J : IW n cl th ki va re fi) (S : SW n cl re fi) (H9 : IHd lt tr sh cr ct cu ve ta ch) (hgo : ∀ v, go = some v → v < 40) : CM l D (TY cI cZ cS) yX2_retell cX2_retell 3 none 3 [.ref (aH 0), .int (oI go)] ((wW cI aW n cl th ki va re fi) ++ (wH cI aH (aW 0) lt tr sh cr ct cu ve ta ch)) none ((wW cI aW n cl th ki va re fi) ++ (wH cI aH (aW 0) (cLT th re go n lt (cl + 1)) (cTR th ki re go n tr (cl + 1)) (cSH th ki va re go n sh (cl + 1)) (cCR th ki va re go n cr (cl + 1)) (cCT th ki va re go n ct (cl + 1)) (cCU th ki va re go n cu (cl + 1)) (cVE th ki va re go n cl ve cl) (cTA th ki va re go n cl ta cl) (cCH th ki va re go n (cl + 1)))) := by
  refine CM.ofV (by decide +kernel) (Nat.le_of_ble_eq_true rfl) ?_
  intro p e s m args below meth c Q A G K hA w hret ls hl
  obtain ⟨hx, hb, hml, hown, hts⟩ := id G
  obtain ⟨hn, hcl, hth, hki, hva, hre, hfi⟩ := id J
  obtain ⟨hlt, htr, hsh, hcr, hct, hcu, hve, hta, hch⟩ := id H9
  have K1 : ∀ r t, r ≤ cl → t < 16 → cLT th re go n lt (cl + 1) (r * 16 + t) = lastW th re go t r n := fun r t hr ht => cLT_row (by omega) ht
  have K2 : ∀ r, r ≤ cl → cTR th ki re go n tr (cl + 1) r = bsm (fun t => ¬ lastT th ki re go t r n = none) 16 := fun r hr => by unfold cTR; rw [if_pos (by omega)]
  have K3 : ∀ r, r ≤ cl → cSH th ki va re go n sh (cl + 1) r = bsm (fun t => shad th ki va re go n t r) 16 := fun r hr => by unfold cSH; rw [if_pos (by omega)]
  have K4 : ∀ k, k < cCH th ki va re go n (cl + 1) → cCR th ki va re go n cr (cl + 1) k = nth (chg th ki va re go n) k / 16 ∧ cCT th ki va re go n ct (cl + 1) k = nth (chg th ki va re go n) k % 16 := fun k hk => ⟨by unfold cCR; rw [if_pos hk], by unfold cCT; rw [if_pos hk]⟩
  have K5 : ∀ r, r ≤ cl → cCU th ki va re go n cu (cl + 1) r = cCH th ki va re go n (r + 1) := fun r hr => by unfold cCU; rw [if_pos (by omega)]
  have hl : lv_has ls 3 [(0, .ref (aH 0)), (1, .int (oI go))] := hl
  refine lv_aload_n hx hb dX2_retell_0 rfl (lv_at hl 0 rfl) ?_
  refine lv_iconst (v := (nI 0)) hx hb dX2_retell_1 (by decide) ?_
  refine f_put G K w inX2 tyX2 tyX2_ok nmX2 6 (ci := 2) rfl rfl 9 rfl fl_X2_36 rfl rfl rfl rfl dX2_retell_2 (w2 := ((wW cI aW n cl th ki va re fi) ++ (wH cI aH (aW 0) lt tr sh cr ct cu ve ta 0))) rfl (fun Hp1 lo2 w => ?_)
  refine lv_iconst (v := (nI 0)) hx hb dX2_retell_5 (by decide) ?_
  refine lv_istore_n (lv' := [(2, .int (nI 0)), (0, .ref (aH 0)), (1, .int (oI go))]) hx hb dX2_retell_6 rfl hl (by decide) rfl (fun ls hl => ?_)
  have L7 : ∀ (d r : Nat), 0 ≤ r → r + d = cl + 1 → ∀ (H : Heap) (locs : List Loc), WW D A s.heap ((wW cI aW n cl th ki va re fi) ++ (wH cI aH (aW 0) (cLT th re go n lt r) (cTR th ki re go n tr r) (cSH th ki va re go n sh r) (cCR th ki va re go n cr r) (cCT th ki va re go n ct r) (cCU th ki va re go n cu r) ve ta (cCH th ki va re go n r))) H locs → ∀ (ls : Array Slot), lv_has ls 3 [(0, .ref (aH 0)), (1, .int (oI go)), (2, .int (nI r))] → W p l e (RM 3) s m args below meth c H locs 0 0 Q (F0 m 7 ls []) := by
    intro d
    induction d with
    | zero =>
      intro r hlo7 hhi7 H locs w ls hl
      refine lv_iload_n hx hb dX2_retell_7 rfl (lv_at hl 2 rfl) ?_
      refine lv_aload_n hx hb dX2_retell_8 rfl (lv_at hl 0 rfl) ?_
      refine f_get G K w.1 inX2 6 (ci := 2) rfl rfl 0 rfl fl_X2_40 (v := .ref (aW 0)) rfl dX2_retell_9 ?_
      refine f_get G K w.1 inX4 0 (ci := 4) rfl rfl 6 rfl fl_X2_44 (v := .int (nI cl)) rfl dX2_retell_12 ?_
      refine c_gt G (tgt := 61) (by omega) (by omega) dX2_retell_15 (by decide) (fun c15 => ?_) (fun c15 => ?_)
      · -- taken at 15
        refine lv_iconst (v := (nI 0)) hx hb dX2_retell_61 (by decide) ?_
        refine lv_istore_n (lv' := [(2, .int (nI 0)), (0, .ref (aH 0)), (1, .int (oI go))]) hx hb dX2_retell_62 rfl hl (by decide) rfl (fun ls hl => ?_)
        have L63 : ∀ (d z : Nat), 0 ≤ z → z + d = cl → ∀ (H : Heap) (locs : List Loc), WW D A s.heap ((wW cI aW n cl th ki va re fi) ++ (wH cI aH (aW 0) (cLT th re go n lt (cl + 1)) (cTR th ki re go n tr (cl + 1)) (cSH th ki va re go n sh (cl + 1)) (cCR th ki va re go n cr (cl + 1)) (cCT th ki va re go n ct (cl + 1)) (cCU th ki va re go n cu (cl + 1)) (cVE th ki va re go n cl ve z) (cTA th ki va re go n cl ta z) (cCH th ki va re go n (cl + 1)))) H locs → ∀ (ls : Array Slot), lv_has ls 3 [(0, .ref (aH 0)), (1, .int (oI go)), (2, .int (nI z))] → W p l e (RM 3) s m args below meth c H locs 0 0 Q (F0 m 63 ls []) := by
          intro d
          induction d with
          | zero =>
            intro z hlo63 hhi63 H locs w ls hl
            refine lv_iload_n hx hb dX2_retell_63 rfl (lv_at hl 2 rfl) ?_
            refine lv_aload_n hx hb dX2_retell_64 rfl (lv_at hl 0 rfl) ?_
            refine f_get G K w.1 inX2 6 (ci := 2) rfl rfl 0 rfl fl_X2_40 (v := .ref (aW 0)) rfl dX2_retell_65 ?_
            refine f_get G K w.1 inX4 0 (ci := 4) rfl rfl 6 rfl fl_X2_44 (v := .int (nI cl)) rfl dX2_retell_68 ?_
            refine c_ge G (tgt := 85) (by omega) (by omega) dX2_retell_71 (by decide) (fun c71 => ?_) (fun c71 => ?_)
            · -- taken at 71
              exact hret _ _ _ _ _ (by rw [show z = cl by omega]) w dX2_retell_85
            · -- not taken at 71
              exact absurd c71 (by omega)
          | succ d ih =>
            intro z hlo63 hhi63 H locs w ls hl
            refine lv_iload_n hx hb dX2_retell_63 rfl (lv_at hl 2 rfl) ?_
            refine lv_aload_n hx hb dX2_retell_64 rfl (lv_at hl 0 rfl) ?_
            refine f_get G K w.1 inX2 6 (ci := 2) rfl rfl 0 rfl fl_X2_40 (v := .ref (aW 0)) rfl dX2_retell_65 ?_
            refine f_get G K w.1 inX4 0 (ci := 4) rfl rfl 6 rfl fl_X2_44 (v := .int (nI cl)) rfl dX2_retell_68 ?_
            refine c_ge G (tgt := 85) (by omega) (by omega) dX2_retell_71 (by decide) (fun c71 => ?_) (fun c71 => ?_)
            · -- taken at 71
              exact absurd c71 (by omega)
            · -- not taken at 71
              refine lv_aload_n hx hb dX2_retell_74 rfl (lv_at hl 0 rfl) ?_
              refine lv_iload_n hx hb dX2_retell_75 rfl (lv_at hl 2 rfl) ?_
              refine callMF (As := [.int (nI z)]) (rest := []) (q0 := 6) (ci := 2) (ws' := ((wW cI aW n cl th ki va re fi) ++ (wH cI aH (aW 0) (cLT th re go n lt (cl + 1)) (cTR th ki re go n tr (cl + 1)) (cSH th ki va re go n sh (cl + 1)) (cCR th ki va re go n cr (cl + 1)) (cCT th ki va re go n ct (cl + 1)) (cCU th ki va re go n cu (cl + 1)) (va_up (cVE th ki va re go n cl ve z) z (mxP (fun j => srC ki va (((cSH th ki va re go n sh (cl + 1)) ((cCR th ki va re go n cr (cl + 1)) ((cCU th ki va re go n cu (cl + 1)) z + j))).testBit ((cCT th ki va re go n ct (cl + 1)) ((cCU th ki va re go n cu (cl + 1)) z + j)) = true) (((cTR th ki re go n tr (cl + 1)) z).testBit ((cCT th ki va re go n ct (cl + 1)) ((cCU th ki va re go n cu (cl + 1)) z + j)) = true) ((cTR th ki re go n tr (cl + 1)) z) ((cLT th re go n lt (cl + 1)) (((cCR th ki va re go n cr (cl + 1)) ((cCU th ki va re go n cu (cl + 1)) z + j) - 1) * 16 + (cCT th ki va re go n ct (cl + 1)) ((cCU th ki va re go n cu (cl + 1)) z + j))) ((cLT th re go n lt (cl + 1)) ((cCR th ki va re go n cr (cl + 1)) ((cCU th ki va re go n cu (cl + 1)) z + j) * 16 + (cCT th ki va re go n ct (cl + 1)) ((cCU th ki va re go n cu (cl + 1)) z + j)))) ((cCH th ki va re go n (cl + 1)) - (cCU th ki va re go n cu (cl + 1)) z))) (va_up (cTA th ki va re go n cl ta z) z (cntP (fun j => srC ki va (((cSH th ki va re go n sh (cl + 1)) ((cCR th ki va re go n cr (cl + 1)) ((cCU th ki va re go n cu (cl + 1)) z + j))).testBit ((cCT th ki va re go n ct (cl + 1)) ((cCU th ki va re go n cu (cl + 1)) z + j)) = true) (((cTR th ki re go n tr (cl + 1)) z).testBit ((cCT th ki va re go n ct (cl + 1)) ((cCU th ki va re go n cu (cl + 1)) z + j)) = true) ((cTR th ki re go n tr (cl + 1)) z) ((cLT th re go n lt (cl + 1)) (((cCR th ki va re go n cr (cl + 1)) ((cCU th ki va re go n cu (cl + 1)) z + j) - 1) * 16 + (cCT th ki va re go n ct (cl + 1)) ((cCU th ki va re go n cu (cl + 1)) z + j))) ((cLT th re go n lt (cl + 1)) ((cCR th ki va re go n cr (cl + 1)) ((cCU th ki va re go n cu (cl + 1)) z + j) * 16 + (cCT th ki va re go n ct (cl + 1)) ((cCU th ki va re go n cu (cl + 1)) z + j))) = 3) ((cCH th ki va re go n (cl + 1)) - (cCU th ki va re go n cu (cl + 1)) z))) (cCH th ki va re go n (cl + 1))))) G K hA w F_X2_judgeBehind (c_X2_judgeBehind aW n cl th ki va re fi aH (cLT th re go n lt (cl + 1)) (cTR th ki re go n tr (cl + 1)) (cSH th ki va re go n sh (cl + 1)) (cCR th ki va re go n cr (cl + 1)) (cCT th ki va re go n ct (cl + 1)) (cCU th ki va re go n cu (cl + 1)) (cVE th ki va re go n cl ve z) (cTA th ki va re go n cl ta z) (cCH th ki va re go n (cl + 1)) z J S (IHd_c (th := th) (ki := ki) (va := va) (re := re) (go := go) (n := n) (cl := cl) (z := z) H9 hn hcl (r := cl + 1) (by omega)) (by omega) (by rw [K5 z (by omega)]; exact cntP_mono _ (by omega)) (fun k hk => (CR_pos hcl k hk).1) (fun k hk v e => by have h7 := CR_pos (cr := cr) hcl k hk; have h8 := cCT_le (th := th) (ki := ki) (va := va) (re := re) (go := go) (n := n) hct (cl + 1) k; rw [K1 _ _ (by omega) (by omega)] at e; exact lastW_lt th re go _ _ n v e) (fun k hk v e => by have h7 := CR_pos (cr := cr) hcl k hk; have h8 := cCT_le (th := th) (ki := ki) (va := va) (re := re) (go := go) (n := n) hct (cl + 1) k; rw [K1 _ _ (by omega) (by omega)] at e; exact lastW_lt th re go _ _ n v e)) ml_X2_64 rfl rfl rfl (by decide) (by decide) rfl hl.1 (Nat.le_of_ble_eq_true rfl) dX2_retell_76 (fun Hp3 lo4 w => ?_)
              have w : WW D A s.heap ((wW cI aW n cl th ki va re fi) ++ (wH cI aH (aW 0) (cLT th re go n lt (cl + 1)) (cTR th ki re go n tr (cl + 1)) (cSH th ki va re go n sh (cl + 1)) (cCR th ki va re go n cr (cl + 1)) (cCT th ki va re go n ct (cl + 1)) (cCU th ki va re go n cu (cl + 1)) (cVE th ki va re go n cl ve (z + 1)) (cTA th ki va re go n cl ta (z + 1)) (cCH th ki va re go n (cl + 1)))) Hp3 lo4 := by
                obtain ⟨q1, q2⟩ := JV hcl hva K1 K2 K3 K4 (z := z) (by omega) (K5 z (by omega)) rfl
                rw [q1, q2, VE_step, TA_step] at w; exact w
              refine lv_iinc (v := (nI (z + 1))) (lv' := [(2, .int (nI (z + 1))), (0, .ref (aH 0)), (1, .int (oI go))]) hx hb dX2_retell_79 hl (k := 2) rfl (nI_inc _ 1) (by decide) rfl (fun ls hl => ?_)
              refine lv_goto (tgt := 63) hx hb dX2_retell_82 (by decide) ?_
              -- slot 2: have n:z + 1, want n:(z + 1)
              exact ih (z + 1) (by omega) (by omega) Hp3 lo4 w ls (lv_sub hl [1, 2, 0] rfl)
        exact L63 (cl - 0) (0) (Nat.le_refl _) (by omega) H locs (by rw [cVE_0, cTA_0]; rw [show r = cl + 1 by omega] at w; exact w) ls (lv_sub hl [1, 2, 0] rfl)
      · -- not taken at 15
        exact absurd c15 (by omega)
    | succ d ih =>
      intro r hlo7 hhi7 H locs w ls hl
      refine lv_iload_n hx hb dX2_retell_7 rfl (lv_at hl 2 rfl) ?_
      refine lv_aload_n hx hb dX2_retell_8 rfl (lv_at hl 0 rfl) ?_
      refine f_get G K w.1 inX2 6 (ci := 2) rfl rfl 0 rfl fl_X2_40 (v := .ref (aW 0)) rfl dX2_retell_9 ?_
      refine f_get G K w.1 inX4 0 (ci := 4) rfl rfl 6 rfl fl_X2_44 (v := .int (nI cl)) rfl dX2_retell_12 ?_
      refine c_gt G (tgt := 61) (by omega) (by omega) dX2_retell_15 (by decide) (fun c15 => ?_) (fun c15 => ?_)
      · -- taken at 15
        exact absurd c15 (by omega)
      · -- not taken at 15
        have H8 := IHd_c (th := th) (ki := ki) (va := va) (re := re) (go := go) (n := n) (cl := cl) (z := 0) H9 hn hcl (r := r) (by omega)
        rw [cVE_0, cTA_0] at H8
        have H7 : IHd (srL (cLT th re go n lt r) r) (cTR th ki re go n tr r) (va_up (cSH th ki va re go n sh r) r 0) (cCR th ki va re go n cr r) (cCT th ki va re go n ct r) (cCU th ki va re go n cu r) ve ta (cCH th ki va re go n r) := ⟨srL_lt H8.1 r, H8.2.1, up_le H8.2.2.1 (by omega), H8.2.2.2⟩
        have H6a := IHd_c (th := th) (ki := ki) (va := va) (re := re) (go := go) (n := n) (cl := cl) (z := 0) H9 hn hcl (r := r + 1) (by omega)
        rw [cVE_0, cTA_0] at H6a
        have H6 : IHd (cLT th re go n lt (r + 1)) (cTR th ki re go n tr r) (cSH th ki va re go n sh (r + 1)) (cCR th ki va re go n cr r) (cCT th ki va re go n ct r) (cCU th ki va re go n cu r) ve ta (cCH th ki va re go n r) := ⟨H6a.1, H8.2.1, H6a.2.2.1, H8.2.2.2⟩
        have H5 : IHd (cLT th re go n lt (r + 1)) (cTR th ki re go n tr (r + 1)) (cSH th ki va re go n sh (r + 1)) (cCR th ki va re go n cr r) (cCT th ki va re go n ct r) (cCU th ki va re go n cu r) ve ta (cCH th ki va re go n r) := ⟨H6a.1, H6a.2.1, H6a.2.2.1, H8.2.2.2⟩
        refine lv_aload_n hx hb dX2_retell_18 rfl (lv_at hl 0 rfl) ?_
        refine lv_iload_n hx hb dX2_retell_19 rfl (lv_at hl 2 rfl) ?_
        refine callMF (As := [.int (nI r)]) (rest := []) (q0 := 6) (ci := 2) (ws' := ((wW cI aW n cl th ki va re fi) ++ (wH cI aH (aW 0) (srL (cLT th re go n lt r) r) (cTR th ki re go n tr r) (va_up (cSH th ki va re go n sh r) r 0) (cCR th ki va re go n cr r) (cCT th ki va re go n ct r) (cCU th ki va re go n cu r) ve ta (cCH th ki va re go n r)))) G K hA w F_X2_startRow (c_X2_startRow aW n cl th ki va re fi aH (cLT th re go n lt r) (cTR th ki re go n tr r) (cSH th ki va re go n sh r) (cCR th ki va re go n cr r) (cCT th ki va re go n ct r) (cCU th ki va re go n cu r) ve ta (cCH th ki va re go n r) r J S H8 (by omega)) ml_X2_49 rfl rfl rfl (by decide) (by decide) rfl hl.1 (Nat.le_of_ble_eq_true rfl) dX2_retell_20 (fun Hp5 lo6 w => ?_)
        refine lv_aload_n hx hb dX2_retell_23 rfl (lv_at hl 0 rfl) ?_
        refine lv_iload_n hx hb dX2_retell_24 rfl (lv_at hl 2 rfl) ?_
        refine lv_iload_n hx hb dX2_retell_25 rfl (lv_at hl 1 rfl) ?_
        refine callMF (As := [.int (nI r), .int (oI go)]) (rest := []) (q0 := 6) (ci := 2) (ws' := ((wW cI aW n cl th ki va re fi) ++ (wH cI aH (aW 0) (twL th go (srL (cLT th re go n lt r) r) r (cntLt re r n) (cntEq re r n)) (cTR th ki re go n tr r) (twS th ki va go (srL (cLT th re go n lt r) r) (va_up (cSH th ki va re go n sh r) r 0) r (cntLt re r n) (cntEq re r n)) (cCR th ki va re go n cr r) (cCT th ki va re go n ct r) (cCU th ki va re go n cu r) ve ta (cCH th ki va re go n r)))) G K hA w F_X2_takeWrites (c_X2_takeWrites aW n cl th ki va re fi aH (srL (cLT th re go n lt r) r) (cTR th ki re go n tr r) (va_up (cSH th ki va re go n sh r) r 0) (cCR th ki va re go n cr r) (cCT th ki va re go n ct r) (cCU th ki va re go n cu r) ve ta (cCH th ki va re go n r) r go J S H7 (by omega) (by omega)) ml_X2_53 rfl rfl rfl (by decide) (by decide) rfl hl.1 (Nat.le_of_ble_eq_true rfl) dX2_retell_26 (fun Hp7 lo8 w => ?_)
        have w : WW D A s.heap ((wW cI aW n cl th ki va re fi) ++ (wH cI aH (aW 0) (cLT th re go n lt (r + 1)) (cTR th ki re go n tr r) (cSH th ki va re go n sh (r + 1)) (cCR th ki va re go n cr r) (cCT th ki va re go n ct r) (cCU th ki va re go n cu r) ve ta (cCH th ki va re go n r))) Hp7 lo8 := by
          rw [LT_step S hth go lt, SH_step S hth ki va go lt hsh] at w; exact w
        refine lv_aload_n hx hb dX2_retell_29 rfl (lv_at hl 0 rfl) ?_
        refine f_get G K w.1 inX2 6 (ci := 2) rfl rfl 2 rfl fl_X2_15 (v := .ref (aH 2)) rfl dX2_retell_30 ?_
        refine lv_iload_n hx hb dX2_retell_33 rfl (lv_at hl 2 rfl) ?_
        refine lv_aload_n hx hb dX2_retell_34 rfl (lv_at hl 0 rfl) ?_
        refine lv_iload_n hx hb dX2_retell_35 rfl (lv_at hl 2 rfl) ?_
        refine callPV (As := [.int (nI r)]) (rest := [.int (nI r), .ref (aH 2)]) (q0 := 6) (ci := 2) G K F_X2_thingsThere (c_X2_thingsThere aW n cl th ki va re fi aH (cLT th re go n lt (r + 1)) (cTR th ki re go n tr r) (cSH th ki va re go n sh (r + 1)) (cCR th ki va re go n cr r) (cCT th ki va re go n ct r) (cCU th ki va re go n cu r) ve ta (cCH th ki va re go n r) r J S H6 (by omega) (fun t ht v e => by rw [cLT_row (by omega) ht] at e; exact lastW_lt th re go t r n v e)) w.1 ml_X2_57 rfl rfl rfl (by decide) (by decide) rfl hl.1 (Nat.le_of_ble_eq_true rfl) dX2_retell_36 ?_
        refine a_stN G K w 8 0 (a := (aH 2)) rfl rfl (by omega) (by decide) dX2_retell_39 (w2 := ((wW cI aW n cl th ki va re fi) ++ (wH cI aH (aW 0) (cLT th re go n lt (r + 1)) (va_up (cTR th ki re go n tr r) r (bsm (fun t => kOr ki ((cLT th re go n lt (r + 1)) (r * 16 + t)) ≠ 5) 16)) (cSH th ki va re go n sh (r + 1)) (cCR th ki va re go n cr r) (cCT th ki va re go n ct r) (cCU th ki va re go n cu r) ve ta (cCH th ki va re go n r)))) rfl (fun Hp9 lo10 w => ?_)
        have w : WW D A s.heap ((wW cI aW n cl th ki va re fi) ++ (wH cI aH (aW 0) (cLT th re go n lt (r + 1)) (cTR th ki re go n tr (r + 1)) (cSH th ki va re go n sh (r + 1)) (cCR th ki va re go n cr r) (cCT th ki va re go n ct r) (cCU th ki va re go n cu r) ve ta (cCH th ki va re go n r))) Hp9 lo10 := by
          rw [TR_step lt tr] at w; exact w
        refine lv_aload_n hx hb dX2_retell_40 rfl (lv_at hl 0 rfl) ?_
        refine lv_iload_n hx hb dX2_retell_41 rfl (lv_at hl 2 rfl) ?_
        rcases Nat.eq_zero_or_pos r with h0 | h0
        · -- case
          refine callMF (As := [.int (nI r)]) (rest := []) (q0 := 6) (ci := 2) (ws' := ((wW cI aW n cl th ki va re fi) ++ (wH cI aH (aW 0) (cLT th re go n lt (r + 1)) (cTR th ki re go n tr (r + 1)) (cSH th ki va re go n sh (r + 1)) (cCR th ki va re go n cr r) (cCT th ki va re go n ct r) (cCU th ki va re go n cu r) ve ta (cCH th ki va re go n r)))) G K hA w F_X2_noteChanges (c_X2_noteChanges_0 aW n cl th ki va re fi aH (cLT th re go n lt (r + 1)) (cTR th ki re go n tr (r + 1)) (cSH th ki va re go n sh (r + 1)) (cCR th ki va re go n cr r) (cCT th ki va re go n ct r) (cCU th ki va re go n cu r) ve ta (cCH th ki va re go n r) r J S H5 h0) ml_X2_61 rfl rfl rfl (by decide) (by decide) rfl hl.1 (Nat.le_of_ble_eq_true rfl) dX2_retell_42 (fun Hp11 lo12 w => ?_)
          have w : WW D A s.heap ((wW cI aW n cl th ki va re fi) ++ (wH cI aH (aW 0) (cLT th re go n lt (r + 1)) (cTR th ki re go n tr (r + 1)) (cSH th ki va re go n sh (r + 1)) (cCR th ki va re go n cr (r + 1)) (cCT th ki va re go n ct (r + 1)) (cCU th ki va re go n cu r) ve ta (cCH th ki va re go n (r + 1)))) Hp11 lo12 := by
            have e1 : cCR th ki va re go n cr r = cCR th ki va re go n cr (r + 1) := by rw [h0]; exact CR_0 cr
            have e2 : cCT th ki va re go n ct r = cCT th ki va re go n ct (r + 1) := by rw [h0]; exact CT_0 ct
            have e3 : cCH th ki va re go n r = cCH th ki va re go n (r + 1) := by rw [h0]; exact (cCH_1 th ki va re go n).symm
            rw [← e1, ← e2, ← e3]; exact w
          refine lv_aload_n hx hb dX2_retell_45 rfl (lv_at hl 0 rfl) ?_
          refine f_get G K w.1 inX2 6 (ci := 2) rfl rfl 6 rfl fl_X2_27 (v := .ref (aH 6)) rfl dX2_retell_46 ?_
          refine lv_iload_n hx hb dX2_retell_49 rfl (lv_at hl 2 rfl) ?_
          refine lv_aload_n hx hb dX2_retell_50 rfl (lv_at hl 0 rfl) ?_
          refine f_get G K w.1 inX2 6 (ci := 2) rfl rfl 9 rfl fl_X2_36 (v := .int (nI (cCH th ki va re go n (r + 1)))) rfl dX2_retell_51 ?_
          refine a_stN G K w 12 0 (a := (aH 6)) rfl rfl (by omega) (by decide) dX2_retell_54 (w2 := ((wW cI aW n cl th ki va re fi) ++ (wH cI aH (aW 0) (cLT th re go n lt (r + 1)) (cTR th ki re go n tr (r + 1)) (cSH th ki va re go n sh (r + 1)) (cCR th ki va re go n cr (r + 1)) (cCT th ki va re go n ct (r + 1)) (va_up (cCU th ki va re go n cu r) r (cCH th ki va re go n (r + 1))) ve ta (cCH th ki va re go n (r + 1))))) rfl (fun Hp13 lo14 w => ?_)
          have w : WW D A s.heap ((wW cI aW n cl th ki va re fi) ++ (wH cI aH (aW 0) (cLT th re go n lt (r + 1)) (cTR th ki re go n tr (r + 1)) (cSH th ki va re go n sh (r + 1)) (cCR th ki va re go n cr (r + 1)) (cCT th ki va re go n ct (r + 1)) (cCU th ki va re go n cu (r + 1)) ve ta (cCH th ki va re go n (r + 1)))) Hp13 lo14 := by
            rw [CU_step cu] at w; exact w
          refine lv_iinc (v := (nI (r + 1))) (lv' := [(2, .int (nI (r + 1))), (0, .ref (aH 0)), (1, .int (oI go))]) hx hb dX2_retell_55 hl (k := 2) rfl (nI_inc _ 1) (by decide) rfl (fun ls hl => ?_)
          refine lv_goto (tgt := 7) hx hb dX2_retell_58 (by decide) ?_
          -- slot 2: have n:r + 1, want n:(r + 1)
          exact ih (r + 1) (by omega) (by omega) Hp13 lo14 w ls (lv_sub hl [1, 2, 0] rfl)
        · -- case
          refine callMF (As := [.int (nI r)]) (rest := []) (q0 := 6) (ci := 2) (ws' := ((wW cI aW n cl th ki va re fi) ++ (wH cI aH (aW 0) (cLT th re go n lt (r + 1)) (cTR th ki re go n tr (r + 1)) (cSH th ki va re go n sh (r + 1)) (ncR (fun t => ((cSH th ki va re go n sh (r + 1)) r).testBit t = true ∨ othO ki va (nonG ki ((cLT th re go n lt (r + 1)) ((r - 1) * 16 + t))) (nonG ki ((cLT th re go n lt (r + 1)) (r * 16 + t)))) (fun _ => r) (cCR th ki va re go n cr r) (cCH th ki va re go n r) 16) (ncR (fun t => ((cSH th ki va re go n sh (r + 1)) r).testBit t = true ∨ othO ki va (nonG ki ((cLT th re go n lt (r + 1)) ((r - 1) * 16 + t))) (nonG ki ((cLT th re go n lt (r + 1)) (r * 16 + t)))) (fun t => t) (cCT th ki va re go n ct r) (cCH th ki va re go n r) 16) (cCU th ki va re go n cu r) ve ta ((cCH th ki va re go n r) + cntP (fun t => ((cSH th ki va re go n sh (r + 1)) r).testBit t = true ∨ othO ki va (nonG ki ((cLT th re go n lt (r + 1)) ((r - 1) * 16 + t))) (nonG ki ((cLT th re go n lt (r + 1)) (r * 16 + t)))) 16)))) G K hA w F_X2_noteChanges (c_X2_noteChanges_s aW n cl th ki va re fi aH (cLT th re go n lt (r + 1)) (cTR th ki re go n tr (r + 1)) (cSH th ki va re go n sh (r + 1)) (cCR th ki va re go n cr r) (cCT th ki va re go n ct r) (cCU th ki va re go n cu r) ve ta (cCH th ki va re go n r) r J S H5 h0 (by omega) (by have := cCH_le' th ki va re go n r h0; omega) (fun t ht => cTR_tb (by omega) ht) (fun t ht => cTR_tb (by omega) ht)) ml_X2_61 rfl rfl rfl (by decide) (by decide) rfl hl.1 (Nat.le_of_ble_eq_true rfl) dX2_retell_42 (fun Hp15 lo16 w => ?_)
          have w : WW D A s.heap ((wW cI aW n cl th ki va re fi) ++ (wH cI aH (aW 0) (cLT th re go n lt (r + 1)) (cTR th ki re go n tr (r + 1)) (cSH th ki va re go n sh (r + 1)) (cCR th ki va re go n cr (r + 1)) (cCT th ki va re go n ct (r + 1)) (cCU th ki va re go n cu r) ve ta (cCH th ki va re go n (r + 1)))) Hp15 lo16 := by
            rw [CR_step lt sh cr h0 (by omega), CT_step lt sh ct h0 (by omega), CH_step lt sh h0] at w; exact w
          refine lv_aload_n hx hb dX2_retell_45 rfl (lv_at hl 0 rfl) ?_
          refine f_get G K w.1 inX2 6 (ci := 2) rfl rfl 6 rfl fl_X2_27 (v := .ref (aH 6)) rfl dX2_retell_46 ?_
          refine lv_iload_n hx hb dX2_retell_49 rfl (lv_at hl 2 rfl) ?_
          refine lv_aload_n hx hb dX2_retell_50 rfl (lv_at hl 0 rfl) ?_
          refine f_get G K w.1 inX2 6 (ci := 2) rfl rfl 9 rfl fl_X2_36 (v := .int (nI (cCH th ki va re go n (r + 1)))) rfl dX2_retell_51 ?_
          refine a_stN G K w 12 0 (a := (aH 6)) rfl rfl (by omega) (by decide) dX2_retell_54 (w2 := ((wW cI aW n cl th ki va re fi) ++ (wH cI aH (aW 0) (cLT th re go n lt (r + 1)) (cTR th ki re go n tr (r + 1)) (cSH th ki va re go n sh (r + 1)) (cCR th ki va re go n cr (r + 1)) (cCT th ki va re go n ct (r + 1)) (va_up (cCU th ki va re go n cu r) r (cCH th ki va re go n (r + 1))) ve ta (cCH th ki va re go n (r + 1))))) rfl (fun Hp17 lo18 w => ?_)
          have w : WW D A s.heap ((wW cI aW n cl th ki va re fi) ++ (wH cI aH (aW 0) (cLT th re go n lt (r + 1)) (cTR th ki re go n tr (r + 1)) (cSH th ki va re go n sh (r + 1)) (cCR th ki va re go n cr (r + 1)) (cCT th ki va re go n ct (r + 1)) (cCU th ki va re go n cu (r + 1)) ve ta (cCH th ki va re go n (r + 1)))) Hp17 lo18 := by
            rw [CU_step cu] at w; exact w
          refine lv_iinc (v := (nI (r + 1))) (lv' := [(2, .int (nI (r + 1))), (0, .ref (aH 0)), (1, .int (oI go))]) hx hb dX2_retell_55 hl (k := 2) rfl (nI_inc _ 1) (by decide) rfl (fun ls hl => ?_)
          refine lv_goto (tgt := 7) hx hb dX2_retell_58 (by decide) ?_
          -- slot 2: have n:r + 1, want n:(r + 1)
          exact ih (r + 1) (by omega) (by omega) Hp17 lo18 w ls (lv_sub hl [1, 2, 0] rfl)
  exact L7 (cl + 1 - 0) (0) (Nat.le_refl _) (by omega) Hp1 lo2 (by rw [cz_LT, cz_TR, cz_SH, cz_CR, cz_CT, cz_CU]; exact w) ls (lv_sub hl [1, 2, 0] rfl)

end
