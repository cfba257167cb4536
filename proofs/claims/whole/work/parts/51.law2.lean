/-! the law's loop -/
theorem swL (y : Int32) : y = nI 0 ∨ y = nI 1 ∨ y = nI 2 ∨ y = nI 3 ∨ y = nI 4 ∨ y = nI 5 ∨ y = nI 6 ∨ y = nI 7 ∨ y = nI 8 ∨ y = nI 9 ∨ y = nI 10 ∨ y = nI 11 ∨ y = nI 12 ∨ y = nI 13 ∨ y = nI 14 ∨ y = nI 15 ∨ y = nI 16 ∨ y = nI 17 ∨ y = nI 18 ∨ y = nI 19 ∨ y = nI 20 ∨ y = nI 21 ∨ y = nI 22 ∨ y = nI 23 ∨ y = nI 24 ∨ y = nI 25 ∨ y = nI 26 ∨ y = nI 27 ∨ y = nI 28 ∨ (y.toInt < 0 ∨ 28 < y.toInt) := by
  simp only [sw_of (by decide : (0 : Nat) < 2 ^ 31), sw_of (by decide : (1 : Nat) < 2 ^ 31), sw_of (by decide : (2 : Nat) < 2 ^ 31), sw_of (by decide : (3 : Nat) < 2 ^ 31), sw_of (by decide : (4 : Nat) < 2 ^ 31), sw_of (by decide : (5 : Nat) < 2 ^ 31), sw_of (by decide : (6 : Nat) < 2 ^ 31), sw_of (by decide : (7 : Nat) < 2 ^ 31), sw_of (by decide : (8 : Nat) < 2 ^ 31), sw_of (by decide : (9 : Nat) < 2 ^ 31), sw_of (by decide : (10 : Nat) < 2 ^ 31), sw_of (by decide : (11 : Nat) < 2 ^ 31), sw_of (by decide : (12 : Nat) < 2 ^ 31), sw_of (by decide : (13 : Nat) < 2 ^ 31), sw_of (by decide : (14 : Nat) < 2 ^ 31), sw_of (by decide : (15 : Nat) < 2 ^ 31), sw_of (by decide : (16 : Nat) < 2 ^ 31), sw_of (by decide : (17 : Nat) < 2 ^ 31), sw_of (by decide : (18 : Nat) < 2 ^ 31), sw_of (by decide : (19 : Nat) < 2 ^ 31), sw_of (by decide : (20 : Nat) < 2 ^ 31), sw_of (by decide : (21 : Nat) < 2 ^ 31), sw_of (by decide : (22 : Nat) < 2 ^ 31), sw_of (by decide : (23 : Nat) < 2 ^ 31), sw_of (by decide : (24 : Nat) < 2 ^ 31), sw_of (by decide : (25 : Nat) < 2 ^ 31), sw_of (by decide : (26 : Nat) < 2 ^ 31), sw_of (by decide : (27 : Nat) < 2 ^ 31), sw_of (by decide : (28 : Nat) < 2 ^ 31)]
  omega
theorem subL {L i : Nat} (hL : L ≤ 3072) (hi : i ≤ 4000) : nI L - nI 6 < nI i ↔ L < i + 6 := by
  rw [Int32.lt_iff_toInt_lt, nI_toInt (by omega)]
  by_cases h : 6 ≤ L
  · rw [pk_sub h, nI_toInt (by omega)]; omega
  · have e : (nI L - nI 6).toInt = (L : Int) - 6 := by
      rw [Int32.toInt_sub, nI_toInt (by omega), nI_toInt (by decide), Int.bmod_eq_of_le (by omega) (by omega)]
      rfl
    rw [e]; omega
theorem eqvI {p : Program} {l : Launch} {e : Env} {R : Room} {s : State} {m : MethodId} {args : Array Value} {below : List Frame} {meth : Method} {c : Code} {H : Heap} {locs : List Loc} {cells slots : Nat} {Q : State → Prop} {ls : Array Slot} {nL pc : Nat} {own : String} {off : Int} {v : Int32} (G : CallFix p m c cL_law nL s args TB own) (hdg : decode cL_law pc = .ok (.if_icmp .eq off, 3)) (ht : (pc : Int) + off = ((1082 : Nat) : Int)) (k : W p l e R s m args below meth c H locs cells slots Q (F0 m 1082 ls [])) : W p l e R s m args below meth c H locs cells slots Q (F0 m pc ls [.int v, .int v]) := lv_icmp_eq G.1 G.2.1 hdg ht (fun _ => k) (fun h => absurd rfl h)
theorem eqvL {p : Program} {l : Launch} {e : Env} {R : Room} {s : State} {m : MethodId} {args : Array Value} {below : List Frame} {meth : Method} {c : Code} {H : Heap} {locs : List Loc} {cells slots : Nat} {Q : State → Prop} {ls : Array Slot} {nL : Nat} {own : String} {v : Int64} (G : CallFix p m c cL_law nL s args TB own) (hdg : decode cL_law 1076 = .ok (.lcmp, 1)) (k : W p l e R s m args below meth c H locs cells slots Q (F0 m 1082 ls [])) : W p l e R s m args below meth c H locs cells slots Q (F0 m 1076 ls [.long v, .long v]) := by
  refine W.lcmp G.1 G.2.1 hdg ?_
  refine lv_if_eq (tgt := 1082) G.1 G.2.1 dL_law_1077 (by decide) (fun _ => k) (fun h => absurd ?_ h)
  unfold lg_cmp
  simp
section Law10
variable {p : Program} {l : Launch} {e : Env} {s : State} {m : MethodId} {args : Array Value} {below : List Frame} {meth : Method} {c : Code} {cells slots : Nat} {Q : State → Prop}
variable {D : va_G} {cI cZ cS : ClassId} {d : Nat → Nat → Nat} {b L : Nat} {xs : Nat → Int32}
set_option maxHeartbeats 4000000 in
theorem lw_loop (Z : LZ p m c s args D cI cZ cS b L xs) (hc9 : cells ≤ room_1.cells) (hs9 : slots ≤ room_1.slots)
    (kend : ∀ (H : Heap) (locs : List Loc) (ls : Array Slot), va_S (LA s) s.heap H locs → W p l e room_1 s m args below meth c H locs cells slots Q (F0 m 1088 ls [])) :
    ∀ (f i : Nat) (x : S9) (H : Heap) (locs : List Loc) (ls : Array Slot), L ≤ i + f → i ≤ L + 6 → Inv x → WW D (LA s) s.heap (x.C cI cZ cS d ++ x.R cI cZ d) H locs → lv_has ls 4 (lvL d b i) → W p l e room_1 s m args below meth c H locs cells slots Q (F0 m 18 ls []) := by
  intro f
  induction f with
  | zero =>
    intro i x H locs ls hf hi6 hx w hl
    obtain ⟨G, K, X, hbl, hL⟩ := id Z
    refine lv_iload_n G.1 G.2.1 dL_law_18 rfl (lv_at hl 0 rfl) ?_
    refine lv_aload_n G.1 G.2.1 dL_law_19 rfl (lv_at hl 3 rfl) ?_
    refine va_slen G.1 G.2.1 X hbl (Nat.not_le.mpr hbl) w.2.2 dL_law_20 ?_
    refine lv_bipush (v := nI 6) G.1 G.2.1 dL_law_21 (by decide) ?_
    refine lv_isub (x := nI L) (y := nI 6) G.1 G.2.1 dL_law_23 ?_
    refine lv_icmp_gt (tgt := 1088) G.1 G.2.1 dL_law_24 (by decide) (fun _ => kend H locs ls w.2.2) (fun cc => absurd ((subL hL (by omega)).mpr (by omega)) cc)
  | succ f ih =>
    intro i x H locs ls hf hi6 hx w hl
    obtain ⟨G, K, X, hbl, hL⟩ := id Z
    refine lv_iload_n G.1 G.2.1 dL_law_18 rfl (lv_at hl 0 rfl) ?_
    refine lv_aload_n G.1 G.2.1 dL_law_19 rfl (lv_at hl 3 rfl) ?_
    refine va_slen G.1 G.2.1 X hbl (Nat.not_le.mpr hbl) w.2.2 dL_law_20 ?_
    refine lv_bipush (v := nI 6) G.1 G.2.1 dL_law_21 (by decide) ?_
    refine lv_isub (x := nI L) (y := nI 6) G.1 G.2.1 dL_law_23 ?_
    refine lv_icmp_gt (tgt := 1088) G.1 G.2.1 dL_law_24 (by decide) (fun _ => kend H locs ls w.2.2) (fun cc => ?_)
    have hi : i + 6 ≤ L := by
      by_cases q : i + 6 ≤ L
      · exact q
      · exact absurd ((subL hL (by omega)).mpr (by omega)) cc
    have hturn : ∀ (x' : S9) (H1 : Heap) (locs1 : List Loc), Inv x' → WW D (LA s) s.heap (x'.C cI cZ cS d ++ x'.R cI cZ d) H1 locs1 → W p l e room_1 s m args below meth c H1 locs1 cells slots Q (F0 m 1082 ls []) := by
      intro x' H1 locs1 hx' w'
      refine lv_iinc (v := nI (i + 6)) (lv' := lvL d b (i + 6)) G.1 G.2.1 dL_law_1082 hl (k := 0) rfl (nI_inc _ _) (by decide) rfl (fun ls2 hl2 => ?_)
      refine lv_goto (tgt := 18) G.1 G.2.1 dL_law_1085 (by decide) ?_
      exact ih (i + 6) x' H1 locs1 ls2 (by omega) (by omega) hx' w' hl2
    refine lv_aload_n G.1 G.2.1 dL_law_27 rfl (lv_at hl 3 rfl) ?_
    refine lv_iload_n G.1 G.2.1 dL_law_28 rfl (lv_at hl 0 rfl) ?_
    refine va_sld G.1 G.2.1 X hbl (Nat.not_le.mpr hbl) w.2.2 (i := nI i) (vp_in_nI (by omega) (by omega)) dL_law_29 ?_
    refine lv_bipush (v := nI 31) G.1 G.2.1 dL_law_30 (by decide) ?_
    refine lv_iand (x := xs (nI i).toNatClampNeg) (y := nI 31) G.1 G.2.1 dL_law_32 ?_
    generalize xs (nI i).toNatClampNeg &&& nI 31 = y
    rcases swL y with rfl | rfl | rfl | rfl | rfl | rfl | rfl | rfl | rfl | rfl | rfl | rfl | rfl | rfl | rfl | rfl | rfl | rfl | rfl | rfl | rfl | rfl | rfl | rfl | rfl | rfl | rfl | rfl | rfl | ho
    · refine lv_tableIn (tgt := 164) G.1 G.2.1 dL_law_33 (by decide) (by decide) rfl (by decide) ?_
      refine lw_put Z (st_put (xs (i + 1)) (xs (i + 2)) (xs (i + 3))) hx hi hc9 hs9 w hl (fun r x' H1 lo1 hv hx' w1 => ?_)
      obtain ⟨v, rfl⟩ := hv
      exact eqvI G dL_law_202 (by decide) (hturn x' H1 lo1 hx' w1)
    · refine lv_tableIn (tgt := 207) G.1 G.2.1 dL_law_33 (by decide) (by decide) rfl (by decide) ?_
      refine lw_close Z st_close hx hi hc9 hs9 w hl (fun r x' H1 lo1 hv hx' w1 => ?_)
      obtain ⟨v, rfl⟩ := hv
      exact eqvI G dL_law_215 (by decide) (hturn x' H1 lo1 hx' w1)
    · refine lv_tableIn (tgt := 220) G.1 G.2.1 dL_law_33 (by decide) (by decide) rfl (by decide) ?_
      refine lw_undo Z st_undo hx hi hc9 hs9 w hl (fun r x' H1 lo1 hv hx' w1 => ?_)
      obtain ⟨v, rfl⟩ := hv
      exact eqvI G dL_law_228 (by decide) (hturn x' H1 lo1 hx' w1)
    · refine lv_tableIn (tgt := 233) G.1 G.2.1 dL_law_33 (by decide) (by decide) rfl (by decide) ?_
      refine lw_cover Z (st_cover (xs (i + 1)) (xs (i + 2)) (xs (i + 3)) (xs (i + 4)) (xs (i + 5))) hx hi hc9 hs9 w hl (fun r x' H1 lo1 hv hx' w1 => ?_)
      obtain ⟨v, rfl⟩ := hv
      exact eqvI G dL_law_291 (by decide) (hturn x' H1 lo1 hx' w1)
    · refine lv_tableIn (tgt := 296) G.1 G.2.1 dL_law_33 (by decide) (by decide) rfl (by decide) ?_
      refine lw_alter Z (st_alter (xs (i + 1)) (xs (i + 2))) hx hi hc9 hs9 w hl (fun r x' H1 lo1 hv hx' w1 => ?_)
      obtain ⟨v, rfl⟩ := hv
      exact eqvI G dL_law_324 (by decide) (hturn x' H1 lo1 hx' w1)
    · refine lv_tableIn (tgt := 329) G.1 G.2.1 dL_law_33 (by decide) (by decide) rfl (by decide) ?_
      refine lw_read Z (st_read (xs (i + 1))) hx hi hc9 hs9 w hl (fun r x' H1 lo1 hv hx' w1 => ?_)
      obtain ⟨v, rfl⟩ := hv
      exact eqvI G dL_law_347 (by decide) (hturn x' H1 lo1 hx' w1)
    · refine lv_tableIn (tgt := 352) G.1 G.2.1 dL_law_33 (by decide) (by decide) rfl (by decide) ?_
      refine lw_write Z (st_write (xs (i + 1)) (xs (i + 2))) hx hi hc9 hs9 w hl (fun r x' H1 lo1 hv hx' w1 => ?_)
      obtain ⟨v, rfl⟩ := hv
      exact eqvI G dL_law_380 (by decide) (hturn x' H1 lo1 hx' w1)
    · refine lv_tableIn (tgt := 385) G.1 G.2.1 dL_law_33 (by decide) (by decide) rfl (by decide) ?_
      refine lw_revision Z (st_revision (xs (i + 1)) (xs (i + 2))) hx hi hc9 hs9 w hl (fun r x' H1 lo1 hv hx' w1 => ?_)
      obtain ⟨v, rfl⟩ := hv
      exact eqvI G dL_law_413 (by decide) (hturn x' H1 lo1 hx' w1)
    · refine lv_tableIn (tgt := 418) G.1 G.2.1 dL_law_33 (by decide) (by decide) rfl (by decide) ?_
      refine lw_bytes Z (st_bytes (xs (i + 1))) hx hi hc9 hs9 w hl (fun r x' H1 lo1 hv hx' w1 => ?_)
      obtain ⟨v, rfl⟩ := hv
      exact eqvI G dL_law_436 (by decide) (hturn x' H1 lo1 hx' w1)
    · refine lv_tableIn (tgt := 441) G.1 G.2.1 dL_law_33 (by decide) (by decide) rfl (by decide) ?_
      refine lw_thing Z (st_thing (xs (i + 1)) (xs (i + 2)) (xs (i + 3))) hx hi hc9 hs9 w hl (fun r x' H1 lo1 hv hx' w1 => ?_)
      obtain ⟨v, rfl⟩ := hv
      exact eqvI G dL_law_479 (by decide) (hturn x' H1 lo1 hx' w1)
    · refine lv_tableIn (tgt := 484) G.1 G.2.1 dL_law_33 (by decide) (by decide) rfl (by decide) ?_
      refine lw_shadows Z (st_shadows (xs (i + 1))) hx hi hc9 hs9 w hl (fun r x' H1 lo1 hv hx' w1 => ?_)
      obtain ⟨v, rfl⟩ := hv
      exact eqvI G dL_law_502 (by decide) (hturn x' H1 lo1 hx' w1)
    · refine lv_tableIn (tgt := 507) G.1 G.2.1 dL_law_33 (by decide) (by decide) rfl (by decide) ?_
      refine lw_covers Z (st_covers (xs (i + 1)) (xs (i + 2))) hx hi hc9 hs9 w hl (fun r x' H1 lo1 hv hx' w1 => ?_)
      obtain ⟨v, rfl⟩ := hv
      exact eqvI G dL_law_535 (by decide) (hturn x' H1 lo1 hx' w1)
    · refine lv_tableIn (tgt := 540) G.1 G.2.1 dL_law_33 (by decide) (by decide) rfl (by decide) ?_
      refine lw_covered Z (st_covered (xs (i + 1))) hx hi hc9 hs9 w hl (fun r x' H1 lo1 hv hx' w1 => ?_)
      obtain ⟨v, rfl⟩ := hv
      exact eqvI G dL_law_558 (by decide) (hturn x' H1 lo1 hx' w1)
    · refine lv_tableIn (tgt := 563) G.1 G.2.1 dL_law_33 (by decide) (by decide) rfl (by decide) ?_
      refine lw_number Z (st_number (xs (i + 1)) (xs (i + 2))) hx hi hc9 hs9 w hl (fun r x' H1 lo1 hv hx' w1 => ?_)
      obtain ⟨v, rfl⟩ := hv
      exact eqvI G dL_law_591 (by decide) (hturn x' H1 lo1 hx' w1)
    · refine lv_tableIn (tgt := 596) G.1 G.2.1 dL_law_33 (by decide) (by decide) rfl (by decide) ?_
      refine lw_flaws Z (st_flaws (xs (i + 1))) hx hi hc9 hs9 w hl (fun r x' H1 lo1 hv hx' w1 => ?_)
      obtain ⟨v, rfl⟩ := hv
      exact eqvI G dL_law_614 (by decide) (hturn x' H1 lo1 hx' w1)
    · refine lv_tableIn (tgt := 619) G.1 G.2.1 dL_law_33 (by decide) (by decide) rfl (by decide) ?_
      refine lw_judge Z (st_judge (xs (i + 1)) (xs (i + 2))) hx hi hc9 hs9 w hl (fun r x' H1 lo1 hv hx' w1 => ?_)
      obtain ⟨v, rfl⟩ := hv
      exact eqvI G dL_law_647 (by decide) (hturn x' H1 lo1 hx' w1)
    · refine lv_tableIn (tgt := 652) G.1 G.2.1 dL_law_33 (by decide) (by decide) rfl (by decide) ?_
      refine lw_change Z (st_change (xs (i + 1)) (xs (i + 2)) (xs (i + 3))) hx hi hc9 hs9 w hl (fun r x' H1 lo1 hv hx' w1 => ?_)
      obtain ⟨v, rfl⟩ := hv
      exact eqvI G dL_law_690 (by decide) (hturn x' H1 lo1 hx' w1)
    · refine lv_tableIn (tgt := 695) G.1 G.2.1 dL_law_33 (by decide) (by decide) rfl (by decide) ?_
      refine lw_allowed Z (st_allowed (xs (i + 1))) hx hi hc9 hs9 w hl (fun r x' H1 lo1 hv hx' w1 => ?_)
      obtain ⟨v, rfl⟩ := hv
      exact eqvI G dL_law_713 (by decide) (hturn x' H1 lo1 hx' w1)
    · refine lv_tableIn (tgt := 718) G.1 G.2.1 dL_law_33 (by decide) (by decide) rfl (by decide) ?_
      refine lw_first Z (st_first (xs (i + 1))) hx hi hc9 hs9 w hl (fun r x' H1 lo1 hv hx' w1 => ?_)
      obtain ⟨v, rfl⟩ := hv
      exact eqvI G dL_law_736 (by decide) (hturn x' H1 lo1 hx' w1)
    · refine lv_tableIn (tgt := 741) G.1 G.2.1 dL_law_33 (by decide) (by decide) rfl (by decide) ?_
      refine lw_holding Z (st_holding (xs (i + 1))) hx hi hc9 hs9 w hl (fun r x' H1 lo1 hv hx' w1 => ?_)
      obtain ⟨v, rfl⟩ := hv
      exact eqvI G dL_law_759 (by decide) (hturn x' H1 lo1 hx' w1)
    · refine lv_tableIn (tgt := 764) G.1 G.2.1 dL_law_33 (by decide) (by decide) rfl (by decide) ?_
      refine lw_better Z (st_better (xs (i + 1))) hx hi hc9 hs9 w hl (fun r x' H1 lo1 hv hx' w1 => ?_)
      obtain ⟨v, rfl⟩ := hv
      exact eqvI G dL_law_782 (by decide) (hturn x' H1 lo1 hx' w1)
    · refine lv_tableIn (tgt := 787) G.1 G.2.1 dL_law_33 (by decide) (by decide) rfl (by decide) ?_
      refine lw_sheet Z (st_sheet (xs (i + 1)) (xs (i + 2)) (xs (i + 3))) hx hi hc9 hs9 w hl (fun r x' H1 lo1 hv hx' w1 => ?_)
      obtain ⟨v, rfl⟩ := hv
      exact eqvI G dL_law_825 (by decide) (hturn x' H1 lo1 hx' w1)
    · refine lv_tableIn (tgt := 830) G.1 G.2.1 dL_law_33 (by decide) (by decide) rfl (by decide) ?_
      refine lw_lose Z (st_lose (xs (i + 1))) hx hi hc9 hs9 w hl (fun r x' H1 lo1 hv hx' w1 => ?_)
      obtain ⟨v, rfl⟩ := hv
      exact eqvI G dL_law_848 (by decide) (hturn x' H1 lo1 hx' w1)
    · refine lv_tableIn (tgt := 853) G.1 G.2.1 dL_law_33 (by decide) (by decide) rfl (by decide) ?_
      refine lw_lay Z (st_lay (xs (i + 1)) (xs (i + 2)) (xs (i + 3)) (xs (i + 4))) hx hi hc9 hs9 w hl (fun r x' H1 lo1 hv hx' w1 => ?_)
      obtain ⟨v, rfl⟩ := hv
      exact eqvI G dL_law_901 (by decide) (hturn x' H1 lo1 hx' w1)
    · refine lv_tableIn (tgt := 906) G.1 G.2.1 dL_law_33 (by decide) (by decide) rfl (by decide) ?_
      refine lw_get Z (st_get (xs (i + 1)) (xs (i + 2)) (xs (i + 3))) hx hi hc9 hs9 w hl (fun r x' H1 lo1 hv hx' w1 => ?_)
      obtain ⟨v, rfl⟩ := hv
      exact eqvI G dL_law_944 (by decide) (hturn x' H1 lo1 hx' w1)
    · refine lv_tableIn (tgt := 949) G.1 G.2.1 dL_law_33 (by decide) (by decide) rfl (by decide) ?_
      refine lw_copy Z (st_copy (xs (i + 1)) (xs (i + 2)) (xs (i + 3)) (xs (i + 4)) (xs (i + 5))) hx hi hc9 hs9 w hl (fun r x' H1 lo1 hv hx' w1 => ?_)
      obtain ⟨v, rfl⟩ := hv
      exact eqvI G dL_law_1007 (by decide) (hturn x' H1 lo1 hx' w1)
    · refine lv_tableIn (tgt := 1012) G.1 G.2.1 dL_law_33 (by decide) (by decide) rfl (by decide) ?_
      refine lw_tell Z (st_tell (xs (i + 1)) (xs (i + 2))) hx hi hc9 hs9 w hl (fun r x' H1 lo1 hv hx' w1 => ?_)
      obtain ⟨v, rfl⟩ := hv
      exact eqvI G dL_law_1040 (by decide) (hturn x' H1 lo1 hx' w1)
    · refine lv_tableIn (tgt := 1045) G.1 G.2.1 dL_law_33 (by decide) (by decide) rfl (by decide) ?_
      refine lw_count Z (st_count (xs (i + 1))) hx hi hc9 hs9 w hl (fun r x' H1 lo1 hv hx' w1 => ?_)
      obtain ⟨v, rfl⟩ := hv
      exact eqvI G dL_law_1063 (by decide) (hturn x' H1 lo1 hx' w1)
    · refine lv_tableIn (tgt := 1068) G.1 G.2.1 dL_law_33 (by decide) (by decide) rfl (by decide) ?_
      refine lw_digest Z st_digest hx hi hc9 hs9 w hl (fun r x' H1 lo1 hv hx' w1 => ?_)
      obtain ⟨v, rfl⟩ := hv
      exact eqvL G dL_law_1076 (hturn x' H1 lo1 hx' w1)
    · refine lv_tableOut (tgt := 1082) G.1 G.2.1 dL_law_33 ho (by decide) ?_
      exact hturn x H locs hx w
end Law10
