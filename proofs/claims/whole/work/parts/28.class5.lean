section
variable {l : Launch} {D : va_G} {cI cZ cS : ClassId}

set_option maxHeartbeats 4000000 in
set_option maxRecDepth 100000 in
theorem c_X5_isThing (x : Int32) : CP l D (TY cI cZ cS) yX5_isThing cX5_isThing 1 .boolean 0 [.int x] [] (.int (bI (okR 15 x))) := by
  refine CP.ofI (by decide +kernel) (Nat.le_of_ble_eq_true rfl) (bI_nar _) ?_
  intro p e s m args below meth c Q G K hP hret ls hl
  obtain ⟨hx, hb, hml, hown, hts⟩ := id G
  have hl : lv_has ls 1 [(0, .int x)] := hl
  refine lv_iload_n hx hb dX5_isThing_0 rfl (lv_at hl 0 rfl) ?_
  refine lv_if_lt (tgt := 14) hx hb dX5_isThing_1 (by decide) (fun c1 => ?_) (fun c1 => ?_)
  · -- taken at 1
    refine lv_iconst (v := (nI 0)) hx hb dX5_isThing_14 (by decide) ?_
    exact hret _ _ _ (by first | exact b1 (okW_R.mp (has_iff (m := 16) (by decide) c1 c7)) | exact b0 (fun h => has_lt (m := 16) (by decide) c1 (okW_R.mpr h)) | exact b0 (fun h => has_ge (m := 16) (by decide) c7 (okW_R.mpr h))) dX5_isThing_15
  · -- not taken at 1
    refine lv_iload_n hx hb dX5_isThing_4 rfl (lv_at hl 0 rfl) ?_
    refine lv_bipush (v := (nI 16)) hx hb dX5_isThing_5 (by decide) ?_
    refine lv_icmp_ge (tgt := 14) hx hb dX5_isThing_7 (by decide) (fun c7 => ?_) (fun c7 => ?_)
    · -- taken at 7
      refine lv_iconst (v := (nI 0)) hx hb dX5_isThing_14 (by decide) ?_
      exact hret _ _ _ (by first | exact b1 (okW_R.mp (has_iff (m := 16) (by decide) c1 c7)) | exact b0 (fun h => has_lt (m := 16) (by decide) c1 (okW_R.mpr h)) | exact b0 (fun h => has_ge (m := 16) (by decide) c7 (okW_R.mpr h))) dX5_isThing_15
    · -- not taken at 7
      refine lv_iconst (v := (nI 1)) hx hb dX5_isThing_10 (by decide) ?_
      refine lv_goto (tgt := 15) hx hb dX5_isThing_11 (by decide) ?_
      exact hret _ _ _ (by first | exact b1 (okW_R.mp (has_iff (m := 16) (by decide) c1 c7)) | exact b0 (fun h => has_lt (m := 16) (by decide) c1 (okW_R.mpr h)) | exact b0 (fun h => has_ge (m := 16) (by decide) c7 (okW_R.mpr h))) dX5_isThing_15
set_option maxHeartbeats 4000000 in
set_option maxRecDepth 100000 in
theorem c_X5_isSheet (x : Int32) : CP l D (TY cI cZ cS) yX5_isSheet cX5_isSheet 1 .boolean 0 [.int x] [] (.int (bI (okR 3 x))) := by
  refine CP.ofI (by decide +kernel) (Nat.le_of_ble_eq_true rfl) (bI_nar _) ?_
  intro p e s m args below meth c Q G K hP hret ls hl
  obtain ⟨hx, hb, hml, hown, hts⟩ := id G
  have hl : lv_has ls 1 [(0, .int x)] := hl
  refine lv_iload_n hx hb dX5_isSheet_0 rfl (lv_at hl 0 rfl) ?_
  refine lv_if_lt (tgt := 13) hx hb dX5_isSheet_1 (by decide) (fun c1 => ?_) (fun c1 => ?_)
  · -- taken at 1
    refine lv_iconst (v := (nI 0)) hx hb dX5_isSheet_13 (by decide) ?_
    exact hret _ _ _ (by first | exact b1 (okW_R.mp (has_iff (m := 4) (by decide) c1 c6)) | exact b0 (fun h => has_lt (m := 4) (by decide) c1 (okW_R.mpr h)) | exact b0 (fun h => has_ge (m := 4) (by decide) c6 (okW_R.mpr h))) dX5_isSheet_14
  · -- not taken at 1
    refine lv_iload_n hx hb dX5_isSheet_4 rfl (lv_at hl 0 rfl) ?_
    refine lv_iconst (v := (nI 4)) hx hb dX5_isSheet_5 (by decide) ?_
    refine lv_icmp_ge (tgt := 13) hx hb dX5_isSheet_6 (by decide) (fun c6 => ?_) (fun c6 => ?_)
    · -- taken at 6
      refine lv_iconst (v := (nI 0)) hx hb dX5_isSheet_13 (by decide) ?_
      exact hret _ _ _ (by first | exact b1 (okW_R.mp (has_iff (m := 4) (by decide) c1 c6)) | exact b0 (fun h => has_lt (m := 4) (by decide) c1 (okW_R.mpr h)) | exact b0 (fun h => has_ge (m := 4) (by decide) c6 (okW_R.mpr h))) dX5_isSheet_14
    · -- not taken at 6
      refine lv_iconst (v := (nI 1)) hx hb dX5_isSheet_9 (by decide) ?_
      refine lv_goto (tgt := 14) hx hb dX5_isSheet_10 (by decide) ?_
      exact hret _ _ _ (by first | exact b1 (okW_R.mp (has_iff (m := 4) (by decide) c1 c6)) | exact b0 (fun h => has_lt (m := 4) (by decide) c1 (okW_R.mpr h)) | exact b0 (fun h => has_ge (m := 4) (by decide) c6 (okW_R.mpr h))) dX5_isSheet_14
set_option maxHeartbeats 4000000 in
set_option maxRecDepth 100000 in
theorem c_X5_isForm (x : Int32) : CP l D (TY cI cZ cS) yX5_isForm cX5_isForm 1 .boolean 0 [.int x] [] (.int (bI (okR 2 x))) := by
  refine CP.ofI (by decide +kernel) (Nat.le_of_ble_eq_true rfl) (bI_nar _) ?_
  intro p e s m args below meth c Q G K hP hret ls hl
  obtain ⟨hx, hb, hml, hown, hts⟩ := id G
  have hl : lv_has ls 1 [(0, .int x)] := hl
  refine lv_iload_n hx hb dX5_isForm_0 rfl (lv_at hl 0 rfl) ?_
  refine lv_if_lt (tgt := 13) hx hb dX5_isForm_1 (by decide) (fun c1 => ?_) (fun c1 => ?_)
  · -- taken at 1
    refine lv_iconst (v := (nI 0)) hx hb dX5_isForm_13 (by decide) ?_
    exact hret _ _ _ (by first | exact b1 (okW_R.mp (has_iff (m := 3) (by decide) c1 c6)) | exact b0 (fun h => has_lt (m := 3) (by decide) c1 (okW_R.mpr h)) | exact b0 (fun h => has_ge (m := 3) (by decide) c6 (okW_R.mpr h))) dX5_isForm_14
  · -- not taken at 1
    refine lv_iload_n hx hb dX5_isForm_4 rfl (lv_at hl 0 rfl) ?_
    refine lv_iconst (v := (nI 3)) hx hb dX5_isForm_5 (by decide) ?_
    refine lv_icmp_ge (tgt := 13) hx hb dX5_isForm_6 (by decide) (fun c6 => ?_) (fun c6 => ?_)
    · -- taken at 6
      refine lv_iconst (v := (nI 0)) hx hb dX5_isForm_13 (by decide) ?_
      exact hret _ _ _ (by first | exact b1 (okW_R.mp (has_iff (m := 3) (by decide) c1 c6)) | exact b0 (fun h => has_lt (m := 3) (by decide) c1 (okW_R.mpr h)) | exact b0 (fun h => has_ge (m := 3) (by decide) c6 (okW_R.mpr h))) dX5_isForm_14
    · -- not taken at 6
      refine lv_iconst (v := (nI 1)) hx hb dX5_isForm_9 (by decide) ?_
      refine lv_goto (tgt := 14) hx hb dX5_isForm_10 (by decide) ?_
      exact hret _ _ _ (by first | exact b1 (okW_R.mp (has_iff (m := 3) (by decide) c1 c6)) | exact b0 (fun h => has_lt (m := 3) (by decide) c1 (okW_R.mpr h)) | exact b0 (fun h => has_ge (m := 3) (by decide) c6 (okW_R.mpr h))) dX5_isForm_14
set_option maxHeartbeats 4000000 in
set_option maxRecDepth 100000 in
theorem c_X5_mayBeValue (k : Int32) (v : Int32) : CP l D (TY cI cZ cS) yX5_mayBeValue cX5_mayBeValue 2 .boolean 0 [.int k, .int v] [] (.int (bI (0 ≤ v ∧ v ≤ (if k = nI 4 then 2 else 65535)))) := by
  refine CP.ofI (by decide +kernel) (Nat.le_of_ble_eq_true rfl) (bI_nar _) ?_
  intro p e s m args below meth c Q G K hP hret ls hl
  obtain ⟨hx, hb, hml, hown, hts⟩ := id G
  have hl : lv_has ls 2 [(0, .int k), (1, .int v)] := hl
  refine lv_iload_n hx hb dX5_mayBeValue_0 rfl (lv_at hl 1 rfl) ?_
  refine lv_if_lt (tgt := 24) hx hb dX5_mayBeValue_1 (by decide) (fun c1 => ?_) (fun c1 => ?_)
  · -- taken at 1
    refine lv_iconst (v := (nI 0)) hx hb dX5_mayBeValue_24 (by decide) ?_
    exact hret _ _ _ (by first | exact b0 (fun h => neg_nge c1 h.1) | exact b1 ⟨nneg_ge c1, by rw [if_pos c7]; exact nlt_le c17⟩ | exact b1 ⟨nneg_ge c1, by rw [if_neg c7]; exact nlt_le c17⟩ | exact b0 (fun h => by have h2 := h.2; rw [if_pos c7] at h2; exact lt_nle c17 h2) | exact b0 (fun h => by have h2 := h.2; rw [if_neg c7] at h2; exact lt_nle c17 h2)) dX5_mayBeValue_25
  · -- not taken at 1
    refine lv_iload_n hx hb dX5_mayBeValue_4 rfl (lv_at hl 1 rfl) ?_
    refine lv_iload_n hx hb dX5_mayBeValue_5 rfl (lv_at hl 0 rfl) ?_
    refine lv_iconst (v := (nI 4)) hx hb dX5_mayBeValue_6 (by decide) ?_
    refine lv_icmp_ne (tgt := 14) hx hb dX5_mayBeValue_7 (by decide) (fun c7 => ?_) (fun c7 => ?_)
    · -- taken at 7
      refine lv_ldcw hx hb hown (hts _ kc_X5_342) dX5_mayBeValue_14 ?_
      refine t_i (y := nI 65535) (by decide) ?_
      refine lv_icmp_gt (tgt := 24) hx hb dX5_mayBeValue_17 (by decide) (fun c17 => ?_) (fun c17 => ?_)
      · -- taken at 17
        refine lv_iconst (v := (nI 0)) hx hb dX5_mayBeValue_24 (by decide) ?_
        exact hret _ _ _ (by first | exact b0 (fun h => neg_nge c1 h.1) | exact b1 ⟨nneg_ge c1, by rw [if_pos c7]; exact nlt_le c17⟩ | exact b1 ⟨nneg_ge c1, by rw [if_neg c7]; exact nlt_le c17⟩ | exact b0 (fun h => by have h2 := h.2; rw [if_pos c7] at h2; exact lt_nle c17 h2) | exact b0 (fun h => by have h2 := h.2; rw [if_neg c7] at h2; exact lt_nle c17 h2)) dX5_mayBeValue_25
      · -- not taken at 17
        refine lv_iconst (v := (nI 1)) hx hb dX5_mayBeValue_20 (by decide) ?_
        refine lv_goto (tgt := 25) hx hb dX5_mayBeValue_21 (by decide) ?_
        exact hret _ _ _ (by first | exact b0 (fun h => neg_nge c1 h.1) | exact b1 ⟨nneg_ge c1, by rw [if_pos c7]; exact nlt_le c17⟩ | exact b1 ⟨nneg_ge c1, by rw [if_neg c7]; exact nlt_le c17⟩ | exact b0 (fun h => by have h2 := h.2; rw [if_pos c7] at h2; exact lt_nle c17 h2) | exact b0 (fun h => by have h2 := h.2; rw [if_neg c7] at h2; exact lt_nle c17 h2)) dX5_mayBeValue_25
    · -- not taken at 7
      refine lv_iconst (v := (nI 2)) hx hb dX5_mayBeValue_10 (by decide) ?_
      refine lv_goto (tgt := 17) hx hb dX5_mayBeValue_11 (by decide) ?_
      refine lv_icmp_gt (tgt := 24) hx hb dX5_mayBeValue_17 (by decide) (fun c17 => ?_) (fun c17 => ?_)
      · -- taken at 17
        refine lv_iconst (v := (nI 0)) hx hb dX5_mayBeValue_24 (by decide) ?_
        exact hret _ _ _ (by first | exact b0 (fun h => neg_nge c1 h.1) | exact b1 ⟨nneg_ge c1, by rw [if_pos c7]; exact nlt_le c17⟩ | exact b1 ⟨nneg_ge c1, by rw [if_neg c7]; exact nlt_le c17⟩ | exact b0 (fun h => by have h2 := h.2; rw [if_pos c7] at h2; exact lt_nle c17 h2) | exact b0 (fun h => by have h2 := h.2; rw [if_neg c7] at h2; exact lt_nle c17 h2)) dX5_mayBeValue_25
      · -- not taken at 17
        refine lv_iconst (v := (nI 1)) hx hb dX5_mayBeValue_20 (by decide) ?_
        refine lv_goto (tgt := 25) hx hb dX5_mayBeValue_21 (by decide) ?_
        exact hret _ _ _ (by first | exact b0 (fun h => neg_nge c1 h.1) | exact b1 ⟨nneg_ge c1, by rw [if_pos c7]; exact nlt_le c17⟩ | exact b1 ⟨nneg_ge c1, by rw [if_neg c7]; exact nlt_le c17⟩ | exact b0 (fun h => by have h2 := h.2; rw [if_pos c7] at h2; exact lt_nle c17 h2) | exact b0 (fun h => by have h2 := h.2; rw [if_neg c7] at h2; exact lt_nle c17 h2)) dX5_mayBeValue_25
set_option maxHeartbeats 4000000 in
set_option maxRecDepth 100000 in
theorem c_X5_mayBeWrite (t : Int32) (k : Int32) (v : Int32) : CP l D (TY cI cZ cS) yX5_mayBeWrite cX5_mayBeWrite 3 .boolean 1 [.int t, .int k, .int v] [] (.int (bI (okP t k v))) := by
  refine CP.ofI (by decide +kernel) (Nat.le_of_ble_eq_true rfl) (bI_nar _) ?_
  intro p e s m args below meth c Q G K hP hret ls hl
  obtain ⟨hx, hb, hml, hown, hts⟩ := id G
  have hl : lv_has ls 3 [(0, .int t), (1, .int k), (2, .int v)] := hl
  refine lv_iload_n hx hb dX5_mayBeWrite_0 rfl (lv_at hl 0 rfl) ?_
  refine callPS (rest := []) G K F_X5_isThing (c_X5_isThing t) (va_P_nil D s.heap) ml_X5_159 (by decide) (by decide) rfl hl.1 (Nat.le_of_ble_eq_true rfl) dX5_mayBeWrite_1 ?_
  refine b_eq G (tgt := 28) dX5_mayBeWrite_4 (by decide) (fun c4 => ?_) (fun c4 => ?_)
  · -- taken at 4
    refine lv_iconst (v := (nI 0)) hx hb dX5_mayBeWrite_28 (by decide) ?_
    exact hret _ _ _ (by first | exact b1 (okP_i c4 c8 c13 c21) | exact b0 (fun h => c4 (okP_1 h)) | exact b0 (fun h => hr_lt (m := 5) (by decide) c8 (okP_2 h)) | exact b0 (fun h => hr_gt (m := 5) (by decide) c13 (okP_2 h)) | exact b0 (fun h => c21 (okP_3 h))) dX5_mayBeWrite_29
  · -- not taken at 4
    refine lv_iload_n hx hb dX5_mayBeWrite_7 rfl (lv_at hl 1 rfl) ?_
    refine lv_if_lt (tgt := 28) hx hb dX5_mayBeWrite_8 (by decide) (fun c8 => ?_) (fun c8 => ?_)
    · -- taken at 8
      refine lv_iconst (v := (nI 0)) hx hb dX5_mayBeWrite_28 (by decide) ?_
      exact hret _ _ _ (by first | exact b1 (okP_i c4 c8 c13 c21) | exact b0 (fun h => c4 (okP_1 h)) | exact b0 (fun h => hr_lt (m := 5) (by decide) c8 (okP_2 h)) | exact b0 (fun h => hr_gt (m := 5) (by decide) c13 (okP_2 h)) | exact b0 (fun h => c21 (okP_3 h))) dX5_mayBeWrite_29
    · -- not taken at 8
      refine lv_iload_n hx hb dX5_mayBeWrite_11 rfl (lv_at hl 1 rfl) ?_
      refine lv_iconst (v := (nI 5)) hx hb dX5_mayBeWrite_12 (by decide) ?_
      refine lv_icmp_gt (tgt := 28) hx hb dX5_mayBeWrite_13 (by decide) (fun c13 => ?_) (fun c13 => ?_)
      · -- taken at 13
        refine lv_iconst (v := (nI 0)) hx hb dX5_mayBeWrite_28 (by decide) ?_
        exact hret _ _ _ (by first | exact b1 (okP_i c4 c8 c13 c21) | exact b0 (fun h => c4 (okP_1 h)) | exact b0 (fun h => hr_lt (m := 5) (by decide) c8 (okP_2 h)) | exact b0 (fun h => hr_gt (m := 5) (by decide) c13 (okP_2 h)) | exact b0 (fun h => c21 (okP_3 h))) dX5_mayBeWrite_29
      · -- not taken at 13
        refine lv_iload_n hx hb dX5_mayBeWrite_16 rfl (lv_at hl 1 rfl) ?_
        refine lv_iload_n hx hb dX5_mayBeWrite_17 rfl (lv_at hl 2 rfl) ?_
        refine callPS (rest := []) G K F_X5_mayBeValue (c_X5_mayBeValue k v) (va_P_nil D s.heap) ml_X5_106 (by decide) (by decide) rfl hl.1 (Nat.le_of_ble_eq_true rfl) dX5_mayBeWrite_18 ?_
        refine b_eq G (tgt := 28) dX5_mayBeWrite_21 (by decide) (fun c21 => ?_) (fun c21 => ?_)
        · -- taken at 21
          refine lv_iconst (v := (nI 0)) hx hb dX5_mayBeWrite_28 (by decide) ?_
          exact hret _ _ _ (by first | exact b1 (okP_i c4 c8 c13 c21) | exact b0 (fun h => c4 (okP_1 h)) | exact b0 (fun h => hr_lt (m := 5) (by decide) c8 (okP_2 h)) | exact b0 (fun h => hr_gt (m := 5) (by decide) c13 (okP_2 h)) | exact b0 (fun h => c21 (okP_3 h))) dX5_mayBeWrite_29
        · -- not taken at 21
          refine lv_iconst (v := (nI 1)) hx hb dX5_mayBeWrite_24 (by decide) ?_
          refine lv_goto (tgt := 29) hx hb dX5_mayBeWrite_25 (by decide) ?_
          exact hret _ _ _ (by first | exact b1 (okP_i c4 c8 c13 c21) | exact b0 (fun h => c4 (okP_1 h)) | exact b0 (fun h => hr_lt (m := 5) (by decide) c8 (okP_2 h)) | exact b0 (fun h => hr_gt (m := 5) (by decide) c13 (okP_2 h)) | exact b0 (fun h => c21 (okP_3 h))) dX5_mayBeWrite_29
set_option maxHeartbeats 4000000 in
set_option maxRecDepth 100000 in
theorem c_X5_write (aS : Nat → Nat) (aE : Nat → Nat) (la : Int32) (aW : Nat → Nat) (n : Nat) (cl : Nat) (th : Nat → Nat) (ki : Nat → Nat) (va : Nat → Nat) (re : Nat → Nat) (fi : Nat → Nat) (aB : Nat → Nat) (bt : Nat → Nat) (bs : Nat) (aC : Nat → Nat) (to : Nat → Prop) (co : Nat → Nat) (ke : Nat → Int32) (nu : Nat → Int32) (fw : Nat → Nat) (aH : Nat → Nat) (lt : Nat → Option Nat) (tr : Nat → Nat) (sh : Nat → Nat) (cr : Nat → Nat) (ct : Nat → Nat) (cu : Nat → Nat) (ve : Nat → Nat) (ta : Nat → Nat) (ch : Nat) (aT : Nat → Nat) (lt2 : Nat → Option Nat) (tr2 : Nat → Nat) (sh2 : Nat → Nat) (cr2 : Nat → Nat) (ct2 : Nat → Nat) (cu2 : Nat → Nat) (ve2 : Nat → Nat) (ta2 : Nat → Nat) (ch2 : Nat) (lo : Nat → Prop) (fo : Nat → Nat) (si : Nat → Nat) (it : Nat → Nat → Int32) (x : Int32) (q : Int32) (J : IW n cl th ki va re fi) (S : SW n cl re fi) (B9 : (∀ j, bt j ≤ 255) ∧ bs ≤ 216) (C9 : (∀ j, co j ≤ 400) ∧ (∀ j, fw j ≤ 15)) (H9 : IHd lt tr sh cr ct cu ve ta ch) (U9 : IHd lt2 tr2 sh2 cr2 ct2 cu2 ve2 ta2 ch2) (E9 : (∀ j, fo j ≤ 2) ∧ (∀ j, si j ≤ 60)) : CP l D (TY cI cZ cS) yX5_write cX5_write 3 .int 1 [.ref (aS 0), .int x, .int q] ((wS cS aS (aW 0) (aB 0) (aC 0) (aH 0) (aT 0) aE la) ++ ((wW cI aW n cl th ki va re fi) ++ ((wB cI aB bt bs) ++ ((wC cI cZ aC (aW 0) (aB 0) to co ke nu fw) ++ ((wH cI aH (aW 0) lt tr sh cr ct cu ve ta ch) ++ ((wH cI aT (aW 0) lt2 tr2 sh2 cr2 ct2 cu2 ve2 ta2 ch2) ++ (wE cI aE lo fo si it))))))) (.int (wrV th ki va re n x q)) := by
  refine CP.ofI (by decide +kernel) (Nat.le_of_ble_eq_true rfl) (nar_int _) ?_
  intro p e s m args below meth c Q G K hP hret ls hl
  obtain ⟨hx, hb, hml, hown, hts⟩ := id G
  obtain ⟨hn, hcl, hth, hki, hva, hre, hfi⟩ := id J
  obtain ⟨hbt, hbs⟩ := id B9
  obtain ⟨hco, hfw⟩ := id C9
  obtain ⟨hlt, htr, hsh, hcr, hct, hcu, hve, hta, hch⟩ := id H9
  obtain ⟨hlt2, htr2, hsh2, hcr2, hct2, hcu2, hve2, hta2, hch2⟩ := id U9
  obtain ⟨hfo, hsi⟩ := id E9
  have hl : lv_has ls 3 [(0, .ref (aS 0)), (1, .int x), (2, .int q)] := hl
  refine lv_aload_n hx hb dX5_write_0 rfl (lv_at hl 0 rfl) ?_
  refine f_get G K hP inX5 0 (ci := 5) rfl rfl 0 rfl fl_X5_12 (v := .ref (aW 0)) rfl dX5_write_1 ?_
  refine lv_iload_n hx hb dX5_write_4 rfl (lv_at hl 1 rfl) ?_
  refine callPV (As := [.int x]) (rest := []) (q0 := 0) (ci := 4) G K F_X4_has (c_X4_has aW n cl th ki va re fi x J) (hP.sub (ws' := (wW cI aW n cl th ki va re fi)) [2, 3, 4, 5, 6, 7] rfl) ml_X5_88 rfl rfl rfl (by decide) (by decide) rfl hl.1 (Nat.le_of_ble_eq_true rfl) dX5_write_5 ?_
  refine b_ne G (tgt := 14) dX5_write_8 (by decide) (fun c8 => ?_) (fun c8 => ?_)
  · -- taken at 8
    obtain ⟨k, hk, rfl⟩ := c8
    refine lv_iload_n hx hb dX5_write_14 rfl (lv_at hl 2 rfl) ?_
    rcases sw4 q with rfl | rfl | rfl | rfl | rfl | hsw15
    · -- 0
      refine lv_tableIn (off := 33) (tgt := 48) hx hb dX5_write_15 (by decide) (by decide) (by decide) (by decide) ?_
      refine lv_aload_n hx hb dX5_write_48 rfl (lv_at hl 0 rfl) ?_
      refine f_get G K hP inX5 0 (ci := 5) rfl rfl 0 rfl fl_X5_12 (v := .ref (aW 0)) rfl dX5_write_49 ?_
      refine f_get G K hP inX4 2 (ci := 4) rfl rfl 0 rfl fl_X5_135 (v := .ref (aW 1)) rfl dX5_write_52 ?_
      refine lv_iload_n hx hb dX5_write_55 rfl (lv_at hl 1 rfl) ?_
      refine a_ldN G K hP 3 0 (a := (aW 1)) rfl rfl (by omega) (by decide) dX5_write_56 ?_
      have hb1 := hth k
      exact hret _ _ _ (wrV_k hn hk (j := 0) (by decide)) dX5_write_57
    · -- 1
      refine lv_tableIn (off := 43) (tgt := 58) hx hb dX5_write_15 (by decide) (by decide) (by decide) (by decide) ?_
      refine lv_aload_n hx hb dX5_write_58 rfl (lv_at hl 0 rfl) ?_
      refine f_get G K hP inX5 0 (ci := 5) rfl rfl 0 rfl fl_X5_12 (v := .ref (aW 0)) rfl dX5_write_59 ?_
      refine f_get G K hP inX4 2 (ci := 4) rfl rfl 1 rfl fl_X5_102 (v := .ref (aW 2)) rfl dX5_write_62 ?_
      refine lv_iload_n hx hb dX5_write_65 rfl (lv_at hl 1 rfl) ?_
      refine a_ldN G K hP 4 0 (a := (aW 2)) rfl rfl (by omega) (by decide) dX5_write_66 ?_
      have hb2 := hki k
      exact hret _ _ _ (wrV_k hn hk (j := 1) (by decide)) dX5_write_67
    · -- 2
      refine lv_tableIn (off := 53) (tgt := 68) hx hb dX5_write_15 (by decide) (by decide) (by decide) (by decide) ?_
      refine lv_aload_n hx hb dX5_write_68 rfl (lv_at hl 0 rfl) ?_
      refine f_get G K hP inX5 0 (ci := 5) rfl rfl 0 rfl fl_X5_12 (v := .ref (aW 0)) rfl dX5_write_69 ?_
      refine f_get G K hP inX4 2 (ci := 4) rfl rfl 2 rfl fl_X5_110 (v := .ref (aW 3)) rfl dX5_write_72 ?_
      refine lv_iload_n hx hb dX5_write_75 rfl (lv_at hl 1 rfl) ?_
      refine a_ldN G K hP 5 0 (a := (aW 3)) rfl rfl (by omega) (by decide) dX5_write_76 ?_
      have hb3 := hva k
      exact hret _ _ _ (wrV_k hn hk (j := 2) (by decide)) dX5_write_77
    · -- 3
      refine lv_tableIn (off := 63) (tgt := 78) hx hb dX5_write_15 (by decide) (by decide) (by decide) (by decide) ?_
      refine lv_aload_n hx hb dX5_write_78 rfl (lv_at hl 0 rfl) ?_
      refine f_get G K hP inX5 0 (ci := 5) rfl rfl 0 rfl fl_X5_12 (v := .ref (aW 0)) rfl dX5_write_79 ?_
      refine f_get G K hP inX4 2 (ci := 4) rfl rfl 3 rfl fl_X5_138 (v := .ref (aW 4)) rfl dX5_write_82 ?_
      refine lv_iload_n hx hb dX5_write_85 rfl (lv_at hl 1 rfl) ?_
      refine a_ldN G K hP 6 0 (a := (aW 4)) rfl rfl (by omega) (by decide) dX5_write_86 ?_
      have hb4 := hre k
      exact hret _ _ _ (wrV_k hn hk (j := 3) (by decide)) dX5_write_87
    · -- 4
      refine lv_tableIn (off := 73) (tgt := 88) hx hb dX5_write_15 (by decide) (by decide) (by decide) (by decide) ?_
      refine lv_aload_n hx hb dX5_write_88 rfl (lv_at hl 0 rfl) ?_
      refine f_get G K hP inX5 0 (ci := 5) rfl rfl 0 rfl fl_X5_12 (v := .ref (aW 0)) rfl dX5_write_89 ?_
      refine lv_iload_n hx hb dX5_write_92 rfl (lv_at hl 1 rfl) ?_
      refine callPV (As := [.int (nI k)]) (rest := []) (q0 := 0) (ci := 4) G K F_X4_firstByte (c_X4_firstByte aW n cl th ki va re fi k J (by omega)) (hP.sub (ws' := (wW cI aW n cl th ki va re fi)) [2, 3, 4, 5, 6, 7] rfl) ml_X5_113 rfl rfl rfl (by decide) (by decide) rfl hl.1 (Nat.le_of_ble_eq_true rfl) dX5_write_93 ?_
      exact hret _ _ _ (wrV_k hn hk (j := 4) (by decide)) dX5_write_96
    · -- other
      refine lv_tableOut (tgt := 97) hx hb dX5_write_15 hsw15 (by decide) ?_
      refine lv_bipush (v := (-2)) hx hb dX5_write_97 (by decide) ?_
      exact hret _ _ _ (by first | exact wrV_w c8 | exact wrV_o (sw_no (m := 4) (by decide) hsw15)) dX5_write_99
  · -- not taken at 8
    refine lv_bipush (v := (-2)) hx hb dX5_write_11 (by decide) ?_
    exact hret _ _ _ (by first | exact wrV_w c8 | exact wrV_o (sw_no (m := 4) (by decide) hsw15)) dX5_write_13
set_option maxHeartbeats 4000000 in
set_option maxRecDepth 100000 in
theorem c_X5_revision (aS : Nat → Nat) (aE : Nat → Nat) (la : Int32) (aW : Nat → Nat) (n : Nat) (cl : Nat) (th : Nat → Nat) (ki : Nat → Nat) (va : Nat → Nat) (re : Nat → Nat) (fi : Nat → Nat) (aB : Nat → Nat) (bt : Nat → Nat) (bs : Nat) (aC : Nat → Nat) (to : Nat → Prop) (co : Nat → Nat) (ke : Nat → Int32) (nu : Nat → Int32) (fw : Nat → Nat) (aH : Nat → Nat) (lt : Nat → Option Nat) (tr : Nat → Nat) (sh : Nat → Nat) (cr : Nat → Nat) (ct : Nat → Nat) (cu : Nat → Nat) (ve : Nat → Nat) (ta : Nat → Nat) (ch : Nat) (aT : Nat → Nat) (lt2 : Nat → Option Nat) (tr2 : Nat → Nat) (sh2 : Nat → Nat) (cr2 : Nat → Nat) (ct2 : Nat → Nat) (cu2 : Nat → Nat) (ve2 : Nat → Nat) (ta2 : Nat → Nat) (ch2 : Nat) (lo : Nat → Prop) (fo : Nat → Nat) (si : Nat → Nat) (it : Nat → Nat → Int32) (x : Int32) (q : Int32) (J : IW n cl th ki va re fi) (S : SW n cl re fi) (B9 : (∀ j, bt j ≤ 255) ∧ bs ≤ 216) (C9 : (∀ j, co j ≤ 400) ∧ (∀ j, fw j ≤ 15)) (H9 : IHd lt tr sh cr ct cu ve ta ch) (U9 : IHd lt2 tr2 sh2 cr2 ct2 cu2 ve2 ta2 ch2) (E9 : (∀ j, fo j ≤ 2) ∧ (∀ j, si j ≤ 60)) : CP l D (TY cI cZ cS) yX5_revision cX5_revision 3 .int 1 [.ref (aS 0), .int x, .int q] ((wS cS aS (aW 0) (aB 0) (aC 0) (aH 0) (aT 0) aE la) ++ ((wW cI aW n cl th ki va re fi) ++ ((wB cI aB bt bs) ++ ((wC cI cZ aC (aW 0) (aB 0) to co ke nu fw) ++ ((wH cI aH (aW 0) lt tr sh cr ct cu ve ta ch) ++ ((wH cI aT (aW 0) lt2 tr2 sh2 cr2 ct2 cu2 ve2 ta2 ch2) ++ (wE cI aE lo fo si it))))))) (.int (rvV re n cl x q)) := by
  refine CP.ofI (by decide +kernel) (Nat.le_of_ble_eq_true rfl) (nar_int _) ?_
  intro p e s m args below meth c Q G K hP hret ls hl
  obtain ⟨hx, hb, hml, hown, hts⟩ := id G
  obtain ⟨hn, hcl, hth, hki, hva, hre, hfi⟩ := id J
  obtain ⟨hbt, hbs⟩ := id B9
  obtain ⟨hco, hfw⟩ := id C9
  obtain ⟨hlt, htr, hsh, hcr, hct, hcu, hve, hta, hch⟩ := id H9
  obtain ⟨hlt2, htr2, hsh2, hcr2, hct2, hcu2, hve2, hta2, hch2⟩ := id U9
  obtain ⟨hfo, hsi⟩ := id E9
  have hl : lv_has ls 3 [(0, .ref (aS 0)), (1, .int x), (2, .int q)] := hl
  refine lv_aload_n hx hb dX5_revision_0 rfl (lv_at hl 0 rfl) ?_
  refine f_get G K hP inX5 0 (ci := 5) rfl rfl 0 rfl fl_X5_12 (v := .ref (aW 0)) rfl dX5_revision_1 ?_
  refine lv_iload_n hx hb dX5_revision_4 rfl (lv_at hl 1 rfl) ?_
  refine callPV (As := [.int x]) (rest := []) (q0 := 0) (ci := 4) G K F_X4_hasRevision (c_X4_hasRevision aW n cl th ki va re fi x J) (hP.sub (ws' := (wW cI aW n cl th ki va re fi)) [2, 3, 4, 5, 6, 7] rfl) ml_X5_141 rfl rfl rfl (by decide) (by decide) rfl hl.1 (Nat.le_of_ble_eq_true rfl) dX5_revision_5 ?_
  refine b_ne G (tgt := 14) dX5_revision_8 (by decide) (fun c8 => ?_) (fun c8 => ?_)
  · -- taken at 8
    obtain ⟨k, hk, rfl⟩ := c8
    refine lv_iload_n hx hb dX5_revision_14 rfl (lv_at hl 2 rfl) ?_
    rcases sw3 q with rfl | rfl | rfl | rfl | hsw15
    · -- 0
      refine lv_tableIn (off := 29) (tgt := 44) hx hb dX5_revision_15 (by decide) (by decide) (by decide) (by decide) ?_
      refine lv_aload_n hx hb dX5_revision_44 rfl (lv_at hl 0 rfl) ?_
      refine f_get G K hP inX5 0 (ci := 5) rfl rfl 0 rfl fl_X5_12 (v := .ref (aW 0)) rfl dX5_revision_45 ?_
      refine f_get G K hP inX4 2 (ci := 4) rfl rfl 4 rfl fl_X5_144 (v := .ref (aW 5)) rfl dX5_revision_48 ?_
      refine lv_iload_n hx hb dX5_revision_51 rfl (lv_at hl 1 rfl) ?_
      refine a_ldN G K hP 7 0 (a := (aW 5)) rfl rfl (by omega) (by decide) dX5_revision_52 ?_
      have hb1 := hfi k
      exact hret _ _ _ ((congrArg nI (S.1 k hk)).trans (rvV_k hcl hk (j := 0) (by decide))) dX5_revision_53
    · -- 1
      refine lv_tableIn (off := 39) (tgt := 54) hx hb dX5_revision_15 (by decide) (by decide) (by decide) (by decide) ?_
      refine lv_aload_n hx hb dX5_revision_54 rfl (lv_at hl 0 rfl) ?_
      refine f_get G K hP inX5 0 (ci := 5) rfl rfl 0 rfl fl_X5_12 (v := .ref (aW 0)) rfl dX5_revision_55 ?_
      refine lv_iload_n hx hb dX5_revision_58 rfl (lv_at hl 1 rfl) ?_
      refine callPV (As := [.int (nI k)]) (rest := []) (q0 := 0) (ci := 4) G K F_X4_behind (c_X4_behind aW n cl th ki va re fi k J S (by omega)) (hP.sub (ws' := (wW cI aW n cl th ki va re fi)) [2, 3, 4, 5, 6, 7] rfl) ml_X5_147 rfl rfl rfl (by decide) (by decide) rfl hl.1 (Nat.le_of_ble_eq_true rfl) dX5_revision_59 ?_
      have hf2 := cnt_le re k n
      refine lv_aload_n hx hb dX5_revision_62 rfl (lv_at hl 0 rfl) ?_
      refine f_get G K hP inX5 0 (ci := 5) rfl rfl 0 rfl fl_X5_12 (v := .ref (aW 0)) rfl dX5_revision_63 ?_
      refine f_get G K hP inX4 2 (ci := 4) rfl rfl 4 rfl fl_X5_144 (v := .ref (aW 5)) rfl dX5_revision_66 ?_
      refine lv_iload_n hx hb dX5_revision_69 rfl (lv_at hl 1 rfl) ?_
      refine a_ldN G K hP 7 0 (a := (aW 5)) rfl rfl (by omega) (by decide) dX5_revision_70 ?_
      have hb3 := hfi k
      refine t_sub G (by have := S.1 k hk; omega) dX5_revision_71 ?_
      exact hret _ _ _ ((congrArg nI (by have := S.1 k hk; show _ = cntEq re k n; omega)).trans (rvV_k hcl hk (j := 1) (by decide))) dX5_revision_72
    · -- 2
      refine lv_tableIn (off := 58) (tgt := 73) hx hb dX5_revision_15 (by decide) (by decide) (by decide) (by decide) ?_
      refine lv_aload_n hx hb dX5_revision_73 rfl (lv_at hl 0 rfl) ?_
      refine f_get G K hP inX5 0 (ci := 5) rfl rfl 0 rfl fl_X5_12 (v := .ref (aW 0)) rfl dX5_revision_74 ?_
      refine lv_iload_n hx hb dX5_revision_77 rfl (lv_at hl 1 rfl) ?_
      refine callPV (As := [.int (nI k)]) (rest := []) (q0 := 0) (ci := 4) G K F_X4_firstByteOf (c_X4_firstByteOf aW n cl th ki va re fi k J S (by omega)) (hP.sub (ws' := (wW cI aW n cl th ki va re fi)) [2, 3, 4, 5, 6, 7] rfl) ml_X5_150 rfl rfl rfl (by decide) (by decide) rfl hl.1 (Nat.le_of_ble_eq_true rfl) dX5_revision_78 ?_
      exact hret _ _ _ (rvV_k hcl hk (j := 2) (by decide)) dX5_revision_81
    · -- 3
      refine lv_tableIn (off := 67) (tgt := 82) hx hb dX5_revision_15 (by decide) (by decide) (by decide) (by decide) ?_
      refine lv_aload_n hx hb dX5_revision_82 rfl (lv_at hl 0 rfl) ?_
      refine f_get G K hP inX5 0 (ci := 5) rfl rfl 0 rfl fl_X5_12 (v := .ref (aW 0)) rfl dX5_revision_83 ?_
      refine lv_iload_n hx hb dX5_revision_86 rfl (lv_at hl 1 rfl) ?_
      refine callPV (As := [.int (nI k)]) (rest := []) (q0 := 0) (ci := 4) G K F_X4_behindBytesOf (c_X4_behindBytesOf aW n cl th ki va re fi k J S (by omega)) (hP.sub (ws' := (wW cI aW n cl th ki va re fi)) [2, 3, 4, 5, 6, 7] rfl) ml_X5_153 rfl rfl rfl (by decide) (by decide) rfl hl.1 (Nat.le_of_ble_eq_true rfl) dX5_revision_87 ?_
      exact hret _ _ _ (rvV_k hcl hk (j := 3) (by decide)) dX5_revision_90
    · -- other
      refine lv_tableOut (tgt := 91) hx hb dX5_revision_15 hsw15 (by decide) ?_
      refine lv_bipush (v := (-2)) hx hb dX5_revision_91 (by decide) ?_
      exact hret _ _ _ (by first | exact rvV_x c8 | exact rvV_o (sw_no (m := 3) (by decide) hsw15)) dX5_revision_93
  · -- not taken at 8
    refine lv_bipush (v := (-2)) hx hb dX5_revision_11 (by decide) ?_
    exact hret _ _ _ (by first | exact rvV_x c8 | exact rvV_o (sw_no (m := 3) (by decide) hsw15)) dX5_revision_13
set_option maxHeartbeats 4000000 in
set_option maxRecDepth 100000 in
theorem c_X5_bytes (aS : Nat → Nat) (aE : Nat → Nat) (la : Int32) (aW : Nat → Nat) (n : Nat) (cl : Nat) (th : Nat → Nat) (ki : Nat → Nat) (va : Nat → Nat) (re : Nat → Nat) (fi : Nat → Nat) (aB : Nat → Nat) (bt : Nat → Nat) (bs : Nat) (aC : Nat → Nat) (to : Nat → Prop) (co : Nat → Nat) (ke : Nat → Int32) (nu : Nat → Int32) (fw : Nat → Nat) (aH : Nat → Nat) (lt : Nat → Option Nat) (tr : Nat → Nat) (sh : Nat → Nat) (cr : Nat → Nat) (ct : Nat → Nat) (cu : Nat → Nat) (ve : Nat → Nat) (ta : Nat → Nat) (ch : Nat) (aT : Nat → Nat) (lt2 : Nat → Option Nat) (tr2 : Nat → Nat) (sh2 : Nat → Nat) (cr2 : Nat → Nat) (ct2 : Nat → Nat) (cu2 : Nat → Nat) (ve2 : Nat → Nat) (ta2 : Nat → Nat) (ch2 : Nat) (lo : Nat → Prop) (fo : Nat → Nat) (si : Nat → Nat) (it : Nat → Nat → Int32) (x : Int32) (J : IW n cl th ki va re fi) (S : SW n cl re fi) (B9 : (∀ j, bt j ≤ 255) ∧ bs ≤ 216) (C9 : (∀ j, co j ≤ 400) ∧ (∀ j, fw j ≤ 15)) (H9 : IHd lt tr sh cr ct cu ve ta ch) (U9 : IHd lt2 tr2 sh2 cr2 ct2 cu2 ve2 ta2 ch2) (E9 : (∀ j, fo j ≤ 2) ∧ (∀ j, si j ≤ 60)) (KB : SKb th ki va re n cl bt bs) : CP l D (TY cI cZ cS) yX5_bytes cX5_bytes 2 .int 1 [.ref (aS 0), .int x] ((wS cS aS (aW 0) (aB 0) (aC 0) (aH 0) (aT 0) aE la) ++ ((wW cI aW n cl th ki va re fi) ++ ((wB cI aB bt bs) ++ ((wC cI cZ aC (aW 0) (aB 0) to co ke nu fw) ++ ((wH cI aH (aW 0) lt tr sh cr ct cu ve ta ch) ++ ((wH cI aT (aW 0) lt2 tr2 sh2 cr2 ct2 cu2 ve2 ta2 ch2) ++ (wE cI aE lo fo si it))))))) (.int (byV th ki va re n cl x)) := by
  refine CP.ofI (by decide +kernel) (Nat.le_of_ble_eq_true rfl) (nar_int _) ?_
  intro p e s m args below meth c Q G K hP hret ls hl
  obtain ⟨hx, hb, hml, hown, hts⟩ := id G
  obtain ⟨hn, hcl, hth, hki, hva, hre, hfi⟩ := id J
  obtain ⟨hbt, hbs⟩ := id B9
  obtain ⟨hco, hfw⟩ := id C9
  obtain ⟨hlt, htr, hsh, hcr, hct, hcu, hve, hta, hch⟩ := id H9
  obtain ⟨hlt2, htr2, hsh2, hcr2, hct2, hcu2, hve2, hta2, hch2⟩ := id U9
  obtain ⟨hfo, hsi⟩ := id E9
  obtain ⟨kb1, kb2⟩ := id KB
  have hl : lv_has ls 2 [(0, .ref (aS 0)), (1, .int x)] := hl
  refine lv_iload_n hx hb dX5_bytes_0 rfl (lv_at hl 1 rfl) ?_
  refine lv_iconst (v := (-1)) hx hb dX5_bytes_1 (by decide) ?_
  refine lv_icmp_ne (tgt := 13) hx hb dX5_bytes_2 (by decide) (fun c2 => ?_) (fun c2 => ?_)
  · -- taken at 2
    refine lv_aload_n hx hb dX5_bytes_13 rfl (lv_at hl 0 rfl) ?_
    refine f_get G K hP inX5 0 (ci := 5) rfl rfl 1 rfl fl_X5_19 (v := .ref (aB 0)) rfl dX5_bytes_14 ?_
    refine lv_iload_n hx hb dX5_bytes_17 rfl (lv_at hl 1 rfl) ?_
    refine callPV (As := [.int x]) (rest := []) (q0 := 0) (ci := 0) G K F_X0_has (c_X0_has aB bt bs x B9) (hP.sub (ws' := (wB cI aB bt bs)) [8, 9] rfl) ml_X5_157 rfl rfl rfl (by decide) (by decide) rfl hl.1 (Nat.le_of_ble_eq_true rfl) dX5_bytes_18 ?_
    refine b_eq G (tgt := 36) dX5_bytes_21 (by decide) (fun c21 => ?_) (fun c21 => ?_)
    · -- taken at 21
      refine lv_bipush (v := (-2)) hx hb dX5_bytes_36 (by decide) ?_
      exact hret _ _ _ (by first | exact (congrArg nI kb1).trans byV_n | exact byV_w c2 (fun h => c21 (by rw [kb1]; exact h)) | (rw [← byV_k hn hcl (by rw [← kb1]; exact hk), kb2 k (by rw [← kb1]; exact hk)]; rfl)) dX5_bytes_38
    · -- not taken at 21
      obtain ⟨k, hk, rfl⟩ := c21
      refine lv_aload_n hx hb dX5_bytes_24 rfl (lv_at hl 0 rfl) ?_
      refine f_get G K hP inX5 0 (ci := 5) rfl rfl 1 rfl fl_X5_19 (v := .ref (aB 0)) rfl dX5_bytes_25 ?_
      refine f_get G K hP inX0 8 (ci := 0) rfl rfl 0 rfl fl_X5_158 (v := .ref (aB 1)) rfl dX5_bytes_28 ?_
      refine lv_iload_n hx hb dX5_bytes_31 rfl (lv_at hl 1 rfl) ?_
      refine a_ldN G K hP 9 0 (a := (aB 1)) rfl rfl (by omega) (by decide) dX5_bytes_32 ?_
      have hb1 := hbt k
      refine lv_goto (tgt := 38) hx hb dX5_bytes_33 (by decide) ?_
      exact hret _ _ _ (by first | exact (congrArg nI kb1).trans byV_n | exact byV_w c2 (fun h => c21 (by rw [kb1]; exact h)) | (rw [← byV_k hn hcl (by rw [← kb1]; exact hk), kb2 k (by rw [← kb1]; exact hk)]; rfl)) dX5_bytes_38
  · -- not taken at 2
    subst c2
    refine lv_aload_n hx hb dX5_bytes_5 rfl (lv_at hl 0 rfl) ?_
    refine f_get G K hP inX5 0 (ci := 5) rfl rfl 1 rfl fl_X5_19 (v := .ref (aB 0)) rfl dX5_bytes_6 ?_
    refine f_get G K hP inX0 8 (ci := 0) rfl rfl 1 rfl fl_X5_156 (v := .int (nI bs)) rfl dX5_bytes_9 ?_
    exact hret _ _ _ (by first | exact (congrArg nI kb1).trans byV_n | exact byV_w c2 (fun h => c21 (by rw [kb1]; exact h)) | (rw [← byV_k hn hcl (by rw [← kb1]; exact hk), kb2 k (by rw [← kb1]; exact hk)]; rfl)) dX5_bytes_12
set_option maxHeartbeats 4000000 in
set_option maxRecDepth 100000 in
theorem c_X5_thing (aS : Nat → Nat) (aE : Nat → Nat) (la : Int32) (aW : Nat → Nat) (n : Nat) (cl : Nat) (th : Nat → Nat) (ki : Nat → Nat) (va : Nat → Nat) (re : Nat → Nat) (fi : Nat → Nat) (aB : Nat → Nat) (bt : Nat → Nat) (bs : Nat) (aC : Nat → Nat) (to : Nat → Prop) (co : Nat → Nat) (ke : Nat → Int32) (nu : Nat → Int32) (fw : Nat → Nat) (aH : Nat → Nat) (lt : Nat → Option Nat) (tr : Nat → Nat) (sh : Nat → Nat) (cr : Nat → Nat) (ct : Nat → Nat) (cu : Nat → Nat) (ve : Nat → Nat) (ta : Nat → Nat) (ch : Nat) (aT : Nat → Nat) (lt2 : Nat → Option Nat) (tr2 : Nat → Nat) (sh2 : Nat → Nat) (cr2 : Nat → Nat) (ct2 : Nat → Nat) (cu2 : Nat → Nat) (ve2 : Nat → Nat) (ta2 : Nat → Nat) (ch2 : Nat) (lo : Nat → Prop) (fo : Nat → Nat) (si : Nat → Nat) (it : Nat → Nat → Int32) (t : Int32) (x : Int32) (q : Int32) (J : IW n cl th ki va re fi) (S : SW n cl re fi) (B9 : (∀ j, bt j ≤ 255) ∧ bs ≤ 216) (C9 : (∀ j, co j ≤ 400) ∧ (∀ j, fw j ≤ 15)) (H9 : IHd lt tr sh cr ct cu ve ta ch) (U9 : IHd lt2 tr2 sh2 cr2 ct2 cu2 ve2 ta2 ch2) (E9 : (∀ j, fo j ≤ 2) ∧ (∀ j, si j ≤ 60)) (KH : HOK th ki va re none n cl lt tr sh cr ct cu ve ta ch) : CP l D (TY cI cZ cS) yX5_thing cX5_thing 5 .int 1 [.ref (aS 0), .int t, .int x, .int q] ((wS cS aS (aW 0) (aB 0) (aC 0) (aH 0) (aT 0) aE la) ++ ((wW cI aW n cl th ki va re fi) ++ ((wB cI aB bt bs) ++ ((wC cI cZ aC (aW 0) (aB 0) to co ke nu fw) ++ ((wH cI aH (aW 0) lt tr sh cr ct cu ve ta ch) ++ ((wH cI aT (aW 0) lt2 tr2 sh2 cr2 ct2 cu2 ve2 ta2 ch2) ++ (wE cI aE lo fo si it))))))) (.int (tgV th ki va re none n cl t x q)) := by
  refine CP.ofI (by decide +kernel) (Nat.le_of_ble_eq_true rfl) (nar_int _) ?_
  intro p e s m args below meth c Q G K hP hret ls hl
  obtain ⟨hx, hb, hml, hown, hts⟩ := id G
  obtain ⟨hn, hcl, hth, hki, hva, hre, hfi⟩ := id J
  obtain ⟨hbt, hbs⟩ := id B9
  obtain ⟨hco, hfw⟩ := id C9
  obtain ⟨hlt, htr, hsh, hcr, hct, hcu, hve, hta, hch⟩ := id H9
  obtain ⟨hlt2, htr2, hsh2, hcr2, hct2, hcu2, hve2, hta2, hch2⟩ := id U9
  obtain ⟨hfo, hsi⟩ := id E9
  obtain ⟨K1, K2, K3, K4, K5, K6, K7⟩ := id KH
  have hl : lv_has ls 5 [(0, .ref (aS 0)), (1, .int t), (2, .int x), (3, .int q)] := hl
  refine lv_iload_n hx hb dX5_thing_0 rfl (lv_at hl 1 rfl) ?_
  refine callPS (rest := []) G K F_X5_isThing (c_X5_isThing t) (va_P_nil D s.heap) ml_X5_159 (by decide) (by decide) rfl hl.1 (Nat.le_of_ble_eq_true rfl) dX5_thing_1 ?_
  refine b_eq G (tgt := 27) dX5_thing_4 (by decide) (fun c4 => ?_) (fun c4 => ?_)
  · -- taken at 4
    refine lv_bipush (v := (-2)) hx hb dX5_thing_27 (by decide) ?_
    exact hret _ _ _ (by first | exact tgV_o (fun h => c4 h.1) | exact tgV_o (fun h => c15 h.2.1) | exact tgV_o (fun h => hr_lt (m := 2) (by decide) c19 h.2.2) | exact tgV_o (fun h => hr_gt (m := 2) (by decide) (nle_lt c24) h.2.2)) dX5_thing_29
  · -- not taken at 4
    obtain ⟨i, hi, rfl⟩ := c4
    refine lv_aload_n hx hb dX5_thing_7 rfl (lv_at hl 0 rfl) ?_
    refine f_get G K hP inX5 0 (ci := 5) rfl rfl 0 rfl fl_X5_12 (v := .ref (aW 0)) rfl dX5_thing_8 ?_
    refine lv_iload_n hx hb dX5_thing_11 rfl (lv_at hl 2 rfl) ?_
    refine callPV (As := [.int x]) (rest := []) (q0 := 0) (ci := 4) G K F_X4_hasRevision (c_X4_hasRevision aW n cl th ki va re fi x J) (hP.sub (ws' := (wW cI aW n cl th ki va re fi)) [2, 3, 4, 5, 6, 7] rfl) ml_X5_141 rfl rfl rfl (by decide) (by decide) rfl hl.1 (Nat.le_of_ble_eq_true rfl) dX5_thing_12 ?_
    refine b_eq G (tgt := 27) dX5_thing_15 (by decide) (fun c15 => ?_) (fun c15 => ?_)
    · -- taken at 15
      refine lv_bipush (v := (-2)) hx hb dX5_thing_27 (by decide) ?_
      exact hret _ _ _ (by first | exact tgV_o (fun h => c4 h.1) | exact tgV_o (fun h => c15 h.2.1) | exact tgV_o (fun h => hr_lt (m := 2) (by decide) c19 h.2.2) | exact tgV_o (fun h => hr_gt (m := 2) (by decide) (nle_lt c24) h.2.2)) dX5_thing_29
    · -- not taken at 15
      obtain ⟨k, hk, rfl⟩ := c15
      refine lv_iload_n hx hb dX5_thing_18 rfl (lv_at hl 3 rfl) ?_
      refine lv_if_lt (tgt := 27) hx hb dX5_thing_19 (by decide) (fun c19 => ?_) (fun c19 => ?_)
      · -- taken at 19
        refine lv_bipush (v := (-2)) hx hb dX5_thing_27 (by decide) ?_
        exact hret _ _ _ (by first | exact tgV_o (fun h => c4 h.1) | exact tgV_o (fun h => c15 h.2.1) | exact tgV_o (fun h => hr_lt (m := 2) (by decide) c19 h.2.2) | exact tgV_o (fun h => hr_gt (m := 2) (by decide) (nle_lt c24) h.2.2)) dX5_thing_29
      · -- not taken at 19
        refine lv_iload_n hx hb dX5_thing_22 rfl (lv_at hl 3 rfl) ?_
        refine lv_iconst (v := (nI 2)) hx hb dX5_thing_23 (by decide) ?_
        refine lv_icmp_le (tgt := 30) hx hb dX5_thing_24 (by decide) (fun c24 => ?_) (fun c24 => ?_)
        · -- taken at 24
          obtain ⟨j, hj, rfl⟩ := hr_iff (m := 2) (by decide) c19 (le_nlt c24)
          refine lv_aload_n hx hb dX5_thing_30 rfl (lv_at hl 0 rfl) ?_
          refine f_get G K hP inX5 0 (ci := 5) rfl rfl 3 rfl fl_X5_37 (v := .ref (aH 0)) rfl dX5_thing_31 ?_
          refine lv_iload_n hx hb dX5_thing_34 rfl (lv_at hl 2 rfl) ?_
          refine lv_iload_n hx hb dX5_thing_35 rfl (lv_at hl 1 rfl) ?_
          refine callPV (As := [.int (nI k), .int (nI i)]) (rest := []) (q0 := 6) (ci := 2) G K F_X2_latestOf (c_X2_latestOf aW n cl th ki va re fi aH lt tr sh cr ct cu ve ta ch k i J S H9 (by omega) (by omega)) (hP.sub (ws' := ((wW cI aW n cl th ki va re fi) ++ (wH cI aH (aW 0) lt tr sh cr ct cu ve ta ch))) [2, 3, 4, 5, 6, 7, 16, 17, 18, 19, 20, 21, 22, 23, 24] rfl) ml_X5_162 rfl rfl rfl (by decide) (by decide) rfl hl.1 (Nat.le_of_ble_eq_true rfl) dX5_thing_36 ?_
          refine t_i (y := (oI (lastW th re none i k n))) (congrArg oI (K1 k i hk (by omega))) ?_
          refine lv_istore (lv' := [(4, .int (oI (lastW th re none i k n))), (0, .ref (aS 0)), (1, .int (nI i)), (2, .int (nI k)), (3, .int (nI j))]) hx hb dX5_thing_39 hl (by decide) rfl (fun ls hl => ?_)
          refine lv_aload_n hx hb dX5_thing_41 rfl (lv_at hl 1 rfl) ?_
          refine f_get G K hP inX5 0 (ci := 5) rfl rfl 0 rfl fl_X5_12 (v := .ref (aW 0)) rfl dX5_thing_42 ?_
          refine lv_iload hx hb dX5_thing_45 (lv_at hl 0 rfl) ?_
          refine callPV (As := [.int (oI (lastW th re none i k n))]) (rest := []) (q0 := 0) (ci := 4) G K F_X4_kindOrGone (c_X4_kindOrGone aW n cl th ki va re fi (lastW th re none i k n) J (lastW_lt th re none i k n)) (hP.sub (ws' := (wW cI aW n cl th ki va re fi)) [2, 3, 4, 5, 6, 7] rfl) ml_X5_166 rfl rfl rfl (by decide) (by decide) rfl hl.1 (Nat.le_of_ble_eq_true rfl) dX5_thing_47 ?_
          have hf1 := kOr_le hki (lastW th re none i k n)
          refine lv_iconst (v := (nI 5)) hx hb dX5_thing_50 (by decide) ?_
          refine c_ne G (tgt := 56) (by omega) (by omega) dX5_thing_51 (by decide) (fun c51 => ?_) (fun c51 => ?_)
          · -- taken at 51
            obtain ⟨v, hv⟩ : ∃ v, lastW th re none i k n = some v := by
              cases e9 : lastW th re none i k n with
              | none => rw [e9] at c51; exact absurd rfl c51
              | some u => exact ⟨u, rfl⟩
            have hv9 := lastW_lt th re none i k n v hv
            have hvT : lastT th ki re none i k n = some v := nonG_s hv c51
            refine lv_iload_n hx hb dX5_thing_56 rfl (lv_at hl 4 rfl) ?_
            rcases (show j = 0 ∨ j = 1 ∨ 1 < j by omega) with rfl | rfl | hsw57
            · -- 0
              refine lv_lookup (off := 27) (tgt := 84) hx hb dX5_thing_57 (by decide) (by decide) (by decide) ?_
              refine lv_aload_n hx hb dX5_thing_84 rfl (lv_at hl 1 rfl) ?_
              refine f_get G K hP inX5 0 (ci := 5) rfl rfl 0 rfl fl_X5_12 (v := .ref (aW 0)) rfl dX5_thing_85 ?_
              refine f_get G K hP inX4 2 (ci := 4) rfl rfl 1 rfl fl_X5_102 (v := .ref (aW 2)) rfl dX5_thing_88 ?_
              refine lv_iload hx hb dX5_thing_91 (lv_at hl 0 rfl) ?_
              refine t_i (y := (nI v)) (by rw [hv]; rfl) ?_
              refine a_ldN G K hP 4 0 (a := (aW 2)) rfl rfl (by omega) (by decide) dX5_thing_93 ?_
              have hb2 := hki v
              exact hret _ _ _ (by rw [← tgV_k hcl hi hk hj]; exact congrArg oI (tgB_0 hvT rfl)) dX5_thing_94
            · -- 1
              refine lv_lookup (off := 38) (tgt := 95) hx hb dX5_thing_57 (by decide) (by decide) (by decide) ?_
              refine lv_aload_n hx hb dX5_thing_95 rfl (lv_at hl 1 rfl) ?_
              refine f_get G K hP inX5 0 (ci := 5) rfl rfl 0 rfl fl_X5_12 (v := .ref (aW 0)) rfl dX5_thing_96 ?_
              refine f_get G K hP inX4 2 (ci := 4) rfl rfl 2 rfl fl_X5_110 (v := .ref (aW 3)) rfl dX5_thing_99 ?_
              refine lv_iload hx hb dX5_thing_102 (lv_at hl 0 rfl) ?_
              refine t_i (y := (nI v)) (by rw [hv]; rfl) ?_
              refine a_ldN G K hP 5 0 (a := (aW 3)) rfl rfl (by omega) (by decide) dX5_thing_104 ?_
              have hb3 := hva v
              exact hret _ _ _ (by rw [← tgV_k hcl hi hk hj]; exact congrArg oI (tgB_1 hvT rfl)) dX5_thing_105
            · -- other
              refine lv_lookup (off := 49) (tgt := 106) hx hb dX5_thing_57 (by decide) (lk_o (by omega) (by omega)) (by decide) ?_
              refine lv_iload hx hb dX5_thing_106 (lv_at hl 0 rfl) ?_
              exact hret _ _ _ (by rw [← tgV_k hcl hi hk hj, hv, ← hvT]; exact congrArg oI (tgB_2 hvT (by omega) (by omega))) dX5_thing_108
          · -- not taken at 51
            refine lv_iconst (v := (-1)) hx hb dX5_thing_54 (by decide) ?_
            exact hret _ _ _ (by rw [← tgV_k hcl hi hk hj]; exact congrArg oI (tgB_n ((mapn _).mpr c51 |> fun h => map_none.mp h))) dX5_thing_55
        · -- not taken at 24
          refine lv_bipush (v := (-2)) hx hb dX5_thing_27 (by decide) ?_
          exact hret _ _ _ (by first | exact tgV_o (fun h => c4 h.1) | exact tgV_o (fun h => c15 h.2.1) | exact tgV_o (fun h => hr_lt (m := 2) (by decide) c19 h.2.2) | exact tgV_o (fun h => hr_gt (m := 2) (by decide) (nle_lt c24) h.2.2)) dX5_thing_29
set_option maxHeartbeats 4000000 in
set_option maxRecDepth 100000 in
theorem c_X5_shadows (aS : Nat → Nat) (aE : Nat → Nat) (la : Int32) (aW : Nat → Nat) (n : Nat) (cl : Nat) (th : Nat → Nat) (ki : Nat → Nat) (va : Nat → Nat) (re : Nat → Nat) (fi : Nat → Nat) (aB : Nat → Nat) (bt : Nat → Nat) (bs : Nat) (aC : Nat → Nat) (to : Nat → Prop) (co : Nat → Nat) (ke : Nat → Int32) (nu : Nat → Int32) (fw : Nat → Nat) (aH : Nat → Nat) (lt : Nat → Option Nat) (tr : Nat → Nat) (sh : Nat → Nat) (cr : Nat → Nat) (ct : Nat → Nat) (cu : Nat → Nat) (ve : Nat → Nat) (ta : Nat → Nat) (ch : Nat) (aT : Nat → Nat) (lt2 : Nat → Option Nat) (tr2 : Nat → Nat) (sh2 : Nat → Nat) (cr2 : Nat → Nat) (ct2 : Nat → Nat) (cu2 : Nat → Nat) (ve2 : Nat → Nat) (ta2 : Nat → Nat) (ch2 : Nat) (lo : Nat → Prop) (fo : Nat → Nat) (si : Nat → Nat) (it : Nat → Nat → Int32) (x : Int32) (J : IW n cl th ki va re fi) (S : SW n cl re fi) (B9 : (∀ j, bt j ≤ 255) ∧ bs ≤ 216) (C9 : (∀ j, co j ≤ 400) ∧ (∀ j, fw j ≤ 15)) (H9 : IHd lt tr sh cr ct cu ve ta ch) (U9 : IHd lt2 tr2 sh2 cr2 ct2 cu2 ve2 ta2 ch2) (E9 : (∀ j, fo j ≤ 2) ∧ (∀ j, si j ≤ 60)) (KH : HOK th ki va re none n cl lt tr sh cr ct cu ve ta ch) : CP l D (TY cI cZ cS) yX5_shadows cX5_shadows 2 .int 1 [.ref (aS 0), .int x] ((wS cS aS (aW 0) (aB 0) (aC 0) (aH 0) (aT 0) aE la) ++ ((wW cI aW n cl th ki va re fi) ++ ((wB cI aB bt bs) ++ ((wC cI cZ aC (aW 0) (aB 0) to co ke nu fw) ++ ((wH cI aH (aW 0) lt tr sh cr ct cu ve ta ch) ++ ((wH cI aT (aW 0) lt2 tr2 sh2 cr2 ct2 cu2 ve2 ta2 ch2) ++ (wE cI aE lo fo si it))))))) (.int (shV th ki va re none n cl x)) := by
  refine CP.ofI (by decide +kernel) (Nat.le_of_ble_eq_true rfl) (nar_int _) ?_
  intro p e s m args below meth c Q G K hP hret ls hl
  obtain ⟨hx, hb, hml, hown, hts⟩ := id G
  obtain ⟨hn, hcl, hth, hki, hva, hre, hfi⟩ := id J
  obtain ⟨hbt, hbs⟩ := id B9
  obtain ⟨hco, hfw⟩ := id C9
  obtain ⟨hlt, htr, hsh, hcr, hct, hcu, hve, hta, hch⟩ := id H9
  obtain ⟨hlt2, htr2, hsh2, hcr2, hct2, hcu2, hve2, hta2, hch2⟩ := id U9
  obtain ⟨hfo, hsi⟩ := id E9
  obtain ⟨K1, K2, K3, K4, K5, K6, K7⟩ := id KH
  have hl : lv_has ls 2 [(0, .ref (aS 0)), (1, .int x)] := hl
  refine lv_aload_n hx hb dX5_shadows_0 rfl (lv_at hl 0 rfl) ?_
  refine f_get G K hP inX5 0 (ci := 5) rfl rfl 0 rfl fl_X5_12 (v := .ref (aW 0)) rfl dX5_shadows_1 ?_
  refine lv_iload_n hx hb dX5_shadows_4 rfl (lv_at hl 1 rfl) ?_
  refine callPV (As := [.int x]) (rest := []) (q0 := 0) (ci := 4) G K F_X4_hasRevision (c_X4_hasRevision aW n cl th ki va re fi x J) (hP.sub (ws' := (wW cI aW n cl th ki va re fi)) [2, 3, 4, 5, 6, 7] rfl) ml_X5_141 rfl rfl rfl (by decide) (by decide) rfl hl.1 (Nat.le_of_ble_eq_true rfl) dX5_shadows_5 ?_
  refine b_eq G (tgt := 23) dX5_shadows_8 (by decide) (fun c8 => ?_) (fun c8 => ?_)
  · -- taken at 8
    refine lv_bipush (v := (-2)) hx hb dX5_shadows_23 (by decide) ?_
    exact hret _ _ _ (by first | exact shV_x c8 | exact (congrArg nI (K3 k hk)).trans (shV_k hcl hk)) dX5_shadows_25
  · -- not taken at 8
    obtain ⟨k, hk, rfl⟩ := c8
    refine lv_aload_n hx hb dX5_shadows_11 rfl (lv_at hl 0 rfl) ?_
    refine f_get G K hP inX5 0 (ci := 5) rfl rfl 3 rfl fl_X5_37 (v := .ref (aH 0)) rfl dX5_shadows_12 ?_
    refine f_get G K hP inX2 16 (ci := 2) rfl rfl 3 rfl fl_X5_169 (v := .ref (aH 3)) rfl dX5_shadows_15 ?_
    refine lv_iload_n hx hb dX5_shadows_18 rfl (lv_at hl 1 rfl) ?_
    refine a_ldN G K hP 19 0 (a := (aH 3)) rfl rfl (by omega) (by decide) dX5_shadows_19 ?_
    have hb1 := hsh k
    refine lv_goto (tgt := 25) hx hb dX5_shadows_20 (by decide) ?_
    exact hret _ _ _ (by first | exact shV_x c8 | exact (congrArg nI (K3 k hk)).trans (shV_k hcl hk)) dX5_shadows_25
set_option maxHeartbeats 4000000 in
set_option maxRecDepth 100000 in
theorem c_X5_covers (aS : Nat → Nat) (aE : Nat → Nat) (la : Int32) (aW : Nat → Nat) (n : Nat) (cl : Nat) (th : Nat → Nat) (ki : Nat → Nat) (va : Nat → Nat) (re : Nat → Nat) (fi : Nat → Nat) (aB : Nat → Nat) (bt : Nat → Nat) (bs : Nat) (aC : Nat → Nat) (to : Nat → Prop) (co : Nat → Nat) (ke : Nat → Int32) (nu : Nat → Int32) (fw : Nat → Nat) (aH : Nat → Nat) (lt : Nat → Option Nat) (tr : Nat → Nat) (sh : Nat → Nat) (cr : Nat → Nat) (ct : Nat → Nat) (cu : Nat → Nat) (ve : Nat → Nat) (ta : Nat → Nat) (ch : Nat) (aT : Nat → Nat) (lt2 : Nat → Option Nat) (tr2 : Nat → Nat) (sh2 : Nat → Nat) (cr2 : Nat → Nat) (ct2 : Nat → Nat) (cu2 : Nat → Nat) (ve2 : Nat → Nat) (ta2 : Nat → Nat) (ch2 : Nat) (lo : Nat → Prop) (fo : Nat → Nat) (si : Nat → Nat) (it : Nat → Nat → Int32) (x : Int32) (q : Int32) (J : IW n cl th ki va re fi) (S : SW n cl re fi) (B9 : (∀ j, bt j ≤ 255) ∧ bs ≤ 216) (C9 : (∀ j, co j ≤ 400) ∧ (∀ j, fw j ≤ 15)) (H9 : IHd lt tr sh cr ct cu ve ta ch) (U9 : IHd lt2 tr2 sh2 cr2 ct2 cu2 ve2 ta2 ch2) (E9 : (∀ j, fo j ≤ 2) ∧ (∀ j, si j ≤ 60)) : CP l D (TY cI cZ cS) yX5_covers cX5_covers 3 .int 3 [.ref (aS 0), .int x, .int q] ((wS cS aS (aW 0) (aB 0) (aC 0) (aH 0) (aT 0) aE la) ++ ((wW cI aW n cl th ki va re fi) ++ ((wB cI aB bt bs) ++ ((wC cI cZ aC (aW 0) (aB 0) to co ke nu fw) ++ ((wH cI aH (aW 0) lt tr sh cr ct cu ve ta ch) ++ ((wH cI aT (aW 0) lt2 tr2 sh2 cr2 ct2 cu2 ve2 ta2 ch2) ++ (wE cI aE lo fo si it))))))) (.int (cvV ki re n cl to co x q)) := by
  refine CP.ofI (by decide +kernel) (Nat.le_of_ble_eq_true rfl) (nar_int _) ?_
  intro p e s m args below meth c Q G K hP hret ls hl
  obtain ⟨hx, hb, hml, hown, hts⟩ := id G
  obtain ⟨hn, hcl, hth, hki, hva, hre, hfi⟩ := id J
  obtain ⟨hbt, hbs⟩ := id B9
  obtain ⟨hco, hfw⟩ := id C9
  obtain ⟨hlt, htr, hsh, hcr, hct, hcu, hve, hta, hch⟩ := id H9
  obtain ⟨hlt2, htr2, hsh2, hcr2, hct2, hcu2, hve2, hta2, hch2⟩ := id U9
  obtain ⟨hfo, hsi⟩ := id E9
  have hl : lv_has ls 3 [(0, .ref (aS 0)), (1, .int x), (2, .int q)] := hl
  refine lv_aload_n hx hb dX5_covers_0 rfl (lv_at hl 0 rfl) ?_
  refine f_get G K hP inX5 0 (ci := 5) rfl rfl 0 rfl fl_X5_12 (v := .ref (aW 0)) rfl dX5_covers_1 ?_
  refine lv_iload_n hx hb dX5_covers_4 rfl (lv_at hl 1 rfl) ?_
  refine callPV (As := [.int x]) (rest := []) (q0 := 0) (ci := 4) G K F_X4_has (c_X4_has aW n cl th ki va re fi x J) (hP.sub (ws' := (wW cI aW n cl th ki va re fi)) [2, 3, 4, 5, 6, 7] rfl) ml_X5_88 rfl rfl rfl (by decide) (by decide) rfl hl.1 (Nat.le_of_ble_eq_true rfl) dX5_covers_5 ?_
  refine b_eq G (tgt := 20) dX5_covers_8 (by decide) (fun c8 => ?_) (fun c8 => ?_)
  · -- taken at 8
    refine lv_bipush (v := (-2)) hx hb dX5_covers_20 (by decide) ?_
    exact hret _ _ _ (by first | exact cvV_k hn hk hj c31 | exact cvV_s hn hk hj c31 | exact cvV_w c8 | exact cvV_o (fun h => has_lt (m := 4) (by decide) c12 (okW_R.mpr h)) | exact cvV_o (fun h => has_ge (m := 4) (by decide) (nlt_le c17) (okW_R.mpr h))) dX5_covers_22
  · -- not taken at 8
    obtain ⟨k, hk, rfl⟩ := c8
    refine lv_iload_n hx hb dX5_covers_11 rfl (lv_at hl 2 rfl) ?_
    refine lv_if_lt (tgt := 20) hx hb dX5_covers_12 (by decide) (fun c12 => ?_) (fun c12 => ?_)
    · -- taken at 12
      refine lv_bipush (v := (-2)) hx hb dX5_covers_20 (by decide) ?_
      exact hret _ _ _ (by first | exact cvV_k hn hk hj c31 | exact cvV_s hn hk hj c31 | exact cvV_w c8 | exact cvV_o (fun h => has_lt (m := 4) (by decide) c12 (okW_R.mpr h)) | exact cvV_o (fun h => has_ge (m := 4) (by decide) (nlt_le c17) (okW_R.mpr h))) dX5_covers_22
    · -- not taken at 12
      refine lv_iload_n hx hb dX5_covers_15 rfl (lv_at hl 2 rfl) ?_
      refine lv_iconst (v := (nI 4)) hx hb dX5_covers_16 (by decide) ?_
      refine lv_icmp_lt (tgt := 23) hx hb dX5_covers_17 (by decide) (fun c17 => ?_) (fun c17 => ?_)
      · -- taken at 17
        obtain ⟨j, hj, rfl⟩ := okW_R.mp (has_iff (m := 4) (by decide) c12 (lt_nle c17))
        refine lv_aload_n hx hb dX5_covers_23 rfl (lv_at hl 0 rfl) ?_
        refine f_get G K hP inX5 0 (ci := 5) rfl rfl 0 rfl fl_X5_12 (v := .ref (aW 0)) rfl dX5_covers_24 ?_
        refine lv_iload_n hx hb dX5_covers_27 rfl (lv_at hl 1 rfl) ?_
        refine callPV (As := [.int (nI k)]) (rest := []) (q0 := 0) (ci := 4) G K F_X4_isSeal (c_X4_isSeal aW n cl th ki va re fi k J (by omega)) (hP.sub (ws' := (wW cI aW n cl th ki va re fi)) [2, 3, 4, 5, 6, 7] rfl) ml_X5_92 rfl rfl rfl (by decide) (by decide) rfl hl.1 (Nat.le_of_ble_eq_true rfl) dX5_covers_28 ?_
        refine b_eq G (tgt := 46) dX5_covers_31 (by decide) (fun c31 => ?_) (fun c31 => ?_)
        · -- taken at 31
          refine lv_bipush (v := (-3)) hx hb dX5_covers_46 (by decide) ?_
          exact hret _ _ _ (by first | exact cvV_k hn hk hj c31 | exact cvV_s hn hk hj c31 | exact cvV_w c8 | exact cvV_o (fun h => has_lt (m := 4) (by decide) c12 (okW_R.mpr h)) | exact cvV_o (fun h => has_ge (m := 4) (by decide) (nlt_le c17) (okW_R.mpr h))) dX5_covers_48
        · -- not taken at 31
          refine lv_aload_n hx hb dX5_covers_34 rfl (lv_at hl 0 rfl) ?_
          refine f_get G K hP inX5 0 (ci := 5) rfl rfl 2 rfl fl_X5_28 (v := .ref (aC 0)) rfl dX5_covers_35 ?_
          refine lv_iload_n hx hb dX5_covers_38 rfl (lv_at hl 1 rfl) ?_
          refine lv_iload_n hx hb dX5_covers_39 rfl (lv_at hl 2 rfl) ?_
          refine callPV (As := [.int (nI k), .int (nI j)]) (rest := []) (q0 := 8) (ci := 1) G K F_X1_edge (c_X1_edge aW n cl th ki va re fi aB bt bs aC to co ke nu fw k j J S B9 C9 (by omega) (by omega)) (hP.sub (ws' := ((wW cI aW n cl th ki va re fi) ++ ((wB cI aB bt bs) ++ (wC cI cZ aC (aW 0) (aB 0) to co ke nu fw)))) [2, 3, 4, 5, 6, 7, 8, 9, 10, 11, 12, 13, 14, 15] rfl) ml_X5_172 rfl rfl rfl (by decide) (by decide) rfl hl.1 (Nat.le_of_ble_eq_true rfl) dX5_covers_40 ?_
          have hf1 := cov_le re n cl to co hn hre hco k (by omega) j
          refine lv_goto (tgt := 48) hx hb dX5_covers_43 (by decide) ?_
          exact hret _ _ _ (by first | exact cvV_k hn hk hj c31 | exact cvV_s hn hk hj c31 | exact cvV_w c8 | exact cvV_o (fun h => has_lt (m := 4) (by decide) c12 (okW_R.mpr h)) | exact cvV_o (fun h => has_ge (m := 4) (by decide) (nlt_le c17) (okW_R.mpr h))) dX5_covers_48
      · -- not taken at 17
        refine lv_bipush (v := (-2)) hx hb dX5_covers_20 (by decide) ?_
        exact hret _ _ _ (by first | exact cvV_k hn hk hj c31 | exact cvV_s hn hk hj c31 | exact cvV_w c8 | exact cvV_o (fun h => has_lt (m := 4) (by decide) c12 (okW_R.mpr h)) | exact cvV_o (fun h => has_ge (m := 4) (by decide) (nlt_le c17) (okW_R.mpr h))) dX5_covers_22
set_option maxHeartbeats 4000000 in
set_option maxRecDepth 100000 in
theorem c_X5_covered (aS : Nat → Nat) (aE : Nat → Nat) (la : Int32) (aW : Nat → Nat) (n : Nat) (cl : Nat) (th : Nat → Nat) (ki : Nat → Nat) (va : Nat → Nat) (re : Nat → Nat) (fi : Nat → Nat) (aB : Nat → Nat) (bt : Nat → Nat) (bs : Nat) (aC : Nat → Nat) (to : Nat → Prop) (co : Nat → Nat) (ke : Nat → Int32) (nu : Nat → Int32) (fw : Nat → Nat) (aH : Nat → Nat) (lt : Nat → Option Nat) (tr : Nat → Nat) (sh : Nat → Nat) (cr : Nat → Nat) (ct : Nat → Nat) (cu : Nat → Nat) (ve : Nat → Nat) (ta : Nat → Nat) (ch : Nat) (aT : Nat → Nat) (lt2 : Nat → Option Nat) (tr2 : Nat → Nat) (sh2 : Nat → Nat) (cr2 : Nat → Nat) (ct2 : Nat → Nat) (cu2 : Nat → Nat) (ve2 : Nat → Nat) (ta2 : Nat → Nat) (ch2 : Nat) (lo : Nat → Prop) (fo : Nat → Nat) (si : Nat → Nat) (it : Nat → Nat → Int32) (x : Int32) (J : IW n cl th ki va re fi) (S : SW n cl re fi) (B9 : (∀ j, bt j ≤ 255) ∧ bs ≤ 216) (C9 : (∀ j, co j ≤ 400) ∧ (∀ j, fw j ≤ 15)) (H9 : IHd lt tr sh cr ct cu ve ta ch) (U9 : IHd lt2 tr2 sh2 cr2 ct2 cu2 ve2 ta2 ch2) (E9 : (∀ j, fo j ≤ 2) ∧ (∀ j, si j ≤ 60)) (KB : SKb th ki va re n cl bt bs) (KT : SKt n to co) : CP l D (TY cI cZ cS) yX5_covered cX5_covered 2 .int 4 [.ref (aS 0), .int x] ((wS cS aS (aW 0) (aB 0) (aC 0) (aH 0) (aT 0) aE la) ++ ((wW cI aW n cl th ki va re fi) ++ ((wB cI aB bt bs) ++ ((wC cI cZ aC (aW 0) (aB 0) to co ke nu fw) ++ ((wH cI aH (aW 0) lt tr sh cr ct cu ve ta ch) ++ ((wH cI aT (aW 0) lt2 tr2 sh2 cr2 ct2 cu2 ve2 ta2 ch2) ++ (wE cI aE lo fo si it))))))) (.int (cdV ki re n cl to co x)) := by
  refine CP.ofI (by decide +kernel) (Nat.le_of_ble_eq_true rfl) (nar_int _) ?_
  intro p e s m args below meth c Q G K hP hret ls hl
  obtain ⟨hx, hb, hml, hown, hts⟩ := id G
  obtain ⟨hn, hcl, hth, hki, hva, hre, hfi⟩ := id J
  obtain ⟨hbt, hbs⟩ := id B9
  obtain ⟨hco, hfw⟩ := id C9
  obtain ⟨hlt, htr, hsh, hcr, hct, hcu, hve, hta, hch⟩ := id H9
  obtain ⟨hlt2, htr2, hsh2, hcr2, hct2, hcu2, hve2, hta2, hch2⟩ := id U9
  obtain ⟨hfo, hsi⟩ := id E9
  obtain ⟨kb1, kb2⟩ := id KB
  have hl : lv_has ls 2 [(0, .ref (aS 0)), (1, .int x)] := hl
  refine lv_aload_n hx hb dX5_covered_0 rfl (lv_at hl 0 rfl) ?_
  refine f_get G K hP inX5 0 (ci := 5) rfl rfl 0 rfl fl_X5_12 (v := .ref (aW 0)) rfl dX5_covered_1 ?_
  refine lv_iload_n hx hb dX5_covered_4 rfl (lv_at hl 1 rfl) ?_
  refine callPV (As := [.int x]) (rest := []) (q0 := 0) (ci := 4) G K F_X4_has (c_X4_has aW n cl th ki va re fi x J) (hP.sub (ws' := (wW cI aW n cl th ki va re fi)) [2, 3, 4, 5, 6, 7] rfl) ml_X5_88 rfl rfl rfl (by decide) (by decide) rfl hl.1 (Nat.le_of_ble_eq_true rfl) dX5_covered_5 ?_
  refine b_ne G (tgt := 14) dX5_covered_8 (by decide) (fun c8 => ?_) (fun c8 => ?_)
  · -- taken at 8
    obtain ⟨k, hk, rfl⟩ := c8
    refine lv_aload_n hx hb dX5_covered_14 rfl (lv_at hl 0 rfl) ?_
    refine f_get G K hP inX5 0 (ci := 5) rfl rfl 0 rfl fl_X5_12 (v := .ref (aW 0)) rfl dX5_covered_15 ?_
    refine lv_iload_n hx hb dX5_covered_18 rfl (lv_at hl 1 rfl) ?_
    refine callPV (As := [.int (nI k)]) (rest := []) (q0 := 0) (ci := 4) G K F_X4_isSeal (c_X4_isSeal aW n cl th ki va re fi k J (by omega)) (hP.sub (ws' := (wW cI aW n cl th ki va re fi)) [2, 3, 4, 5, 6, 7] rfl) ml_X5_92 rfl rfl rfl (by decide) (by decide) rfl hl.1 (Nat.le_of_ble_eq_true rfl) dX5_covered_19 ?_
    refine b_eq G (tgt := 36) dX5_covered_22 (by decide) (fun c22 => ?_) (fun c22 => ?_)
    · -- taken at 22
      refine lv_bipush (v := (-3)) hx hb dX5_covered_36 (by decide) ?_
      exact hret _ _ _ (by first | exact cdV_w c8 | exact (cd_eq S KT hn hcl kb1 hk).trans (cdV_k hn hk c22) | exact cdV_s hn hk c22) dX5_covered_38
    · -- not taken at 22
      refine lv_aload_n hx hb dX5_covered_25 rfl (lv_at hl 0 rfl) ?_
      refine f_get G K hP inX5 0 (ci := 5) rfl rfl 2 rfl fl_X5_28 (v := .ref (aC 0)) rfl dX5_covered_26 ?_
      refine lv_iload_n hx hb dX5_covered_29 rfl (lv_at hl 1 rfl) ?_
      refine callPV (As := [.int (nI k)]) (rest := []) (q0 := 8) (ci := 1) G K F_X1_bytesWithin (c_X1_bytesWithin aW n cl th ki va re fi aB bt bs aC to co ke nu fw k J S B9 C9 (by omega)) (hP.sub (ws' := ((wW cI aW n cl th ki va re fi) ++ ((wB cI aB bt bs) ++ (wC cI cZ aC (aW 0) (aB 0) to co ke nu fw)))) [2, 3, 4, 5, 6, 7, 8, 9, 10, 11, 12, 13, 14, 15] rfl) ml_X5_175 rfl rfl rfl (by decide) (by decide) rfl hl.1 (Nat.le_of_ble_eq_true rfl) dX5_covered_30 ?_
      refine lv_goto (tgt := 38) hx hb dX5_covered_33 (by decide) ?_
      exact hret _ _ _ (by first | exact cdV_w c8 | exact (cd_eq S KT hn hcl kb1 hk).trans (cdV_k hn hk c22) | exact cdV_s hn hk c22) dX5_covered_38
  · -- not taken at 8
    refine lv_bipush (v := (-2)) hx hb dX5_covered_11 (by decide) ?_
    exact hret _ _ _ (by first | exact cdV_w c8 | exact (cd_eq S KT hn hcl kb1 hk).trans (cdV_k hn hk c22) | exact cdV_s hn hk c22) dX5_covered_13
set_option maxHeartbeats 4000000 in
set_option maxRecDepth 100000 in
theorem c_X5_number (aS : Nat → Nat) (aE : Nat → Nat) (la : Int32) (aW : Nat → Nat) (n : Nat) (cl : Nat) (th : Nat → Nat) (ki : Nat → Nat) (va : Nat → Nat) (re : Nat → Nat) (fi : Nat → Nat) (aB : Nat → Nat) (bt : Nat → Nat) (bs : Nat) (aC : Nat → Nat) (to : Nat → Prop) (co : Nat → Nat) (ke : Nat → Int32) (nu : Nat → Int32) (fw : Nat → Nat) (aH : Nat → Nat) (lt : Nat → Option Nat) (tr : Nat → Nat) (sh : Nat → Nat) (cr : Nat → Nat) (ct : Nat → Nat) (cu : Nat → Nat) (ve : Nat → Nat) (ta : Nat → Nat) (ch : Nat) (aT : Nat → Nat) (lt2 : Nat → Option Nat) (tr2 : Nat → Nat) (sh2 : Nat → Nat) (cr2 : Nat → Nat) (ct2 : Nat → Nat) (cu2 : Nat → Nat) (ve2 : Nat → Nat) (ta2 : Nat → Nat) (ch2 : Nat) (lo : Nat → Prop) (fo : Nat → Nat) (si : Nat → Nat) (it : Nat → Nat → Int32) (x : Int32) (q : Int32) (J : IW n cl th ki va re fi) (S : SW n cl re fi) (B9 : (∀ j, bt j ≤ 255) ∧ bs ≤ 216) (C9 : (∀ j, co j ≤ 400) ∧ (∀ j, fw j ≤ 15)) (H9 : IHd lt tr sh cr ct cu ve ta ch) (U9 : IHd lt2 tr2 sh2 cr2 ct2 cu2 ve2 ta2 ch2) (E9 : (∀ j, fo j ≤ 2) ∧ (∀ j, si j ≤ 60)) (KC : SKc th ki va re n cl to co ke nu fw) : CP l D (TY cI cZ cS) yX5_number cX5_number 3 .int 2 [.ref (aS 0), .int x, .int q] ((wS cS aS (aW 0) (aB 0) (aC 0) (aH 0) (aT 0) aE la) ++ ((wW cI aW n cl th ki va re fi) ++ ((wB cI aB bt bs) ++ ((wC cI cZ aC (aW 0) (aB 0) to co ke nu fw) ++ ((wH cI aH (aW 0) lt tr sh cr ct cu ve ta ch) ++ ((wH cI aT (aW 0) lt2 tr2 sh2 cr2 ct2 cu2 ve2 ta2 ch2) ++ (wE cI aE lo fo si it))))))) (.int (nbV th ki va re n cl to co ke x q)) := by
  refine CP.ofI (by decide +kernel) (Nat.le_of_ble_eq_true rfl) (nar_int _) ?_
  intro p e s m args below meth c Q G K hP hret ls hl
  obtain ⟨hx, hb, hml, hown, hts⟩ := id G
  obtain ⟨hn, hcl, hth, hki, hva, hre, hfi⟩ := id J
  obtain ⟨hbt, hbs⟩ := id B9
  obtain ⟨hco, hfw⟩ := id C9
  obtain ⟨hlt, htr, hsh, hcr, hct, hcu, hve, hta, hch⟩ := id H9
  obtain ⟨hlt2, htr2, hsh2, hcr2, hct2, hcu2, hve2, hta2, hch2⟩ := id U9
  obtain ⟨hfo, hsi⟩ := id E9
  have hl : lv_has ls 3 [(0, .ref (aS 0)), (1, .int x), (2, .int q)] := hl
  refine lv_aload_n hx hb dX5_number_0 rfl (lv_at hl 0 rfl) ?_
  refine f_get G K hP inX5 0 (ci := 5) rfl rfl 0 rfl fl_X5_12 (v := .ref (aW 0)) rfl dX5_number_1 ?_
  refine lv_iload_n hx hb dX5_number_4 rfl (lv_at hl 1 rfl) ?_
  refine callPV (As := [.int x]) (rest := []) (q0 := 0) (ci := 4) G K F_X4_has (c_X4_has aW n cl th ki va re fi x J) (hP.sub (ws' := (wW cI aW n cl th ki va re fi)) [2, 3, 4, 5, 6, 7] rfl) ml_X5_88 rfl rfl rfl (by decide) (by decide) rfl hl.1 (Nat.le_of_ble_eq_true rfl) dX5_number_5 ?_
  refine b_eq G (tgt := 31) dX5_number_8 (by decide) (fun c8 => ?_) (fun c8 => ?_)
  · -- taken at 8
    refine lv_ldc hx hb hown (hts _ kc_X5_181) dX5_number_31 ?_
    exact hret _ _ _ (by first | exact ((KC k hk c28).1).trans (nbV_0 hn hk hj c28 c35) | exact nbV_1 hn hk hj c28 c35 | exact nbV_c hn hk c28 | exact nbV_w c8 | exact nbV_o (hr_lt (by decide) c12) | exact nbV_o (hr_gt (m := 1) (by decide) c17)) dX5_number_33
  · -- not taken at 8
    obtain ⟨k, hk, rfl⟩ := c8
    refine lv_iload_n hx hb dX5_number_11 rfl (lv_at hl 2 rfl) ?_
    refine lv_if_lt (tgt := 31) hx hb dX5_number_12 (by decide) (fun c12 => ?_) (fun c12 => ?_)
    · -- taken at 12
      refine lv_ldc hx hb hown (hts _ kc_X5_181) dX5_number_31 ?_
      exact hret _ _ _ (by first | exact ((KC k hk c28).1).trans (nbV_0 hn hk hj c28 c35) | exact nbV_1 hn hk hj c28 c35 | exact nbV_c hn hk c28 | exact nbV_w c8 | exact nbV_o (hr_lt (by decide) c12) | exact nbV_o (hr_gt (m := 1) (by decide) c17)) dX5_number_33
    · -- not taken at 12
      refine lv_iload_n hx hb dX5_number_15 rfl (lv_at hl 2 rfl) ?_
      refine lv_iconst (v := (nI 1)) hx hb dX5_number_16 (by decide) ?_
      refine lv_icmp_gt (tgt := 31) hx hb dX5_number_17 (by decide) (fun c17 => ?_) (fun c17 => ?_)
      · -- taken at 17
        refine lv_ldc hx hb hown (hts _ kc_X5_181) dX5_number_31 ?_
        exact hret _ _ _ (by first | exact ((KC k hk c28).1).trans (nbV_0 hn hk hj c28 c35) | exact nbV_1 hn hk hj c28 c35 | exact nbV_c hn hk c28 | exact nbV_w c8 | exact nbV_o (hr_lt (by decide) c12) | exact nbV_o (hr_gt (m := 1) (by decide) c17)) dX5_number_33
      · -- not taken at 17
        obtain ⟨j, hj, rfl⟩ := hr_iff (m := 1) (by decide) c12 c17
        refine lv_aload_n hx hb dX5_number_20 rfl (lv_at hl 0 rfl) ?_
        refine f_get G K hP inX5 0 (ci := 5) rfl rfl 0 rfl fl_X5_12 (v := .ref (aW 0)) rfl dX5_number_21 ?_
        refine lv_iload_n hx hb dX5_number_24 rfl (lv_at hl 1 rfl) ?_
        refine callPV (As := [.int (nI k)]) (rest := []) (q0 := 0) (ci := 4) G K F_X4_isClosedSeal (c_X4_isClosedSeal aW n cl th ki va re fi k J (by omega)) (hP.sub (ws' := (wW cI aW n cl th ki va re fi)) [2, 3, 4, 5, 6, 7] rfl) ml_X5_178 rfl rfl rfl (by decide) (by decide) rfl hl.1 (Nat.le_of_ble_eq_true rfl) dX5_number_25 ?_
        refine b_ne G (tgt := 34) dX5_number_28 (by decide) (fun c28 => ?_) (fun c28 => ?_)
        · -- taken at 28
          refine lv_iload_n hx hb dX5_number_34 rfl (lv_at hl 2 rfl) ?_
          refine z_ne G (tgt := 50) (by omega) dX5_number_35 (by decide) (fun c35 => ?_) (fun c35 => ?_)
          · -- taken at 35
            refine lv_aload_n hx hb dX5_number_50 rfl (lv_at hl 0 rfl) ?_
            refine f_get G K hP inX5 0 (ci := 5) rfl rfl 2 rfl fl_X5_28 (v := .ref (aC 0)) rfl dX5_number_51 ?_
            refine f_get G K hP inX1 10 (ci := 1) rfl rfl 4 rfl fl_X5_185 (v := .ref (aC 3)) rfl dX5_number_54 ?_
            refine lv_iload_n hx hb dX5_number_57 rfl (lv_at hl 1 rfl) ?_
            refine a_ld G K hP 13 0 (a := (aC 3)) rfl rfl (by omega) (by decide) dX5_number_58 ?_
            exact hret _ _ _ (by first | exact ((KC k hk c28).1).trans (nbV_0 hn hk hj c28 c35) | exact nbV_1 hn hk hj c28 c35 | exact nbV_c hn hk c28 | exact nbV_w c8 | exact nbV_o (hr_lt (by decide) c12) | exact nbV_o (hr_gt (m := 1) (by decide) c17)) dX5_number_59
          · -- not taken at 35
            refine lv_aload_n hx hb dX5_number_38 rfl (lv_at hl 0 rfl) ?_
            refine f_get G K hP inX5 0 (ci := 5) rfl rfl 2 rfl fl_X5_28 (v := .ref (aC 0)) rfl dX5_number_39 ?_
            refine f_get G K hP inX1 10 (ci := 1) rfl rfl 5 rfl fl_X5_182 (v := .ref (aC 4)) rfl dX5_number_42 ?_
            refine lv_iload_n hx hb dX5_number_45 rfl (lv_at hl 1 rfl) ?_
            refine a_ld G K hP 14 0 (a := (aC 4)) rfl rfl (by omega) (by decide) dX5_number_46 ?_
            refine lv_goto (tgt := 59) hx hb dX5_number_47 (by decide) ?_
            exact hret _ _ _ (by first | exact ((KC k hk c28).1).trans (nbV_0 hn hk hj c28 c35) | exact nbV_1 hn hk hj c28 c35 | exact nbV_c hn hk c28 | exact nbV_w c8 | exact nbV_o (hr_lt (by decide) c12) | exact nbV_o (hr_gt (m := 1) (by decide) c17)) dX5_number_59
        · -- not taken at 28
          refine lv_ldc hx hb hown (hts _ kc_X5_181) dX5_number_31 ?_
          exact hret _ _ _ (by first | exact ((KC k hk c28).1).trans (nbV_0 hn hk hj c28 c35) | exact nbV_1 hn hk hj c28 c35 | exact nbV_c hn hk c28 | exact nbV_w c8 | exact nbV_o (hr_lt (by decide) c12) | exact nbV_o (hr_gt (m := 1) (by decide) c17)) dX5_number_33
set_option maxHeartbeats 4000000 in
set_option maxRecDepth 100000 in
theorem c_X5_flaws (aS : Nat → Nat) (aE : Nat → Nat) (la : Int32) (aW : Nat → Nat) (n : Nat) (cl : Nat) (th : Nat → Nat) (ki : Nat → Nat) (va : Nat → Nat) (re : Nat → Nat) (fi : Nat → Nat) (aB : Nat → Nat) (bt : Nat → Nat) (bs : Nat) (aC : Nat → Nat) (to : Nat → Prop) (co : Nat → Nat) (ke : Nat → Int32) (nu : Nat → Int32) (fw : Nat → Nat) (aH : Nat → Nat) (lt : Nat → Option Nat) (tr : Nat → Nat) (sh : Nat → Nat) (cr : Nat → Nat) (ct : Nat → Nat) (cu : Nat → Nat) (ve : Nat → Nat) (ta : Nat → Nat) (ch : Nat) (aT : Nat → Nat) (lt2 : Nat → Option Nat) (tr2 : Nat → Nat) (sh2 : Nat → Nat) (cr2 : Nat → Nat) (ct2 : Nat → Nat) (cu2 : Nat → Nat) (ve2 : Nat → Nat) (ta2 : Nat → Nat) (ch2 : Nat) (lo : Nat → Prop) (fo : Nat → Nat) (si : Nat → Nat) (it : Nat → Nat → Int32) (x : Int32) (J : IW n cl th ki va re fi) (S : SW n cl re fi) (B9 : (∀ j, bt j ≤ 255) ∧ bs ≤ 216) (C9 : (∀ j, co j ≤ 400) ∧ (∀ j, fw j ≤ 15)) (H9 : IHd lt tr sh cr ct cu ve ta ch) (U9 : IHd lt2 tr2 sh2 cr2 ct2 cu2 ve2 ta2 ch2) (E9 : (∀ j, fo j ≤ 2) ∧ (∀ j, si j ≤ 60)) (KC : SKc th ki va re n cl to co ke nu fw) : CP l D (TY cI cZ cS) yX5_flaws cX5_flaws 2 .int 2 [.ref (aS 0), .int x] ((wS cS aS (aW 0) (aB 0) (aC 0) (aH 0) (aT 0) aE la) ++ ((wW cI aW n cl th ki va re fi) ++ ((wB cI aB bt bs) ++ ((wC cI cZ aC (aW 0) (aB 0) to co ke nu fw) ++ ((wH cI aH (aW 0) lt tr sh cr ct cu ve ta ch) ++ ((wH cI aT (aW 0) lt2 tr2 sh2 cr2 ct2 cu2 ve2 ta2 ch2) ++ (wE cI aE lo fo si it))))))) (.int (fwV th ki va re n cl to co ke x)) := by
  refine CP.ofI (by decide +kernel) (Nat.le_of_ble_eq_true rfl) (nar_int _) ?_
  intro p e s m args below meth c Q G K hP hret ls hl
  obtain ⟨hx, hb, hml, hown, hts⟩ := id G
  obtain ⟨hn, hcl, hth, hki, hva, hre, hfi⟩ := id J
  obtain ⟨hbt, hbs⟩ := id B9
  obtain ⟨hco, hfw⟩ := id C9
  obtain ⟨hlt, htr, hsh, hcr, hct, hcu, hve, hta, hch⟩ := id H9
  obtain ⟨hlt2, htr2, hsh2, hcr2, hct2, hcu2, hve2, hta2, hch2⟩ := id U9
  obtain ⟨hfo, hsi⟩ := id E9
  have hl : lv_has ls 2 [(0, .ref (aS 0)), (1, .int x)] := hl
  refine lv_aload_n hx hb dX5_flaws_0 rfl (lv_at hl 0 rfl) ?_
  refine f_get G K hP inX5 0 (ci := 5) rfl rfl 0 rfl fl_X5_12 (v := .ref (aW 0)) rfl dX5_flaws_1 ?_
  refine lv_iload_n hx hb dX5_flaws_4 rfl (lv_at hl 1 rfl) ?_
  refine callPV (As := [.int x]) (rest := []) (q0 := 0) (ci := 4) G K F_X4_has (c_X4_has aW n cl th ki va re fi x J) (hP.sub (ws' := (wW cI aW n cl th ki va re fi)) [2, 3, 4, 5, 6, 7] rfl) ml_X5_88 rfl rfl rfl (by decide) (by decide) rfl hl.1 (Nat.le_of_ble_eq_true rfl) dX5_flaws_5 ?_
  refine b_ne G (tgt := 14) dX5_flaws_8 (by decide) (fun c8 => ?_) (fun c8 => ?_)
  · -- taken at 8
    obtain ⟨k, hk, rfl⟩ := c8
    refine lv_aload_n hx hb dX5_flaws_14 rfl (lv_at hl 0 rfl) ?_
    refine f_get G K hP inX5 0 (ci := 5) rfl rfl 0 rfl fl_X5_12 (v := .ref (aW 0)) rfl dX5_flaws_15 ?_
    refine lv_iload_n hx hb dX5_flaws_18 rfl (lv_at hl 1 rfl) ?_
    refine callPV (As := [.int (nI k)]) (rest := []) (q0 := 0) (ci := 4) G K F_X4_isClosedSeal (c_X4_isClosedSeal aW n cl th ki va re fi k J (by omega)) (hP.sub (ws' := (wW cI aW n cl th ki va re fi)) [2, 3, 4, 5, 6, 7] rfl) ml_X5_178 rfl rfl rfl (by decide) (by decide) rfl hl.1 (Nat.le_of_ble_eq_true rfl) dX5_flaws_19 ?_
    refine b_eq G (tgt := 37) dX5_flaws_22 (by decide) (fun c22 => ?_) (fun c22 => ?_)
    · -- taken at 22
      refine lv_bipush (v := (-3)) hx hb dX5_flaws_37 (by decide) ?_
      exact hret _ _ _ (by first | exact fwV_w c8 | exact (congrArg nI (KC k hk c22).2).trans (fwV_k hn hk c22) | exact fwV_s hn hk c22) dX5_flaws_39
    · -- not taken at 22
      refine lv_aload_n hx hb dX5_flaws_25 rfl (lv_at hl 0 rfl) ?_
      refine f_get G K hP inX5 0 (ci := 5) rfl rfl 2 rfl fl_X5_28 (v := .ref (aC 0)) rfl dX5_flaws_26 ?_
      refine f_get G K hP inX1 10 (ci := 1) rfl rfl 6 rfl fl_X5_188 (v := .ref (aC 5)) rfl dX5_flaws_29 ?_
      refine lv_iload_n hx hb dX5_flaws_32 rfl (lv_at hl 1 rfl) ?_
      refine a_ldN G K hP 15 0 (a := (aC 5)) rfl rfl (by omega) (by decide) dX5_flaws_33 ?_
      have hb1 := hfw k
      refine lv_goto (tgt := 39) hx hb dX5_flaws_34 (by decide) ?_
      exact hret _ _ _ (by first | exact fwV_w c8 | exact (congrArg nI (KC k hk c22).2).trans (fwV_k hn hk c22) | exact fwV_s hn hk c22) dX5_flaws_39
  · -- not taken at 8
    refine lv_bipush (v := (-2)) hx hb dX5_flaws_11 (by decide) ?_
    exact hret _ _ _ (by first | exact fwV_w c8 | exact (congrArg nI (KC k hk c22).2).trans (fwV_k hn hk c22) | exact fwV_s hn hk c22) dX5_flaws_13
set_option maxHeartbeats 4000000 in
set_option maxRecDepth 100000 in
theorem c_X5_holds_h (aS : Nat → Nat) (aE : Nat → Nat) (la : Int32) (aW : Nat → Nat) (n : Nat) (cl : Nat) (th : Nat → Nat) (ki : Nat → Nat) (va : Nat → Nat) (re : Nat → Nat) (fi : Nat → Nat) (aB : Nat → Nat) (bt : Nat → Nat) (bs : Nat) (aC : Nat → Nat) (to : Nat → Prop) (co : Nat → Nat) (ke : Nat → Int32) (nu : Nat → Int32) (fw : Nat → Nat) (aH : Nat → Nat) (lt : Nat → Option Nat) (tr : Nat → Nat) (sh : Nat → Nat) (cr : Nat → Nat) (ct : Nat → Nat) (cu : Nat → Nat) (ve : Nat → Nat) (ta : Nat → Nat) (ch : Nat) (aT : Nat → Nat) (lt2 : Nat → Option Nat) (tr2 : Nat → Nat) (sh2 : Nat → Nat) (cr2 : Nat → Nat) (ct2 : Nat → Nat) (cu2 : Nat → Nat) (ve2 : Nat → Nat) (ta2 : Nat → Nat) (ch2 : Nat) (lo : Nat → Prop) (fo : Nat → Nat) (si : Nat → Nat) (it : Nat → Nat → Int32) (v : Nat) (J : IW n cl th ki va re fi) (S : SW n cl re fi) (B9 : (∀ j, bt j ≤ 255) ∧ bs ≤ 216) (C9 : (∀ j, co j ≤ 400) ∧ (∀ j, fw j ≤ 15)) (H9 : IHd lt tr sh cr ct cu ve ta ch) (U9 : IHd lt2 tr2 sh2 cr2 ct2 cu2 ve2 ta2 ch2) (E9 : (∀ j, fo j ≤ 2) ∧ (∀ j, si j ≤ 60)) (hv9 : v < 40) : CP l D (TY cI cZ cS) yX5_holds cX5_holds 3 .boolean 0 [.ref (aS 0), .int (nI v), .ref (aH 0)] ((wS cS aS (aW 0) (aB 0) (aC 0) (aH 0) (aT 0) aE la) ++ ((wW cI aW n cl th ki va re fi) ++ ((wB cI aB bt bs) ++ ((wC cI cZ aC (aW 0) (aB 0) to co ke nu fw) ++ ((wH cI aH (aW 0) lt tr sh cr ct cu ve ta ch) ++ ((wH cI aT (aW 0) lt2 tr2 sh2 cr2 ct2 cu2 ve2 ta2 ch2) ++ (wE cI aE lo fo si it))))))) (.int (bI (ve (re v) ≤ va v ∧ fw v = 0))) := by
  refine CP.ofI (by decide +kernel) (Nat.le_of_ble_eq_true rfl) (bI_nar _) ?_
  intro p e s m args below meth c Q G K hP hret ls hl
  obtain ⟨hx, hb, hml, hown, hts⟩ := id G
  obtain ⟨hn, hcl, hth, hki, hva, hre, hfi⟩ := id J
  obtain ⟨hbt, hbs⟩ := id B9
  obtain ⟨hco, hfw⟩ := id C9
  obtain ⟨hlt, htr, hsh, hcr, hct, hcu, hve, hta, hch⟩ := id H9
  obtain ⟨hlt2, htr2, hsh2, hcr2, hct2, hcu2, hve2, hta2, hch2⟩ := id U9
  obtain ⟨hfo, hsi⟩ := id E9
  have hl : lv_has ls 3 [(0, .ref (aS 0)), (1, .int (nI v)), (2, .ref (aH 0))] := hl
  refine lv_aload_n hx hb dX5_holds_0 rfl (lv_at hl 2 rfl) ?_
  refine f_get G K hP inX2 16 (ci := 2) rfl rfl 7 rfl fl_X5_191 (v := .ref (aH 7)) rfl dX5_holds_1 ?_
  refine lv_aload_n hx hb dX5_holds_4 rfl (lv_at hl 0 rfl) ?_
  refine f_get G K hP inX5 0 (ci := 5) rfl rfl 0 rfl fl_X5_12 (v := .ref (aW 0)) rfl dX5_holds_5 ?_
  refine f_get G K hP inX4 2 (ci := 4) rfl rfl 3 rfl fl_X5_138 (v := .ref (aW 4)) rfl dX5_holds_8 ?_
  refine lv_iload_n hx hb dX5_holds_11 rfl (lv_at hl 1 rfl) ?_
  refine a_ldN G K hP 6 0 (a := (aW 4)) rfl rfl (by omega) (by decide) dX5_holds_12 ?_
  have hb1 := hre v
  refine a_ldN G K hP 23 0 (a := (aH 7)) rfl rfl (by omega) (by decide) dX5_holds_13 ?_
  have hb2 := hve (re v)
  refine lv_aload_n hx hb dX5_holds_14 rfl (lv_at hl 0 rfl) ?_
  refine f_get G K hP inX5 0 (ci := 5) rfl rfl 0 rfl fl_X5_12 (v := .ref (aW 0)) rfl dX5_holds_15 ?_
  refine f_get G K hP inX4 2 (ci := 4) rfl rfl 2 rfl fl_X5_110 (v := .ref (aW 3)) rfl dX5_holds_18 ?_
  refine lv_iload_n hx hb dX5_holds_21 rfl (lv_at hl 1 rfl) ?_
  refine a_ldN G K hP 5 0 (a := (aW 3)) rfl rfl (by omega) (by decide) dX5_holds_22 ?_
  have hb3 := hva v
  refine c_gt G (tgt := 42) (by omega) (by omega) dX5_holds_23 (by decide) (fun c23 => ?_) (fun c23 => ?_)
  · -- taken at 23
    refine lv_iconst (v := (nI 0)) hx hb dX5_holds_42 (by decide) ?_
    exact hret _ _ _ (by first | exact b1 ⟨c23, c35⟩ | exact b0 (fun h => Nat.not_le.mpr c23 h.1) | exact b0 (fun h => by omega)) dX5_holds_43
  · -- not taken at 23
    refine lv_aload_n hx hb dX5_holds_26 rfl (lv_at hl 0 rfl) ?_
    refine f_get G K hP inX5 0 (ci := 5) rfl rfl 2 rfl fl_X5_28 (v := .ref (aC 0)) rfl dX5_holds_27 ?_
    refine f_get G K hP inX1 10 (ci := 1) rfl rfl 6 rfl fl_X5_188 (v := .ref (aC 5)) rfl dX5_holds_30 ?_
    refine lv_iload_n hx hb dX5_holds_33 rfl (lv_at hl 1 rfl) ?_
    refine a_ldN G K hP 15 0 (a := (aC 5)) rfl rfl (by omega) (by decide) dX5_holds_34 ?_
    have hb4 := hfw v
    refine z_ne G (tgt := 42) (by omega) dX5_holds_35 (by decide) (fun c35 => ?_) (fun c35 => ?_)
    · -- taken at 35
      refine lv_iconst (v := (nI 0)) hx hb dX5_holds_42 (by decide) ?_
      exact hret _ _ _ (by first | exact b1 ⟨c23, c35⟩ | exact b0 (fun h => Nat.not_le.mpr c23 h.1) | exact b0 (fun h => by omega)) dX5_holds_43
    · -- not taken at 35
      refine lv_iconst (v := (nI 1)) hx hb dX5_holds_38 (by decide) ?_
      refine lv_goto (tgt := 43) hx hb dX5_holds_39 (by decide) ?_
      exact hret _ _ _ (by first | exact b1 ⟨c23, c35⟩ | exact b0 (fun h => Nat.not_le.mpr c23 h.1) | exact b0 (fun h => by omega)) dX5_holds_43
set_option maxHeartbeats 4000000 in
set_option maxRecDepth 100000 in
theorem c_X5_holds_t (aS : Nat → Nat) (aE : Nat → Nat) (la : Int32) (aW : Nat → Nat) (n : Nat) (cl : Nat) (th : Nat → Nat) (ki : Nat → Nat) (va : Nat → Nat) (re : Nat → Nat) (fi : Nat → Nat) (aB : Nat → Nat) (bt : Nat → Nat) (bs : Nat) (aC : Nat → Nat) (to : Nat → Prop) (co : Nat → Nat) (ke : Nat → Int32) (nu : Nat → Int32) (fw : Nat → Nat) (aH : Nat → Nat) (lt : Nat → Option Nat) (tr : Nat → Nat) (sh : Nat → Nat) (cr : Nat → Nat) (ct : Nat → Nat) (cu : Nat → Nat) (ve : Nat → Nat) (ta : Nat → Nat) (ch : Nat) (aT : Nat → Nat) (lt2 : Nat → Option Nat) (tr2 : Nat → Nat) (sh2 : Nat → Nat) (cr2 : Nat → Nat) (ct2 : Nat → Nat) (cu2 : Nat → Nat) (ve2 : Nat → Nat) (ta2 : Nat → Nat) (ch2 : Nat) (lo : Nat → Prop) (fo : Nat → Nat) (si : Nat → Nat) (it : Nat → Nat → Int32) (v : Nat) (J : IW n cl th ki va re fi) (S : SW n cl re fi) (B9 : (∀ j, bt j ≤ 255) ∧ bs ≤ 216) (C9 : (∀ j, co j ≤ 400) ∧ (∀ j, fw j ≤ 15)) (H9 : IHd lt tr sh cr ct cu ve ta ch) (U9 : IHd lt2 tr2 sh2 cr2 ct2 cu2 ve2 ta2 ch2) (E9 : (∀ j, fo j ≤ 2) ∧ (∀ j, si j ≤ 60)) (hv9 : v < 40) : CP l D (TY cI cZ cS) yX5_holds cX5_holds 3 .boolean 0 [.ref (aS 0), .int (nI v), .ref (aT 0)] ((wS cS aS (aW 0) (aB 0) (aC 0) (aH 0) (aT 0) aE la) ++ ((wW cI aW n cl th ki va re fi) ++ ((wB cI aB bt bs) ++ ((wC cI cZ aC (aW 0) (aB 0) to co ke nu fw) ++ ((wH cI aH (aW 0) lt tr sh cr ct cu ve ta ch) ++ ((wH cI aT (aW 0) lt2 tr2 sh2 cr2 ct2 cu2 ve2 ta2 ch2) ++ (wE cI aE lo fo si it))))))) (.int (bI (ve2 (re v) ≤ va v ∧ fw v = 0))) := by
  refine CP.ofI (by decide +kernel) (Nat.le_of_ble_eq_true rfl) (bI_nar _) ?_
  intro p e s m args below meth c Q G K hP hret ls hl
  obtain ⟨hx, hb, hml, hown, hts⟩ := id G
  obtain ⟨hn, hcl, hth, hki, hva, hre, hfi⟩ := id J
  obtain ⟨hbt, hbs⟩ := id B9
  obtain ⟨hco, hfw⟩ := id C9
  obtain ⟨hlt, htr, hsh, hcr, hct, hcu, hve, hta, hch⟩ := id H9
  obtain ⟨hlt2, htr2, hsh2, hcr2, hct2, hcu2, hve2, hta2, hch2⟩ := id U9
  obtain ⟨hfo, hsi⟩ := id E9
  have hl : lv_has ls 3 [(0, .ref (aS 0)), (1, .int (nI v)), (2, .ref (aT 0))] := hl
  refine lv_aload_n hx hb dX5_holds_0 rfl (lv_at hl 2 rfl) ?_
  refine f_get G K hP inX2 25 (ci := 2) rfl rfl 7 rfl fl_X5_191 (v := .ref (aT 7)) rfl dX5_holds_1 ?_
  refine lv_aload_n hx hb dX5_holds_4 rfl (lv_at hl 0 rfl) ?_
  refine f_get G K hP inX5 0 (ci := 5) rfl rfl 0 rfl fl_X5_12 (v := .ref (aW 0)) rfl dX5_holds_5 ?_
  refine f_get G K hP inX4 2 (ci := 4) rfl rfl 3 rfl fl_X5_138 (v := .ref (aW 4)) rfl dX5_holds_8 ?_
  refine lv_iload_n hx hb dX5_holds_11 rfl (lv_at hl 1 rfl) ?_
  refine a_ldN G K hP 6 0 (a := (aW 4)) rfl rfl (by omega) (by decide) dX5_holds_12 ?_
  have hb1 := hre v
  refine a_ldN G K hP 32 0 (a := (aT 7)) rfl rfl (by omega) (by decide) dX5_holds_13 ?_
  have hb2 := hve (re v)
  have hbz := hve2 (re v)
  refine lv_aload_n hx hb dX5_holds_14 rfl (lv_at hl 0 rfl) ?_
  refine f_get G K hP inX5 0 (ci := 5) rfl rfl 0 rfl fl_X5_12 (v := .ref (aW 0)) rfl dX5_holds_15 ?_
  refine f_get G K hP inX4 2 (ci := 4) rfl rfl 2 rfl fl_X5_110 (v := .ref (aW 3)) rfl dX5_holds_18 ?_
  refine lv_iload_n hx hb dX5_holds_21 rfl (lv_at hl 1 rfl) ?_
  refine a_ldN G K hP 5 0 (a := (aW 3)) rfl rfl (by omega) (by decide) dX5_holds_22 ?_
  have hb3 := hva v
  refine c_gt G (tgt := 42) (by omega) (by omega) dX5_holds_23 (by decide) (fun c23 => ?_) (fun c23 => ?_)
  · -- taken at 23
    refine lv_iconst (v := (nI 0)) hx hb dX5_holds_42 (by decide) ?_
    exact hret _ _ _ (by first | exact b1 ⟨c23, c35⟩ | exact b0 (fun h => Nat.not_le.mpr c23 h.1) | exact b0 (fun h => by omega)) dX5_holds_43
  · -- not taken at 23
    refine lv_aload_n hx hb dX5_holds_26 rfl (lv_at hl 0 rfl) ?_
    refine f_get G K hP inX5 0 (ci := 5) rfl rfl 2 rfl fl_X5_28 (v := .ref (aC 0)) rfl dX5_holds_27 ?_
    refine f_get G K hP inX1 10 (ci := 1) rfl rfl 6 rfl fl_X5_188 (v := .ref (aC 5)) rfl dX5_holds_30 ?_
    refine lv_iload_n hx hb dX5_holds_33 rfl (lv_at hl 1 rfl) ?_
    refine a_ldN G K hP 15 0 (a := (aC 5)) rfl rfl (by omega) (by decide) dX5_holds_34 ?_
    have hb4 := hfw v
    refine z_ne G (tgt := 42) (by omega) dX5_holds_35 (by decide) (fun c35 => ?_) (fun c35 => ?_)
    · -- taken at 35
      refine lv_iconst (v := (nI 0)) hx hb dX5_holds_42 (by decide) ?_
      exact hret _ _ _ (by first | exact b1 ⟨c23, c35⟩ | exact b0 (fun h => Nat.not_le.mpr c23 h.1) | exact b0 (fun h => by omega)) dX5_holds_43
    · -- not taken at 35
      refine lv_iconst (v := (nI 1)) hx hb dX5_holds_38 (by decide) ?_
      refine lv_goto (tgt := 43) hx hb dX5_holds_39 (by decide) ?_
      exact hret _ _ _ (by first | exact b1 ⟨c23, c35⟩ | exact b0 (fun h => Nat.not_le.mpr c23 h.1) | exact b0 (fun h => by omega)) dX5_holds_43
set_option maxHeartbeats 4000000 in
set_option maxRecDepth 100000 in
theorem c_X5_judge (aS : Nat → Nat) (aE : Nat → Nat) (la : Int32) (aW : Nat → Nat) (n : Nat) (cl : Nat) (th : Nat → Nat) (ki : Nat → Nat) (va : Nat → Nat) (re : Nat → Nat) (fi : Nat → Nat) (aB : Nat → Nat) (bt : Nat → Nat) (bs : Nat) (aC : Nat → Nat) (to : Nat → Prop) (co : Nat → Nat) (ke : Nat → Int32) (nu : Nat → Int32) (fw : Nat → Nat) (aH : Nat → Nat) (lt : Nat → Option Nat) (tr : Nat → Nat) (sh : Nat → Nat) (cr : Nat → Nat) (ct : Nat → Nat) (cu : Nat → Nat) (ve : Nat → Nat) (ta : Nat → Nat) (ch : Nat) (aT : Nat → Nat) (lt2 : Nat → Option Nat) (tr2 : Nat → Nat) (sh2 : Nat → Nat) (cr2 : Nat → Nat) (ct2 : Nat → Nat) (cu2 : Nat → Nat) (ve2 : Nat → Nat) (ta2 : Nat → Nat) (ch2 : Nat) (lo : Nat → Prop) (fo : Nat → Nat) (si : Nat → Nat) (it : Nat → Nat → Int32) (x : Int32) (q : Int32) (J : IW n cl th ki va re fi) (S : SW n cl re fi) (B9 : (∀ j, bt j ≤ 255) ∧ bs ≤ 216) (C9 : (∀ j, co j ≤ 400) ∧ (∀ j, fw j ≤ 15)) (H9 : IHd lt tr sh cr ct cu ve ta ch) (U9 : IHd lt2 tr2 sh2 cr2 ct2 cu2 ve2 ta2 ch2) (E9 : (∀ j, fo j ≤ 2) ∧ (∀ j, si j ≤ 60)) (KC : SKc th ki va re n cl to co ke nu fw) (KH : HOK th ki va re none n cl lt tr sh cr ct cu ve ta ch) : CP l D (TY cI cZ cS) yX5_judge cX5_judge 4 .int 2 [.ref (aS 0), .int x, .int q] ((wS cS aS (aW 0) (aB 0) (aC 0) (aH 0) (aT 0) aE la) ++ ((wW cI aW n cl th ki va re fi) ++ ((wB cI aB bt bs) ++ ((wC cI cZ aC (aW 0) (aB 0) to co ke nu fw) ++ ((wH cI aH (aW 0) lt tr sh cr ct cu ve ta ch) ++ ((wH cI aT (aW 0) lt2 tr2 sh2 cr2 ct2 cu2 ve2 ta2 ch2) ++ (wE cI aE lo fo si it))))))) (.int (jdV th ki va re none n cl to co ke x q)) := by
  refine CP.ofI (by decide +kernel) (Nat.le_of_ble_eq_true rfl) (nar_int _) ?_
  intro p e s m args below meth c Q G K hP hret ls hl
  obtain ⟨hx, hb, hml, hown, hts⟩ := id G
  obtain ⟨hn, hcl, hth, hki, hva, hre, hfi⟩ := id J
  obtain ⟨hbt, hbs⟩ := id B9
  obtain ⟨hco, hfw⟩ := id C9
  obtain ⟨hlt, htr, hsh, hcr, hct, hcu, hve, hta, hch⟩ := id H9
  obtain ⟨hlt2, htr2, hsh2, hcr2, hct2, hcu2, hve2, hta2, hch2⟩ := id U9
  obtain ⟨hfo, hsi⟩ := id E9
  obtain ⟨K1, K2, K3, K4, K5, K6, K7⟩ := id KH
  have hl : lv_has ls 4 [(0, .ref (aS 0)), (1, .int x), (2, .int q)] := hl
  refine lv_aload_n hx hb dX5_judge_0 rfl (lv_at hl 0 rfl) ?_
  refine f_get G K hP inX5 0 (ci := 5) rfl rfl 0 rfl fl_X5_12 (v := .ref (aW 0)) rfl dX5_judge_1 ?_
  refine lv_iload_n hx hb dX5_judge_4 rfl (lv_at hl 1 rfl) ?_
  refine callPV (As := [.int x]) (rest := []) (q0 := 0) (ci := 4) G K F_X4_has (c_X4_has aW n cl th ki va re fi x J) (hP.sub (ws' := (wW cI aW n cl th ki va re fi)) [2, 3, 4, 5, 6, 7] rfl) ml_X5_88 rfl rfl rfl (by decide) (by decide) rfl hl.1 (Nat.le_of_ble_eq_true rfl) dX5_judge_5 ?_
  refine b_eq G (tgt := 20) dX5_judge_8 (by decide) (fun c8 => ?_) (fun c8 => ?_)
  · -- taken at 8
    refine lv_bipush (v := (-2)) hx hb dX5_judge_20 (by decide) ?_
    exact hret _ _ _ (by first | exact jdV_w c8 | exact jdV_o (hr_lt (by decide) c12) | exact jdV_o (hr_gt (m := 3) (by decide) (nle_lt c17))) dX5_judge_22
  · -- not taken at 8
    obtain ⟨k, hk, rfl⟩ := c8
    refine lv_iload_n hx hb dX5_judge_11 rfl (lv_at hl 2 rfl) ?_
    refine lv_if_lt (tgt := 20) hx hb dX5_judge_12 (by decide) (fun c12 => ?_) (fun c12 => ?_)
    · -- taken at 12
      refine lv_bipush (v := (-2)) hx hb dX5_judge_20 (by decide) ?_
      exact hret _ _ _ (by first | exact jdV_w c8 | exact jdV_o (hr_lt (by decide) c12) | exact jdV_o (hr_gt (m := 3) (by decide) (nle_lt c17))) dX5_judge_22
    · -- not taken at 12
      refine lv_iload_n hx hb dX5_judge_15 rfl (lv_at hl 2 rfl) ?_
      refine lv_iconst (v := (nI 3)) hx hb dX5_judge_16 (by decide) ?_
      refine lv_icmp_le (tgt := 23) hx hb dX5_judge_17 (by decide) (fun c17 => ?_) (fun c17 => ?_)
      · -- taken at 17
        obtain ⟨j, hj, rfl⟩ := hr_iff (m := 3) (by decide) c12 (le_nlt c17)
        refine lv_aload_n hx hb dX5_judge_23 rfl (lv_at hl 0 rfl) ?_
        refine f_get G K hP inX5 0 (ci := 5) rfl rfl 0 rfl fl_X5_12 (v := .ref (aW 0)) rfl dX5_judge_24 ?_
        refine lv_iload_n hx hb dX5_judge_27 rfl (lv_at hl 1 rfl) ?_
        refine callPV (As := [.int (nI k)]) (rest := []) (q0 := 0) (ci := 4) G K F_X4_isClosedSeal (c_X4_isClosedSeal aW n cl th ki va re fi k J (by omega)) (hP.sub (ws' := (wW cI aW n cl th ki va re fi)) [2, 3, 4, 5, 6, 7] rfl) ml_X5_178 rfl rfl rfl (by decide) (by decide) rfl hl.1 (Nat.le_of_ble_eq_true rfl) dX5_judge_28 ?_
        refine b_ne G (tgt := 37) dX5_judge_31 (by decide) (fun c31 => ?_) (fun c31 => ?_)
        · -- taken at 31
          refine lv_aload_n hx hb dX5_judge_37 rfl (lv_at hl 0 rfl) ?_
          refine f_get G K hP inX5 0 (ci := 5) rfl rfl 0 rfl fl_X5_12 (v := .ref (aW 0)) rfl dX5_judge_38 ?_
          refine f_get G K hP inX4 2 (ci := 4) rfl rfl 3 rfl fl_X5_138 (v := .ref (aW 4)) rfl dX5_judge_41 ?_
          refine lv_iload_n hx hb dX5_judge_44 rfl (lv_at hl 1 rfl) ?_
          refine a_ldN G K hP 6 0 (a := (aW 4)) rfl rfl (by omega) (by decide) dX5_judge_45 ?_
          have hb1 := hre k
          refine lv_istore_n (lv' := [(3, .int (nI (re k))), (0, .ref (aS 0)), (1, .int (nI k)), (2, .int (nI j))]) hx hb dX5_judge_46 rfl hl (by decide) rfl (fun ls hl => ?_)
          have hcz : re k < cl := c31.2
          refine lv_iload_n hx hb dX5_judge_47 rfl (lv_at hl 3 rfl) ?_
          rcases (show j = 0 ∨ j = 1 ∨ j = 2 ∨ 2 < j by omega) with rfl | rfl | rfl | hsw48
          · -- 0
            refine lv_tableIn (off := 28) (tgt := 76) hx hb dX5_judge_48 (by decide) (by decide) (by decide) (by decide) ?_
            refine lv_aload_n hx hb dX5_judge_76 rfl (lv_at hl 1 rfl) ?_
            refine f_get G K hP inX5 0 (ci := 5) rfl rfl 3 rfl fl_X5_37 (v := .ref (aH 0)) rfl dX5_judge_77 ?_
            refine f_get G K hP inX2 16 (ci := 2) rfl rfl 7 rfl fl_X5_191 (v := .ref (aH 7)) rfl dX5_judge_80 ?_
            refine lv_iload_n hx hb dX5_judge_83 rfl (lv_at hl 0 rfl) ?_
            refine a_ldN G K hP 23 0 (a := (aH 7)) rfl rfl (by omega) (by decide) dX5_judge_84 ?_
            have hb2 := hve (re k)
            exact hret _ _ _ ((congrArg nI (K6 (re k) hcz).1).trans (jdV_k hn hk (j := 0) (by decide) c31)) dX5_judge_85
          · -- 1
            refine lv_tableIn (off := 38) (tgt := 86) hx hb dX5_judge_48 (by decide) (by decide) (by decide) (by decide) ?_
            refine lv_aload_n hx hb dX5_judge_86 rfl (lv_at hl 1 rfl) ?_
            refine f_get G K hP inX5 0 (ci := 5) rfl rfl 3 rfl fl_X5_37 (v := .ref (aH 0)) rfl dX5_judge_87 ?_
            refine lv_iload_n hx hb dX5_judge_90 rfl (lv_at hl 0 rfl) ?_
            refine callPV (As := [.int (nI (re k))]) (rest := []) (q0 := 6) (ci := 2) G K F_X2_changesBehind (c_X2_changesBehind aW n cl th ki va re fi aH lt tr sh cr ct cu ve ta ch (re k) J S H9 (by omega) (by rw [K5 (re k) (by omega), K7]; exact cntP_mono _ (by omega))) (hP.sub (ws' := ((wW cI aW n cl th ki va re fi) ++ (wH cI aH (aW 0) lt tr sh cr ct cu ve ta ch))) [2, 3, 4, 5, 6, 7, 16, 17, 18, 19, 20, 21, 22, 23, 24] rfl) ml_X5_194 rfl rfl rfl (by decide) (by decide) rfl hl.1 (Nat.le_of_ble_eq_true rfl) dX5_judge_91 ?_
            exact hret _ _ _ ((congrArg nI (mch1 KH hcz)).trans (jdV_k hn hk (j := 1) (by decide) c31)) dX5_judge_94
          · -- 2
            refine lv_tableIn (off := 47) (tgt := 95) hx hb dX5_judge_48 (by decide) (by decide) (by decide) (by decide) ?_
            refine lv_aload_n hx hb dX5_judge_95 rfl (lv_at hl 1 rfl) ?_
            refine f_get G K hP inX5 0 (ci := 5) rfl rfl 3 rfl fl_X5_37 (v := .ref (aH 0)) rfl dX5_judge_96 ?_
            refine f_get G K hP inX2 16 (ci := 2) rfl rfl 8 rfl fl_X5_197 (v := .ref (aH 8)) rfl dX5_judge_99 ?_
            refine lv_iload_n hx hb dX5_judge_102 rfl (lv_at hl 0 rfl) ?_
            refine a_ldN G K hP 24 0 (a := (aH 8)) rfl rfl (by omega) (by decide) dX5_judge_103 ?_
            have hb3 := hta (re k)
            exact hret _ _ _ ((congrArg nI (K6 (re k) hcz).2).trans (jdV_k hn hk (j := 2) (by decide) c31)) dX5_judge_104
          · -- other
            refine lv_tableOut (tgt := 105) hx hb dX5_judge_48 (Or.inr (by rw [nI_toInt (by omega)]; omega)) (by decide) ?_
            refine lv_aload_n hx hb dX5_judge_105 rfl (lv_at hl 1 rfl) ?_
            refine lv_iload_n hx hb dX5_judge_106 rfl (lv_at hl 2 rfl) ?_
            refine lv_aload_n hx hb dX5_judge_107 rfl (lv_at hl 1 rfl) ?_
            refine f_get G K hP inX5 0 (ci := 5) rfl rfl 3 rfl fl_X5_37 (v := .ref (aH 0)) rfl dX5_judge_108 ?_
            refine callPV (As := [.int (nI k), .ref (aH 0)]) (rest := []) (q0 := 0) (ci := 5) G K F_X5_holds (c_X5_holds_h aS aE la aW n cl th ki va re fi aB bt bs aC to co ke nu fw aH lt tr sh cr ct cu ve ta ch aT lt2 tr2 sh2 cr2 ct2 cu2 ve2 ta2 ch2 lo fo si it k J S B9 C9 H9 U9 E9 (by omega)) hP ml_X5_200 rfl rfl rfl (by decide) (by decide) rfl hl.1 (Nat.le_of_ble_eq_true rfl) dX5_judge_111 ?_
            refine b_eq G (tgt := 121) dX5_judge_114 (by decide) (fun c114 => ?_) (fun c114 => ?_)
            · -- taken at 114
              refine lv_iconst (v := (nI 0)) hx hb dX5_judge_121 (by decide) ?_
              exact hret _ _ _ (by rw [← jdV_k hn hk hj c31]; exact congrArg nI (by unfold jdB; rw [if_neg (by omega), if_neg (by omega), if_neg (by omega)]; have e1 := (K6 (re k) hcz).1; have e2 := (KC k hk c31).2; rw [e1, e2] at c114; first | exact (cif_t ⟨c114.2, c114.1⟩).symm | exact (cif_f (fun h => c114 ⟨h.2, h.1⟩)).symm)) dX5_judge_122
            · -- not taken at 114
              refine lv_iconst (v := (nI 1)) hx hb dX5_judge_117 (by decide) ?_
              refine lv_goto (tgt := 122) hx hb dX5_judge_118 (by decide) ?_
              exact hret _ _ _ (by rw [← jdV_k hn hk hj c31]; exact congrArg nI (by unfold jdB; rw [if_neg (by omega), if_neg (by omega), if_neg (by omega)]; have e1 := (K6 (re k) hcz).1; have e2 := (KC k hk c31).2; rw [e1, e2] at c114; first | exact (cif_t ⟨c114.2, c114.1⟩).symm | exact (cif_f (fun h => c114 ⟨h.2, h.1⟩)).symm)) dX5_judge_122
        · -- not taken at 31
          refine lv_bipush (v := (-3)) hx hb dX5_judge_34 (by decide) ?_
          exact hret _ _ _ (jdV_s hn hk hj c31) dX5_judge_36
      · -- not taken at 17
        refine lv_bipush (v := (-2)) hx hb dX5_judge_20 (by decide) ?_
        exact hret _ _ _ (by first | exact jdV_w c8 | exact jdV_o (hr_lt (by decide) c12) | exact jdV_o (hr_gt (m := 3) (by decide) (nle_lt c17))) dX5_judge_22
set_option maxHeartbeats 4000000 in
set_option maxRecDepth 100000 in
theorem c_X5_change (aS : Nat → Nat) (aE : Nat → Nat) (la : Int32) (aW : Nat → Nat) (n : Nat) (cl : Nat) (th : Nat → Nat) (ki : Nat → Nat) (va : Nat → Nat) (re : Nat → Nat) (fi : Nat → Nat) (aB : Nat → Nat) (bt : Nat → Nat) (bs : Nat) (aC : Nat → Nat) (to : Nat → Prop) (co : Nat → Nat) (ke : Nat → Int32) (nu : Nat → Int32) (fw : Nat → Nat) (aH : Nat → Nat) (lt : Nat → Option Nat) (tr : Nat → Nat) (sh : Nat → Nat) (cr : Nat → Nat) (ct : Nat → Nat) (cu : Nat → Nat) (ve : Nat → Nat) (ta : Nat → Nat) (ch : Nat) (aT : Nat → Nat) (lt2 : Nat → Option Nat) (tr2 : Nat → Nat) (sh2 : Nat → Nat) (cr2 : Nat → Nat) (ct2 : Nat → Nat) (cu2 : Nat → Nat) (ve2 : Nat → Nat) (ta2 : Nat → Nat) (ch2 : Nat) (lo : Nat → Prop) (fo : Nat → Nat) (si : Nat → Nat) (it : Nat → Nat → Int32) (x : Int32) (i : Int32) (q : Int32) (J : IW n cl th ki va re fi) (S : SW n cl re fi) (B9 : (∀ j, bt j ≤ 255) ∧ bs ≤ 216) (C9 : (∀ j, co j ≤ 400) ∧ (∀ j, fw j ≤ 15)) (H9 : IHd lt tr sh cr ct cu ve ta ch) (U9 : IHd lt2 tr2 sh2 cr2 ct2 cu2 ve2 ta2 ch2) (E9 : (∀ j, fo j ≤ 2) ∧ (∀ j, si j ≤ 60)) (KH : HOK th ki va re none n cl lt tr sh cr ct cu ve ta ch) : CP l D (TY cI cZ cS) yX5_change cX5_change 6 .int 2 [.ref (aS 0), .int x, .int i, .int q] ((wS cS aS (aW 0) (aB 0) (aC 0) (aH 0) (aT 0) aE la) ++ ((wW cI aW n cl th ki va re fi) ++ ((wB cI aB bt bs) ++ ((wC cI cZ aC (aW 0) (aB 0) to co ke nu fw) ++ ((wH cI aH (aW 0) lt tr sh cr ct cu ve ta ch) ++ ((wH cI aT (aW 0) lt2 tr2 sh2 cr2 ct2 cu2 ve2 ta2 ch2) ++ (wE cI aE lo fo si it))))))) (.int (cgV th ki va re none n cl x i q)) := by
  refine CP.ofI (by decide +kernel) (Nat.le_of_ble_eq_true rfl) (nar_int _) ?_
  intro p e s m args below meth c Q G K hP hret ls hl
  obtain ⟨hx, hb, hml, hown, hts⟩ := id G
  obtain ⟨hn, hcl, hth, hki, hva, hre, hfi⟩ := id J
  obtain ⟨hbt, hbs⟩ := id B9
  obtain ⟨hco, hfw⟩ := id C9
  obtain ⟨hlt, htr, hsh, hcr, hct, hcu, hve, hta, hch⟩ := id H9
  obtain ⟨hlt2, htr2, hsh2, hcr2, hct2, hcu2, hve2, hta2, hch2⟩ := id U9
  obtain ⟨hfo, hsi⟩ := id E9
  obtain ⟨K1, K2, K3, K4, K5, K6, K7⟩ := id KH
  have hl : lv_has ls 6 [(0, .ref (aS 0)), (1, .int x), (2, .int i), (3, .int q)] := hl
  refine lv_aload_n hx hb dX5_change_0 rfl (lv_at hl 0 rfl) ?_
  refine f_get G K hP inX5 0 (ci := 5) rfl rfl 0 rfl fl_X5_12 (v := .ref (aW 0)) rfl dX5_change_1 ?_
  refine lv_iload_n hx hb dX5_change_4 rfl (lv_at hl 1 rfl) ?_
  refine callPV (As := [.int x]) (rest := []) (q0 := 0) (ci := 4) G K F_X4_has (c_X4_has aW n cl th ki va re fi x J) (hP.sub (ws' := (wW cI aW n cl th ki va re fi)) [2, 3, 4, 5, 6, 7] rfl) ml_X5_88 rfl rfl rfl (by decide) (by decide) rfl hl.1 (Nat.le_of_ble_eq_true rfl) dX5_change_5 ?_
  refine b_eq G (tgt := 30) dX5_change_8 (by decide) (fun c8 => ?_) (fun c8 => ?_)
  · -- taken at 8
    refine lv_bipush (v := (-2)) hx hb dX5_change_30 (by decide) ?_
    exact hret _ _ _ (by first | exact cgV_w c8 | exact cgV_o (fun h => hr_lt (by decide) c12 h.1) | exact cgV_o (fun h => hr_gt (m := 99) (by decide) c18 h.1) | exact cgV_o (fun h => hr_lt (by decide) c22 h.2) | exact cgV_o (fun h => hr_gt (m := 2) (by decide) (nle_lt c27) h.2)) dX5_change_32
  · -- not taken at 8
    obtain ⟨k, hk, rfl⟩ := c8
    refine lv_iload_n hx hb dX5_change_11 rfl (lv_at hl 2 rfl) ?_
    refine lv_if_lt (tgt := 30) hx hb dX5_change_12 (by decide) (fun c12 => ?_) (fun c12 => ?_)
    · -- taken at 12
      refine lv_bipush (v := (-2)) hx hb dX5_change_30 (by decide) ?_
      exact hret _ _ _ (by first | exact cgV_w c8 | exact cgV_o (fun h => hr_lt (by decide) c12 h.1) | exact cgV_o (fun h => hr_gt (m := 99) (by decide) c18 h.1) | exact cgV_o (fun h => hr_lt (by decide) c22 h.2) | exact cgV_o (fun h => hr_gt (m := 2) (by decide) (nle_lt c27) h.2)) dX5_change_32
    · -- not taken at 12
      refine lv_iload_n hx hb dX5_change_15 rfl (lv_at hl 2 rfl) ?_
      refine lv_bipush (v := (nI 99)) hx hb dX5_change_16 (by decide) ?_
      refine lv_icmp_gt (tgt := 30) hx hb dX5_change_18 (by decide) (fun c18 => ?_) (fun c18 => ?_)
      · -- taken at 18
        refine lv_bipush (v := (-2)) hx hb dX5_change_30 (by decide) ?_
        exact hret _ _ _ (by first | exact cgV_w c8 | exact cgV_o (fun h => hr_lt (by decide) c12 h.1) | exact cgV_o (fun h => hr_gt (m := 99) (by decide) c18 h.1) | exact cgV_o (fun h => hr_lt (by decide) c22 h.2) | exact cgV_o (fun h => hr_gt (m := 2) (by decide) (nle_lt c27) h.2)) dX5_change_32
      · -- not taken at 18
        obtain ⟨i9, hi9, rfl⟩ := hr_iff (m := 99) (by decide) c12 c18
        refine lv_iload_n hx hb dX5_change_21 rfl (lv_at hl 3 rfl) ?_
        refine lv_if_lt (tgt := 30) hx hb dX5_change_22 (by decide) (fun c22 => ?_) (fun c22 => ?_)
        · -- taken at 22
          refine lv_bipush (v := (-2)) hx hb dX5_change_30 (by decide) ?_
          exact hret _ _ _ (by first | exact cgV_w c8 | exact cgV_o (fun h => hr_lt (by decide) c12 h.1) | exact cgV_o (fun h => hr_gt (m := 99) (by decide) c18 h.1) | exact cgV_o (fun h => hr_lt (by decide) c22 h.2) | exact cgV_o (fun h => hr_gt (m := 2) (by decide) (nle_lt c27) h.2)) dX5_change_32
        · -- not taken at 22
          refine lv_iload_n hx hb dX5_change_25 rfl (lv_at hl 3 rfl) ?_
          refine lv_iconst (v := (nI 2)) hx hb dX5_change_26 (by decide) ?_
          refine lv_icmp_le (tgt := 33) hx hb dX5_change_27 (by decide) (fun c27 => ?_) (fun c27 => ?_)
          · -- taken at 27
            obtain ⟨j, hj, rfl⟩ := hr_iff (m := 2) (by decide) c22 (le_nlt c27)
            refine lv_aload_n hx hb dX5_change_33 rfl (lv_at hl 0 rfl) ?_
            refine f_get G K hP inX5 0 (ci := 5) rfl rfl 0 rfl fl_X5_12 (v := .ref (aW 0)) rfl dX5_change_34 ?_
            refine lv_iload_n hx hb dX5_change_37 rfl (lv_at hl 1 rfl) ?_
            refine callPV (As := [.int (nI k)]) (rest := []) (q0 := 0) (ci := 4) G K F_X4_isClosedSeal (c_X4_isClosedSeal aW n cl th ki va re fi k J (by omega)) (hP.sub (ws' := (wW cI aW n cl th ki va re fi)) [2, 3, 4, 5, 6, 7] rfl) ml_X5_178 rfl rfl rfl (by decide) (by decide) rfl hl.1 (Nat.le_of_ble_eq_true rfl) dX5_change_38 ?_
            refine b_ne G (tgt := 47) dX5_change_41 (by decide) (fun c41 => ?_) (fun c41 => ?_)
            · -- taken at 41
              refine lv_aload_n hx hb dX5_change_47 rfl (lv_at hl 0 rfl) ?_
              refine f_get G K hP inX5 0 (ci := 5) rfl rfl 0 rfl fl_X5_12 (v := .ref (aW 0)) rfl dX5_change_48 ?_
              refine f_get G K hP inX4 2 (ci := 4) rfl rfl 3 rfl fl_X5_138 (v := .ref (aW 4)) rfl dX5_change_51 ?_
              refine lv_iload_n hx hb dX5_change_54 rfl (lv_at hl 1 rfl) ?_
              refine a_ldN G K hP 6 0 (a := (aW 4)) rfl rfl (by omega) (by decide) dX5_change_55 ?_
              have hb1 := hre k
              refine lv_istore (lv' := [(4, .int (nI (re k))), (0, .ref (aS 0)), (1, .int (nI k)), (2, .int (nI i9)), (3, .int (nI j))]) hx hb dX5_change_56 hl (by decide) rfl (fun ls hl => ?_)
              have hcz : re k < cl := c41.2
              refine lv_iload_n hx hb dX5_change_58 rfl (lv_at hl 3 rfl) ?_
              refine lv_aload_n hx hb dX5_change_59 rfl (lv_at hl 1 rfl) ?_
              refine f_get G K hP inX5 0 (ci := 5) rfl rfl 3 rfl fl_X5_37 (v := .ref (aH 0)) rfl dX5_change_60 ?_
              refine lv_iload hx hb dX5_change_63 (lv_at hl 0 rfl) ?_
              refine callPV (As := [.int (nI (re k))]) (rest := [.int (nI i9)]) (q0 := 6) (ci := 2) G K F_X2_changesBehind (c_X2_changesBehind aW n cl th ki va re fi aH lt tr sh cr ct cu ve ta ch (re k) J S H9 (by omega) (by rw [K5 (re k) (by omega), K7]; exact cntP_mono _ (by omega))) (hP.sub (ws' := ((wW cI aW n cl th ki va re fi) ++ (wH cI aH (aW 0) lt tr sh cr ct cu ve ta ch))) [2, 3, 4, 5, 6, 7, 16, 17, 18, 19, 20, 21, 22, 23, 24] rfl) ml_X5_194 rfl rfl rfl (by decide) (by decide) rfl hl.1 (Nat.le_of_ble_eq_true rfl) dX5_change_65 ?_
              refine c_lt G (tgt := 73) (by omega) (by omega) dX5_change_68 (by decide) (fun c68 => ?_) (fun c68 => ?_)
              · -- taken at 68
                obtain ⟨j9, e0, e1, e2, e3, e4, e5, e6⟩ := ch_at hcl KH hcz c68
                have hqk := KH.1
                refine lv_aload_n hx hb dX5_change_73 rfl (lv_at hl 1 rfl) ?_
                refine f_get G K hP inX5 0 (ci := 5) rfl rfl 3 rfl fl_X5_37 (v := .ref (aH 0)) rfl dX5_change_74 ?_
                refine f_get G K hP inX2 16 (ci := 2) rfl rfl 6 rfl fl_X5_204 (v := .ref (aH 6)) rfl dX5_change_77 ?_
                refine lv_iload hx hb dX5_change_80 (lv_at hl 0 rfl) ?_
                refine a_ldN G K hP 22 0 (a := (aH 6)) rfl rfl (by omega) (by decide) dX5_change_82 ?_
                have hb2 := hcu (re k)
                refine lv_iload_n hx hb dX5_change_83 rfl (lv_at hl 3 rfl) ?_
                refine t_add G dX5_change_84 ?_
                refine lv_istore (lv' := [(5, .int (nI (cu (re k) + i9))), (4, .int (nI (re k))), (0, .ref (aS 0)), (1, .int (nI k)), (2, .int (nI i9)), (3, .int (nI j))]) hx hb dX5_change_85 hl (by decide) rfl (fun ls hl => ?_)
                refine lv_iload_n hx hb dX5_change_87 rfl (lv_at hl 5 rfl) ?_
                rcases (show j = 0 ∨ j = 1 ∨ 1 < j by omega) with rfl | rfl | hsw88
                · -- 0
                  refine lv_lookup (off := 28) (tgt := 116) hx hb dX5_change_88 (by decide) (by decide) (by decide) ?_
                  refine lv_aload_n hx hb dX5_change_116 rfl (lv_at hl 2 rfl) ?_
                  refine f_get G K hP inX5 0 (ci := 5) rfl rfl 3 rfl fl_X5_37 (v := .ref (aH 0)) rfl dX5_change_117 ?_
                  refine f_get G K hP inX2 16 (ci := 2) rfl rfl 4 rfl fl_X5_207 (v := .ref (aH 4)) rfl dX5_change_120 ?_
                  refine lv_iload hx hb dX5_change_123 (lv_at hl 0 rfl) ?_
                  refine a_ldN G K hP 20 0 (a := (aH 4)) rfl rfl (by omega) (by decide) dX5_change_125 ?_
                  have hb3 := hcr (cu (re k) + i9)
                  exact hret _ _ _ (by rw [← cgV_k hn hk hi9 hj c41]; unfold chV2; rw [e0, e5]; rfl) dX5_change_126
                · -- 1
                  refine lv_lookup (off := 39) (tgt := 127) hx hb dX5_change_88 (by decide) (by decide) (by decide) ?_
                  refine lv_aload_n hx hb dX5_change_127 rfl (lv_at hl 2 rfl) ?_
                  refine f_get G K hP inX5 0 (ci := 5) rfl rfl 3 rfl fl_X5_37 (v := .ref (aH 0)) rfl dX5_change_128 ?_
                  refine f_get G K hP inX2 16 (ci := 2) rfl rfl 5 rfl fl_X5_210 (v := .ref (aH 5)) rfl dX5_change_131 ?_
                  refine lv_iload hx hb dX5_change_134 (lv_at hl 0 rfl) ?_
                  refine a_ldN G K hP 21 0 (a := (aH 5)) rfl rfl (by omega) (by decide) dX5_change_136 ?_
                  have hb4 := hct (cu (re k) + i9)
                  exact hret _ _ _ (by rw [← cgV_k hn hk hi9 hj c41]; unfold chV2; rw [e0, e6]; rfl) dX5_change_137
                · -- other
                  refine lv_lookup (off := 50) (tgt := 138) hx hb dX5_change_88 (by decide) (lk_o (by omega) (by omega)) (by decide) ?_
                  refine lv_aload_n hx hb dX5_change_138 rfl (lv_at hl 2 rfl) ?_
                  refine f_get G K hP inX5 0 (ci := 5) rfl rfl 3 rfl fl_X5_37 (v := .ref (aH 0)) rfl dX5_change_139 ?_
                  refine lv_iload hx hb dX5_change_142 (lv_at hl 0 rfl) ?_
                  refine lv_iload hx hb dX5_change_144 (lv_at hl 1 rfl) ?_
                  refine callPV (As := [.int (nI (cu (re k) + i9)), .int (nI (re k))]) (rest := []) (q0 := 6) (ci := 2) G K F_X2_sortOf (c_X2_sortOf aW n cl th ki va re fi aH lt tr sh cr ct cu ve ta ch (cu (re k) + i9) (re k) J S H9 (by omega) (by omega) (by rw [e5]; omega) (fun v h => by rw [e5, e6, K1 _ _ (by omega) (by omega)] at h; exact lastW_lt th re none _ _ n v h) (fun v h => by rw [e5, e6, K1 _ _ (by omega) (by omega)] at h; exact lastW_lt th re none _ _ n v h)) (hP.sub (ws' := ((wW cI aW n cl th ki va re fi) ++ (wH cI aH (aW 0) lt tr sh cr ct cu ve ta ch))) [2, 3, 4, 5, 6, 7, 16, 17, 18, 19, 20, 21, 22, 23, 24] rfl) ml_X5_213 rfl rfl rfl (by decide) (by decide) rfl hl.1 (Nat.le_of_ble_eq_true rfl) dX5_change_146 ?_
                  have hf5 := srC_le ki va ((sh (cr (cu (re k) + i9))).testBit (ct (cu (re k) + i9)) = true) ((tr (re k)).testBit (ct (cu (re k) + i9)) = true) (tr (re k)) (lt ((cr (cu (re k) + i9) - 1) * 16 + ct (cu (re k) + i9))) (lt (cr (cu (re k) + i9) * 16 + ct (cu (re k) + i9)))
                  refine t_i (y := (nI (sjt th ki va re none n (re k) j9))) (congrArg nI (by rw [e5, e6]; exact srC_at hva K1 K2 K3 e3 (by omega) e4)) ?_
                  exact hret _ _ _ (by rw [← cgV_k hn hk hi9 hj c41]; unfold chV2; rw [e0]; show _ = nI (chV th ki va re none n (re k) j j9); unfold chV; rw [if_neg (by omega), if_neg (by omega)]) dX5_change_149
              · -- not taken at 68
                refine lv_iconst (v := (-1)) hx hb dX5_change_71 (by decide) ?_
                exact hret _ _ _ (by rw [← cgV_k hn hk hi9 hj c41]; unfold chV2; rw [ch_no KH hcz c68]; rfl) dX5_change_72
            · -- not taken at 41
              refine lv_bipush (v := (-3)) hx hb dX5_change_44 (by decide) ?_
              exact hret _ _ _ (cgV_s hn hk hi9 hj c41) dX5_change_46
          · -- not taken at 27
            refine lv_bipush (v := (-2)) hx hb dX5_change_30 (by decide) ?_
            exact hret _ _ _ (by first | exact cgV_w c8 | exact cgV_o (fun h => hr_lt (by decide) c12 h.1) | exact cgV_o (fun h => hr_gt (m := 99) (by decide) c18 h.1) | exact cgV_o (fun h => hr_lt (by decide) c22 h.2) | exact cgV_o (fun h => hr_gt (m := 2) (by decide) (nle_lt c27) h.2)) dX5_change_32
set_option maxHeartbeats 4000000 in
set_option maxRecDepth 100000 in
theorem c_X5_allowed (aS : Nat → Nat) (aE : Nat → Nat) (la : Int32) (aW : Nat → Nat) (n : Nat) (cl : Nat) (th : Nat → Nat) (ki : Nat → Nat) (va : Nat → Nat) (re : Nat → Nat) (fi : Nat → Nat) (aB : Nat → Nat) (bt : Nat → Nat) (bs : Nat) (aC : Nat → Nat) (to : Nat → Prop) (co : Nat → Nat) (ke : Nat → Int32) (nu : Nat → Int32) (fw : Nat → Nat) (aH : Nat → Nat) (lt : Nat → Option Nat) (tr : Nat → Nat) (sh : Nat → Nat) (cr : Nat → Nat) (ct : Nat → Nat) (cu : Nat → Nat) (ve : Nat → Nat) (ta : Nat → Nat) (ch : Nat) (aT : Nat → Nat) (lt2 : Nat → Option Nat) (tr2 : Nat → Nat) (sh2 : Nat → Nat) (cr2 : Nat → Nat) (ct2 : Nat → Nat) (cu2 : Nat → Nat) (ve2 : Nat → Nat) (ta2 : Nat → Nat) (ch2 : Nat) (lo : Nat → Prop) (fo : Nat → Nat) (si : Nat → Nat) (it : Nat → Nat → Int32) (x : Int32) (J : IW n cl th ki va re fi) (S : SW n cl re fi) (B9 : (∀ j, bt j ≤ 255) ∧ bs ≤ 216) (C9 : (∀ j, co j ≤ 400) ∧ (∀ j, fw j ≤ 15)) (H9 : IHd lt tr sh cr ct cu ve ta ch) (U9 : IHd lt2 tr2 sh2 cr2 ct2 cu2 ve2 ta2 ch2) (E9 : (∀ j, fo j ≤ 2) ∧ (∀ j, si j ≤ 60)) : CP l D (TY cI cZ cS) yX5_allowed cX5_allowed 4 .int 1 [.ref (aS 0), .int x] ((wS cS aS (aW 0) (aB 0) (aC 0) (aH 0) (aT 0) aE la) ++ ((wW cI aW n cl th ki va re fi) ++ ((wB cI aB bt bs) ++ ((wC cI cZ aC (aW 0) (aB 0) to co ke nu fw) ++ ((wH cI aH (aW 0) lt tr sh cr ct cu ve ta ch) ++ ((wH cI aT (aW 0) lt2 tr2 sh2 cr2 ct2 cu2 ve2 ta2 ch2) ++ (wE cI aE lo fo si it))))))) (.int (alV ki va re n cl x)) := by
  refine CP.ofI (by decide +kernel) (Nat.le_of_ble_eq_true rfl) (nar_int _) ?_
  intro p e s m args below meth c Q G K hP hret ls hl
  obtain ⟨hx, hb, hml, hown, hts⟩ := id G
  obtain ⟨hn, hcl, hth, hki, hva, hre, hfi⟩ := id J
  obtain ⟨hbt, hbs⟩ := id B9
  obtain ⟨hco, hfw⟩ := id C9
  obtain ⟨hlt, htr, hsh, hcr, hct, hcu, hve, hta, hch⟩ := id H9
  obtain ⟨hlt2, htr2, hsh2, hcr2, hct2, hcu2, hve2, hta2, hch2⟩ := id U9
  obtain ⟨hfo, hsi⟩ := id E9
  have hl : lv_has ls 4 [(0, .ref (aS 0)), (1, .int x)] := hl
  refine lv_aload_n hx hb dX5_allowed_0 rfl (lv_at hl 0 rfl) ?_
  refine f_get G K hP inX5 0 (ci := 5) rfl rfl 0 rfl fl_X5_12 (v := .ref (aW 0)) rfl dX5_allowed_1 ?_
  refine lv_iload_n hx hb dX5_allowed_4 rfl (lv_at hl 1 rfl) ?_
  refine callPV (As := [.int x]) (rest := []) (q0 := 0) (ci := 4) G K F_X4_hasRevision (c_X4_hasRevision aW n cl th ki va re fi x J) (hP.sub (ws' := (wW cI aW n cl th ki va re fi)) [2, 3, 4, 5, 6, 7] rfl) ml_X5_141 rfl rfl rfl (by decide) (by decide) rfl hl.1 (Nat.le_of_ble_eq_true rfl) dX5_allowed_5 ?_
  refine b_ne G (tgt := 14) dX5_allowed_8 (by decide) (fun c8 => ?_) (fun c8 => ?_)
  · -- taken at 8
    obtain ⟨k, hk, rfl⟩ := c8
    refine lv_iconst (v := (nI 3)) hx hb dX5_allowed_14 (by decide) ?_
    refine lv_istore_n (lv' := [(2, .int (nI 3)), (0, .ref (aS 0)), (1, .int (nI k))]) hx hb dX5_allowed_15 rfl hl (by decide) rfl (fun ls hl => ?_)
    refine lv_iconst (v := (nI 0)) hx hb dX5_allowed_16 (by decide) ?_
    refine lv_istore_n (lv' := [(3, .int (nI 0)), (2, .int (nI 3)), (0, .ref (aS 0)), (1, .int (nI k))]) hx hb dX5_allowed_17 rfl hl (by decide) rfl (fun ls hl => ?_)
    have L18 : ∀ (d i : Nat), 0 ≤ i → i + d = cntLt re k n → ∀ (ls : Array Slot), lv_has ls 4 [(0, .ref (aS 0)), (1, .int (nI k)), (2, .int (nI (alC ki va i))), (3, .int (nI i))] → W p l e (RM 1) s m args below meth c s.heap [] 0 0 Q (F0 m 18 ls []) := by
      intro d
      induction d with
      | zero =>
        intro i hlo18 hhi18 ls hl
        have hS1 := S.1 k hk
        have hle := cntLt_le re k n
        have hal := alC_le ki va i
        refine lv_iload_n hx hb dX5_allowed_18 rfl (lv_at hl 3 rfl) ?_
        refine lv_aload_n hx hb dX5_allowed_19 rfl (lv_at hl 0 rfl) ?_
        refine f_get G K hP inX5 0 (ci := 5) rfl rfl 0 rfl fl_X5_12 (v := .ref (aW 0)) rfl dX5_allowed_20 ?_
        refine f_get G K hP inX4 2 (ci := 4) rfl rfl 4 rfl fl_X5_144 (v := .ref (aW 5)) rfl dX5_allowed_23 ?_
        refine lv_iload_n hx hb dX5_allowed_26 rfl (lv_at hl 1 rfl) ?_
        refine a_ldN G K hP 7 0 (a := (aW 5)) rfl rfl (by omega) (by decide) dX5_allowed_27 ?_
        have hb1 := hfi k
        refine t_i (y := (nI (cntLt re k n))) (congrArg nI hS1) ?_
        refine c_ge G (tgt := 62) (by omega) (by omega) dX5_allowed_28 (by decide) (fun c28 => ?_) (fun c28 => ?_)
        · -- taken at 28
          refine lv_iload_n hx hb dX5_allowed_62 rfl (lv_at hl 2 rfl) ?_
          exact hret _ _ _ (by first | exact alV_x c8 | (rw [← alV_k hcl hk, ← alC_eq S k, show i = cntLt re k n by omega])) dX5_allowed_63
        · -- not taken at 28
          exact absurd c28 (by omega)
      | succ d ih =>
        intro i hlo18 hhi18 ls hl
        have hS1 := S.1 k hk
        have hle := cntLt_le re k n
        have hal := alC_le ki va i
        refine lv_iload_n hx hb dX5_allowed_18 rfl (lv_at hl 3 rfl) ?_
        refine lv_aload_n hx hb dX5_allowed_19 rfl (lv_at hl 0 rfl) ?_
        refine f_get G K hP inX5 0 (ci := 5) rfl rfl 0 rfl fl_X5_12 (v := .ref (aW 0)) rfl dX5_allowed_20 ?_
        refine f_get G K hP inX4 2 (ci := 4) rfl rfl 4 rfl fl_X5_144 (v := .ref (aW 5)) rfl dX5_allowed_23 ?_
        refine lv_iload_n hx hb dX5_allowed_26 rfl (lv_at hl 1 rfl) ?_
        refine a_ldN G K hP 7 0 (a := (aW 5)) rfl rfl (by omega) (by decide) dX5_allowed_27 ?_
        have hb2 := hfi k
        refine t_i (y := (nI (cntLt re k n))) (congrArg nI hS1) ?_
        refine c_ge G (tgt := 62) (by omega) (by omega) dX5_allowed_28 (by decide) (fun c28 => ?_) (fun c28 => ?_)
        · -- taken at 28
          exact absurd c28 (by omega)
        · -- not taken at 28
          refine lv_aload_n hx hb dX5_allowed_31 rfl (lv_at hl 0 rfl) ?_
          refine f_get G K hP inX5 0 (ci := 5) rfl rfl 0 rfl fl_X5_12 (v := .ref (aW 0)) rfl dX5_allowed_32 ?_
          refine lv_iload_n hx hb dX5_allowed_35 rfl (lv_at hl 3 rfl) ?_
          refine callPV (As := [.int (nI i)]) (rest := []) (q0 := 0) (ci := 4) G K F_X4_isSeal (c_X4_isSeal aW n cl th ki va re fi i J (by omega)) (hP.sub (ws' := (wW cI aW n cl th ki va re fi)) [2, 3, 4, 5, 6, 7] rfl) ml_X5_92 rfl rfl rfl (by decide) (by decide) rfl hl.1 (Nat.le_of_ble_eq_true rfl) dX5_allowed_36 ?_
          refine b_eq G (tgt := 56) dX5_allowed_39 (by decide) (fun c39 => ?_) (fun c39 => ?_)
          · -- taken at 39
            have hl := lv_re (l' := [(0, .ref (aS 0)), (1, .int (nI k)), (2, .int (nI (alC ki va (i + 1)))), (3, .int (nI i))]) hl (by rw [show (nI (alC ki va i)) = (nI (alC ki va (i + 1))) from (congrArg nI (by simp only [alC]; rw [cif_f c39]))])
            refine lv_iinc (v := (nI (i + 1))) (lv' := [(3, .int (nI (i + 1))), (0, .ref (aS 0)), (1, .int (nI k)), (2, .int (nI (alC ki va (i + 1))))]) hx hb dX5_allowed_56 hl (k := 3) rfl (nI_inc _ 1) (by decide) rfl (fun ls hl => ?_)
            refine lv_goto (tgt := 18) hx hb dX5_allowed_59 (by decide) ?_
            -- slot 3: have n:i + 1, want n:(i + 1)
            exact ih (i + 1) (by omega) (by omega) ls (lv_sub hl [1, 2, 3, 0] rfl)
          · -- not taken at 39
            refine lv_iload_n hx hb dX5_allowed_42 rfl (lv_at hl 2 rfl) ?_
            refine lv_aload_n hx hb dX5_allowed_43 rfl (lv_at hl 0 rfl) ?_
            refine f_get G K hP inX5 0 (ci := 5) rfl rfl 0 rfl fl_X5_12 (v := .ref (aW 0)) rfl dX5_allowed_44 ?_
            refine f_get G K hP inX4 2 (ci := 4) rfl rfl 2 rfl fl_X5_110 (v := .ref (aW 3)) rfl dX5_allowed_47 ?_
            refine lv_iload_n hx hb dX5_allowed_50 rfl (lv_at hl 3 rfl) ?_
            refine a_ldN G K hP 5 0 (a := (aW 3)) rfl rfl (by omega) (by decide) dX5_allowed_51 ?_
            have hb3 := hva i
            refine va_mmin hx hb (hml.trans hl.1.symm) hown (hts _ ml_X5_216) (hts _ st_J9_min_7cf53) (hts _ in_J9) (hts _ cd_J9_min_7cf53) (Nat.le_of_ble_eq_true rfl) (Nat.le_of_ble_eq_true rfl) (Nat.le_refl 0) (Nat.le_refl 0) dX5_allowed_52 ?_
            refine t_i (y := nI (min (alC ki va i) (va i))) (m_min (by omega) (by omega)) ?_
            refine t_i (y := (nI (alC ki va (i + 1)))) (congrArg nI (by simp only [alC]; rw [cif_t c39])) ?_
            refine lv_istore_n (lv' := [(2, .int (nI (alC ki va (i + 1)))), (0, .ref (aS 0)), (1, .int (nI k)), (3, .int (nI i))]) hx hb dX5_allowed_55 rfl hl (by decide) rfl (fun ls hl => ?_)
            refine lv_iinc (v := (nI (i + 1))) (lv' := [(3, .int (nI (i + 1))), (2, .int (nI (alC ki va (i + 1)))), (0, .ref (aS 0)), (1, .int (nI k))]) hx hb dX5_allowed_56 hl (k := 3) rfl (nI_inc _ 1) (by decide) rfl (fun ls hl => ?_)
            refine lv_goto (tgt := 18) hx hb dX5_allowed_59 (by decide) ?_
            -- slot 3: have n:i + 1, want n:(i + 1)
            exact ih (i + 1) (by omega) (by omega) ls (lv_sub hl [2, 3, 1, 0] rfl)
    exact L18 (cntLt re k n - 0) (0) (Nat.le_refl _) (by omega) ls (lv_sub hl [2, 3, 1, 0] rfl)
  · -- not taken at 8
    refine lv_bipush (v := (-2)) hx hb dX5_allowed_11 (by decide) ?_
    exact hret _ _ _ (by first | exact alV_x c8 | (rw [← alV_k hcl hk, ← alC_eq S k, show i = cntLt re k n by omega])) dX5_allowed_13
set_option maxHeartbeats 4000000 in
set_option maxRecDepth 100000 in
theorem c_X5_firstSealAgainst (aS : Nat → Nat) (aE : Nat → Nat) (la : Int32) (aW : Nat → Nat) (n : Nat) (cl : Nat) (th : Nat → Nat) (ki : Nat → Nat) (va : Nat → Nat) (re : Nat → Nat) (fi : Nat → Nat) (aB : Nat → Nat) (bt : Nat → Nat) (bs : Nat) (aC : Nat → Nat) (to : Nat → Prop) (co : Nat → Nat) (ke : Nat → Int32) (nu : Nat → Int32) (fw : Nat → Nat) (aH : Nat → Nat) (lt : Nat → Option Nat) (tr : Nat → Nat) (sh : Nat → Nat) (cr : Nat → Nat) (ct : Nat → Nat) (cu : Nat → Nat) (ve : Nat → Nat) (ta : Nat → Nat) (ch : Nat) (aT : Nat → Nat) (lt2 : Nat → Option Nat) (tr2 : Nat → Nat) (sh2 : Nat → Nat) (cr2 : Nat → Nat) (ct2 : Nat → Nat) (cu2 : Nat → Nat) (ve2 : Nat → Nat) (ta2 : Nat → Nat) (ch2 : Nat) (lo : Nat → Prop) (fo : Nat → Nat) (si : Nat → Nat) (it : Nat → Nat → Int32) (k : Nat) (J : IW n cl th ki va re fi) (S : SW n cl re fi) (B9 : (∀ j, bt j ≤ 255) ∧ bs ≤ 216) (C9 : (∀ j, co j ≤ 400) ∧ (∀ j, fw j ≤ 15)) (H9 : IHd lt tr sh cr ct cu ve ta ch) (U9 : IHd lt2 tr2 sh2 cr2 ct2 cu2 ve2 ta2 ch2) (E9 : (∀ j, fo j ≤ 2) ∧ (∀ j, si j ≤ 60)) (KH : HOK th ki va re none n cl lt tr sh cr ct cu ve ta ch) (hk9 : k < ch) : CP l D (TY cI cZ cS) yX5_firstSealAgainst cX5_firstSealAgainst 4 .int 2 [.ref (aS 0), .int (nI k)] ((wS cS aS (aW 0) (aB 0) (aC 0) (aH 0) (aT 0) aE la) ++ ((wW cI aW n cl th ki va re fi) ++ ((wB cI aB bt bs) ++ ((wC cI cZ aC (aW 0) (aB 0) to co ke nu fw) ++ ((wH cI aH (aW 0) lt tr sh cr ct cu ve ta ch) ++ ((wH cI aT (aW 0) lt2 tr2 sh2 cr2 ct2 cu2 ve2 ta2 ch2) ++ (wE cI aE lo fo si it))))))) (.int (oI (fnd (fsQ th ki va re none n (nth (chg th ki va re none n) k)) (cntLt re (nth (chg th ki va re none n) k / 16) n) 0))) := by
  refine CP.ofI (by decide +kernel) (Nat.le_of_ble_eq_true rfl) (nar_int _) ?_
  intro p e s m args below meth c Q G K hP hret ls hl
  obtain ⟨hx, hb, hml, hown, hts⟩ := id G
  obtain ⟨hn, hcl, hth, hki, hva, hre, hfi⟩ := id J
  obtain ⟨hbt, hbs⟩ := id B9
  obtain ⟨hco, hfw⟩ := id C9
  obtain ⟨hlt, htr, hsh, hcr, hct, hcu, hve, hta, hch⟩ := id H9
  obtain ⟨hlt2, htr2, hsh2, hcr2, hct2, hcu2, hve2, hta2, hch2⟩ := id U9
  obtain ⟨hfo, hsi⟩ := id E9
  obtain ⟨K1, K2, K3, K4, K5, K6, K7⟩ := id KH
  rw [K7] at hk9
  obtain ⟨a1, a2, a3⟩ := nth_chg (th := th) (ki := ki) (va := va) (re := re) (go := none) (n := n) (r := cl + 1) (by omega) hk9
  obtain ⟨c1, c2⟩ := K4 k hk9
  have hN := hch
  rw [K7] at hN
  have b16 := a1.1
  have hS1 := S.1 (nth (chg th ki va re none n) k / 16) (by omega)
  have hle := cntLt_le re (nth (chg th ki va re none n) k / 16) n
  have hl : lv_has ls 4 [(0, .ref (aS 0)), (1, .int (nI k))] := hl
  refine lv_aload_n hx hb dX5_firstSealAgainst_0 rfl (lv_at hl 0 rfl) ?_
  refine f_get G K hP inX5 0 (ci := 5) rfl rfl 0 rfl fl_X5_12 (v := .ref (aW 0)) rfl dX5_firstSealAgainst_1 ?_
  refine f_get G K hP inX4 2 (ci := 4) rfl rfl 4 rfl fl_X5_144 (v := .ref (aW 5)) rfl dX5_firstSealAgainst_4 ?_
  refine lv_aload_n hx hb dX5_firstSealAgainst_7 rfl (lv_at hl 0 rfl) ?_
  refine f_get G K hP inX5 0 (ci := 5) rfl rfl 3 rfl fl_X5_37 (v := .ref (aH 0)) rfl dX5_firstSealAgainst_8 ?_
  refine f_get G K hP inX2 16 (ci := 2) rfl rfl 4 rfl fl_X5_207 (v := .ref (aH 4)) rfl dX5_firstSealAgainst_11 ?_
  refine lv_iload_n hx hb dX5_firstSealAgainst_14 rfl (lv_at hl 1 rfl) ?_
  refine a_ldN G K hP 20 0 (a := (aH 4)) rfl rfl (by omega) (by decide) dX5_firstSealAgainst_15 ?_
  have hb1 := hcr k
  refine a_ldN G K hP 7 0 (a := (aW 5)) rfl rfl (by omega) (by decide) dX5_firstSealAgainst_16 ?_
  have hb2 := hfi (cr k)
  refine t_i (y := (nI (cntLt re (nth (chg th ki va re none n) k / 16) n))) (congrArg nI (by rw [c1]; exact hS1)) ?_
  refine lv_istore_n (lv' := [(2, .int (nI (cntLt re (nth (chg th ki va re none n) k / 16) n))), (0, .ref (aS 0)), (1, .int (nI k))]) hx hb dX5_firstSealAgainst_17 rfl hl (by decide) rfl (fun ls hl => ?_)
  refine lv_iconst (v := (nI 0)) hx hb dX5_firstSealAgainst_18 (by decide) ?_
  refine lv_istore_n (lv' := [(3, .int (nI 0)), (2, .int (nI (cntLt re (nth (chg th ki va re none n) k / 16) n))), (0, .ref (aS 0)), (1, .int (nI k))]) hx hb dX5_firstSealAgainst_19 rfl hl (by decide) rfl (fun ls hl => ?_)
  have L20 : ∀ (d v : Nat), 0 ≤ v → v + d = cntLt re (nth (chg th ki va re none n) k / 16) n → (fnd (fsQ th ki va re none n (nth (chg th ki va re none n) k)) d v = fnd (fsQ th ki va re none n (nth (chg th ki va re none n) k)) (cntLt re (nth (chg th ki va re none n) k / 16) n) 0) → ∀ (ls : Array Slot), lv_has ls 4 [(0, .ref (aS 0)), (1, .int (nI k)), (2, .int (nI (cntLt re (nth (chg th ki va re none n) k / 16) n))), (3, .int (nI v))] → W p l e (RM 2) s m args below meth c s.heap [] 0 0 Q (F0 m 20 ls []) := by
    intro d
    induction d with
    | zero =>
      intro v hlo20 hhi20 hB ls hl
      refine lv_iload_n hx hb dX5_firstSealAgainst_20 rfl (lv_at hl 3 rfl) ?_
      refine lv_iload_n hx hb dX5_firstSealAgainst_21 rfl (lv_at hl 2 rfl) ?_
      refine c_ge G (tgt := 73) (by omega) (by omega) dX5_firstSealAgainst_22 (by decide) (fun c22 => ?_) (fun c22 => ?_)
      · -- taken at 22
        refine lv_iconst (v := (-1)) hx hb dX5_firstSealAgainst_73 (by decide) ?_
        exact hret _ _ _ (by rw [← hB]; rfl) dX5_firstSealAgainst_74
      · -- not taken at 22
        exact absurd c22 (by omega)
    | succ d ih =>
      intro v hlo20 hhi20 hB ls hl
      refine lv_iload_n hx hb dX5_firstSealAgainst_20 rfl (lv_at hl 3 rfl) ?_
      refine lv_iload_n hx hb dX5_firstSealAgainst_21 rfl (lv_at hl 2 rfl) ?_
      refine c_ge G (tgt := 73) (by omega) (by omega) dX5_firstSealAgainst_22 (by decide) (fun c22 => ?_) (fun c22 => ?_)
      · -- taken at 22
        exact absurd c22 (by omega)
      · -- not taken at 22
        refine lv_aload_n hx hb dX5_firstSealAgainst_25 rfl (lv_at hl 0 rfl) ?_
        refine f_get G K hP inX5 0 (ci := 5) rfl rfl 0 rfl fl_X5_12 (v := .ref (aW 0)) rfl dX5_firstSealAgainst_26 ?_
        refine lv_iload_n hx hb dX5_firstSealAgainst_29 rfl (lv_at hl 3 rfl) ?_
        refine callPV (As := [.int (nI v)]) (rest := []) (q0 := 0) (ci := 4) G K F_X4_isSeal (c_X4_isSeal aW n cl th ki va re fi v J (by omega)) (hP.sub (ws' := (wW cI aW n cl th ki va re fi)) [2, 3, 4, 5, 6, 7] rfl) ml_X5_92 rfl rfl rfl (by decide) (by decide) rfl hl.1 (Nat.le_of_ble_eq_true rfl) dX5_firstSealAgainst_30 ?_
        refine b_eq G (tgt := 67) dX5_firstSealAgainst_33 (by decide) (fun c33 => ?_) (fun c33 => ?_)
        · -- taken at 33
          refine lv_iinc (v := (nI (v + 1))) (lv' := [(3, .int (nI (v + 1))), (0, .ref (aS 0)), (1, .int (nI k)), (2, .int (nI (cntLt re (nth (chg th ki va re none n) k / 16) n)))]) hx hb dX5_firstSealAgainst_67 hl (k := 3) rfl (nI_inc _ 1) (by decide) rfl (fun ls hl => ?_)
          refine lv_goto (tgt := 20) hx hb dX5_firstSealAgainst_70 (by decide) ?_
          -- slot 3: have n:v + 1, want n:(v + 1)
          exact ih (v + 1) (by omega) (by omega) (by rw [← hB]; exact (fnd_f (q := fsQ th ki va re none n (nth (chg th ki va re none n) k)) (by first | exact fun h => c33 h.1 | exact fun h => Nat.not_lt.mpr c62 h.2)).symm) ls (lv_sub hl [1, 2, 3, 0] rfl)
        · -- not taken at 33
          refine lv_aload_n hx hb dX5_firstSealAgainst_36 rfl (lv_at hl 0 rfl) ?_
          refine f_get G K hP inX5 0 (ci := 5) rfl rfl 3 rfl fl_X5_37 (v := .ref (aH 0)) rfl dX5_firstSealAgainst_37 ?_
          refine lv_iload_n hx hb dX5_firstSealAgainst_40 rfl (lv_at hl 1 rfl) ?_
          refine lv_aload_n hx hb dX5_firstSealAgainst_41 rfl (lv_at hl 0 rfl) ?_
          refine f_get G K hP inX5 0 (ci := 5) rfl rfl 0 rfl fl_X5_12 (v := .ref (aW 0)) rfl dX5_firstSealAgainst_42 ?_
          refine f_get G K hP inX4 2 (ci := 4) rfl rfl 3 rfl fl_X5_138 (v := .ref (aW 4)) rfl dX5_firstSealAgainst_45 ?_
          refine lv_iload_n hx hb dX5_firstSealAgainst_48 rfl (lv_at hl 3 rfl) ?_
          refine a_ldN G K hP 6 0 (a := (aW 4)) rfl rfl (by omega) (by decide) dX5_firstSealAgainst_49 ?_
          have hb3 := hre v
          refine callPV (As := [.int (nI k), .int (nI (re v))]) (rest := []) (q0 := 6) (ci := 2) G K F_X2_sortOf (c_X2_sortOf aW n cl th ki va re fi aH lt tr sh cr ct cu ve ta ch k (re v) J S H9 (by omega) (by omega) (by rw [c1]; omega) (fun v h => by rw [c1, c2, K1 _ _ (by omega) (by omega)] at h; exact lastW_lt th re none _ _ n v h) (fun v h => by rw [c1, c2, K1 _ _ (by omega) (by omega)] at h; exact lastW_lt th re none _ _ n v h)) (hP.sub (ws' := ((wW cI aW n cl th ki va re fi) ++ (wH cI aH (aW 0) lt tr sh cr ct cu ve ta ch))) [2, 3, 4, 5, 6, 7, 16, 17, 18, 19, 20, 21, 22, 23, 24] rfl) ml_X5_213 rfl rfl rfl (by decide) (by decide) rfl hl.1 (Nat.le_of_ble_eq_true rfl) dX5_firstSealAgainst_50 ?_
          have hf4 := srC_le ki va ((sh (cr k)).testBit (ct k) = true) ((tr (re v)).testBit (ct k) = true) (tr (re v)) (lt ((cr k - 1) * 16 + ct k)) (lt (cr k * 16 + ct k))
          refine t_i (y := (nI (srt th ki va re none n (nth (chg th ki va re none n) k % 16) (nth (chg th ki va re none n) k / 16) (re v)))) (congrArg nI (by rw [c1, c2]; exact srC_at hva K1 K2 K3 a2 (S.2.1 v (by omega)) a1)) ?_
          have hsl := srt_le th ki va re none n (nth (chg th ki va re none n) k % 16) (nth (chg th ki va re none n) k / 16) (re v)
          refine lv_aload_n hx hb dX5_firstSealAgainst_53 rfl (lv_at hl 0 rfl) ?_
          refine f_get G K hP inX5 0 (ci := 5) rfl rfl 0 rfl fl_X5_12 (v := .ref (aW 0)) rfl dX5_firstSealAgainst_54 ?_
          refine f_get G K hP inX4 2 (ci := 4) rfl rfl 2 rfl fl_X5_110 (v := .ref (aW 3)) rfl dX5_firstSealAgainst_57 ?_
          refine lv_iload_n hx hb dX5_firstSealAgainst_60 rfl (lv_at hl 3 rfl) ?_
          refine a_ldN G K hP 5 0 (a := (aW 3)) rfl rfl (by omega) (by decide) dX5_firstSealAgainst_61 ?_
          have hb5 := hva v
          refine c_le G (tgt := 67) (by omega) (by omega) dX5_firstSealAgainst_62 (by decide) (fun c62 => ?_) (fun c62 => ?_)
          · -- taken at 62
            refine lv_iinc (v := (nI (v + 1))) (lv' := [(3, .int (nI (v + 1))), (0, .ref (aS 0)), (1, .int (nI k)), (2, .int (nI (cntLt re (nth (chg th ki va re none n) k / 16) n)))]) hx hb dX5_firstSealAgainst_67 hl (k := 3) rfl (nI_inc _ 1) (by decide) rfl (fun ls hl => ?_)
            refine lv_goto (tgt := 20) hx hb dX5_firstSealAgainst_70 (by decide) ?_
            -- slot 3: have n:v + 1, want n:(v + 1)
            exact ih (v + 1) (by omega) (by omega) (by rw [← hB]; exact (fnd_f (q := fsQ th ki va re none n (nth (chg th ki va re none n) k)) (by first | exact fun h => c33 h.1 | exact fun h => Nat.not_lt.mpr c62 h.2)).symm) ls (lv_sub hl [1, 2, 3, 0] rfl)
          · -- not taken at 62
            refine lv_iload_n hx hb dX5_firstSealAgainst_65 rfl (lv_at hl 3 rfl) ?_
            exact hret _ _ _ (by rw [← hB, fnd_t (q := fsQ th ki va re none n (nth (chg th ki va re none n) k)) ⟨c33, c62⟩]; rfl) dX5_firstSealAgainst_66
  exact L20 (cntLt re (nth (chg th ki va re none n) k / 16) n - 0) (0) (Nat.le_refl _) (by omega) rfl ls (lv_sub hl [2, 3, 1, 0] rfl)
set_option maxHeartbeats 4000000 in
set_option maxRecDepth 100000 in
theorem c_X5_first (aS : Nat → Nat) (aE : Nat → Nat) (la : Int32) (aW : Nat → Nat) (n : Nat) (cl : Nat) (th : Nat → Nat) (ki : Nat → Nat) (va : Nat → Nat) (re : Nat → Nat) (fi : Nat → Nat) (aB : Nat → Nat) (bt : Nat → Nat) (bs : Nat) (aC : Nat → Nat) (to : Nat → Prop) (co : Nat → Nat) (ke : Nat → Int32) (nu : Nat → Int32) (fw : Nat → Nat) (aH : Nat → Nat) (lt : Nat → Option Nat) (tr : Nat → Nat) (sh : Nat → Nat) (cr : Nat → Nat) (ct : Nat → Nat) (cu : Nat → Nat) (ve : Nat → Nat) (ta : Nat → Nat) (ch : Nat) (aT : Nat → Nat) (lt2 : Nat → Option Nat) (tr2 : Nat → Nat) (sh2 : Nat → Nat) (cr2 : Nat → Nat) (ct2 : Nat → Nat) (cu2 : Nat → Nat) (ve2 : Nat → Nat) (ta2 : Nat → Nat) (ch2 : Nat) (lo : Nat → Prop) (fo : Nat → Nat) (si : Nat → Nat) (it : Nat → Nat → Int32) (q : Int32) (J : IW n cl th ki va re fi) (S : SW n cl re fi) (B9 : (∀ j, bt j ≤ 255) ∧ bs ≤ 216) (C9 : (∀ j, co j ≤ 400) ∧ (∀ j, fw j ≤ 15)) (H9 : IHd lt tr sh cr ct cu ve ta ch) (U9 : IHd lt2 tr2 sh2 cr2 ct2 cu2 ve2 ta2 ch2) (E9 : (∀ j, fo j ≤ 2) ∧ (∀ j, si j ≤ 60)) (KH : HOK th ki va re none n cl lt tr sh cr ct cu ve ta ch) : CP l D (TY cI cZ cS) yX5_first cX5_first 4 .int 3 [.ref (aS 0), .int q] ((wS cS aS (aW 0) (aB 0) (aC 0) (aH 0) (aT 0) aE la) ++ ((wW cI aW n cl th ki va re fi) ++ ((wB cI aB bt bs) ++ ((wC cI cZ aC (aW 0) (aB 0) to co ke nu fw) ++ ((wH cI aH (aW 0) lt tr sh cr ct cu ve ta ch) ++ ((wH cI aT (aW 0) lt2 tr2 sh2 cr2 ct2 cu2 ve2 ta2 ch2) ++ (wE cI aE lo fo si it))))))) (.int (fsW th ki va re none n cl q)) := by
  refine CP.ofI (by decide +kernel) (Nat.le_of_ble_eq_true rfl) (nar_int _) ?_
  intro p e s m args below meth c Q G K hP hret ls hl
  obtain ⟨hx, hb, hml, hown, hts⟩ := id G
  obtain ⟨hn, hcl, hth, hki, hva, hre, hfi⟩ := id J
  obtain ⟨hbt, hbs⟩ := id B9
  obtain ⟨hco, hfw⟩ := id C9
  obtain ⟨hlt, htr, hsh, hcr, hct, hcu, hve, hta, hch⟩ := id H9
  obtain ⟨hlt2, htr2, hsh2, hcr2, hct2, hcu2, hve2, hta2, hch2⟩ := id U9
  obtain ⟨hfo, hsi⟩ := id E9
  obtain ⟨K1, K2, K3, K4, K5, K6, K7⟩ := id KH
  have hl : lv_has ls 4 [(0, .ref (aS 0)), (1, .int q)] := hl
  refine lv_iload_n hx hb dX5_first_0 rfl (lv_at hl 1 rfl) ?_
  refine lv_if_lt (tgt := 9) hx hb dX5_first_1 (by decide) (fun c1 => ?_) (fun c1 => ?_)
  · -- taken at 1
    refine lv_bipush (v := (-2)) hx hb dX5_first_9 (by decide) ?_
    exact hret _ _ _ (by first | exact fsW_o (hr_lt (by decide) c1) | exact fsW_o (hr_gt (m := 2) (by decide) (nle_lt c6))) dX5_first_11
  · -- not taken at 1
    refine lv_iload_n hx hb dX5_first_4 rfl (lv_at hl 1 rfl) ?_
    refine lv_iconst (v := (nI 2)) hx hb dX5_first_5 (by decide) ?_
    refine lv_icmp_le (tgt := 12) hx hb dX5_first_6 (by decide) (fun c6 => ?_) (fun c6 => ?_)
    · -- taken at 6
      obtain ⟨j, hj, rfl⟩ := hr_iff (m := 2) (by decide) c1 (le_nlt c6)
      refine lv_iconst (v := (nI 0)) hx hb dX5_first_12 (by decide) ?_
      refine lv_istore_n (lv' := [(2, .int (nI 0)), (0, .ref (aS 0)), (1, .int (nI j))]) hx hb dX5_first_13 rfl hl (by decide) rfl (fun ls hl => ?_)
      have L14 : ∀ (d k : Nat), 0 ≤ k → k + d = ch → (∀ i, i < k → fnd (fsQ th ki va re none n (nth (chg th ki va re none n) i)) (cntLt re (nth (chg th ki va re none n) i / 16) n) 0 = none) → ∀ (ls : Array Slot), lv_has ls 4 [(0, .ref (aS 0)), (1, .int (nI j)), (2, .int (nI k))] → W p l e (RM 3) s m args below meth c s.heap [] 0 0 Q (F0 m 14 ls []) := by
        intro d
        induction d with
        | zero =>
          intro k hlo14 hhi14 hB ls hl
          refine lv_iload_n hx hb dX5_first_14 rfl (lv_at hl 2 rfl) ?_
          refine lv_aload_n hx hb dX5_first_15 rfl (lv_at hl 0 rfl) ?_
          refine f_get G K hP inX5 0 (ci := 5) rfl rfl 3 rfl fl_X5_37 (v := .ref (aH 0)) rfl dX5_first_16 ?_
          refine f_get G K hP inX2 16 (ci := 2) rfl rfl 9 rfl fl_X5_221 (v := .int (nI ch)) rfl dX5_first_19 ?_
          refine c_ge G (tgt := 92) (by omega) (by omega) dX5_first_22 (by decide) (fun c22 => ?_) (fun c22 => ?_)
          · -- taken at 22
            refine lv_iconst (v := (-1)) hx hb dX5_first_92 (by decide) ?_
            exact hret _ _ _ (by rw [← fsW_k hj]; unfold fsV; rw [fsI_none S hcl (fun i h => hB i (by rw [← K7] at h; omega))]; rfl) dX5_first_93
          · -- not taken at 22
            exact absurd c22 (by omega)
        | succ d ih =>
          intro k hlo14 hhi14 hB ls hl
          refine lv_iload_n hx hb dX5_first_14 rfl (lv_at hl 2 rfl) ?_
          refine lv_aload_n hx hb dX5_first_15 rfl (lv_at hl 0 rfl) ?_
          refine f_get G K hP inX5 0 (ci := 5) rfl rfl 3 rfl fl_X5_37 (v := .ref (aH 0)) rfl dX5_first_16 ?_
          refine f_get G K hP inX2 16 (ci := 2) rfl rfl 9 rfl fl_X5_221 (v := .int (nI ch)) rfl dX5_first_19 ?_
          refine c_ge G (tgt := 92) (by omega) (by omega) dX5_first_22 (by decide) (fun c22 => ?_) (fun c22 => ?_)
          · -- taken at 22
            exact absurd c22 (by omega)
          · -- not taken at 22
            refine lv_aload_n hx hb dX5_first_25 rfl (lv_at hl 0 rfl) ?_
            refine lv_iload_n hx hb dX5_first_26 rfl (lv_at hl 2 rfl) ?_
            refine callPV (As := [.int (nI k)]) (rest := []) (q0 := 0) (ci := 5) G K F_X5_firstSealAgainst (c_X5_firstSealAgainst aS aE la aW n cl th ki va re fi aB bt bs aC to co ke nu fw aH lt tr sh cr ct cu ve ta ch aT lt2 tr2 sh2 cr2 ct2 cu2 ve2 ta2 ch2 lo fo si it k J S B9 C9 H9 U9 E9 KH c22) hP ml_X5_224 rfl rfl rfl (by decide) (by decide) rfl hl.1 (Nat.le_of_ble_eq_true rfl) dX5_first_27 ?_
            refine lv_istore_n (lv' := [(3, .int (oI (fnd (fsQ th ki va re none n (nth (chg th ki va re none n) k)) (cntLt re (nth (chg th ki va re none n) k / 16) n) 0))), (0, .ref (aS 0)), (1, .int (nI j)), (2, .int (nI k))]) hx hb dX5_first_30 rfl hl (by decide) rfl (fun ls hl => ?_)
            refine lv_iload_n hx hb dX5_first_31 rfl (lv_at hl 0 rfl) ?_
            refine lv_iconst (v := (-1)) hx hb dX5_first_32 (by decide) ?_
            refine o_eq G (tgt := 86) (fun w h => by have := (fnd_lt (fsQ th ki va re none n (nth (chg th ki va re none n) k)) (cntLt re (nth (chg th ki va re none n) k / 16) n) n (cntLt_le re (nth (chg th ki va re none n) k / 16) n)) w h; omega) dX5_first_33 (by decide) (fun c33 => ?_) (fun c33 => ?_)
            · -- taken at 33
              refine lv_iinc (v := (nI (k + 1))) (lv' := [(2, .int (nI (k + 1))), (3, .int (oI (fnd (fsQ th ki va re none n (nth (chg th ki va re none n) k)) (cntLt re (nth (chg th ki va re none n) k / 16) n) 0))), (0, .ref (aS 0)), (1, .int (nI j))]) hx hb dX5_first_86 hl (k := 3) rfl (nI_inc _ 1) (by decide) rfl (fun ls hl => ?_)
              refine lv_goto (tgt := 14) hx hb dX5_first_89 (by decide) ?_
              -- slot 2: have n:k + 1, want n:(k + 1)
              exact ih (k + 1) (by omega) (by omega) (fun i h => by by_cases e : i = k; (subst e; exact c33); exact hB i (by omega)) ls (lv_sub hl [2, 3, 0] rfl)
            · -- not taken at 33
              obtain ⟨v, hv⟩ := Option.ne_none_iff_exists'.mp c33
              have hfs := fsI_some S hcl (by rw [← K7]; exact c22) c33 hB
              obtain ⟨d1, d2⟩ := K4 k (by rw [← K7]; exact c22)
              obtain ⟨g1, g2, g3⟩ := nth_chg (th := th) (ki := ki) (va := va) (re := re) (go := none) (n := n) (r := cl + 1) (by omega) (show k < cCH th ki va re none n (cl + 1) by rw [← K7]; exact c22)
              refine lv_iload_n hx hb dX5_first_36 rfl (lv_at hl 2 rfl) ?_
              rcases (show j = 0 ∨ j = 1 ∨ 1 < j by omega) with rfl | rfl | hsw37
              · -- 0
                refine lv_lookup (off := 27) (tgt := 64) hx hb dX5_first_37 (by decide) (by decide) (by decide) ?_
                refine lv_aload_n hx hb dX5_first_64 rfl (lv_at hl 1 rfl) ?_
                refine f_get G K hP inX5 0 (ci := 5) rfl rfl 3 rfl fl_X5_37 (v := .ref (aH 0)) rfl dX5_first_65 ?_
                refine f_get G K hP inX2 16 (ci := 2) rfl rfl 4 rfl fl_X5_207 (v := .ref (aH 4)) rfl dX5_first_68 ?_
                refine lv_iload_n hx hb dX5_first_71 rfl (lv_at hl 3 rfl) ?_
                refine a_ldN G K hP 20 0 (a := (aH 4)) rfl rfl (by omega) (by decide) dX5_first_72 ?_
                have hb1 := hcr k
                exact hret _ _ _ (by rw [← fsW_k hj]; unfold fsV; rw [hfs, d1]; rfl) dX5_first_73
              · -- 1
                refine lv_lookup (off := 37) (tgt := 74) hx hb dX5_first_37 (by decide) (by decide) (by decide) ?_
                refine lv_aload_n hx hb dX5_first_74 rfl (lv_at hl 1 rfl) ?_
                refine f_get G K hP inX5 0 (ci := 5) rfl rfl 3 rfl fl_X5_37 (v := .ref (aH 0)) rfl dX5_first_75 ?_
                refine f_get G K hP inX2 16 (ci := 2) rfl rfl 5 rfl fl_X5_210 (v := .ref (aH 5)) rfl dX5_first_78 ?_
                refine lv_iload_n hx hb dX5_first_81 rfl (lv_at hl 3 rfl) ?_
                refine a_ldN G K hP 21 0 (a := (aH 5)) rfl rfl (by omega) (by decide) dX5_first_82 ?_
                have hb2 := hct k
                exact hret _ _ _ (by rw [← fsW_k hj]; unfold fsV; rw [hfs, d2]; rfl) dX5_first_83
              · -- other
                refine lv_lookup (off := 47) (tgt := 84) hx hb dX5_first_37 (by decide) (lk_o (by omega) (by omega)) (by decide) ?_
                refine lv_iload_n hx hb dX5_first_84 rfl (lv_at hl 0 rfl) ?_
                exact hret _ _ _ (by rw [← fsW_k hj]; unfold fsV; rw [hfs, hv]; show _ = nI (if j = 0 then nth (chg th ki va re none n) k / 16 else if j = 1 then nth (chg th ki va re none n) k % 16 else ((fnd (bad th ki va re none n cl (nth (chg th ki va re none n) k)) n 0).getD 0)); rw [if_neg (by omega), if_neg (by omega), bad_fs S g2, hv]; rfl) dX5_first_85
      exact L14 (ch - 0) (0) (Nat.le_refl _) (by omega) (fun i h => absurd h (Nat.not_lt_zero i)) ls (lv_sub hl [1, 2, 0] rfl)
    · -- not taken at 6
      refine lv_bipush (v := (-2)) hx hb dX5_first_9 (by decide) ?_
      exact hret _ _ _ (by first | exact fsW_o (hr_lt (by decide) c1) | exact fsW_o (hr_gt (m := 2) (by decide) (nle_lt c6))) dX5_first_11
set_option maxHeartbeats 4000000 in
set_option maxRecDepth 100000 in
theorem c_X5_howManyHold_h (aS : Nat → Nat) (aE : Nat → Nat) (la : Int32) (aW : Nat → Nat) (n : Nat) (cl : Nat) (th : Nat → Nat) (ki : Nat → Nat) (va : Nat → Nat) (re : Nat → Nat) (fi : Nat → Nat) (aB : Nat → Nat) (bt : Nat → Nat) (bs : Nat) (aC : Nat → Nat) (to : Nat → Prop) (co : Nat → Nat) (ke : Nat → Int32) (nu : Nat → Int32) (fw : Nat → Nat) (aH : Nat → Nat) (lt : Nat → Option Nat) (tr : Nat → Nat) (sh : Nat → Nat) (cr : Nat → Nat) (ct : Nat → Nat) (cu : Nat → Nat) (ve : Nat → Nat) (ta : Nat → Nat) (ch : Nat) (aT : Nat → Nat) (lt2 : Nat → Option Nat) (tr2 : Nat → Nat) (sh2 : Nat → Nat) (cr2 : Nat → Nat) (ct2 : Nat → Nat) (cu2 : Nat → Nat) (ve2 : Nat → Nat) (ta2 : Nat → Nat) (ch2 : Nat) (lo : Nat → Prop) (fo : Nat → Nat) (si : Nat → Nat) (it : Nat → Nat → Int32) (go : Option Nat) (J : IW n cl th ki va re fi) (S : SW n cl re fi) (B9 : (∀ j, bt j ≤ 255) ∧ bs ≤ 216) (C9 : (∀ j, co j ≤ 400) ∧ (∀ j, fw j ≤ 15)) (H9 : IHd lt tr sh cr ct cu ve ta ch) (U9 : IHd lt2 tr2 sh2 cr2 ct2 cu2 ve2 ta2 ch2) (E9 : (∀ j, fo j ≤ 2) ∧ (∀ j, si j ≤ 60)) (KC : SKc th ki va re n cl to co ke nu fw) (KG : HOK th ki va re go n cl lt tr sh cr ct cu ve ta ch) (hgo : ∀ v, go = some v → v < 40) : CP l D (TY cI cZ cS) yX5_howManyHold cX5_howManyHold 5 .int 2 [.ref (aS 0), .ref (aH 0), .int (oI go)] ((wS cS aS (aW 0) (aB 0) (aC 0) (aH 0) (aT 0) aE la) ++ ((wW cI aW n cl th ki va re fi) ++ ((wB cI aB bt bs) ++ ((wC cI cZ aC (aW 0) (aB 0) to co ke nu fw) ++ ((wH cI aH (aW 0) lt tr sh cr ct cu ve ta ch) ++ ((wH cI aT (aW 0) lt2 tr2 sh2 cr2 ct2 cu2 ve2 ta2 ch2) ++ (wE cI aE lo fo si it))))))) (.int (nI (hoN th ki va re go n cl to co ke))) := by
  refine CP.ofI (by decide +kernel) (Nat.le_of_ble_eq_true rfl) (nar_int _) ?_
  intro p e s m args below meth c Q G K hP hret ls hl
  obtain ⟨hx, hb, hml, hown, hts⟩ := id G
  obtain ⟨hn, hcl, hth, hki, hva, hre, hfi⟩ := id J
  obtain ⟨hbt, hbs⟩ := id B9
  obtain ⟨hco, hfw⟩ := id C9
  obtain ⟨hlt, htr, hsh, hcr, hct, hcu, hve, hta, hch⟩ := id H9
  obtain ⟨hlt2, htr2, hsh2, hcr2, hct2, hcu2, hve2, hta2, hch2⟩ := id U9
  obtain ⟨hfo, hsi⟩ := id E9
  have hl : lv_has ls 5 [(0, .ref (aS 0)), (1, .ref (aH 0)), (2, .int (oI go))] := hl
  refine lv_iconst (v := (nI 0)) hx hb dX5_howManyHold_0 (by decide) ?_
  refine lv_istore_n (lv' := [(3, .int (nI 0)), (0, .ref (aS 0)), (1, .ref (aH 0)), (2, .int (oI go))]) hx hb dX5_howManyHold_1 rfl hl (by decide) rfl (fun ls hl => ?_)
  refine lv_iconst (v := (nI 0)) hx hb dX5_howManyHold_2 (by decide) ?_
  refine lv_istore (lv' := [(4, .int (nI 0)), (3, .int (nI 0)), (0, .ref (aS 0)), (1, .ref (aH 0)), (2, .int (oI go))]) hx hb dX5_howManyHold_3 hl (by decide) rfl (fun ls hl => ?_)
  have L5 : ∀ (d i : Nat), 0 ≤ i → i + d = n → ∀ (ls : Array Slot), lv_has ls 5 [(0, .ref (aS 0)), (1, .ref (aH 0)), (2, .int (oI go)), (3, .int (nI (cntP (fun v => ¬ go = some v ∧ cls ki re cl v ∧ (ve (re v) ≤ va v ∧ fw v = 0)) i))), (4, .int (nI i))] → W p l e (RM 2) s m args below meth c s.heap [] 0 0 Q (F0 m 5 ls []) := by
    intro d
    induction d with
    | zero =>
      intro i hlo5 hhi5 ls hl
      refine lv_iload hx hb dX5_howManyHold_5 (lv_at hl 4 rfl) ?_
      refine lv_aload_n hx hb dX5_howManyHold_7 rfl (lv_at hl 0 rfl) ?_
      refine f_get G K hP inX5 0 (ci := 5) rfl rfl 0 rfl fl_X5_12 (v := .ref (aW 0)) rfl dX5_howManyHold_8 ?_
      refine f_get G K hP inX4 2 (ci := 4) rfl rfl 5 rfl fl_X5_82 (v := .int (nI n)) rfl dX5_howManyHold_11 ?_
      refine c_ge G (tgt := 54) (by omega) (by omega) dX5_howManyHold_14 (by decide) (fun c14 => ?_) (fun c14 => ?_)
      · -- taken at 14
        refine lv_iload_n hx hb dX5_howManyHold_54 rfl (lv_at hl 3 rfl) ?_
        exact hret _ _ _ (congrArg nI (by rw [show i = n by omega]; exact hold_eq KG KC)) dX5_howManyHold_55
      · -- not taken at 14
        exact absurd c14 (by omega)
    | succ d ih =>
      intro i hlo5 hhi5 ls hl
      refine lv_iload hx hb dX5_howManyHold_5 (lv_at hl 4 rfl) ?_
      refine lv_aload_n hx hb dX5_howManyHold_7 rfl (lv_at hl 0 rfl) ?_
      refine f_get G K hP inX5 0 (ci := 5) rfl rfl 0 rfl fl_X5_12 (v := .ref (aW 0)) rfl dX5_howManyHold_8 ?_
      refine f_get G K hP inX4 2 (ci := 4) rfl rfl 5 rfl fl_X5_82 (v := .int (nI n)) rfl dX5_howManyHold_11 ?_
      refine c_ge G (tgt := 54) (by omega) (by omega) dX5_howManyHold_14 (by decide) (fun c14 => ?_) (fun c14 => ?_)
      · -- taken at 14
        exact absurd c14 (by omega)
      · -- not taken at 14
        refine lv_iload hx hb dX5_howManyHold_17 (lv_at hl 4 rfl) ?_
        refine lv_iload_n hx hb dX5_howManyHold_19 rfl (lv_at hl 2 rfl) ?_
        refine no_eq G (tgt := 48) (by omega) (fun w h => by have := hgo w h; omega) dX5_howManyHold_20 (by decide) (fun c20 => ?_) (fun c20 => ?_)
        · -- taken at 20
          have hl := lv_re (l' := [(0, .ref (aS 0)), (1, .ref (aH 0)), (2, .int (oI go)), (3, .int (nI (cntP (fun v => ¬ go = some v ∧ cls ki re cl v ∧ (ve (re v) ≤ va v ∧ fw v = 0)) (i + 1)))), (4, .int (nI i))]) hl (by rw [show (nI (cntP (fun v => ¬ go = some v ∧ cls ki re cl v ∧ (ve (re v) ≤ va v ∧ fw v = 0)) i)) = (nI (cntP (fun v => ¬ go = some v ∧ cls ki re cl v ∧ (ve (re v) ≤ va v ∧ fw v = 0)) (i + 1))) from (congrArg nI (cntP_f' (q := (fun v => ¬ go = some v ∧ cls ki re cl v ∧ (ve (re v) ≤ va v ∧ fw v = 0))) (by first | exact fun h => h.1 c20 | exact fun h => c32 h.2.1 | exact fun h => c42 h.2.2)))])
          refine lv_iinc (v := (nI (i + 1))) (lv' := [(4, .int (nI (i + 1))), (0, .ref (aS 0)), (1, .ref (aH 0)), (2, .int (oI go)), (3, .int (nI (cntP (fun v => ¬ go = some v ∧ cls ki re cl v ∧ (ve (re v) ≤ va v ∧ fw v = 0)) (i + 1))))]) hx hb dX5_howManyHold_48 hl (k := 4) rfl (nI_inc _ 1) (by decide) rfl (fun ls hl => ?_)
          refine lv_goto (tgt := 5) hx hb dX5_howManyHold_51 (by decide) ?_
          -- slot 4: have n:i + 1, want n:(i + 1)
          exact ih (i + 1) (by omega) (by omega) ls (lv_sub hl [1, 2, 3, 4, 0] rfl)
        · -- not taken at 20
          refine lv_aload_n hx hb dX5_howManyHold_23 rfl (lv_at hl 0 rfl) ?_
          refine f_get G K hP inX5 0 (ci := 5) rfl rfl 0 rfl fl_X5_12 (v := .ref (aW 0)) rfl dX5_howManyHold_24 ?_
          refine lv_iload hx hb dX5_howManyHold_27 (lv_at hl 4 rfl) ?_
          refine callPV (As := [.int (nI i)]) (rest := []) (q0 := 0) (ci := 4) G K F_X4_isClosedSeal (c_X4_isClosedSeal aW n cl th ki va re fi i J (by omega)) (hP.sub (ws' := (wW cI aW n cl th ki va re fi)) [2, 3, 4, 5, 6, 7] rfl) ml_X5_178 rfl rfl rfl (by decide) (by decide) rfl hl.1 (Nat.le_of_ble_eq_true rfl) dX5_howManyHold_29 ?_
          refine b_eq G (tgt := 48) dX5_howManyHold_32 (by decide) (fun c32 => ?_) (fun c32 => ?_)
          · -- taken at 32
            have hl := lv_re (l' := [(0, .ref (aS 0)), (1, .ref (aH 0)), (2, .int (oI go)), (3, .int (nI (cntP (fun v => ¬ go = some v ∧ cls ki re cl v ∧ (ve (re v) ≤ va v ∧ fw v = 0)) (i + 1)))), (4, .int (nI i))]) hl (by rw [show (nI (cntP (fun v => ¬ go = some v ∧ cls ki re cl v ∧ (ve (re v) ≤ va v ∧ fw v = 0)) i)) = (nI (cntP (fun v => ¬ go = some v ∧ cls ki re cl v ∧ (ve (re v) ≤ va v ∧ fw v = 0)) (i + 1))) from (congrArg nI (cntP_f' (q := (fun v => ¬ go = some v ∧ cls ki re cl v ∧ (ve (re v) ≤ va v ∧ fw v = 0))) (by first | exact fun h => h.1 c20 | exact fun h => c32 h.2.1 | exact fun h => c42 h.2.2)))])
            refine lv_iinc (v := (nI (i + 1))) (lv' := [(4, .int (nI (i + 1))), (0, .ref (aS 0)), (1, .ref (aH 0)), (2, .int (oI go)), (3, .int (nI (cntP (fun v => ¬ go = some v ∧ cls ki re cl v ∧ (ve (re v) ≤ va v ∧ fw v = 0)) (i + 1))))]) hx hb dX5_howManyHold_48 hl (k := 4) rfl (nI_inc _ 1) (by decide) rfl (fun ls hl => ?_)
            refine lv_goto (tgt := 5) hx hb dX5_howManyHold_51 (by decide) ?_
            -- slot 4: have n:i + 1, want n:(i + 1)
            exact ih (i + 1) (by omega) (by omega) ls (lv_sub hl [1, 2, 3, 4, 0] rfl)
          · -- not taken at 32
            refine lv_aload_n hx hb dX5_howManyHold_35 rfl (lv_at hl 0 rfl) ?_
            refine lv_iload hx hb dX5_howManyHold_36 (lv_at hl 4 rfl) ?_
            refine lv_aload_n hx hb dX5_howManyHold_38 rfl (lv_at hl 1 rfl) ?_
            refine callPV (As := [.int (nI i), .ref (aH 0)]) (rest := []) (q0 := 0) (ci := 5) G K F_X5_holds (c_X5_holds_h aS aE la aW n cl th ki va re fi aB bt bs aC to co ke nu fw aH lt tr sh cr ct cu ve ta ch aT lt2 tr2 sh2 cr2 ct2 cu2 ve2 ta2 ch2 lo fo si it i J S B9 C9 H9 U9 E9 (by omega)) hP ml_X5_200 rfl rfl rfl (by decide) (by decide) rfl hl.1 (Nat.le_of_ble_eq_true rfl) dX5_howManyHold_39 ?_
            refine b_eq G (tgt := 48) dX5_howManyHold_42 (by decide) (fun c42 => ?_) (fun c42 => ?_)
            · -- taken at 42
              have hl := lv_re (l' := [(0, .ref (aS 0)), (1, .ref (aH 0)), (2, .int (oI go)), (3, .int (nI (cntP (fun v => ¬ go = some v ∧ cls ki re cl v ∧ (ve (re v) ≤ va v ∧ fw v = 0)) (i + 1)))), (4, .int (nI i))]) hl (by rw [show (nI (cntP (fun v => ¬ go = some v ∧ cls ki re cl v ∧ (ve (re v) ≤ va v ∧ fw v = 0)) i)) = (nI (cntP (fun v => ¬ go = some v ∧ cls ki re cl v ∧ (ve (re v) ≤ va v ∧ fw v = 0)) (i + 1))) from (congrArg nI (cntP_f' (q := (fun v => ¬ go = some v ∧ cls ki re cl v ∧ (ve (re v) ≤ va v ∧ fw v = 0))) (by first | exact fun h => h.1 c20 | exact fun h => c32 h.2.1 | exact fun h => c42 h.2.2)))])
              refine lv_iinc (v := (nI (i + 1))) (lv' := [(4, .int (nI (i + 1))), (0, .ref (aS 0)), (1, .ref (aH 0)), (2, .int (oI go)), (3, .int (nI (cntP (fun v => ¬ go = some v ∧ cls ki re cl v ∧ (ve (re v) ≤ va v ∧ fw v = 0)) (i + 1))))]) hx hb dX5_howManyHold_48 hl (k := 4) rfl (nI_inc _ 1) (by decide) rfl (fun ls hl => ?_)
              refine lv_goto (tgt := 5) hx hb dX5_howManyHold_51 (by decide) ?_
              -- slot 4: have n:i + 1, want n:(i + 1)
              exact ih (i + 1) (by omega) (by omega) ls (lv_sub hl [1, 2, 3, 4, 0] rfl)
            · -- not taken at 42
              refine lv_iinc (v := (nI (cntP (fun v => ¬ go = some v ∧ cls ki re cl v ∧ (ve (re v) ≤ va v ∧ fw v = 0)) (i + 1)))) (lv' := [(3, .int (nI (cntP (fun v => ¬ go = some v ∧ cls ki re cl v ∧ (ve (re v) ≤ va v ∧ fw v = 0)) (i + 1)))), (0, .ref (aS 0)), (1, .ref (aH 0)), (2, .int (oI go)), (4, .int (nI i))]) hx hb dX5_howManyHold_45 hl (k := 3) rfl ((nI_inc _ 1).trans (congrArg nI (cntP_t (q := (fun v => ¬ go = some v ∧ cls ki re cl v ∧ (ve (re v) ≤ va v ∧ fw v = 0))) ⟨c20, c32, c42⟩))) (by decide) rfl (fun ls hl => ?_)
              refine lv_iinc (v := (nI (i + 1))) (lv' := [(4, .int (nI (i + 1))), (3, .int (nI (cntP (fun v => ¬ go = some v ∧ cls ki re cl v ∧ (ve (re v) ≤ va v ∧ fw v = 0)) (i + 1)))), (0, .ref (aS 0)), (1, .ref (aH 0)), (2, .int (oI go))]) hx hb dX5_howManyHold_48 hl (k := 4) rfl (nI_inc _ 1) (by decide) rfl (fun ls hl => ?_)
              refine lv_goto (tgt := 5) hx hb dX5_howManyHold_51 (by decide) ?_
              -- slot 4: have n:i + 1, want n:(i + 1)
              exact ih (i + 1) (by omega) (by omega) ls (lv_sub hl [2, 3, 4, 1, 0] rfl)
  exact L5 (n - 0) (0) (Nat.le_refl _) (by omega) ls (lv_sub hl [2, 3, 4, 1, 0] rfl)
set_option maxHeartbeats 4000000 in
set_option maxRecDepth 100000 in
theorem c_X5_howManyHold_t (aS : Nat → Nat) (aE : Nat → Nat) (la : Int32) (aW : Nat → Nat) (n : Nat) (cl : Nat) (th : Nat → Nat) (ki : Nat → Nat) (va : Nat → Nat) (re : Nat → Nat) (fi : Nat → Nat) (aB : Nat → Nat) (bt : Nat → Nat) (bs : Nat) (aC : Nat → Nat) (to : Nat → Prop) (co : Nat → Nat) (ke : Nat → Int32) (nu : Nat → Int32) (fw : Nat → Nat) (aH : Nat → Nat) (lt : Nat → Option Nat) (tr : Nat → Nat) (sh : Nat → Nat) (cr : Nat → Nat) (ct : Nat → Nat) (cu : Nat → Nat) (ve : Nat → Nat) (ta : Nat → Nat) (ch : Nat) (aT : Nat → Nat) (lt2 : Nat → Option Nat) (tr2 : Nat → Nat) (sh2 : Nat → Nat) (cr2 : Nat → Nat) (ct2 : Nat → Nat) (cu2 : Nat → Nat) (ve2 : Nat → Nat) (ta2 : Nat → Nat) (ch2 : Nat) (lo : Nat → Prop) (fo : Nat → Nat) (si : Nat → Nat) (it : Nat → Nat → Int32) (go : Option Nat) (J : IW n cl th ki va re fi) (S : SW n cl re fi) (B9 : (∀ j, bt j ≤ 255) ∧ bs ≤ 216) (C9 : (∀ j, co j ≤ 400) ∧ (∀ j, fw j ≤ 15)) (H9 : IHd lt tr sh cr ct cu ve ta ch) (U9 : IHd lt2 tr2 sh2 cr2 ct2 cu2 ve2 ta2 ch2) (E9 : (∀ j, fo j ≤ 2) ∧ (∀ j, si j ≤ 60)) (KC : SKc th ki va re n cl to co ke nu fw) (KG : HOK th ki va re go n cl lt2 tr2 sh2 cr2 ct2 cu2 ve2 ta2 ch2) (hgo : ∀ v, go = some v → v < 40) : CP l D (TY cI cZ cS) yX5_howManyHold cX5_howManyHold 5 .int 2 [.ref (aS 0), .ref (aT 0), .int (oI go)] ((wS cS aS (aW 0) (aB 0) (aC 0) (aH 0) (aT 0) aE la) ++ ((wW cI aW n cl th ki va re fi) ++ ((wB cI aB bt bs) ++ ((wC cI cZ aC (aW 0) (aB 0) to co ke nu fw) ++ ((wH cI aH (aW 0) lt tr sh cr ct cu ve ta ch) ++ ((wH cI aT (aW 0) lt2 tr2 sh2 cr2 ct2 cu2 ve2 ta2 ch2) ++ (wE cI aE lo fo si it))))))) (.int (nI (hoN th ki va re go n cl to co ke))) := by
  refine CP.ofI (by decide +kernel) (Nat.le_of_ble_eq_true rfl) (nar_int _) ?_
  intro p e s m args below meth c Q G K hP hret ls hl
  obtain ⟨hx, hb, hml, hown, hts⟩ := id G
  obtain ⟨hn, hcl, hth, hki, hva, hre, hfi⟩ := id J
  obtain ⟨hbt, hbs⟩ := id B9
  obtain ⟨hco, hfw⟩ := id C9
  obtain ⟨hlt, htr, hsh, hcr, hct, hcu, hve, hta, hch⟩ := id H9
  obtain ⟨hlt2, htr2, hsh2, hcr2, hct2, hcu2, hve2, hta2, hch2⟩ := id U9
  obtain ⟨hfo, hsi⟩ := id E9
  have hl : lv_has ls 5 [(0, .ref (aS 0)), (1, .ref (aT 0)), (2, .int (oI go))] := hl
  refine lv_iconst (v := (nI 0)) hx hb dX5_howManyHold_0 (by decide) ?_
  refine lv_istore_n (lv' := [(3, .int (nI 0)), (0, .ref (aS 0)), (1, .ref (aT 0)), (2, .int (oI go))]) hx hb dX5_howManyHold_1 rfl hl (by decide) rfl (fun ls hl => ?_)
  refine lv_iconst (v := (nI 0)) hx hb dX5_howManyHold_2 (by decide) ?_
  refine lv_istore (lv' := [(4, .int (nI 0)), (3, .int (nI 0)), (0, .ref (aS 0)), (1, .ref (aT 0)), (2, .int (oI go))]) hx hb dX5_howManyHold_3 hl (by decide) rfl (fun ls hl => ?_)
  have L5 : ∀ (d i : Nat), 0 ≤ i → i + d = n → ∀ (ls : Array Slot), lv_has ls 5 [(0, .ref (aS 0)), (1, .ref (aT 0)), (2, .int (oI go)), (3, .int (nI (cntP (fun v => ¬ go = some v ∧ cls ki re cl v ∧ (ve2 (re v) ≤ va v ∧ fw v = 0)) i))), (4, .int (nI i))] → W p l e (RM 2) s m args below meth c s.heap [] 0 0 Q (F0 m 5 ls []) := by
    intro d
    induction d with
    | zero =>
      intro i hlo5 hhi5 ls hl
      refine lv_iload hx hb dX5_howManyHold_5 (lv_at hl 4 rfl) ?_
      refine lv_aload_n hx hb dX5_howManyHold_7 rfl (lv_at hl 0 rfl) ?_
      refine f_get G K hP inX5 0 (ci := 5) rfl rfl 0 rfl fl_X5_12 (v := .ref (aW 0)) rfl dX5_howManyHold_8 ?_
      refine f_get G K hP inX4 2 (ci := 4) rfl rfl 5 rfl fl_X5_82 (v := .int (nI n)) rfl dX5_howManyHold_11 ?_
      refine c_ge G (tgt := 54) (by omega) (by omega) dX5_howManyHold_14 (by decide) (fun c14 => ?_) (fun c14 => ?_)
      · -- taken at 14
        refine lv_iload_n hx hb dX5_howManyHold_54 rfl (lv_at hl 3 rfl) ?_
        exact hret _ _ _ (congrArg nI (by rw [show i = n by omega]; exact hold_eq KG KC)) dX5_howManyHold_55
      · -- not taken at 14
        exact absurd c14 (by omega)
    | succ d ih =>
      intro i hlo5 hhi5 ls hl
      refine lv_iload hx hb dX5_howManyHold_5 (lv_at hl 4 rfl) ?_
      refine lv_aload_n hx hb dX5_howManyHold_7 rfl (lv_at hl 0 rfl) ?_
      refine f_get G K hP inX5 0 (ci := 5) rfl rfl 0 rfl fl_X5_12 (v := .ref (aW 0)) rfl dX5_howManyHold_8 ?_
      refine f_get G K hP inX4 2 (ci := 4) rfl rfl 5 rfl fl_X5_82 (v := .int (nI n)) rfl dX5_howManyHold_11 ?_
      refine c_ge G (tgt := 54) (by omega) (by omega) dX5_howManyHold_14 (by decide) (fun c14 => ?_) (fun c14 => ?_)
      · -- taken at 14
        exact absurd c14 (by omega)
      · -- not taken at 14
        refine lv_iload hx hb dX5_howManyHold_17 (lv_at hl 4 rfl) ?_
        refine lv_iload_n hx hb dX5_howManyHold_19 rfl (lv_at hl 2 rfl) ?_
        refine no_eq G (tgt := 48) (by omega) (fun w h => by have := hgo w h; omega) dX5_howManyHold_20 (by decide) (fun c20 => ?_) (fun c20 => ?_)
        · -- taken at 20
          have hl := lv_re (l' := [(0, .ref (aS 0)), (1, .ref (aT 0)), (2, .int (oI go)), (3, .int (nI (cntP (fun v => ¬ go = some v ∧ cls ki re cl v ∧ (ve2 (re v) ≤ va v ∧ fw v = 0)) (i + 1)))), (4, .int (nI i))]) hl (by rw [show (nI (cntP (fun v => ¬ go = some v ∧ cls ki re cl v ∧ (ve2 (re v) ≤ va v ∧ fw v = 0)) i)) = (nI (cntP (fun v => ¬ go = some v ∧ cls ki re cl v ∧ (ve2 (re v) ≤ va v ∧ fw v = 0)) (i + 1))) from (congrArg nI (cntP_f' (q := (fun v => ¬ go = some v ∧ cls ki re cl v ∧ (ve2 (re v) ≤ va v ∧ fw v = 0))) (by first | exact fun h => h.1 c20 | exact fun h => c32 h.2.1 | exact fun h => c42 h.2.2)))])
          refine lv_iinc (v := (nI (i + 1))) (lv' := [(4, .int (nI (i + 1))), (0, .ref (aS 0)), (1, .ref (aT 0)), (2, .int (oI go)), (3, .int (nI (cntP (fun v => ¬ go = some v ∧ cls ki re cl v ∧ (ve2 (re v) ≤ va v ∧ fw v = 0)) (i + 1))))]) hx hb dX5_howManyHold_48 hl (k := 4) rfl (nI_inc _ 1) (by decide) rfl (fun ls hl => ?_)
          refine lv_goto (tgt := 5) hx hb dX5_howManyHold_51 (by decide) ?_
          -- slot 4: have n:i + 1, want n:(i + 1)
          exact ih (i + 1) (by omega) (by omega) ls (lv_sub hl [1, 2, 3, 4, 0] rfl)
        · -- not taken at 20
          refine lv_aload_n hx hb dX5_howManyHold_23 rfl (lv_at hl 0 rfl) ?_
          refine f_get G K hP inX5 0 (ci := 5) rfl rfl 0 rfl fl_X5_12 (v := .ref (aW 0)) rfl dX5_howManyHold_24 ?_
          refine lv_iload hx hb dX5_howManyHold_27 (lv_at hl 4 rfl) ?_
          refine callPV (As := [.int (nI i)]) (rest := []) (q0 := 0) (ci := 4) G K F_X4_isClosedSeal (c_X4_isClosedSeal aW n cl th ki va re fi i J (by omega)) (hP.sub (ws' := (wW cI aW n cl th ki va re fi)) [2, 3, 4, 5, 6, 7] rfl) ml_X5_178 rfl rfl rfl (by decide) (by decide) rfl hl.1 (Nat.le_of_ble_eq_true rfl) dX5_howManyHold_29 ?_
          refine b_eq G (tgt := 48) dX5_howManyHold_32 (by decide) (fun c32 => ?_) (fun c32 => ?_)
          · -- taken at 32
            have hl := lv_re (l' := [(0, .ref (aS 0)), (1, .ref (aT 0)), (2, .int (oI go)), (3, .int (nI (cntP (fun v => ¬ go = some v ∧ cls ki re cl v ∧ (ve2 (re v) ≤ va v ∧ fw v = 0)) (i + 1)))), (4, .int (nI i))]) hl (by rw [show (nI (cntP (fun v => ¬ go = some v ∧ cls ki re cl v ∧ (ve2 (re v) ≤ va v ∧ fw v = 0)) i)) = (nI (cntP (fun v => ¬ go = some v ∧ cls ki re cl v ∧ (ve2 (re v) ≤ va v ∧ fw v = 0)) (i + 1))) from (congrArg nI (cntP_f' (q := (fun v => ¬ go = some v ∧ cls ki re cl v ∧ (ve2 (re v) ≤ va v ∧ fw v = 0))) (by first | exact fun h => h.1 c20 | exact fun h => c32 h.2.1 | exact fun h => c42 h.2.2)))])
            refine lv_iinc (v := (nI (i + 1))) (lv' := [(4, .int (nI (i + 1))), (0, .ref (aS 0)), (1, .ref (aT 0)), (2, .int (oI go)), (3, .int (nI (cntP (fun v => ¬ go = some v ∧ cls ki re cl v ∧ (ve2 (re v) ≤ va v ∧ fw v = 0)) (i + 1))))]) hx hb dX5_howManyHold_48 hl (k := 4) rfl (nI_inc _ 1) (by decide) rfl (fun ls hl => ?_)
            refine lv_goto (tgt := 5) hx hb dX5_howManyHold_51 (by decide) ?_
            -- slot 4: have n:i + 1, want n:(i + 1)
            exact ih (i + 1) (by omega) (by omega) ls (lv_sub hl [1, 2, 3, 4, 0] rfl)
          · -- not taken at 32
            refine lv_aload_n hx hb dX5_howManyHold_35 rfl (lv_at hl 0 rfl) ?_
            refine lv_iload hx hb dX5_howManyHold_36 (lv_at hl 4 rfl) ?_
            refine lv_aload_n hx hb dX5_howManyHold_38 rfl (lv_at hl 1 rfl) ?_
            refine callPV (As := [.int (nI i), .ref (aT 0)]) (rest := []) (q0 := 0) (ci := 5) G K F_X5_holds (c_X5_holds_t aS aE la aW n cl th ki va re fi aB bt bs aC to co ke nu fw aH lt tr sh cr ct cu ve ta ch aT lt2 tr2 sh2 cr2 ct2 cu2 ve2 ta2 ch2 lo fo si it i J S B9 C9 H9 U9 E9 (by omega)) hP ml_X5_200 rfl rfl rfl (by decide) (by decide) rfl hl.1 (Nat.le_of_ble_eq_true rfl) dX5_howManyHold_39 ?_
            refine b_eq G (tgt := 48) dX5_howManyHold_42 (by decide) (fun c42 => ?_) (fun c42 => ?_)
            · -- taken at 42
              have hl := lv_re (l' := [(0, .ref (aS 0)), (1, .ref (aT 0)), (2, .int (oI go)), (3, .int (nI (cntP (fun v => ¬ go = some v ∧ cls ki re cl v ∧ (ve2 (re v) ≤ va v ∧ fw v = 0)) (i + 1)))), (4, .int (nI i))]) hl (by rw [show (nI (cntP (fun v => ¬ go = some v ∧ cls ki re cl v ∧ (ve2 (re v) ≤ va v ∧ fw v = 0)) i)) = (nI (cntP (fun v => ¬ go = some v ∧ cls ki re cl v ∧ (ve2 (re v) ≤ va v ∧ fw v = 0)) (i + 1))) from (congrArg nI (cntP_f' (q := (fun v => ¬ go = some v ∧ cls ki re cl v ∧ (ve2 (re v) ≤ va v ∧ fw v = 0))) (by first | exact fun h => h.1 c20 | exact fun h => c32 h.2.1 | exact fun h => c42 h.2.2)))])
              refine lv_iinc (v := (nI (i + 1))) (lv' := [(4, .int (nI (i + 1))), (0, .ref (aS 0)), (1, .ref (aT 0)), (2, .int (oI go)), (3, .int (nI (cntP (fun v => ¬ go = some v ∧ cls ki re cl v ∧ (ve2 (re v) ≤ va v ∧ fw v = 0)) (i + 1))))]) hx hb dX5_howManyHold_48 hl (k := 4) rfl (nI_inc _ 1) (by decide) rfl (fun ls hl => ?_)
              refine lv_goto (tgt := 5) hx hb dX5_howManyHold_51 (by decide) ?_
              -- slot 4: have n:i + 1, want n:(i + 1)
              exact ih (i + 1) (by omega) (by omega) ls (lv_sub hl [1, 2, 3, 4, 0] rfl)
            · -- not taken at 42
              refine lv_iinc (v := (nI (cntP (fun v => ¬ go = some v ∧ cls ki re cl v ∧ (ve2 (re v) ≤ va v ∧ fw v = 0)) (i + 1)))) (lv' := [(3, .int (nI (cntP (fun v => ¬ go = some v ∧ cls ki re cl v ∧ (ve2 (re v) ≤ va v ∧ fw v = 0)) (i + 1)))), (0, .ref (aS 0)), (1, .ref (aT 0)), (2, .int (oI go)), (4, .int (nI i))]) hx hb dX5_howManyHold_45 hl (k := 3) rfl ((nI_inc _ 1).trans (congrArg nI (cntP_t (q := (fun v => ¬ go = some v ∧ cls ki re cl v ∧ (ve2 (re v) ≤ va v ∧ fw v = 0))) ⟨c20, c32, c42⟩))) (by decide) rfl (fun ls hl => ?_)
              refine lv_iinc (v := (nI (i + 1))) (lv' := [(4, .int (nI (i + 1))), (3, .int (nI (cntP (fun v => ¬ go = some v ∧ cls ki re cl v ∧ (ve2 (re v) ≤ va v ∧ fw v = 0)) (i + 1)))), (0, .ref (aS 0)), (1, .ref (aT 0)), (2, .int (oI go))]) hx hb dX5_howManyHold_48 hl (k := 4) rfl (nI_inc _ 1) (by decide) rfl (fun ls hl => ?_)
              refine lv_goto (tgt := 5) hx hb dX5_howManyHold_51 (by decide) ?_
              -- slot 4: have n:i + 1, want n:(i + 1)
              exact ih (i + 1) (by omega) (by omega) ls (lv_sub hl [2, 3, 4, 1, 0] rfl)
  exact L5 (n - 0) (0) (Nat.le_refl _) (by omega) ls (lv_sub hl [2, 3, 4, 1, 0] rfl)
set_option maxHeartbeats 4000000 in
set_option maxRecDepth 100000 in
theorem c_X5_howManyClosedSeals (aS : Nat → Nat) (aE : Nat → Nat) (la : Int32) (aW : Nat → Nat) (n : Nat) (cl : Nat) (th : Nat → Nat) (ki : Nat → Nat) (va : Nat → Nat) (re : Nat → Nat) (fi : Nat → Nat) (aB : Nat → Nat) (bt : Nat → Nat) (bs : Nat) (aC : Nat → Nat) (to : Nat → Prop) (co : Nat → Nat) (ke : Nat → Int32) (nu : Nat → Int32) (fw : Nat → Nat) (aH : Nat → Nat) (lt : Nat → Option Nat) (tr : Nat → Nat) (sh : Nat → Nat) (cr : Nat → Nat) (ct : Nat → Nat) (cu : Nat → Nat) (ve : Nat → Nat) (ta : Nat → Nat) (ch : Nat) (aT : Nat → Nat) (lt2 : Nat → Option Nat) (tr2 : Nat → Nat) (sh2 : Nat → Nat) (cr2 : Nat → Nat) (ct2 : Nat → Nat) (cu2 : Nat → Nat) (ve2 : Nat → Nat) (ta2 : Nat → Nat) (ch2 : Nat) (lo : Nat → Prop) (fo : Nat → Nat) (si : Nat → Nat) (it : Nat → Nat → Int32) (J : IW n cl th ki va re fi) (S : SW n cl re fi) (B9 : (∀ j, bt j ≤ 255) ∧ bs ≤ 216) (C9 : (∀ j, co j ≤ 400) ∧ (∀ j, fw j ≤ 15)) (H9 : IHd lt tr sh cr ct cu ve ta ch) (U9 : IHd lt2 tr2 sh2 cr2 ct2 cu2 ve2 ta2 ch2) (E9 : (∀ j, fo j ≤ 2) ∧ (∀ j, si j ≤ 60)) : CP l D (TY cI cZ cS) yX5_howManyClosedSeals cX5_howManyClosedSeals 3 .int 2 [.ref (aS 0)] ((wS cS aS (aW 0) (aB 0) (aC 0) (aH 0) (aT 0) aE la) ++ ((wW cI aW n cl th ki va re fi) ++ ((wB cI aB bt bs) ++ ((wC cI cZ aC (aW 0) (aB 0) to co ke nu fw) ++ ((wH cI aH (aW 0) lt tr sh cr ct cu ve ta ch) ++ ((wH cI aT (aW 0) lt2 tr2 sh2 cr2 ct2 cu2 ve2 ta2 ch2) ++ (wE cI aE lo fo si it))))))) (.int (nI (cntP (cls ki re cl) n))) := by
  refine CP.ofI (by decide +kernel) (Nat.le_of_ble_eq_true rfl) (nar_int _) ?_
  intro p e s m args below meth c Q G K hP hret ls hl
  obtain ⟨hx, hb, hml, hown, hts⟩ := id G
  obtain ⟨hn, hcl, hth, hki, hva, hre, hfi⟩ := id J
  obtain ⟨hbt, hbs⟩ := id B9
  obtain ⟨hco, hfw⟩ := id C9
  obtain ⟨hlt, htr, hsh, hcr, hct, hcu, hve, hta, hch⟩ := id H9
  obtain ⟨hlt2, htr2, hsh2, hcr2, hct2, hcu2, hve2, hta2, hch2⟩ := id U9
  obtain ⟨hfo, hsi⟩ := id E9
  have hl : lv_has ls 3 [(0, .ref (aS 0))] := hl
  refine lv_iconst (v := (nI 0)) hx hb dX5_howManyClosedSeals_0 (by decide) ?_
  refine lv_istore_n (lv' := [(1, .int (nI 0)), (0, .ref (aS 0))]) hx hb dX5_howManyClosedSeals_1 rfl hl (by decide) rfl (fun ls hl => ?_)
  refine lv_iconst (v := (nI 0)) hx hb dX5_howManyClosedSeals_2 (by decide) ?_
  refine lv_istore_n (lv' := [(2, .int (nI 0)), (1, .int (nI 0)), (0, .ref (aS 0))]) hx hb dX5_howManyClosedSeals_3 rfl hl (by decide) rfl (fun ls hl => ?_)
  have L4 : ∀ (d i : Nat), 0 ≤ i → i + d = n → ∀ (ls : Array Slot), lv_has ls 3 [(0, .ref (aS 0)), (1, .int (nI (cntP (cls ki re cl) i))), (2, .int (nI i))] → W p l e (RM 2) s m args below meth c s.heap [] 0 0 Q (F0 m 4 ls []) := by
    intro d
    induction d with
    | zero =>
      intro i hlo4 hhi4 ls hl
      refine lv_iload_n hx hb dX5_howManyClosedSeals_4 rfl (lv_at hl 2 rfl) ?_
      refine lv_aload_n hx hb dX5_howManyClosedSeals_5 rfl (lv_at hl 0 rfl) ?_
      refine f_get G K hP inX5 0 (ci := 5) rfl rfl 0 rfl fl_X5_12 (v := .ref (aW 0)) rfl dX5_howManyClosedSeals_6 ?_
      refine f_get G K hP inX4 2 (ci := 4) rfl rfl 5 rfl fl_X5_82 (v := .int (nI n)) rfl dX5_howManyClosedSeals_9 ?_
      refine c_ge G (tgt := 35) (by omega) (by omega) dX5_howManyClosedSeals_12 (by decide) (fun c12 => ?_) (fun c12 => ?_)
      · -- taken at 12
        refine lv_iload_n hx hb dX5_howManyClosedSeals_35 rfl (lv_at hl 1 rfl) ?_
        exact hret _ _ _ (congrArg nI (by rw [show i = n by omega])) dX5_howManyClosedSeals_36
      · -- not taken at 12
        exact absurd c12 (by omega)
    | succ d ih =>
      intro i hlo4 hhi4 ls hl
      refine lv_iload_n hx hb dX5_howManyClosedSeals_4 rfl (lv_at hl 2 rfl) ?_
      refine lv_aload_n hx hb dX5_howManyClosedSeals_5 rfl (lv_at hl 0 rfl) ?_
      refine f_get G K hP inX5 0 (ci := 5) rfl rfl 0 rfl fl_X5_12 (v := .ref (aW 0)) rfl dX5_howManyClosedSeals_6 ?_
      refine f_get G K hP inX4 2 (ci := 4) rfl rfl 5 rfl fl_X5_82 (v := .int (nI n)) rfl dX5_howManyClosedSeals_9 ?_
      refine c_ge G (tgt := 35) (by omega) (by omega) dX5_howManyClosedSeals_12 (by decide) (fun c12 => ?_) (fun c12 => ?_)
      · -- taken at 12
        exact absurd c12 (by omega)
      · -- not taken at 12
        refine lv_aload_n hx hb dX5_howManyClosedSeals_15 rfl (lv_at hl 0 rfl) ?_
        refine f_get G K hP inX5 0 (ci := 5) rfl rfl 0 rfl fl_X5_12 (v := .ref (aW 0)) rfl dX5_howManyClosedSeals_16 ?_
        refine lv_iload_n hx hb dX5_howManyClosedSeals_19 rfl (lv_at hl 2 rfl) ?_
        refine callPV (As := [.int (nI i)]) (rest := []) (q0 := 0) (ci := 4) G K F_X4_isClosedSeal (c_X4_isClosedSeal aW n cl th ki va re fi i J (by omega)) (hP.sub (ws' := (wW cI aW n cl th ki va re fi)) [2, 3, 4, 5, 6, 7] rfl) ml_X5_178 rfl rfl rfl (by decide) (by decide) rfl hl.1 (Nat.le_of_ble_eq_true rfl) dX5_howManyClosedSeals_20 ?_
        refine b_eq G (tgt := 29) dX5_howManyClosedSeals_23 (by decide) (fun c23 => ?_) (fun c23 => ?_)
        · -- taken at 23
          have hl := lv_re (l' := [(0, .ref (aS 0)), (1, .int (nI (cntP (cls ki re cl) (i + 1)))), (2, .int (nI i))]) hl (by rw [show (nI (cntP (cls ki re cl) i)) = (nI (cntP (cls ki re cl) (i + 1))) from (congrArg nI (cntP_f' (q := cls ki re cl) c23))])
          refine lv_iinc (v := (nI (i + 1))) (lv' := [(2, .int (nI (i + 1))), (0, .ref (aS 0)), (1, .int (nI (cntP (cls ki re cl) (i + 1))))]) hx hb dX5_howManyClosedSeals_29 hl (k := 2) rfl (nI_inc _ 1) (by decide) rfl (fun ls hl => ?_)
          refine lv_goto (tgt := 4) hx hb dX5_howManyClosedSeals_32 (by decide) ?_
          -- slot 2: have n:i + 1, want n:(i + 1)
          exact ih (i + 1) (by omega) (by omega) ls (lv_sub hl [1, 2, 0] rfl)
        · -- not taken at 23
          refine lv_iinc (v := (nI (cntP (cls ki re cl) (i + 1)))) (lv' := [(1, .int (nI (cntP (cls ki re cl) (i + 1)))), (0, .ref (aS 0)), (2, .int (nI i))]) hx hb dX5_howManyClosedSeals_26 hl (k := 1) rfl ((nI_inc _ 1).trans (congrArg nI (cntP_t (q := cls ki re cl) c23))) (by decide) rfl (fun ls hl => ?_)
          refine lv_iinc (v := (nI (i + 1))) (lv' := [(2, .int (nI (i + 1))), (1, .int (nI (cntP (cls ki re cl) (i + 1)))), (0, .ref (aS 0))]) hx hb dX5_howManyClosedSeals_29 hl (k := 2) rfl (nI_inc _ 1) (by decide) rfl (fun ls hl => ?_)
          refine lv_goto (tgt := 4) hx hb dX5_howManyClosedSeals_32 (by decide) ?_
          -- slot 2: have n:i + 1, want n:(i + 1)
          exact ih (i + 1) (by omega) (by omega) ls (lv_sub hl [2, 1, 0] rfl)
  exact L4 (n - 0) (0) (Nat.le_refl _) (by omega) ls (lv_sub hl [2, 1, 0] rfl)
set_option maxHeartbeats 4000000 in
set_option maxRecDepth 100000 in
theorem c_X5_howManyShadowed (aS : Nat → Nat) (aE : Nat → Nat) (la : Int32) (aW : Nat → Nat) (n : Nat) (cl : Nat) (th : Nat → Nat) (ki : Nat → Nat) (va : Nat → Nat) (re : Nat → Nat) (fi : Nat → Nat) (aB : Nat → Nat) (bt : Nat → Nat) (bs : Nat) (aC : Nat → Nat) (to : Nat → Prop) (co : Nat → Nat) (ke : Nat → Int32) (nu : Nat → Int32) (fw : Nat → Nat) (aH : Nat → Nat) (lt : Nat → Option Nat) (tr : Nat → Nat) (sh : Nat → Nat) (cr : Nat → Nat) (ct : Nat → Nat) (cu : Nat → Nat) (ve : Nat → Nat) (ta : Nat → Nat) (ch : Nat) (aT : Nat → Nat) (lt2 : Nat → Option Nat) (tr2 : Nat → Nat) (sh2 : Nat → Nat) (cr2 : Nat → Nat) (ct2 : Nat → Nat) (cu2 : Nat → Nat) (ve2 : Nat → Nat) (ta2 : Nat → Nat) (ch2 : Nat) (lo : Nat → Prop) (fo : Nat → Nat) (si : Nat → Nat) (it : Nat → Nat → Int32) (J : IW n cl th ki va re fi) (S : SW n cl re fi) (B9 : (∀ j, bt j ≤ 255) ∧ bs ≤ 216) (C9 : (∀ j, co j ≤ 400) ∧ (∀ j, fw j ≤ 15)) (H9 : IHd lt tr sh cr ct cu ve ta ch) (U9 : IHd lt2 tr2 sh2 cr2 ct2 cu2 ve2 ta2 ch2) (E9 : (∀ j, fo j ≤ 2) ∧ (∀ j, si j ≤ 60)) (KH : HOK th ki va re none n cl lt tr sh cr ct cu ve ta ch) : CP l D (TY cI cZ cS) yX5_howManyShadowed cX5_howManyShadowed 3 .int 1 [.ref (aS 0)] ((wS cS aS (aW 0) (aB 0) (aC 0) (aH 0) (aT 0) aE la) ++ ((wW cI aW n cl th ki va re fi) ++ ((wB cI aB bt bs) ++ ((wC cI cZ aC (aW 0) (aB 0) to co ke nu fw) ++ ((wH cI aH (aW 0) lt tr sh cr ct cu ve ta ch) ++ ((wH cI aT (aW 0) lt2 tr2 sh2 cr2 ct2 cu2 ve2 ta2 ch2) ++ (wE cI aE lo fo si it))))))) (.int (nI (cntP (fun i => shad th ki va re none n (i % 16) (i / 16)) (16 * (cl + 1))))) := by
  refine CP.ofI (by decide +kernel) (Nat.le_of_ble_eq_true rfl) (nar_int _) ?_
  intro p e s m args below meth c Q G K hP hret ls hl
  obtain ⟨hx, hb, hml, hown, hts⟩ := id G
  obtain ⟨hn, hcl, hth, hki, hva, hre, hfi⟩ := id J
  obtain ⟨hbt, hbs⟩ := id B9
  obtain ⟨hco, hfw⟩ := id C9
  obtain ⟨hlt, htr, hsh, hcr, hct, hcu, hve, hta, hch⟩ := id H9
  obtain ⟨hlt2, htr2, hsh2, hcr2, hct2, hcu2, hve2, hta2, hch2⟩ := id U9
  obtain ⟨hfo, hsi⟩ := id E9
  obtain ⟨K1, K2, K3, K4, K5, K6, K7⟩ := id KH
  have hl : lv_has ls 3 [(0, .ref (aS 0))] := hl
  refine lv_iconst (v := (nI 0)) hx hb dX5_howManyShadowed_0 (by decide) ?_
  refine lv_istore_n (lv' := [(1, .int (nI 0)), (0, .ref (aS 0))]) hx hb dX5_howManyShadowed_1 rfl hl (by decide) rfl (fun ls hl => ?_)
  refine lv_iconst (v := (nI 0)) hx hb dX5_howManyShadowed_2 (by decide) ?_
  refine lv_istore_n (lv' := [(2, .int (nI 0)), (1, .int (nI 0)), (0, .ref (aS 0))]) hx hb dX5_howManyShadowed_3 rfl hl (by decide) rfl (fun ls hl => ?_)
  have L4 : ∀ (d r : Nat), 0 ≤ r → r + d = cl + 1 → ∀ (ls : Array Slot), lv_has ls 3 [(0, .ref (aS 0)), (1, .int (nI (cntP (fun i => shad th ki va re none n (i % 16) (i / 16)) (16 * r)))), (2, .int (nI r))] → W p l e (RM 1) s m args below meth c s.heap [] 0 0 Q (F0 m 4 ls []) := by
    intro d
    induction d with
    | zero =>
      intro r hlo4 hhi4 ls hl
      have hcn := cntP_le (fun i => shad th ki va re none n (i % 16) (i / 16)) (16 * r)
      refine lv_iload_n hx hb dX5_howManyShadowed_4 rfl (lv_at hl 2 rfl) ?_
      refine lv_aload_n hx hb dX5_howManyShadowed_5 rfl (lv_at hl 0 rfl) ?_
      refine f_get G K hP inX5 0 (ci := 5) rfl rfl 0 rfl fl_X5_12 (v := .ref (aW 0)) rfl dX5_howManyShadowed_6 ?_
      refine f_get G K hP inX4 2 (ci := 4) rfl rfl 6 rfl fl_X5_70 (v := .int (nI cl)) rfl dX5_howManyShadowed_9 ?_
      refine c_gt G (tgt := 36) (by omega) (by omega) dX5_howManyShadowed_12 (by decide) (fun c12 => ?_) (fun c12 => ?_)
      · -- taken at 12
        refine lv_iload_n hx hb dX5_howManyShadowed_36 rfl (lv_at hl 1 rfl) ?_
        exact hret _ _ _ (congrArg nI (by rw [show r = cl + 1 by omega])) dX5_howManyShadowed_37
      · -- not taken at 12
        exact absurd c12 (by omega)
    | succ d ih =>
      intro r hlo4 hhi4 ls hl
      have hcn := cntP_le (fun i => shad th ki va re none n (i % 16) (i / 16)) (16 * r)
      refine lv_iload_n hx hb dX5_howManyShadowed_4 rfl (lv_at hl 2 rfl) ?_
      refine lv_aload_n hx hb dX5_howManyShadowed_5 rfl (lv_at hl 0 rfl) ?_
      refine f_get G K hP inX5 0 (ci := 5) rfl rfl 0 rfl fl_X5_12 (v := .ref (aW 0)) rfl dX5_howManyShadowed_6 ?_
      refine f_get G K hP inX4 2 (ci := 4) rfl rfl 6 rfl fl_X5_70 (v := .int (nI cl)) rfl dX5_howManyShadowed_9 ?_
      refine c_gt G (tgt := 36) (by omega) (by omega) dX5_howManyShadowed_12 (by decide) (fun c12 => ?_) (fun c12 => ?_)
      · -- taken at 12
        exact absurd c12 (by omega)
      · -- not taken at 12
        refine lv_iload_n hx hb dX5_howManyShadowed_15 rfl (lv_at hl 1 rfl) ?_
        refine lv_aload_n hx hb dX5_howManyShadowed_16 rfl (lv_at hl 0 rfl) ?_
        refine f_get G K hP inX5 0 (ci := 5) rfl rfl 3 rfl fl_X5_37 (v := .ref (aH 0)) rfl dX5_howManyShadowed_17 ?_
        refine f_get G K hP inX2 16 (ci := 2) rfl rfl 3 rfl fl_X5_169 (v := .ref (aH 3)) rfl dX5_howManyShadowed_20 ?_
        refine lv_iload_n hx hb dX5_howManyShadowed_23 rfl (lv_at hl 2 rfl) ?_
        refine a_ldN G K hP 19 0 (a := (aH 3)) rfl rfl (by omega) (by decide) dX5_howManyShadowed_24 ?_
        have hb1 := hsh r
        refine callPS (rest := [.int (nI (cntP (fun i => shad th ki va re none n (i % 16) (i / 16)) (16 * r)))]) G K F_J6_bitCount_0f7a4 (c_J6_bitCount_0f7a4 (nI (sh r))) (va_P_nil D s.heap) ml_X5_265 (by decide) (by decide) rfl hl.1 (Nat.le_of_ble_eq_true rfl) dX5_howManyShadowed_25 ?_
        refine t_i (y := (nI (cntP (fun t => shad th ki va re none n t r) 16))) (by rw [K3 r (by omega)]; exact bc_bsm _) ?_
        refine t_add G dX5_howManyShadowed_28 ?_
        refine t_i (y := (nI (cntP (fun i => shad th ki va re none n (i % 16) (i / 16)) (16 * (r + 1))))) (congrArg nI (shd_step (fun t r => shad th ki va re none n t r) r)) ?_
        refine lv_istore_n (lv' := [(1, .int (nI (cntP (fun i => shad th ki va re none n (i % 16) (i / 16)) (16 * (r + 1))))), (0, .ref (aS 0)), (2, .int (nI r))]) hx hb dX5_howManyShadowed_29 rfl hl (by decide) rfl (fun ls hl => ?_)
        refine lv_iinc (v := (nI (r + 1))) (lv' := [(2, .int (nI (r + 1))), (1, .int (nI (cntP (fun i => shad th ki va re none n (i % 16) (i / 16)) (16 * (r + 1))))), (0, .ref (aS 0))]) hx hb dX5_howManyShadowed_30 hl (k := 2) rfl (nI_inc _ 1) (by decide) rfl (fun ls hl => ?_)
        refine lv_goto (tgt := 4) hx hb dX5_howManyShadowed_33 (by decide) ?_
        -- slot 2: have n:r + 1, want n:(r + 1)
        exact ih (r + 1) (by omega) (by omega) ls (lv_sub hl [2, 1, 0] rfl)
  exact L4 (cl + 1 - 0) (0) (Nat.le_refl _) (by omega) ls (lv_sub hl [2, 1, 0] rfl)
set_option maxHeartbeats 4000000 in
set_option maxRecDepth 100000 in
theorem c_X5_holding_ok (aS : Nat → Nat) (aE : Nat → Nat) (la : Int32) (aW : Nat → Nat) (n : Nat) (cl : Nat) (th : Nat → Nat) (ki : Nat → Nat) (va : Nat → Nat) (re : Nat → Nat) (fi : Nat → Nat) (aB : Nat → Nat) (bt : Nat → Nat) (bs : Nat) (aC : Nat → Nat) (to : Nat → Prop) (co : Nat → Nat) (ke : Nat → Int32) (nu : Nat → Int32) (fw : Nat → Nat) (aH : Nat → Nat) (lt : Nat → Option Nat) (tr : Nat → Nat) (sh : Nat → Nat) (cr : Nat → Nat) (ct : Nat → Nat) (cu : Nat → Nat) (ve : Nat → Nat) (ta : Nat → Nat) (ch : Nat) (aT : Nat → Nat) (lt2 : Nat → Option Nat) (tr2 : Nat → Nat) (sh2 : Nat → Nat) (cr2 : Nat → Nat) (ct2 : Nat → Nat) (cu2 : Nat → Nat) (ve2 : Nat → Nat) (ta2 : Nat → Nat) (ch2 : Nat) (lo : Nat → Prop) (fo : Nat → Nat) (si : Nat → Nat) (it : Nat → Nat → Int32) (q : Nat) (J : IW n cl th ki va re fi) (S : SW n cl re fi) (B9 : (∀ j, bt j ≤ 255) ∧ bs ≤ 216) (C9 : (∀ j, co j ≤ 400) ∧ (∀ j, fw j ≤ 15)) (H9 : IHd lt tr sh cr ct cu ve ta ch) (U9 : IHd lt2 tr2 sh2 cr2 ct2 cu2 ve2 ta2 ch2) (E9 : (∀ j, fo j ≤ 2) ∧ (∀ j, si j ≤ 60)) (KC : SKc th ki va re n cl to co ke nu fw) (KH : HOK th ki va re none n cl lt tr sh cr ct cu ve ta ch) (hq9 : q ≤ 1) : CP l D (TY cI cZ cS) yX5_holding cX5_holding 2 .int 3 [.ref (aS 0), .int (nI q)] ((wS cS aS (aW 0) (aB 0) (aC 0) (aH 0) (aT 0) aE la) ++ ((wW cI aW n cl th ki va re fi) ++ ((wB cI aB bt bs) ++ ((wC cI cZ aC (aW 0) (aB 0) to co ke nu fw) ++ ((wH cI aH (aW 0) lt tr sh cr ct cu ve ta ch) ++ ((wH cI aT (aW 0) lt2 tr2 sh2 cr2 ct2 cu2 ve2 ta2 ch2) ++ (wE cI aE lo fo si it))))))) (.int (nI (cif (q = 0) (hoN th ki va re none n cl to co ke) (cntP (cls ki re cl) n)))) := by
  refine CP.ofI (by decide +kernel) (Nat.le_of_ble_eq_true rfl) (nar_int _) ?_
  intro p e s m args below meth c Q G K hP hret ls hl
  obtain ⟨hx, hb, hml, hown, hts⟩ := id G
  obtain ⟨hn, hcl, hth, hki, hva, hre, hfi⟩ := id J
  obtain ⟨hbt, hbs⟩ := id B9
  obtain ⟨hco, hfw⟩ := id C9
  obtain ⟨hlt, htr, hsh, hcr, hct, hcu, hve, hta, hch⟩ := id H9
  obtain ⟨hlt2, htr2, hsh2, hcr2, hct2, hcu2, hve2, hta2, hch2⟩ := id U9
  obtain ⟨hfo, hsi⟩ := id E9
  obtain ⟨K1, K2, K3, K4, K5, K6, K7⟩ := id KH
  have hl : lv_has ls 2 [(0, .ref (aS 0)), (1, .int (nI q))] := hl
  refine lv_iload_n hx hb dX5_holding_0 rfl (lv_at hl 1 rfl) ?_
  rcases (show q = 0 ∨ q = 1 by omega) with rfl | rfl
  · -- 0
    refine lv_lookup (off := 27) (tgt := 28) hx hb dX5_holding_1 (by decide) (by decide) (by decide) ?_
    refine lv_aload_n hx hb dX5_holding_28 rfl (lv_at hl 0 rfl) ?_
    refine lv_aload_n hx hb dX5_holding_29 rfl (lv_at hl 0 rfl) ?_
    refine f_get G K hP inX5 0 (ci := 5) rfl rfl 3 rfl fl_X5_37 (v := .ref (aH 0)) rfl dX5_holding_30 ?_
    refine lv_iconst (v := (-1)) hx hb dX5_holding_33 (by decide) ?_
    refine callPV (As := [.ref (aH 0), .int (-1)]) (rest := []) (q0 := 0) (ci := 5) G K F_X5_howManyHold (c_X5_howManyHold_h aS aE la aW n cl th ki va re fi aB bt bs aC to co ke nu fw aH lt tr sh cr ct cu ve ta ch aT lt2 tr2 sh2 cr2 ct2 cu2 ve2 ta2 ch2 lo fo si it none J S B9 C9 H9 U9 E9 KC KH (fun v h => by cases h)) hP ml_X5_227 rfl rfl rfl (by decide) (by decide) rfl hl.1 (Nat.le_of_ble_eq_true rfl) dX5_holding_34 ?_
    have hf1 := hoN_le th ki va re none n cl to co ke
    exact hret _ _ _ (congrArg nI (by first | rw [cif_t rfl] | rw [cif_f (by decide)])) dX5_holding_37
  · -- 1
    refine lv_lookup (off := 37) (tgt := 38) hx hb dX5_holding_1 (by decide) (by decide) (by decide) ?_
    refine lv_aload_n hx hb dX5_holding_38 rfl (lv_at hl 0 rfl) ?_
    refine callPV (As := []) (rest := []) (q0 := 0) (ci := 5) G K F_X5_howManyClosedSeals (c_X5_howManyClosedSeals aS aE la aW n cl th ki va re fi aB bt bs aC to co ke nu fw aH lt tr sh cr ct cu ve ta ch aT lt2 tr2 sh2 cr2 ct2 cu2 ve2 ta2 ch2 lo fo si it J S B9 C9 H9 U9 E9) hP ml_X5_231 rfl rfl rfl (by decide) (by decide) rfl hl.1 (Nat.le_of_ble_eq_true rfl) dX5_holding_39 ?_
    exact hret _ _ _ (congrArg nI (by first | rw [cif_t rfl] | rw [cif_f (by decide)])) dX5_holding_42
set_option maxHeartbeats 4000000 in
set_option maxRecDepth 100000 in
theorem c_X5_holding_bad (aS : Nat → Nat) (aE : Nat → Nat) (la : Int32) (aW : Nat → Nat) (n : Nat) (cl : Nat) (th : Nat → Nat) (ki : Nat → Nat) (va : Nat → Nat) (re : Nat → Nat) (fi : Nat → Nat) (aB : Nat → Nat) (bt : Nat → Nat) (bs : Nat) (aC : Nat → Nat) (to : Nat → Prop) (co : Nat → Nat) (ke : Nat → Int32) (nu : Nat → Int32) (fw : Nat → Nat) (aH : Nat → Nat) (lt : Nat → Option Nat) (tr : Nat → Nat) (sh : Nat → Nat) (cr : Nat → Nat) (ct : Nat → Nat) (cu : Nat → Nat) (ve : Nat → Nat) (ta : Nat → Nat) (ch : Nat) (aT : Nat → Nat) (lt2 : Nat → Option Nat) (tr2 : Nat → Nat) (sh2 : Nat → Nat) (cr2 : Nat → Nat) (ct2 : Nat → Nat) (cu2 : Nat → Nat) (ve2 : Nat → Nat) (ta2 : Nat → Nat) (ch2 : Nat) (lo : Nat → Prop) (fo : Nat → Nat) (si : Nat → Nat) (it : Nat → Nat → Int32) (x : Int32) (J : IW n cl th ki va re fi) (S : SW n cl re fi) (B9 : (∀ j, bt j ≤ 255) ∧ bs ≤ 216) (C9 : (∀ j, co j ≤ 400) ∧ (∀ j, fw j ≤ 15)) (H9 : IHd lt tr sh cr ct cu ve ta ch) (U9 : IHd lt2 tr2 sh2 cr2 ct2 cu2 ve2 ta2 ch2) (E9 : (∀ j, fo j ≤ 2) ∧ (∀ j, si j ≤ 60)) (KC : SKc th ki va re n cl to co ke nu fw) (KH : HOK th ki va re none n cl lt tr sh cr ct cu ve ta ch) (hbad : ¬ okR 1 x) : CP l D (TY cI cZ cS) yX5_holding cX5_holding 2 .int 3 [.ref (aS 0), .int x] ((wS cS aS (aW 0) (aB 0) (aC 0) (aH 0) (aT 0) aE la) ++ ((wW cI aW n cl th ki va re fi) ++ ((wB cI aB bt bs) ++ ((wC cI cZ aC (aW 0) (aB 0) to co ke nu fw) ++ ((wH cI aH (aW 0) lt tr sh cr ct cu ve ta ch) ++ ((wH cI aT (aW 0) lt2 tr2 sh2 cr2 ct2 cu2 ve2 ta2 ch2) ++ (wE cI aE lo fo si it))))))) (.int (-2)) := by
  refine CP.ofI (by decide +kernel) (Nat.le_of_ble_eq_true rfl) (nar_int _) ?_
  intro p e s m args below meth c Q G K hP hret ls hl
  obtain ⟨hx, hb, hml, hown, hts⟩ := id G
  obtain ⟨hn, hcl, hth, hki, hva, hre, hfi⟩ := id J
  obtain ⟨hbt, hbs⟩ := id B9
  obtain ⟨hco, hfw⟩ := id C9
  obtain ⟨hlt, htr, hsh, hcr, hct, hcu, hve, hta, hch⟩ := id H9
  obtain ⟨hlt2, htr2, hsh2, hcr2, hct2, hcu2, hve2, hta2, hch2⟩ := id U9
  obtain ⟨hfo, hsi⟩ := id E9
  obtain ⟨K1, K2, K3, K4, K5, K6, K7⟩ := id KH
  have hl : lv_has ls 2 [(0, .ref (aS 0)), (1, .int x)] := hl
  refine lv_iload_n hx hb dX5_holding_0 rfl (lv_at hl 1 rfl) ?_
  rcases sw1 x with rfl | rfl | hsw1
  · -- 0
    exact absurd ⟨0, by decide, rfl⟩ hbad
  · -- 1
    exact absurd ⟨1, by decide, rfl⟩ hbad
  · -- other
    refine lv_lookup (off := 42) (tgt := 43) hx hb dX5_holding_1 (by decide) (sw_lk1 hsw1) (by decide) ?_
    refine lv_bipush (v := (-2)) hx hb dX5_holding_43 (by decide) ?_
    exact hret _ _ _ rfl dX5_holding_45
set_option maxHeartbeats 4000000 in
set_option maxRecDepth 100000 in
theorem c_X5_count_ok (aS : Nat → Nat) (aE : Nat → Nat) (la : Int32) (aW : Nat → Nat) (n : Nat) (cl : Nat) (th : Nat → Nat) (ki : Nat → Nat) (va : Nat → Nat) (re : Nat → Nat) (fi : Nat → Nat) (aB : Nat → Nat) (bt : Nat → Nat) (bs : Nat) (aC : Nat → Nat) (to : Nat → Prop) (co : Nat → Nat) (ke : Nat → Int32) (nu : Nat → Int32) (fw : Nat → Nat) (aH : Nat → Nat) (lt : Nat → Option Nat) (tr : Nat → Nat) (sh : Nat → Nat) (cr : Nat → Nat) (ct : Nat → Nat) (cu : Nat → Nat) (ve : Nat → Nat) (ta : Nat → Nat) (ch : Nat) (aT : Nat → Nat) (lt2 : Nat → Option Nat) (tr2 : Nat → Nat) (sh2 : Nat → Nat) (cr2 : Nat → Nat) (ct2 : Nat → Nat) (cu2 : Nat → Nat) (ve2 : Nat → Nat) (ta2 : Nat → Nat) (ch2 : Nat) (lo : Nat → Prop) (fo : Nat → Nat) (si : Nat → Nat) (it : Nat → Nat → Int32) (q : Nat) (J : IW n cl th ki va re fi) (S : SW n cl re fi) (B9 : (∀ j, bt j ≤ 255) ∧ bs ≤ 216) (C9 : (∀ j, co j ≤ 400) ∧ (∀ j, fw j ≤ 15)) (H9 : IHd lt tr sh cr ct cu ve ta ch) (U9 : IHd lt2 tr2 sh2 cr2 ct2 cu2 ve2 ta2 ch2) (E9 : (∀ j, fo j ≤ 2) ∧ (∀ j, si j ≤ 60)) (KB : SKb th ki va re n cl bt bs) (KC : SKc th ki va re n cl to co ke nu fw) (KH : HOK th ki va re none n cl lt tr sh cr ct cu ve ta ch) (hq9 : q ≤ 8) : CP l D (TY cI cZ cS) yX5_count cX5_count 2 .int 3 [.ref (aS 0), .int (nI q)] ((wS cS aS (aW 0) (aB 0) (aC 0) (aH 0) (aT 0) aE la) ++ ((wW cI aW n cl th ki va re fi) ++ ((wB cI aB bt bs) ++ ((wC cI cZ aC (aW 0) (aB 0) to co ke nu fw) ++ ((wH cI aH (aW 0) lt tr sh cr ct cu ve ta ch) ++ ((wH cI aT (aW 0) lt2 tr2 sh2 cr2 ct2 cu2 ve2 ta2 ch2) ++ (wE cI aE lo fo si it))))))) (.int (cnN th ki va re none n cl to co ke la q)) := by
  refine CP.ofI (by decide +kernel) (Nat.le_of_ble_eq_true rfl) (nar_int _) ?_
  intro p e s m args below meth c Q G K hP hret ls hl
  obtain ⟨hx, hb, hml, hown, hts⟩ := id G
  obtain ⟨hn, hcl, hth, hki, hva, hre, hfi⟩ := id J
  obtain ⟨hbt, hbs⟩ := id B9
  obtain ⟨hco, hfw⟩ := id C9
  obtain ⟨hlt, htr, hsh, hcr, hct, hcu, hve, hta, hch⟩ := id H9
  obtain ⟨hlt2, htr2, hsh2, hcr2, hct2, hcu2, hve2, hta2, hch2⟩ := id U9
  obtain ⟨hfo, hsi⟩ := id E9
  obtain ⟨K1, K2, K3, K4, K5, K6, K7⟩ := id KH
  obtain ⟨kb1, kb2⟩ := id KB
  have hl : lv_has ls 2 [(0, .ref (aS 0)), (1, .int (nI q))] := hl
  refine lv_iload_n hx hb dX5_count_0 rfl (lv_at hl 1 rfl) ?_
  rcases (show q = 0 ∨ q = 1 ∨ q = 2 ∨ q = 3 ∨ q = 4 ∨ q = 5 ∨ q = 6 ∨ q = 7 ∨ q = 8 by omega) with rfl | rfl | rfl | rfl | rfl | rfl | rfl | rfl | rfl
  · -- 0
    refine lv_tableIn (off := 51) (tgt := 52) hx hb dX5_count_1 (by decide) (by decide) (by decide) (by decide) ?_
    refine lv_aload_n hx hb dX5_count_52 rfl (lv_at hl 0 rfl) ?_
    refine f_get G K hP inX5 0 (ci := 5) rfl rfl 0 rfl fl_X5_12 (v := .ref (aW 0)) rfl dX5_count_53 ?_
    refine f_get G K hP inX4 2 (ci := 4) rfl rfl 5 rfl fl_X5_82 (v := .int (nI n)) rfl dX5_count_56 ?_
    exact hret _ _ _ rfl dX5_count_59
  · -- 1
    refine lv_tableIn (off := 59) (tgt := 60) hx hb dX5_count_1 (by decide) (by decide) (by decide) (by decide) ?_
    refine lv_aload_n hx hb dX5_count_60 rfl (lv_at hl 0 rfl) ?_
    refine f_get G K hP inX5 0 (ci := 5) rfl rfl 0 rfl fl_X5_12 (v := .ref (aW 0)) rfl dX5_count_61 ?_
    refine f_get G K hP inX4 2 (ci := 4) rfl rfl 6 rfl fl_X5_70 (v := .int (nI cl)) rfl dX5_count_64 ?_
    exact hret _ _ _ rfl dX5_count_67
  · -- 2
    refine lv_tableIn (off := 67) (tgt := 68) hx hb dX5_count_1 (by decide) (by decide) (by decide) (by decide) ?_
    refine lv_aload_n hx hb dX5_count_68 rfl (lv_at hl 0 rfl) ?_
    refine f_get G K hP inX5 0 (ci := 5) rfl rfl 1 rfl fl_X5_19 (v := .ref (aB 0)) rfl dX5_count_69 ?_
    refine f_get G K hP inX0 8 (ci := 0) rfl rfl 1 rfl fl_X5_156 (v := .int (nI bs)) rfl dX5_count_72 ?_
    exact hret _ _ _ (congrArg nI kb1) dX5_count_75
  · -- 3
    refine lv_tableIn (off := 75) (tgt := 76) hx hb dX5_count_1 (by decide) (by decide) (by decide) (by decide) ?_
    refine lv_aload_n hx hb dX5_count_76 rfl (lv_at hl 0 rfl) ?_
    refine callPV (As := []) (rest := []) (q0 := 0) (ci := 5) G K F_X5_howManyClosedSeals (c_X5_howManyClosedSeals aS aE la aW n cl th ki va re fi aB bt bs aC to co ke nu fw aH lt tr sh cr ct cu ve ta ch aT lt2 tr2 sh2 cr2 ct2 cu2 ve2 ta2 ch2 lo fo si it J S B9 C9 H9 U9 E9) hP ml_X5_231 rfl rfl rfl (by decide) (by decide) rfl hl.1 (Nat.le_of_ble_eq_true rfl) dX5_count_77 ?_
    exact hret _ _ _ rfl dX5_count_80
  · -- 4
    refine lv_tableIn (off := 80) (tgt := 81) hx hb dX5_count_1 (by decide) (by decide) (by decide) (by decide) ?_
    refine lv_aload_n hx hb dX5_count_81 rfl (lv_at hl 0 rfl) ?_
    refine lv_aload_n hx hb dX5_count_82 rfl (lv_at hl 0 rfl) ?_
    refine f_get G K hP inX5 0 (ci := 5) rfl rfl 3 rfl fl_X5_37 (v := .ref (aH 0)) rfl dX5_count_83 ?_
    refine lv_iconst (v := (-1)) hx hb dX5_count_86 (by decide) ?_
    refine callPV (As := [.ref (aH 0), .int (-1)]) (rest := []) (q0 := 0) (ci := 5) G K F_X5_howManyHold (c_X5_howManyHold_h aS aE la aW n cl th ki va re fi aB bt bs aC to co ke nu fw aH lt tr sh cr ct cu ve ta ch aT lt2 tr2 sh2 cr2 ct2 cu2 ve2 ta2 ch2 lo fo si it none J S B9 C9 H9 U9 E9 KC KH (fun v h => by cases h)) hP ml_X5_227 rfl rfl rfl (by decide) (by decide) rfl hl.1 (Nat.le_of_ble_eq_true rfl) dX5_count_87 ?_
    have hf1 := hoN_le th ki va re none n cl to co ke
    exact hret _ _ _ (congrArg nI (cif_t rfl).symm) dX5_count_90
  · -- 5
    refine lv_tableIn (off := 90) (tgt := 91) hx hb dX5_count_1 (by decide) (by decide) (by decide) (by decide) ?_
    refine lv_aload_n hx hb dX5_count_91 rfl (lv_at hl 0 rfl) ?_
    refine f_get G K hP inX5 0 (ci := 5) rfl rfl 3 rfl fl_X5_37 (v := .ref (aH 0)) rfl dX5_count_92 ?_
    refine f_get G K hP inX2 16 (ci := 2) rfl rfl 2 rfl fl_X5_262 (v := .ref (aH 2)) rfl dX5_count_95 ?_
    refine lv_aload_n hx hb dX5_count_98 rfl (lv_at hl 0 rfl) ?_
    refine f_get G K hP inX5 0 (ci := 5) rfl rfl 0 rfl fl_X5_12 (v := .ref (aW 0)) rfl dX5_count_99 ?_
    refine f_get G K hP inX4 2 (ci := 4) rfl rfl 6 rfl fl_X5_70 (v := .int (nI cl)) rfl dX5_count_102 ?_
    refine a_ldN G K hP 18 0 (a := (aH 2)) rfl rfl (by omega) (by decide) dX5_count_105 ?_
    have hb2 := htr cl
    refine callPS (rest := []) G K F_J6_bitCount_0f7a4 (c_J6_bitCount_0f7a4 (nI (tr cl))) (va_P_nil D s.heap) ml_X5_265 (by decide) (by decide) rfl hl.1 (Nat.le_of_ble_eq_true rfl) dX5_count_106 ?_
    exact hret _ _ _ (by rw [K2 cl (Nat.le_refl _)]; exact bc_bsm _) dX5_count_109
  · -- 6
    refine lv_tableIn (off := 109) (tgt := 110) hx hb dX5_count_1 (by decide) (by decide) (by decide) (by decide) ?_
    refine lv_aload_n hx hb dX5_count_110 rfl (lv_at hl 0 rfl) ?_
    refine callPV (As := []) (rest := []) (q0 := 0) (ci := 5) G K F_X5_howManyShadowed (c_X5_howManyShadowed aS aE la aW n cl th ki va re fi aB bt bs aC to co ke nu fw aH lt tr sh cr ct cu ve ta ch aT lt2 tr2 sh2 cr2 ct2 cu2 ve2 ta2 ch2 lo fo si it J S B9 C9 H9 U9 E9 KH) hP ml_X5_270 rfl rfl rfl (by decide) (by decide) rfl hl.1 (Nat.le_of_ble_eq_true rfl) dX5_count_111 ?_
    exact hret _ _ _ rfl dX5_count_114
  · -- 7
    refine lv_tableIn (off := 114) (tgt := 115) hx hb dX5_count_1 (by decide) (by decide) (by decide) (by decide) ?_
    refine lv_aload_n hx hb dX5_count_115 rfl (lv_at hl 0 rfl) ?_
    refine lv_aload_n hx hb dX5_count_116 rfl (lv_at hl 0 rfl) ?_
    refine f_get G K hP inX5 0 (ci := 5) rfl rfl 0 rfl fl_X5_12 (v := .ref (aW 0)) rfl dX5_count_117 ?_
    refine f_get G K hP inX4 2 (ci := 4) rfl rfl 6 rfl fl_X5_70 (v := .int (nI cl)) rfl dX5_count_120 ?_
    refine callPV (As := [.int (nI cl)]) (rest := []) (q0 := 0) (ci := 5) G K F_X5_allowed (c_X5_allowed aS aE la aW n cl th ki va re fi aB bt bs aC to co ke nu fw aH lt tr sh cr ct cu ve ta ch aT lt2 tr2 sh2 cr2 ct2 cu2 ve2 ta2 ch2 lo fo si it (nI cl) J S B9 C9 H9 U9 E9) hP ml_X5_273 rfl rfl rfl (by decide) (by decide) rfl hl.1 (Nat.le_of_ble_eq_true rfl) dX5_count_123 ?_
    exact hret _ _ _ (alV_k hcl (Nat.le_refl cl)).symm dX5_count_126
  · -- 8
    refine lv_tableIn (off := 126) (tgt := 127) hx hb dX5_count_1 (by decide) (by decide) (by decide) (by decide) ?_
    refine lv_aload_n hx hb dX5_count_127 rfl (lv_at hl 0 rfl) ?_
    refine f_get G K hP inX5 0 (ci := 5) rfl rfl 6 rfl fl_X5_50 (v := .int la) rfl dX5_count_128 ?_
    exact hret _ _ _ rfl dX5_count_131
set_option maxHeartbeats 4000000 in
set_option maxRecDepth 100000 in
theorem c_X5_count_bad (aS : Nat → Nat) (aE : Nat → Nat) (la : Int32) (aW : Nat → Nat) (n : Nat) (cl : Nat) (th : Nat → Nat) (ki : Nat → Nat) (va : Nat → Nat) (re : Nat → Nat) (fi : Nat → Nat) (aB : Nat → Nat) (bt : Nat → Nat) (bs : Nat) (aC : Nat → Nat) (to : Nat → Prop) (co : Nat → Nat) (ke : Nat → Int32) (nu : Nat → Int32) (fw : Nat → Nat) (aH : Nat → Nat) (lt : Nat → Option Nat) (tr : Nat → Nat) (sh : Nat → Nat) (cr : Nat → Nat) (ct : Nat → Nat) (cu : Nat → Nat) (ve : Nat → Nat) (ta : Nat → Nat) (ch : Nat) (aT : Nat → Nat) (lt2 : Nat → Option Nat) (tr2 : Nat → Nat) (sh2 : Nat → Nat) (cr2 : Nat → Nat) (ct2 : Nat → Nat) (cu2 : Nat → Nat) (ve2 : Nat → Nat) (ta2 : Nat → Nat) (ch2 : Nat) (lo : Nat → Prop) (fo : Nat → Nat) (si : Nat → Nat) (it : Nat → Nat → Int32) (x : Int32) (J : IW n cl th ki va re fi) (S : SW n cl re fi) (B9 : (∀ j, bt j ≤ 255) ∧ bs ≤ 216) (C9 : (∀ j, co j ≤ 400) ∧ (∀ j, fw j ≤ 15)) (H9 : IHd lt tr sh cr ct cu ve ta ch) (U9 : IHd lt2 tr2 sh2 cr2 ct2 cu2 ve2 ta2 ch2) (E9 : (∀ j, fo j ≤ 2) ∧ (∀ j, si j ≤ 60)) (hbad : ¬ okR 8 x) : CP l D (TY cI cZ cS) yX5_count cX5_count 2 .int 3 [.ref (aS 0), .int x] ((wS cS aS (aW 0) (aB 0) (aC 0) (aH 0) (aT 0) aE la) ++ ((wW cI aW n cl th ki va re fi) ++ ((wB cI aB bt bs) ++ ((wC cI cZ aC (aW 0) (aB 0) to co ke nu fw) ++ ((wH cI aH (aW 0) lt tr sh cr ct cu ve ta ch) ++ ((wH cI aT (aW 0) lt2 tr2 sh2 cr2 ct2 cu2 ve2 ta2 ch2) ++ (wE cI aE lo fo si it))))))) (.int (-2)) := by
  refine CP.ofI (by decide +kernel) (Nat.le_of_ble_eq_true rfl) (nar_int _) ?_
  intro p e s m args below meth c Q G K hP hret ls hl
  obtain ⟨hx, hb, hml, hown, hts⟩ := id G
  obtain ⟨hn, hcl, hth, hki, hva, hre, hfi⟩ := id J
  obtain ⟨hbt, hbs⟩ := id B9
  obtain ⟨hco, hfw⟩ := id C9
  obtain ⟨hlt, htr, hsh, hcr, hct, hcu, hve, hta, hch⟩ := id H9
  obtain ⟨hlt2, htr2, hsh2, hcr2, hct2, hcu2, hve2, hta2, hch2⟩ := id U9
  obtain ⟨hfo, hsi⟩ := id E9
  have hl : lv_has ls 2 [(0, .ref (aS 0)), (1, .int x)] := hl
  refine lv_iload_n hx hb dX5_count_0 rfl (lv_at hl 1 rfl) ?_
  rcases sw8 x with rfl | rfl | rfl | rfl | rfl | rfl | rfl | rfl | rfl | hsw1
  · -- 0
    exact absurd ⟨0, by decide, rfl⟩ hbad
  · -- 1
    exact absurd ⟨1, by decide, rfl⟩ hbad
  · -- 2
    exact absurd ⟨2, by decide, rfl⟩ hbad
  · -- 3
    exact absurd ⟨3, by decide, rfl⟩ hbad
  · -- 4
    exact absurd ⟨4, by decide, rfl⟩ hbad
  · -- 5
    exact absurd ⟨5, by decide, rfl⟩ hbad
  · -- 6
    exact absurd ⟨6, by decide, rfl⟩ hbad
  · -- 7
    exact absurd ⟨7, by decide, rfl⟩ hbad
  · -- 8
    exact absurd ⟨8, by decide, rfl⟩ hbad
  · -- other
    refine lv_tableOut (tgt := 132) hx hb dX5_count_1 hsw1 (by decide) ?_
    refine lv_bipush (v := (-2)) hx hb dX5_count_132 (by decide) ?_
    exact hret _ _ _ rfl dX5_count_134
set_option maxHeartbeats 4000000 in
set_option maxRecDepth 100000 in
theorem c_X5_digestRevision (aS : Nat → Nat) (aE : Nat → Nat) (la : Int32) (aW : Nat → Nat) (n : Nat) (cl : Nat) (th : Nat → Nat) (ki : Nat → Nat) (va : Nat → Nat) (re : Nat → Nat) (fi : Nat → Nat) (aB : Nat → Nat) (bt : Nat → Nat) (bs : Nat) (aC : Nat → Nat) (to : Nat → Prop) (co : Nat → Nat) (ke : Nat → Int32) (nu : Nat → Int32) (fw : Nat → Nat) (aH : Nat → Nat) (lt : Nat → Option Nat) (tr : Nat → Nat) (sh : Nat → Nat) (cr : Nat → Nat) (ct : Nat → Nat) (cu : Nat → Nat) (ve : Nat → Nat) (ta : Nat → Nat) (ch : Nat) (aT : Nat → Nat) (lt2 : Nat → Option Nat) (tr2 : Nat → Nat) (sh2 : Nat → Nat) (cr2 : Nat → Nat) (ct2 : Nat → Nat) (cu2 : Nat → Nat) (ve2 : Nat → Nat) (ta2 : Nat → Nat) (ch2 : Nat) (lo : Nat → Prop) (fo : Nat → Nat) (si : Nat → Nat) (it : Nat → Nat → Int32) (h : Int64) (r : Nat) (J : IW n cl th ki va re fi) (S : SW n cl re fi) (B9 : (∀ j, bt j ≤ 255) ∧ bs ≤ 216) (C9 : (∀ j, co j ≤ 400) ∧ (∀ j, fw j ≤ 15)) (H9 : IHd lt tr sh cr ct cu ve ta ch) (U9 : IHd lt2 tr2 sh2 cr2 ct2 cu2 ve2 ta2 ch2) (E9 : (∀ j, fo j ≤ 2) ∧ (∀ j, si j ≤ 60)) (KH : HOK th ki va re none n cl lt tr sh cr ct cu ve ta ch) (hr9 : r < 2 ^ 31) : CP l D (TY cI cZ cS) yX5_digestRevision cX5_digestRevision 7 .long 2 [.ref (aS 0), .long h, .int (nI r)] ((wS cS aS (aW 0) (aB 0) (aC 0) (aH 0) (aT 0) aE la) ++ ((wW cI aW n cl th ki va re fi) ++ ((wB cI aB bt bs) ++ ((wC cI cZ aC (aW 0) (aB 0) to co ke nu fw) ++ ((wH cI aH (aW 0) lt tr sh cr ct cu ve ta ch) ++ ((wH cI aT (aW 0) lt2 tr2 sh2 cr2 ct2 cu2 ve2 ta2 ch2) ++ (wE cI aE lo fo si it))))))) (.long (hs (hs (hf (fun j => rvV re n cl (nI r) (nI j)) h 4) (shV th ki va re none n cl (nI r))) (alV ki va re n cl (nI r)))) := by
  refine CP.ofL (by decide +kernel) (Nat.le_of_ble_eq_true rfl) ?_
  intro p e s m args below meth c Q G K hP hret ls hl
  obtain ⟨hx, hb, hml, hown, hts⟩ := id G
  obtain ⟨hn, hcl, hth, hki, hva, hre, hfi⟩ := id J
  obtain ⟨hbt, hbs⟩ := id B9
  obtain ⟨hco, hfw⟩ := id C9
  obtain ⟨hlt, htr, hsh, hcr, hct, hcu, hve, hta, hch⟩ := id H9
  obtain ⟨hlt2, htr2, hsh2, hcr2, hct2, hcu2, hve2, hta2, hch2⟩ := id U9
  obtain ⟨hfo, hsi⟩ := id E9
  obtain ⟨K1, K2, K3, K4, K5, K6, K7⟩ := id KH
  have hl : lv_has ls 7 [(0, .ref (aS 0)), (1, .long h), (3, .int (nI r))] := hl
  refine lv_lload_n hx hb dX5_digestRevision_0 rfl (lv_at hl 1 rfl) ?_
  refine lv_lstore (lv' := [(4, .long h), (0, .ref (aS 0)), (1, .long h), (3, .int (nI r))]) hx hb dX5_digestRevision_1 hl (by decide) rfl (fun ls hl => ?_)
  refine lv_iconst (v := (nI 0)) hx hb dX5_digestRevision_3 (by decide) ?_
  refine lv_istore (lv' := [(6, .int (nI 0)), (4, .long h), (0, .ref (aS 0)), (1, .long h), (3, .int (nI r))]) hx hb dX5_digestRevision_4 hl (by decide) rfl (fun ls hl => ?_)
  have L6 : ∀ (d j : Nat), 0 ≤ j → j + d = 4 → ∀ (ls : Array Slot), lv_has ls 7 [(0, .ref (aS 0)), (3, .int (nI r)), (4, .long (hf (fun j => rvV re n cl (nI r) (nI j)) h j)), (6, .int (nI j))] → W p l e (RM 2) s m args below meth c s.heap [] 0 0 Q (F0 m 6 ls []) := by
    intro d
    induction d with
    | zero =>
      intro j hlo6 hhi6 ls hl
      refine lv_iload hx hb dX5_digestRevision_6 (lv_at hl 3 rfl) ?_
      refine lv_iconst (v := (nI 3)) hx hb dX5_digestRevision_8 (by decide) ?_
      refine c_gt G (tgt := 35) (by omega) (by omega) dX5_digestRevision_9 (by decide) (fun c9 => ?_) (fun c9 => ?_)
      · -- taken at 9
        have hl := lv_re (l' := [(0, .ref (aS 0)), (3, .int (nI r)), (4, .long (hf (fun j => rvV re n cl (nI r) (nI j)) h 4)), (6, .int (nI j))]) hl (by rw [show (hf (fun j => rvV re n cl (nI r) (nI j)) h j) = (hf (fun j => rvV re n cl (nI r) (nI j)) h 4) from (by rw [show j = 4 by omega])])
        refine lv_ldc2 hx hb hown (hts _ kl_X5_278) dX5_digestRevision_35 ?_
        refine t_l (y := (31 : Int32).toInt64) (by decide) ?_
        refine lv_lload hx hb dX5_digestRevision_38 (lv_at hl 2 rfl) ?_
        refine lv_lmul hx hb dX5_digestRevision_40 ?_
        refine lv_aload_n hx hb dX5_digestRevision_41 rfl (lv_at hl 0 rfl) ?_
        refine lv_iload_n hx hb dX5_digestRevision_42 rfl (lv_at hl 1 rfl) ?_
        refine callPV (As := [.int (nI r)]) (rest := [.long ((31 : Int32).toInt64 * (hf (fun j => rvV re n cl (nI r) (nI j)) h 4))]) (q0 := 0) (ci := 5) G K F_X5_shadows (c_X5_shadows aS aE la aW n cl th ki va re fi aB bt bs aC to co ke nu fw aH lt tr sh cr ct cu ve ta ch aT lt2 tr2 sh2 cr2 ct2 cu2 ve2 ta2 ch2 lo fo si it (nI r) J S B9 C9 H9 U9 E9 KH) hP ml_X5_306 rfl rfl rfl (by decide) (by decide) rfl hl.1 (Nat.le_of_ble_eq_true rfl) dX5_digestRevision_43 ?_
        refine lv_i2l (v := (shV th ki va re none n cl (nI r)).toInt64) hx hb dX5_digestRevision_46 rfl ?_
        refine lv_ladd hx hb dX5_digestRevision_47 ?_
        refine lv_lstore (lv' := [(4, .long (((31 : Int32).toInt64 * (hf (fun j => rvV re n cl (nI r) (nI j)) h 4)) + (shV th ki va re none n cl (nI r)).toInt64)), (0, .ref (aS 0)), (3, .int (nI r)), (6, .int (nI j))]) hx hb dX5_digestRevision_48 hl (by decide) rfl (fun ls hl => ?_)
        refine lv_ldc2 hx hb hown (hts _ kl_X5_278) dX5_digestRevision_50 ?_
        refine t_l (y := (31 : Int32).toInt64) (by decide) ?_
        refine lv_lload hx hb dX5_digestRevision_53 (lv_at hl 0 rfl) ?_
        refine lv_lmul hx hb dX5_digestRevision_55 ?_
        refine lv_aload_n hx hb dX5_digestRevision_56 rfl (lv_at hl 1 rfl) ?_
        refine lv_iload_n hx hb dX5_digestRevision_57 rfl (lv_at hl 2 rfl) ?_
        refine callPV (As := [.int (nI r)]) (rest := [.long ((31 : Int32).toInt64 * (((31 : Int32).toInt64 * (hf (fun j => rvV re n cl (nI r) (nI j)) h 4)) + (shV th ki va re none n cl (nI r)).toInt64))]) (q0 := 0) (ci := 5) G K F_X5_allowed (c_X5_allowed aS aE la aW n cl th ki va re fi aB bt bs aC to co ke nu fw aH lt tr sh cr ct cu ve ta ch aT lt2 tr2 sh2 cr2 ct2 cu2 ve2 ta2 ch2 lo fo si it (nI r) J S B9 C9 H9 U9 E9) hP ml_X5_273 rfl rfl rfl (by decide) (by decide) rfl hl.1 (Nat.le_of_ble_eq_true rfl) dX5_digestRevision_58 ?_
        refine lv_i2l (v := (alV ki va re n cl (nI r)).toInt64) hx hb dX5_digestRevision_61 rfl ?_
        refine lv_ladd hx hb dX5_digestRevision_62 ?_
        exact hret _ _ _ rfl dX5_digestRevision_63
      · -- not taken at 9
        exact absurd c9 (by omega)
    | succ d ih =>
      intro j hlo6 hhi6 ls hl
      refine lv_iload hx hb dX5_digestRevision_6 (lv_at hl 3 rfl) ?_
      refine lv_iconst (v := (nI 3)) hx hb dX5_digestRevision_8 (by decide) ?_
      refine c_gt G (tgt := 35) (by omega) (by omega) dX5_digestRevision_9 (by decide) (fun c9 => ?_) (fun c9 => ?_)
      · -- taken at 9
        exact absurd c9 (by omega)
      · -- not taken at 9
        refine lv_ldc2 hx hb hown (hts _ kl_X5_278) dX5_digestRevision_12 ?_
        refine t_l (y := (31 : Int32).toInt64) (by decide) ?_
        refine lv_lload hx hb dX5_digestRevision_15 (lv_at hl 2 rfl) ?_
        refine lv_lmul hx hb dX5_digestRevision_17 ?_
        refine lv_aload_n hx hb dX5_digestRevision_18 rfl (lv_at hl 0 rfl) ?_
        refine lv_iload_n hx hb dX5_digestRevision_19 rfl (lv_at hl 1 rfl) ?_
        refine lv_iload hx hb dX5_digestRevision_20 (lv_at hl 3 rfl) ?_
        refine callPV (As := [.int (nI r), .int (nI j)]) (rest := [.long ((31 : Int32).toInt64 * (hf (fun j => rvV re n cl (nI r) (nI j)) h j))]) (q0 := 0) (ci := 5) G K F_X5_revision (c_X5_revision aS aE la aW n cl th ki va re fi aB bt bs aC to co ke nu fw aH lt tr sh cr ct cu ve ta ch aT lt2 tr2 sh2 cr2 ct2 cu2 ve2 ta2 ch2 lo fo si it (nI r) (nI j) J S B9 C9 H9 U9 E9) hP ml_X5_303 rfl rfl rfl (by decide) (by decide) rfl hl.1 (Nat.le_of_ble_eq_true rfl) dX5_digestRevision_22 ?_
        refine lv_i2l (v := (rvV re n cl (nI r) (nI j)).toInt64) hx hb dX5_digestRevision_25 rfl ?_
        refine lv_ladd hx hb dX5_digestRevision_26 ?_
        refine t_l (y := (hf (fun j => rvV re n cl (nI r) (nI j)) h (j + 1))) rfl ?_
        refine lv_lstore (lv' := [(4, .long (hf (fun j => rvV re n cl (nI r) (nI j)) h (j + 1))), (0, .ref (aS 0)), (3, .int (nI r)), (6, .int (nI j))]) hx hb dX5_digestRevision_27 hl (by decide) rfl (fun ls hl => ?_)
        refine lv_iinc (v := (nI (j + 1))) (lv' := [(6, .int (nI (j + 1))), (4, .long (hf (fun j => rvV re n cl (nI r) (nI j)) h (j + 1))), (0, .ref (aS 0)), (3, .int (nI r))]) hx hb dX5_digestRevision_29 hl (k := 3) rfl (nI_inc _ 1) (by decide) rfl (fun ls hl => ?_)
        refine lv_goto (tgt := 6) hx hb dX5_digestRevision_32 (by decide) ?_
        -- slot 4: have l:hf (fun j => rvV re n cl (nI r) (nI j)) h (j + 1), want l:hf (fun (j + 1) => rvV re n cl (nI r) (nI (j + 1))) h (j + 1)
        -- slot 6: have n:j + 1, want n:(j + 1)
        exact ih (j + 1) (by omega) (by omega) ls (lv_sub hl [2, 3, 1, 0] rfl)
  exact L6 (4 - 0) (0) (Nat.le_refl _) (by omega) ls (lv_sub hl [2, 4, 1, 0] rfl)
set_option maxHeartbeats 4000000 in
set_option maxRecDepth 100000 in
theorem c_X5_digestThing (aS : Nat → Nat) (aE : Nat → Nat) (la : Int32) (aW : Nat → Nat) (n : Nat) (cl : Nat) (th : Nat → Nat) (ki : Nat → Nat) (va : Nat → Nat) (re : Nat → Nat) (fi : Nat → Nat) (aB : Nat → Nat) (bt : Nat → Nat) (bs : Nat) (aC : Nat → Nat) (to : Nat → Prop) (co : Nat → Nat) (ke : Nat → Int32) (nu : Nat → Int32) (fw : Nat → Nat) (aH : Nat → Nat) (lt : Nat → Option Nat) (tr : Nat → Nat) (sh : Nat → Nat) (cr : Nat → Nat) (ct : Nat → Nat) (cu : Nat → Nat) (ve : Nat → Nat) (ta : Nat → Nat) (ch : Nat) (aT : Nat → Nat) (lt2 : Nat → Option Nat) (tr2 : Nat → Nat) (sh2 : Nat → Nat) (cr2 : Nat → Nat) (ct2 : Nat → Nat) (cu2 : Nat → Nat) (ve2 : Nat → Nat) (ta2 : Nat → Nat) (ch2 : Nat) (lo : Nat → Prop) (fo : Nat → Nat) (si : Nat → Nat) (it : Nat → Nat → Int32) (h : Int64) (t : Nat) (J : IW n cl th ki va re fi) (S : SW n cl re fi) (B9 : (∀ j, bt j ≤ 255) ∧ bs ≤ 216) (C9 : (∀ j, co j ≤ 400) ∧ (∀ j, fw j ≤ 15)) (H9 : IHd lt tr sh cr ct cu ve ta ch) (U9 : IHd lt2 tr2 sh2 cr2 ct2 cu2 ve2 ta2 ch2) (E9 : (∀ j, fo j ≤ 2) ∧ (∀ j, si j ≤ 60)) (KH : HOK th ki va re none n cl lt tr sh cr ct cu ve ta ch) (ht9 : t < 16) : CP l D (TY cI cZ cS) yX5_digestThing cX5_digestThing 7 .long 2 [.ref (aS 0), .long h, .int (nI t)] ((wS cS aS (aW 0) (aB 0) (aC 0) (aH 0) (aT 0) aE la) ++ ((wW cI aW n cl th ki va re fi) ++ ((wB cI aB bt bs) ++ ((wC cI cZ aC (aW 0) (aB 0) to co ke nu fw) ++ ((wH cI aH (aW 0) lt tr sh cr ct cu ve ta ch) ++ ((wH cI aT (aW 0) lt2 tr2 sh2 cr2 ct2 cu2 ve2 ta2 ch2) ++ (wE cI aE lo fo si it))))))) (.long (hf (fun j => oI (tgB th ki va re none n t cl j)) (hs (hs h (tgV th ki va re none n cl (nI t) (nI 0) (nI 0))) (tgV th ki va re none n cl (nI t) (nI 2) (nI 1))) 3)) := by
  refine CP.ofL (by decide +kernel) (Nat.le_of_ble_eq_true rfl) ?_
  intro p e s m args below meth c Q G K hP hret ls hl
  obtain ⟨hx, hb, hml, hown, hts⟩ := id G
  obtain ⟨hn, hcl, hth, hki, hva, hre, hfi⟩ := id J
  obtain ⟨hbt, hbs⟩ := id B9
  obtain ⟨hco, hfw⟩ := id C9
  obtain ⟨hlt, htr, hsh, hcr, hct, hcu, hve, hta, hch⟩ := id H9
  obtain ⟨hlt2, htr2, hsh2, hcr2, hct2, hcu2, hve2, hta2, hch2⟩ := id U9
  obtain ⟨hfo, hsi⟩ := id E9
  obtain ⟨K1, K2, K3, K4, K5, K6, K7⟩ := id KH
  have hl : lv_has ls 7 [(0, .ref (aS 0)), (1, .long h), (3, .int (nI t))] := hl
  refine lv_ldc2 hx hb hown (hts _ kl_X5_278) dX5_digestThing_0 ?_
  refine t_l (y := (31 : Int32).toInt64) (by decide) ?_
  refine lv_lload_n hx hb dX5_digestThing_3 rfl (lv_at hl 1 rfl) ?_
  refine lv_lmul hx hb dX5_digestThing_4 ?_
  refine lv_aload_n hx hb dX5_digestThing_5 rfl (lv_at hl 0 rfl) ?_
  refine lv_iload_n hx hb dX5_digestThing_6 rfl (lv_at hl 2 rfl) ?_
  refine lv_iconst (v := (nI 0)) hx hb dX5_digestThing_7 (by decide) ?_
  refine lv_iconst (v := (nI 0)) hx hb dX5_digestThing_8 (by decide) ?_
  refine callPV (As := [.int (nI t), .int (nI 0), .int (nI 0)]) (rest := [.long ((31 : Int32).toInt64 * h)]) (q0 := 0) (ci := 5) G K F_X5_thing (c_X5_thing aS aE la aW n cl th ki va re fi aB bt bs aC to co ke nu fw aH lt tr sh cr ct cu ve ta ch aT lt2 tr2 sh2 cr2 ct2 cu2 ve2 ta2 ch2 lo fo si it (nI t) (nI 0) (nI 0) J S B9 C9 H9 U9 E9 KH) hP ml_X5_309 rfl rfl rfl (by decide) (by decide) rfl hl.1 (Nat.le_of_ble_eq_true rfl) dX5_digestThing_9 ?_
  refine lv_i2l (v := (tgV th ki va re none n cl (nI t) (nI 0) (nI 0)).toInt64) hx hb dX5_digestThing_12 rfl ?_
  refine lv_ladd hx hb dX5_digestThing_13 ?_
  refine lv_lstore (lv' := [(4, .long (((31 : Int32).toInt64 * h) + (tgV th ki va re none n cl (nI t) (nI 0) (nI 0)).toInt64)), (0, .ref (aS 0)), (1, .long h), (3, .int (nI t))]) hx hb dX5_digestThing_14 hl (by decide) rfl (fun ls hl => ?_)
  refine lv_ldc2 hx hb hown (hts _ kl_X5_278) dX5_digestThing_16 ?_
  refine t_l (y := (31 : Int32).toInt64) (by decide) ?_
  refine lv_lload hx hb dX5_digestThing_19 (lv_at hl 0 rfl) ?_
  refine lv_lmul hx hb dX5_digestThing_21 ?_
  refine lv_aload_n hx hb dX5_digestThing_22 rfl (lv_at hl 1 rfl) ?_
  refine lv_iload_n hx hb dX5_digestThing_23 rfl (lv_at hl 3 rfl) ?_
  refine lv_iconst (v := (nI 2)) hx hb dX5_digestThing_24 (by decide) ?_
  refine lv_iconst (v := (nI 1)) hx hb dX5_digestThing_25 (by decide) ?_
  refine callPV (As := [.int (nI t), .int (nI 2), .int (nI 1)]) (rest := [.long ((31 : Int32).toInt64 * (((31 : Int32).toInt64 * h) + (tgV th ki va re none n cl (nI t) (nI 0) (nI 0)).toInt64))]) (q0 := 0) (ci := 5) G K F_X5_thing (c_X5_thing aS aE la aW n cl th ki va re fi aB bt bs aC to co ke nu fw aH lt tr sh cr ct cu ve ta ch aT lt2 tr2 sh2 cr2 ct2 cu2 ve2 ta2 ch2 lo fo si it (nI t) (nI 2) (nI 1) J S B9 C9 H9 U9 E9 KH) hP ml_X5_309 rfl rfl rfl (by decide) (by decide) rfl hl.1 (Nat.le_of_ble_eq_true rfl) dX5_digestThing_26 ?_
  refine lv_i2l (v := (tgV th ki va re none n cl (nI t) (nI 2) (nI 1)).toInt64) hx hb dX5_digestThing_29 rfl ?_
  refine lv_ladd hx hb dX5_digestThing_30 ?_
  refine t_l (y := (hf (fun j => oI (tgB th ki va re none n t cl j)) (hs (hs h (tgV th ki va re none n cl (nI t) (nI 0) (nI 0))) (tgV th ki va re none n cl (nI t) (nI 2) (nI 1))) 0)) rfl ?_
  refine lv_lstore (lv' := [(4, .long (hf (fun j => oI (tgB th ki va re none n t cl j)) (hs (hs h (tgV th ki va re none n cl (nI t) (nI 0) (nI 0))) (tgV th ki va re none n cl (nI t) (nI 2) (nI 1))) 0)), (0, .ref (aS 0)), (1, .long h), (3, .int (nI t))]) hx hb dX5_digestThing_31 hl (by decide) rfl (fun ls hl => ?_)
  refine lv_iconst (v := (nI 0)) hx hb dX5_digestThing_33 (by decide) ?_
  refine lv_istore (lv' := [(6, .int (nI 0)), (4, .long (hf (fun j => oI (tgB th ki va re none n t cl j)) (hs (hs h (tgV th ki va re none n cl (nI t) (nI 0) (nI 0))) (tgV th ki va re none n cl (nI t) (nI 2) (nI 1))) 0)), (0, .ref (aS 0)), (1, .long h), (3, .int (nI t))]) hx hb dX5_digestThing_34 hl (by decide) rfl (fun ls hl => ?_)
  have L36 : ∀ (d j : Nat), 0 ≤ j → j + d = 3 → ∀ (ls : Array Slot), lv_has ls 7 [(0, .ref (aS 0)), (3, .int (nI t)), (4, .long (hf (fun j => oI (tgB th ki va re none n t cl j)) (hs (hs h (tgV th ki va re none n cl (nI t) (nI 0) (nI 0))) (tgV th ki va re none n cl (nI t) (nI 2) (nI 1))) j)), (6, .int (nI j))] → W p l e (RM 2) s m args below meth c s.heap [] 0 0 Q (F0 m 36 ls []) := by
    intro d
    induction d with
    | zero =>
      intro j hlo36 hhi36 ls hl
      refine lv_iload hx hb dX5_digestThing_36 (lv_at hl 3 rfl) ?_
      refine lv_iconst (v := (nI 2)) hx hb dX5_digestThing_38 (by decide) ?_
      refine c_gt G (tgt := 72) (by omega) (by omega) dX5_digestThing_39 (by decide) (fun c39 => ?_) (fun c39 => ?_)
      · -- taken at 39
        refine lv_lload hx hb dX5_digestThing_72 (lv_at hl 2 rfl) ?_
        exact hret _ _ _ (by rw [show j = 3 by omega]) dX5_digestThing_74
      · -- not taken at 39
        exact absurd c39 (by omega)
    | succ d ih =>
      intro j hlo36 hhi36 ls hl
      refine lv_iload hx hb dX5_digestThing_36 (lv_at hl 3 rfl) ?_
      refine lv_iconst (v := (nI 2)) hx hb dX5_digestThing_38 (by decide) ?_
      refine c_gt G (tgt := 72) (by omega) (by omega) dX5_digestThing_39 (by decide) (fun c39 => ?_) (fun c39 => ?_)
      · -- taken at 39
        exact absurd c39 (by omega)
      · -- not taken at 39
        refine lv_ldc2 hx hb hown (hts _ kl_X5_278) dX5_digestThing_42 ?_
        refine t_l (y := (31 : Int32).toInt64) (by decide) ?_
        refine lv_lload hx hb dX5_digestThing_45 (lv_at hl 2 rfl) ?_
        refine lv_lmul hx hb dX5_digestThing_47 ?_
        refine lv_aload_n hx hb dX5_digestThing_48 rfl (lv_at hl 0 rfl) ?_
        refine lv_iload_n hx hb dX5_digestThing_49 rfl (lv_at hl 1 rfl) ?_
        refine lv_aload_n hx hb dX5_digestThing_50 rfl (lv_at hl 0 rfl) ?_
        refine f_get G K hP inX5 0 (ci := 5) rfl rfl 0 rfl fl_X5_12 (v := .ref (aW 0)) rfl dX5_digestThing_51 ?_
        refine f_get G K hP inX4 2 (ci := 4) rfl rfl 6 rfl fl_X5_70 (v := .int (nI cl)) rfl dX5_digestThing_54 ?_
        refine lv_iload hx hb dX5_digestThing_57 (lv_at hl 3 rfl) ?_
        refine callPV (As := [.int (nI t), .int (nI cl), .int (nI j)]) (rest := [.long ((31 : Int32).toInt64 * (hf (fun j => oI (tgB th ki va re none n t cl j)) (hs (hs h (tgV th ki va re none n cl (nI t) (nI 0) (nI 0))) (tgV th ki va re none n cl (nI t) (nI 2) (nI 1))) j))]) (q0 := 0) (ci := 5) G K F_X5_thing (c_X5_thing aS aE la aW n cl th ki va re fi aB bt bs aC to co ke nu fw aH lt tr sh cr ct cu ve ta ch aT lt2 tr2 sh2 cr2 ct2 cu2 ve2 ta2 ch2 lo fo si it (nI t) (nI cl) (nI j) J S B9 C9 H9 U9 E9 KH) hP ml_X5_309 rfl rfl rfl (by decide) (by decide) rfl hl.1 (Nat.le_of_ble_eq_true rfl) dX5_digestThing_59 ?_
        refine t_i (y := (oI (tgB th ki va re none n t cl j))) (tgV_k hcl (by omega) (Nat.le_refl cl) (by omega)).symm ?_
        refine lv_i2l (v := (oI (tgB th ki va re none n t cl j)).toInt64) hx hb dX5_digestThing_62 rfl ?_
        refine lv_ladd hx hb dX5_digestThing_63 ?_
        refine t_l (y := (hf (fun j => oI (tgB th ki va re none n t cl j)) (hs (hs h (tgV th ki va re none n cl (nI t) (nI 0) (nI 0))) (tgV th ki va re none n cl (nI t) (nI 2) (nI 1))) (j + 1))) rfl ?_
        refine lv_lstore (lv' := [(4, .long (hf (fun j => oI (tgB th ki va re none n t cl j)) (hs (hs h (tgV th ki va re none n cl (nI t) (nI 0) (nI 0))) (tgV th ki va re none n cl (nI t) (nI 2) (nI 1))) (j + 1))), (0, .ref (aS 0)), (3, .int (nI t)), (6, .int (nI j))]) hx hb dX5_digestThing_64 hl (by decide) rfl (fun ls hl => ?_)
        refine lv_iinc (v := (nI (j + 1))) (lv' := [(6, .int (nI (j + 1))), (4, .long (hf (fun j => oI (tgB th ki va re none n t cl j)) (hs (hs h (tgV th ki va re none n cl (nI t) (nI 0) (nI 0))) (tgV th ki va re none n cl (nI t) (nI 2) (nI 1))) (j + 1))), (0, .ref (aS 0)), (3, .int (nI t))]) hx hb dX5_digestThing_66 hl (k := 3) rfl (nI_inc _ 1) (by decide) rfl (fun ls hl => ?_)
        refine lv_goto (tgt := 36) hx hb dX5_digestThing_69 (by decide) ?_
        -- slot 4: have l:hf (fun j => oI (tgB th ki va re none n t cl j)) (hs (hs h (tgV th ki va re none n cl (nI t) (nI 0) (nI 0))) (tgV th ki va re none n cl (nI t) (nI 2) (nI 1))) (j + 1), want l:hf (fun (j + 1) => oI (tgB th ki va re none n t cl (j + 1))) (hs (hs h (tgV th ki va re none n cl (nI t) (nI 0) (nI 0))) (tgV th ki va re none n cl (nI t) (nI 2) (nI 1))) (j + 1)
        -- slot 6: have n:j + 1, want n:(j + 1)
        exact ih (j + 1) (by omega) (by omega) ls (lv_sub hl [2, 3, 1, 0] rfl)
  exact L36 (3 - 0) (0) (Nat.le_refl _) (by omega) ls (lv_sub hl [2, 4, 1, 0] rfl)
set_option maxHeartbeats 4000000 in
set_option maxRecDepth 100000 in
theorem c_X5_digestWrite (aS : Nat → Nat) (aE : Nat → Nat) (la : Int32) (aW : Nat → Nat) (n : Nat) (cl : Nat) (th : Nat → Nat) (ki : Nat → Nat) (va : Nat → Nat) (re : Nat → Nat) (fi : Nat → Nat) (aB : Nat → Nat) (bt : Nat → Nat) (bs : Nat) (aC : Nat → Nat) (to : Nat → Prop) (co : Nat → Nat) (ke : Nat → Int32) (nu : Nat → Int32) (fw : Nat → Nat) (aH : Nat → Nat) (lt : Nat → Option Nat) (tr : Nat → Nat) (sh : Nat → Nat) (cr : Nat → Nat) (ct : Nat → Nat) (cu : Nat → Nat) (ve : Nat → Nat) (ta : Nat → Nat) (ch : Nat) (aT : Nat → Nat) (lt2 : Nat → Option Nat) (tr2 : Nat → Nat) (sh2 : Nat → Nat) (cr2 : Nat → Nat) (ct2 : Nat → Nat) (cu2 : Nat → Nat) (ve2 : Nat → Nat) (ta2 : Nat → Nat) (ch2 : Nat) (lo : Nat → Prop) (fo : Nat → Nat) (si : Nat → Nat) (it : Nat → Nat → Int32) (h : Int64) (v : Nat) (J : IW n cl th ki va re fi) (S : SW n cl re fi) (B9 : (∀ j, bt j ≤ 255) ∧ bs ≤ 216) (C9 : (∀ j, co j ≤ 400) ∧ (∀ j, fw j ≤ 15)) (H9 : IHd lt tr sh cr ct cu ve ta ch) (U9 : IHd lt2 tr2 sh2 cr2 ct2 cu2 ve2 ta2 ch2) (E9 : (∀ j, fo j ≤ 2) ∧ (∀ j, si j ≤ 60)) (KB : SKb th ki va re n cl bt bs) (KC : SKc th ki va re n cl to co ke nu fw) (KT : SKt n to co) (KH : HOK th ki va re none n cl lt tr sh cr ct cu ve ta ch) (hv9 : v < n) : CP l D (TY cI cZ cS) yX5_digestWrite cX5_digestWrite 7 .long 5 [.ref (aS 0), .long h, .int (nI v)] ((wS cS aS (aW 0) (aB 0) (aC 0) (aH 0) (aT 0) aE la) ++ ((wW cI aW n cl th ki va re fi) ++ ((wB cI aB bt bs) ++ ((wC cI cZ aC (aW 0) (aB 0) to co ke nu fw) ++ ((wH cI aH (aW 0) lt tr sh cr ct cu ve ta ch) ++ ((wH cI aT (aW 0) lt2 tr2 sh2 cr2 ct2 cu2 ve2 ta2 ch2) ++ (wE cI aE lo fo si it))))))) (.long (twC th ki va re none n cl to co ke h v)) := by
  refine CP.ofL (by decide +kernel) (Nat.le_of_ble_eq_true rfl) ?_
  intro p e s m args below meth c Q G K hP hret ls hl
  obtain ⟨hx, hb, hml, hown, hts⟩ := id G
  obtain ⟨hn, hcl, hth, hki, hva, hre, hfi⟩ := id J
  obtain ⟨hbt, hbs⟩ := id B9
  obtain ⟨hco, hfw⟩ := id C9
  obtain ⟨hlt, htr, hsh, hcr, hct, hcu, hve, hta, hch⟩ := id H9
  obtain ⟨hlt2, htr2, hsh2, hcr2, hct2, hcu2, hve2, hta2, hch2⟩ := id U9
  obtain ⟨hfo, hsi⟩ := id E9
  obtain ⟨K1, K2, K3, K4, K5, K6, K7⟩ := id KH
  obtain ⟨kb1, kb2⟩ := id KB
  have hl : lv_has ls 7 [(0, .ref (aS 0)), (1, .long h), (3, .int (nI v))] := hl
  refine lv_lload_n hx hb dX5_digestWrite_0 rfl (lv_at hl 1 rfl) ?_
  refine lv_lstore (lv' := [(4, .long h), (0, .ref (aS 0)), (1, .long h), (3, .int (nI v))]) hx hb dX5_digestWrite_1 hl (by decide) rfl (fun ls hl => ?_)
  refine lv_iconst (v := (nI 0)) hx hb dX5_digestWrite_3 (by decide) ?_
  refine lv_istore (lv' := [(6, .int (nI 0)), (4, .long h), (0, .ref (aS 0)), (1, .long h), (3, .int (nI v))]) hx hb dX5_digestWrite_4 hl (by decide) rfl (fun ls hl => ?_)
  have L6 : ∀ (d j : Nat), 0 ≤ j → j + d = 5 → ∀ (ls : Array Slot), lv_has ls 7 [(0, .ref (aS 0)), (3, .int (nI v)), (4, .long (hf (fun j => nI (wrB th ki va re v j)) h j)), (6, .int (nI j))] → W p l e (RM 5) s m args below meth c s.heap [] 0 0 Q (F0 m 6 ls []) := by
    intro d
    induction d with
    | zero =>
      intro j hlo6 hhi6 ls hl
      refine lv_iload hx hb dX5_digestWrite_6 (lv_at hl 3 rfl) ?_
      refine lv_iconst (v := (nI 4)) hx hb dX5_digestWrite_8 (by decide) ?_
      refine c_gt G (tgt := 35) (by omega) (by omega) dX5_digestWrite_9 (by decide) (fun c9 => ?_) (fun c9 => ?_)
      · -- taken at 9
        have hl := lv_re (l' := [(0, .ref (aS 0)), (3, .int (nI v)), (4, .long (hf (fun j => nI (wrB th ki va re v j)) h 5)), (6, .int (nI j))]) hl (by rw [show (hf (fun j => nI (wrB th ki va re v j)) h j) = (hf (fun j => nI (wrB th ki va re v j)) h 5) from (by rw [show j = 5 by omega])])
        refine lv_iconst (v := (nI 0)) hx hb dX5_digestWrite_35 (by decide) ?_
        refine lv_istore (lv' := [(6, .int (nI 0)), (0, .ref (aS 0)), (3, .int (nI v)), (4, .long (hf (fun j => nI (wrB th ki va re v j)) h 5))]) hx hb dX5_digestWrite_36 hl (by decide) rfl (fun ls hl => ?_)
        have L38 : ∀ (d j : Nat), 0 ≤ j → j + d = 4 → ∀ (ls : Array Slot), lv_has ls 7 [(0, .ref (aS 0)), (3, .int (nI v)), (4, .long (hf (fun j => cvV ki re n cl to co (nI v) (nI j)) (hf (fun j => nI (wrB th ki va re v j)) h 5) j)), (6, .int (nI j))] → W p l e (RM 5) s m args below meth c s.heap [] 0 0 Q (F0 m 38 ls []) := by
          intro d
          induction d with
          | zero =>
            intro j hlo38 hhi38 ls hl
            refine lv_iload hx hb dX5_digestWrite_38 (lv_at hl 3 rfl) ?_
            refine lv_iconst (v := (nI 3)) hx hb dX5_digestWrite_40 (by decide) ?_
            refine c_gt G (tgt := 67) (by omega) (by omega) dX5_digestWrite_41 (by decide) (fun c41 => ?_) (fun c41 => ?_)
            · -- taken at 41
              have hl := lv_re (l' := [(0, .ref (aS 0)), (3, .int (nI v)), (4, .long (twA th ki va re n cl to co h v)), (6, .int (nI j))]) hl (by rw [show (hf (fun j => cvV ki re n cl to co (nI v) (nI j)) (hf (fun j => nI (wrB th ki va re v j)) h 5) j) = (twA th ki va re n cl to co h v) from (by rw [show j = 4 by omega]; rfl)])
              refine lv_ldc2 hx hb hown (hts _ kl_X5_278) dX5_digestWrite_67 ?_
              refine t_l (y := (31 : Int32).toInt64) (by decide) ?_
              refine lv_lload hx hb dX5_digestWrite_70 (lv_at hl 2 rfl) ?_
              refine lv_lmul hx hb dX5_digestWrite_72 ?_
              refine lv_aload_n hx hb dX5_digestWrite_73 rfl (lv_at hl 0 rfl) ?_
              refine lv_iload_n hx hb dX5_digestWrite_74 rfl (lv_at hl 1 rfl) ?_
              refine callPV (As := [.int (nI v)]) (rest := [.long ((31 : Int32).toInt64 * (twA th ki va re n cl to co h v))]) (q0 := 0) (ci := 5) G K F_X5_covered (c_X5_covered aS aE la aW n cl th ki va re fi aB bt bs aC to co ke nu fw aH lt tr sh cr ct cu ve ta ch aT lt2 tr2 sh2 cr2 ct2 cu2 ve2 ta2 ch2 lo fo si it (nI v) J S B9 C9 H9 U9 E9 KB KT) hP ml_X5_318 rfl rfl rfl (by decide) (by decide) rfl hl.1 (Nat.le_of_ble_eq_true rfl) dX5_digestWrite_75 ?_
              refine lv_i2l (v := (cdV ki re n cl to co (nI v)).toInt64) hx hb dX5_digestWrite_78 rfl ?_
              refine lv_ladd hx hb dX5_digestWrite_79 ?_
              refine lv_lstore (lv' := [(4, .long (((31 : Int32).toInt64 * (twA th ki va re n cl to co h v)) + (cdV ki re n cl to co (nI v)).toInt64)), (0, .ref (aS 0)), (3, .int (nI v)), (6, .int (nI j))]) hx hb dX5_digestWrite_80 hl (by decide) rfl (fun ls hl => ?_)
              refine lv_ldc2 hx hb hown (hts _ kl_X5_278) dX5_digestWrite_82 ?_
              refine t_l (y := (31 : Int32).toInt64) (by decide) ?_
              refine lv_lload hx hb dX5_digestWrite_85 (lv_at hl 0 rfl) ?_
              refine lv_lmul hx hb dX5_digestWrite_87 ?_
              refine lv_aload_n hx hb dX5_digestWrite_88 rfl (lv_at hl 1 rfl) ?_
              refine lv_iload_n hx hb dX5_digestWrite_89 rfl (lv_at hl 2 rfl) ?_
              refine lv_iconst (v := (nI 0)) hx hb dX5_digestWrite_90 (by decide) ?_
              refine callPV (As := [.int (nI v), .int (nI 0)]) (rest := [.long ((31 : Int32).toInt64 * (((31 : Int32).toInt64 * (twA th ki va re n cl to co h v)) + (cdV ki re n cl to co (nI v)).toInt64))]) (q0 := 0) (ci := 5) G K F_X5_number (c_X5_number aS aE la aW n cl th ki va re fi aB bt bs aC to co ke nu fw aH lt tr sh cr ct cu ve ta ch aT lt2 tr2 sh2 cr2 ct2 cu2 ve2 ta2 ch2 lo fo si it (nI v) (nI 0) J S B9 C9 H9 U9 E9 KC) hP ml_X5_321 rfl rfl rfl (by decide) (by decide) rfl hl.1 (Nat.le_of_ble_eq_true rfl) dX5_digestWrite_91 ?_
              refine lv_i2l (v := (nbV th ki va re n cl to co ke (nI v) (nI 0)).toInt64) hx hb dX5_digestWrite_94 rfl ?_
              refine lv_ladd hx hb dX5_digestWrite_95 ?_
              refine lv_lstore (lv' := [(4, .long (((31 : Int32).toInt64 * (((31 : Int32).toInt64 * (twA th ki va re n cl to co h v)) + (cdV ki re n cl to co (nI v)).toInt64)) + (nbV th ki va re n cl to co ke (nI v) (nI 0)).toInt64)), (0, .ref (aS 0)), (3, .int (nI v)), (6, .int (nI j))]) hx hb dX5_digestWrite_96 hl (by decide) rfl (fun ls hl => ?_)
              refine lv_ldc2 hx hb hown (hts _ kl_X5_278) dX5_digestWrite_98 ?_
              refine t_l (y := (31 : Int32).toInt64) (by decide) ?_
              refine lv_lload hx hb dX5_digestWrite_101 (lv_at hl 0 rfl) ?_
              refine lv_lmul hx hb dX5_digestWrite_103 ?_
              refine lv_aload_n hx hb dX5_digestWrite_104 rfl (lv_at hl 1 rfl) ?_
              refine lv_iload_n hx hb dX5_digestWrite_105 rfl (lv_at hl 2 rfl) ?_
              refine lv_iconst (v := (nI 1)) hx hb dX5_digestWrite_106 (by decide) ?_
              refine callPV (As := [.int (nI v), .int (nI 1)]) (rest := [.long ((31 : Int32).toInt64 * (((31 : Int32).toInt64 * (((31 : Int32).toInt64 * (twA th ki va re n cl to co h v)) + (cdV ki re n cl to co (nI v)).toInt64)) + (nbV th ki va re n cl to co ke (nI v) (nI 0)).toInt64))]) (q0 := 0) (ci := 5) G K F_X5_number (c_X5_number aS aE la aW n cl th ki va re fi aB bt bs aC to co ke nu fw aH lt tr sh cr ct cu ve ta ch aT lt2 tr2 sh2 cr2 ct2 cu2 ve2 ta2 ch2 lo fo si it (nI v) (nI 1) J S B9 C9 H9 U9 E9 KC) hP ml_X5_321 rfl rfl rfl (by decide) (by decide) rfl hl.1 (Nat.le_of_ble_eq_true rfl) dX5_digestWrite_107 ?_
              refine lv_i2l (v := (nbV th ki va re n cl to co ke (nI v) (nI 1)).toInt64) hx hb dX5_digestWrite_110 rfl ?_
              refine lv_ladd hx hb dX5_digestWrite_111 ?_
              refine lv_lstore (lv' := [(4, .long (((31 : Int32).toInt64 * (((31 : Int32).toInt64 * (((31 : Int32).toInt64 * (twA th ki va re n cl to co h v)) + (cdV ki re n cl to co (nI v)).toInt64)) + (nbV th ki va re n cl to co ke (nI v) (nI 0)).toInt64)) + (nbV th ki va re n cl to co ke (nI v) (nI 1)).toInt64)), (0, .ref (aS 0)), (3, .int (nI v)), (6, .int (nI j))]) hx hb dX5_digestWrite_112 hl (by decide) rfl (fun ls hl => ?_)
              refine lv_ldc2 hx hb hown (hts _ kl_X5_278) dX5_digestWrite_114 ?_
              refine t_l (y := (31 : Int32).toInt64) (by decide) ?_
              refine lv_lload hx hb dX5_digestWrite_117 (lv_at hl 0 rfl) ?_
              refine lv_lmul hx hb dX5_digestWrite_119 ?_
              refine lv_aload_n hx hb dX5_digestWrite_120 rfl (lv_at hl 1 rfl) ?_
              refine lv_iload_n hx hb dX5_digestWrite_121 rfl (lv_at hl 2 rfl) ?_
              refine callPV (As := [.int (nI v)]) (rest := [.long ((31 : Int32).toInt64 * (((31 : Int32).toInt64 * (((31 : Int32).toInt64 * (((31 : Int32).toInt64 * (twA th ki va re n cl to co h v)) + (cdV ki re n cl to co (nI v)).toInt64)) + (nbV th ki va re n cl to co ke (nI v) (nI 0)).toInt64)) + (nbV th ki va re n cl to co ke (nI v) (nI 1)).toInt64))]) (q0 := 0) (ci := 5) G K F_X5_flaws (c_X5_flaws aS aE la aW n cl th ki va re fi aB bt bs aC to co ke nu fw aH lt tr sh cr ct cu ve ta ch aT lt2 tr2 sh2 cr2 ct2 cu2 ve2 ta2 ch2 lo fo si it (nI v) J S B9 C9 H9 U9 E9 KC) hP ml_X5_324 rfl rfl rfl (by decide) (by decide) rfl hl.1 (Nat.le_of_ble_eq_true rfl) dX5_digestWrite_122 ?_
              refine lv_i2l (v := (fwV th ki va re n cl to co ke (nI v)).toInt64) hx hb dX5_digestWrite_125 rfl ?_
              refine lv_ladd hx hb dX5_digestWrite_126 ?_
              refine t_l (y := (twB th ki va re n cl to co ke h v)) rfl ?_
              refine lv_lstore (lv' := [(4, .long (twB th ki va re n cl to co ke h v)), (0, .ref (aS 0)), (3, .int (nI v)), (6, .int (nI j))]) hx hb dX5_digestWrite_127 hl (by decide) rfl (fun ls hl => ?_)
              refine lv_iconst (v := (nI 0)) hx hb dX5_digestWrite_129 (by decide) ?_
              refine lv_istore (lv' := [(6, .int (nI 0)), (4, .long (twB th ki va re n cl to co ke h v)), (0, .ref (aS 0)), (3, .int (nI v))]) hx hb dX5_digestWrite_130 hl (by decide) rfl (fun ls hl => ?_)
              have L132 : ∀ (d j : Nat), 0 ≤ j → j + d = 4 → ∀ (ls : Array Slot), lv_has ls 7 [(0, .ref (aS 0)), (3, .int (nI v)), (4, .long (hf (fun j => jdV th ki va re none n cl to co ke (nI v) (nI j)) (twB th ki va re n cl to co ke h v) j)), (6, .int (nI j))] → W p l e (RM 5) s m args below meth c s.heap [] 0 0 Q (F0 m 132 ls []) := by
                intro d
                induction d with
                | zero =>
                  intro j hlo132 hhi132 ls hl
                  refine lv_iload hx hb dX5_digestWrite_132 (lv_at hl 3 rfl) ?_
                  refine lv_iconst (v := (nI 3)) hx hb dX5_digestWrite_134 (by decide) ?_
                  refine c_gt G (tgt := 161) (by omega) (by omega) dX5_digestWrite_135 (by decide) (fun c135 => ?_) (fun c135 => ?_)
                  · -- taken at 135
                    refine lv_lload hx hb dX5_digestWrite_161 (lv_at hl 2 rfl) ?_
                    exact hret _ _ _ (by rw [show j = 4 by omega]; rfl) dX5_digestWrite_163
                  · -- not taken at 135
                    exact absurd c135 (by omega)
                | succ d ih =>
                  intro j hlo132 hhi132 ls hl
                  refine lv_iload hx hb dX5_digestWrite_132 (lv_at hl 3 rfl) ?_
                  refine lv_iconst (v := (nI 3)) hx hb dX5_digestWrite_134 (by decide) ?_
                  refine c_gt G (tgt := 161) (by omega) (by omega) dX5_digestWrite_135 (by decide) (fun c135 => ?_) (fun c135 => ?_)
                  · -- taken at 135
                    exact absurd c135 (by omega)
                  · -- not taken at 135
                    refine lv_ldc2 hx hb hown (hts _ kl_X5_278) dX5_digestWrite_138 ?_
                    refine t_l (y := (31 : Int32).toInt64) (by decide) ?_
                    refine lv_lload hx hb dX5_digestWrite_141 (lv_at hl 2 rfl) ?_
                    refine lv_lmul hx hb dX5_digestWrite_143 ?_
                    refine lv_aload_n hx hb dX5_digestWrite_144 rfl (lv_at hl 0 rfl) ?_
                    refine lv_iload_n hx hb dX5_digestWrite_145 rfl (lv_at hl 1 rfl) ?_
                    refine lv_iload hx hb dX5_digestWrite_146 (lv_at hl 3 rfl) ?_
                    refine callPV (As := [.int (nI v), .int (nI j)]) (rest := [.long ((31 : Int32).toInt64 * (hf (fun j => jdV th ki va re none n cl to co ke (nI v) (nI j)) (twB th ki va re n cl to co ke h v) j))]) (q0 := 0) (ci := 5) G K F_X5_judge (c_X5_judge aS aE la aW n cl th ki va re fi aB bt bs aC to co ke nu fw aH lt tr sh cr ct cu ve ta ch aT lt2 tr2 sh2 cr2 ct2 cu2 ve2 ta2 ch2 lo fo si it (nI v) (nI j) J S B9 C9 H9 U9 E9 KC KH) hP ml_X5_327 rfl rfl rfl (by decide) (by decide) rfl hl.1 (Nat.le_of_ble_eq_true rfl) dX5_digestWrite_148 ?_
                    refine lv_i2l (v := (jdV th ki va re none n cl to co ke (nI v) (nI j)).toInt64) hx hb dX5_digestWrite_151 rfl ?_
                    refine lv_ladd hx hb dX5_digestWrite_152 ?_
                    refine t_l (y := (hf (fun j => jdV th ki va re none n cl to co ke (nI v) (nI j)) (twB th ki va re n cl to co ke h v) (j + 1))) rfl ?_
                    refine lv_lstore (lv' := [(4, .long (hf (fun j => jdV th ki va re none n cl to co ke (nI v) (nI j)) (twB th ki va re n cl to co ke h v) (j + 1))), (0, .ref (aS 0)), (3, .int (nI v)), (6, .int (nI j))]) hx hb dX5_digestWrite_153 hl (by decide) rfl (fun ls hl => ?_)
                    refine lv_iinc (v := (nI (j + 1))) (lv' := [(6, .int (nI (j + 1))), (4, .long (hf (fun j => jdV th ki va re none n cl to co ke (nI v) (nI j)) (twB th ki va re n cl to co ke h v) (j + 1))), (0, .ref (aS 0)), (3, .int (nI v))]) hx hb dX5_digestWrite_155 hl (k := 3) rfl (nI_inc _ 1) (by decide) rfl (fun ls hl => ?_)
                    refine lv_goto (tgt := 132) hx hb dX5_digestWrite_158 (by decide) ?_
                    -- slot 4: have l:hf (fun j => jdV th ki va re none n cl to co ke (nI v) (nI j)) (twB th ki va re n cl to co ke h v) (j + 1), want l:hf (fun (j + 1) => jdV th ki va re none n cl to co ke (nI v) (nI (j + 1))) (twB th ki va re n cl to co ke h v) (j + 1)
                    -- slot 6: have n:j + 1, want n:(j + 1)
                    exact ih (j + 1) (by omega) (by omega) ls (lv_sub hl [2, 3, 1, 0] rfl)
              exact L132 (4 - 0) (0) (Nat.le_refl _) (by omega) ls (lv_sub hl [2, 3, 1, 0] rfl)
            · -- not taken at 41
              exact absurd c41 (by omega)
          | succ d ih =>
            intro j hlo38 hhi38 ls hl
            refine lv_iload hx hb dX5_digestWrite_38 (lv_at hl 3 rfl) ?_
            refine lv_iconst (v := (nI 3)) hx hb dX5_digestWrite_40 (by decide) ?_
            refine c_gt G (tgt := 67) (by omega) (by omega) dX5_digestWrite_41 (by decide) (fun c41 => ?_) (fun c41 => ?_)
            · -- taken at 41
              exact absurd c41 (by omega)
            · -- not taken at 41
              refine lv_ldc2 hx hb hown (hts _ kl_X5_278) dX5_digestWrite_44 ?_
              refine t_l (y := (31 : Int32).toInt64) (by decide) ?_
              refine lv_lload hx hb dX5_digestWrite_47 (lv_at hl 2 rfl) ?_
              refine lv_lmul hx hb dX5_digestWrite_49 ?_
              refine lv_aload_n hx hb dX5_digestWrite_50 rfl (lv_at hl 0 rfl) ?_
              refine lv_iload_n hx hb dX5_digestWrite_51 rfl (lv_at hl 1 rfl) ?_
              refine lv_iload hx hb dX5_digestWrite_52 (lv_at hl 3 rfl) ?_
              refine callPV (As := [.int (nI v), .int (nI j)]) (rest := [.long ((31 : Int32).toInt64 * (hf (fun j => cvV ki re n cl to co (nI v) (nI j)) (hf (fun j => nI (wrB th ki va re v j)) h 5) j))]) (q0 := 0) (ci := 5) G K F_X5_covers (c_X5_covers aS aE la aW n cl th ki va re fi aB bt bs aC to co ke nu fw aH lt tr sh cr ct cu ve ta ch aT lt2 tr2 sh2 cr2 ct2 cu2 ve2 ta2 ch2 lo fo si it (nI v) (nI j) J S B9 C9 H9 U9 E9) hP ml_X5_315 rfl rfl rfl (by decide) (by decide) rfl hl.1 (Nat.le_of_ble_eq_true rfl) dX5_digestWrite_54 ?_
              refine lv_i2l (v := (cvV ki re n cl to co (nI v) (nI j)).toInt64) hx hb dX5_digestWrite_57 rfl ?_
              refine lv_ladd hx hb dX5_digestWrite_58 ?_
              refine t_l (y := (hf (fun j => cvV ki re n cl to co (nI v) (nI j)) (hf (fun j => nI (wrB th ki va re v j)) h 5) (j + 1))) rfl ?_
              refine lv_lstore (lv' := [(4, .long (hf (fun j => cvV ki re n cl to co (nI v) (nI j)) (hf (fun j => nI (wrB th ki va re v j)) h 5) (j + 1))), (0, .ref (aS 0)), (3, .int (nI v)), (6, .int (nI j))]) hx hb dX5_digestWrite_59 hl (by decide) rfl (fun ls hl => ?_)
              refine lv_iinc (v := (nI (j + 1))) (lv' := [(6, .int (nI (j + 1))), (4, .long (hf (fun j => cvV ki re n cl to co (nI v) (nI j)) (hf (fun j => nI (wrB th ki va re v j)) h 5) (j + 1))), (0, .ref (aS 0)), (3, .int (nI v))]) hx hb dX5_digestWrite_61 hl (k := 3) rfl (nI_inc _ 1) (by decide) rfl (fun ls hl => ?_)
              refine lv_goto (tgt := 38) hx hb dX5_digestWrite_64 (by decide) ?_
              -- slot 4: have l:hf (fun j => cvV ki re n cl to co (nI v) (nI j)) (hf (fun j => nI (wrB th ki va re v j)) h 5) (j + 1), want l:hf (fun (j + 1) => cvV ki re n cl to co (nI v) (nI (j + 1))) (hf (fun (j + 1) => nI (wrB th ki va re v (j + 1))) h 5) (j + 1)
              -- slot 6: have n:j + 1, want n:(j + 1)
              exact ih (j + 1) (by omega) (by omega) ls (lv_sub hl [2, 3, 1, 0] rfl)
        exact L38 (4 - 0) (0) (Nat.le_refl _) (by omega) ls (lv_sub hl [1, 2, 3, 0] rfl)
      · -- not taken at 9
        exact absurd c9 (by omega)
    | succ d ih =>
      intro j hlo6 hhi6 ls hl
      refine lv_iload hx hb dX5_digestWrite_6 (lv_at hl 3 rfl) ?_
      refine lv_iconst (v := (nI 4)) hx hb dX5_digestWrite_8 (by decide) ?_
      refine c_gt G (tgt := 35) (by omega) (by omega) dX5_digestWrite_9 (by decide) (fun c9 => ?_) (fun c9 => ?_)
      · -- taken at 9
        exact absurd c9 (by omega)
      · -- not taken at 9
        refine lv_ldc2 hx hb hown (hts _ kl_X5_278) dX5_digestWrite_12 ?_
        refine t_l (y := (31 : Int32).toInt64) (by decide) ?_
        refine lv_lload hx hb dX5_digestWrite_15 (lv_at hl 2 rfl) ?_
        refine lv_lmul hx hb dX5_digestWrite_17 ?_
        refine lv_aload_n hx hb dX5_digestWrite_18 rfl (lv_at hl 0 rfl) ?_
        refine lv_iload_n hx hb dX5_digestWrite_19 rfl (lv_at hl 1 rfl) ?_
        refine lv_iload hx hb dX5_digestWrite_20 (lv_at hl 3 rfl) ?_
        refine callPV (As := [.int (nI v), .int (nI j)]) (rest := [.long ((31 : Int32).toInt64 * (hf (fun j => nI (wrB th ki va re v j)) h j))]) (q0 := 0) (ci := 5) G K F_X5_write (c_X5_write aS aE la aW n cl th ki va re fi aB bt bs aC to co ke nu fw aH lt tr sh cr ct cu ve ta ch aT lt2 tr2 sh2 cr2 ct2 cu2 ve2 ta2 ch2 lo fo si it (nI v) (nI j) J S B9 C9 H9 U9 E9) hP ml_X5_312 rfl rfl rfl (by decide) (by decide) rfl hl.1 (Nat.le_of_ble_eq_true rfl) dX5_digestWrite_22 ?_
        refine t_i (y := (nI (wrB th ki va re v j))) (wrV_k hn hv9 (by omega)).symm ?_
        refine lv_i2l (v := (nI (wrB th ki va re v j)).toInt64) hx hb dX5_digestWrite_25 rfl ?_
        refine lv_ladd hx hb dX5_digestWrite_26 ?_
        refine t_l (y := (hf (fun j => nI (wrB th ki va re v j)) h (j + 1))) rfl ?_
        refine lv_lstore (lv' := [(4, .long (hf (fun j => nI (wrB th ki va re v j)) h (j + 1))), (0, .ref (aS 0)), (3, .int (nI v)), (6, .int (nI j))]) hx hb dX5_digestWrite_27 hl (by decide) rfl (fun ls hl => ?_)
        refine lv_iinc (v := (nI (j + 1))) (lv' := [(6, .int (nI (j + 1))), (4, .long (hf (fun j => nI (wrB th ki va re v j)) h (j + 1))), (0, .ref (aS 0)), (3, .int (nI v))]) hx hb dX5_digestWrite_29 hl (k := 3) rfl (nI_inc _ 1) (by decide) rfl (fun ls hl => ?_)
        refine lv_goto (tgt := 6) hx hb dX5_digestWrite_32 (by decide) ?_
        -- slot 4: have l:hf (fun j => nI (wrB th ki va re v j)) h (j + 1), want l:hf (fun (j + 1) => nI (wrB th ki va re v (j + 1))) h (j + 1)
        -- slot 6: have n:j + 1, want n:(j + 1)
        exact ih (j + 1) (by omega) (by omega) ls (lv_sub hl [2, 3, 1, 0] rfl)
  exact L6 (5 - 0) (0) (Nat.le_refl _) (by omega) ls (lv_sub hl [2, 4, 1, 0] rfl)
set_option maxHeartbeats 4000000 in
set_option maxRecDepth 100000 in
theorem c_X5_digestChanges (aS : Nat → Nat) (aE : Nat → Nat) (la : Int32) (aW : Nat → Nat) (n : Nat) (cl : Nat) (th : Nat → Nat) (ki : Nat → Nat) (va : Nat → Nat) (re : Nat → Nat) (fi : Nat → Nat) (aB : Nat → Nat) (bt : Nat → Nat) (bs : Nat) (aC : Nat → Nat) (to : Nat → Prop) (co : Nat → Nat) (ke : Nat → Int32) (nu : Nat → Int32) (fw : Nat → Nat) (aH : Nat → Nat) (lt : Nat → Option Nat) (tr : Nat → Nat) (sh : Nat → Nat) (cr : Nat → Nat) (ct : Nat → Nat) (cu : Nat → Nat) (ve : Nat → Nat) (ta : Nat → Nat) (ch : Nat) (aT : Nat → Nat) (lt2 : Nat → Option Nat) (tr2 : Nat → Nat) (sh2 : Nat → Nat) (cr2 : Nat → Nat) (ct2 : Nat → Nat) (cu2 : Nat → Nat) (ve2 : Nat → Nat) (ta2 : Nat → Nat) (ch2 : Nat) (lo : Nat → Prop) (fo : Nat → Nat) (si : Nat → Nat) (it : Nat → Nat → Int32) (h : Int64) (v : Nat) (J : IW n cl th ki va re fi) (S : SW n cl re fi) (B9 : (∀ j, bt j ≤ 255) ∧ bs ≤ 216) (C9 : (∀ j, co j ≤ 400) ∧ (∀ j, fw j ≤ 15)) (H9 : IHd lt tr sh cr ct cu ve ta ch) (U9 : IHd lt2 tr2 sh2 cr2 ct2 cu2 ve2 ta2 ch2) (E9 : (∀ j, fo j ≤ 2) ∧ (∀ j, si j ≤ 60)) (KH : HOK th ki va re none n cl lt tr sh cr ct cu ve ta ch) (hv9 : v < n) : CP l D (TY cI cZ cS) yX5_digestChanges cX5_digestChanges 8 .long 3 [.ref (aS 0), .long h, .int (nI v)] ((wS cS aS (aW 0) (aB 0) (aC 0) (aH 0) (aT 0) aE la) ++ ((wW cI aW n cl th ki va re fi) ++ ((wB cI aB bt bs) ++ ((wC cI cZ aC (aW 0) (aB 0) to co ke nu fw) ++ ((wH cI aH (aW 0) lt tr sh cr ct cu ve ta ch) ++ ((wH cI aT (aW 0) lt2 tr2 sh2 cr2 ct2 cu2 ve2 ta2 ch2) ++ (wE cI aE lo fo si it))))))) (.long (hg (fun i y => hf (fun j => cgV th ki va re none n cl (nI v) (nI i) (nI j)) y 3) h 5)) := by
  refine CP.ofL (by decide +kernel) (Nat.le_of_ble_eq_true rfl) ?_
  intro p e s m args below meth c Q G K hP hret ls hl
  obtain ⟨hx, hb, hml, hown, hts⟩ := id G
  obtain ⟨hn, hcl, hth, hki, hva, hre, hfi⟩ := id J
  obtain ⟨hbt, hbs⟩ := id B9
  obtain ⟨hco, hfw⟩ := id C9
  obtain ⟨hlt, htr, hsh, hcr, hct, hcu, hve, hta, hch⟩ := id H9
  obtain ⟨hlt2, htr2, hsh2, hcr2, hct2, hcu2, hve2, hta2, hch2⟩ := id U9
  obtain ⟨hfo, hsi⟩ := id E9
  obtain ⟨K1, K2, K3, K4, K5, K6, K7⟩ := id KH
  have hl : lv_has ls 8 [(0, .ref (aS 0)), (1, .long h), (3, .int (nI v))] := hl
  refine lv_lload_n hx hb dX5_digestChanges_0 rfl (lv_at hl 1 rfl) ?_
  refine t_l (y := (hg (fun i y => hf (fun j => cgV th ki va re none n cl (nI v) (nI i) (nI j)) y 3) h 0)) rfl ?_
  refine lv_lstore (lv' := [(4, .long (hg (fun i y => hf (fun j => cgV th ki va re none n cl (nI v) (nI i) (nI j)) y 3) h 0)), (0, .ref (aS 0)), (1, .long h), (3, .int (nI v))]) hx hb dX5_digestChanges_1 hl (by decide) rfl (fun ls hl => ?_)
  refine lv_iconst (v := (nI 0)) hx hb dX5_digestChanges_3 (by decide) ?_
  refine lv_istore (lv' := [(6, .int (nI 0)), (4, .long (hg (fun i y => hf (fun j => cgV th ki va re none n cl (nI v) (nI i) (nI j)) y 3) h 0)), (0, .ref (aS 0)), (1, .long h), (3, .int (nI v))]) hx hb dX5_digestChanges_4 hl (by decide) rfl (fun ls hl => ?_)
  have L6 : ∀ (d i : Nat), 0 ≤ i → i + d = 5 → ∀ (ls : Array Slot), lv_has ls 8 [(0, .ref (aS 0)), (3, .int (nI v)), (4, .long (hg (fun i y => hf (fun j => cgV th ki va re none n cl (nI v) (nI i) (nI j)) y 3) h i)), (6, .int (nI i))] → W p l e (RM 3) s m args below meth c s.heap [] 0 0 Q (F0 m 6 ls []) := by
    intro d
    induction d with
    | zero =>
      intro i hlo6 hhi6 ls hl
      refine lv_iload hx hb dX5_digestChanges_6 (lv_at hl 3 rfl) ?_
      refine lv_iconst (v := (nI 4)) hx hb dX5_digestChanges_8 (by decide) ?_
      refine c_gt G (tgt := 52) (by omega) (by omega) dX5_digestChanges_9 (by decide) (fun c9 => ?_) (fun c9 => ?_)
      · -- taken at 9
        refine lv_lload hx hb dX5_digestChanges_52 (lv_at hl 2 rfl) ?_
        exact hret _ _ _ (by rw [show i = 5 by omega]) dX5_digestChanges_54
      · -- not taken at 9
        exact absurd c9 (by omega)
    | succ d ih =>
      intro i hlo6 hhi6 ls hl
      refine lv_iload hx hb dX5_digestChanges_6 (lv_at hl 3 rfl) ?_
      refine lv_iconst (v := (nI 4)) hx hb dX5_digestChanges_8 (by decide) ?_
      refine c_gt G (tgt := 52) (by omega) (by omega) dX5_digestChanges_9 (by decide) (fun c9 => ?_) (fun c9 => ?_)
      · -- taken at 9
        exact absurd c9 (by omega)
      · -- not taken at 9
        refine lv_iconst (v := (nI 0)) hx hb dX5_digestChanges_12 (by decide) ?_
        refine lv_istore (lv' := [(7, .int (nI 0)), (0, .ref (aS 0)), (3, .int (nI v)), (4, .long (hg (fun i y => hf (fun j => cgV th ki va re none n cl (nI v) (nI i) (nI j)) y 3) h i)), (6, .int (nI i))]) hx hb dX5_digestChanges_13 hl (by decide) rfl (fun ls hl => ?_)
        have L15 : ∀ (d j : Nat), 0 ≤ j → j + d = 3 → ∀ (ls : Array Slot), lv_has ls 8 [(0, .ref (aS 0)), (3, .int (nI v)), (4, .long (hf (fun j => cgV th ki va re none n cl (nI v) (nI i) (nI j)) (hg (fun i y => hf (fun j => cgV th ki va re none n cl (nI v) (nI i) (nI j)) y 3) h i) j)), (6, .int (nI i)), (7, .int (nI j))] → W p l e (RM 3) s m args below meth c s.heap [] 0 0 Q (F0 m 15 ls []) := by
          intro d
          induction d with
          | zero =>
            intro j hlo15 hhi15 ls hl
            refine lv_iload hx hb dX5_digestChanges_15 (lv_at hl 4 rfl) ?_
            refine lv_iconst (v := (nI 2)) hx hb dX5_digestChanges_17 (by decide) ?_
            refine c_gt G (tgt := 46) (by omega) (by omega) dX5_digestChanges_18 (by decide) (fun c18 => ?_) (fun c18 => ?_)
            · -- taken at 18
              have hl := lv_re (l' := [(0, .ref (aS 0)), (3, .int (nI v)), (4, .long (hg (fun i y => hf (fun j => cgV th ki va re none n cl (nI v) (nI i) (nI j)) y 3) h (i + 1))), (6, .int (nI i)), (7, .int (nI j))]) hl (by rw [show (hf (fun j => cgV th ki va re none n cl (nI v) (nI i) (nI j)) (hg (fun i y => hf (fun j => cgV th ki va re none n cl (nI v) (nI i) (nI j)) y 3) h i) j) = (hg (fun i y => hf (fun j => cgV th ki va re none n cl (nI v) (nI i) (nI j)) y 3) h (i + 1)) from (by rw [show j = 3 by omega]; rfl)])
              refine lv_iinc (v := (nI (i + 1))) (lv' := [(6, .int (nI (i + 1))), (0, .ref (aS 0)), (3, .int (nI v)), (4, .long (hg (fun i y => hf (fun j => cgV th ki va re none n cl (nI v) (nI i) (nI j)) y 3) h (i + 1))), (7, .int (nI j))]) hx hb dX5_digestChanges_46 hl (k := 3) rfl (nI_inc _ 1) (by decide) rfl (fun ls hl => ?_)
              refine lv_goto (tgt := 6) hx hb dX5_digestChanges_49 (by decide) ?_
              -- slot 4: have l:hg (fun i y => hf (fun j => cgV th ki va re none n cl (nI v) (nI i) (nI j)) y 3) h (i + 1), want l:hg (fun (i + 1) y => hf (fun j => cgV th ki va re none n cl (nI v) (nI (i + 1)) (nI j)) y 3) h (i + 1)
              -- slot 6: have n:i + 1, want n:(i + 1)
              exact ih (i + 1) (by omega) (by omega) ls (lv_sub hl [1, 2, 3, 0] rfl)
            · -- not taken at 18
              exact absurd c18 (by omega)
          | succ d ih =>
            intro j hlo15 hhi15 ls hl
            refine lv_iload hx hb dX5_digestChanges_15 (lv_at hl 4 rfl) ?_
            refine lv_iconst (v := (nI 2)) hx hb dX5_digestChanges_17 (by decide) ?_
            refine c_gt G (tgt := 46) (by omega) (by omega) dX5_digestChanges_18 (by decide) (fun c18 => ?_) (fun c18 => ?_)
            · -- taken at 18
              exact absurd c18 (by omega)
            · -- not taken at 18
              refine lv_ldc2 hx hb hown (hts _ kl_X5_278) dX5_digestChanges_21 ?_
              refine t_l (y := (31 : Int32).toInt64) (by decide) ?_
              refine lv_lload hx hb dX5_digestChanges_24 (lv_at hl 2 rfl) ?_
              refine lv_lmul hx hb dX5_digestChanges_26 ?_
              refine lv_aload_n hx hb dX5_digestChanges_27 rfl (lv_at hl 0 rfl) ?_
              refine lv_iload_n hx hb dX5_digestChanges_28 rfl (lv_at hl 1 rfl) ?_
              refine lv_iload hx hb dX5_digestChanges_29 (lv_at hl 3 rfl) ?_
              refine lv_iload hx hb dX5_digestChanges_31 (lv_at hl 4 rfl) ?_
              refine callPV (As := [.int (nI v), .int (nI i), .int (nI j)]) (rest := [.long ((31 : Int32).toInt64 * (hf (fun j => cgV th ki va re none n cl (nI v) (nI i) (nI j)) (hg (fun i y => hf (fun j => cgV th ki va re none n cl (nI v) (nI i) (nI j)) y 3) h i) j))]) (q0 := 0) (ci := 5) G K F_X5_change (c_X5_change aS aE la aW n cl th ki va re fi aB bt bs aC to co ke nu fw aH lt tr sh cr ct cu ve ta ch aT lt2 tr2 sh2 cr2 ct2 cu2 ve2 ta2 ch2 lo fo si it (nI v) (nI i) (nI j) J S B9 C9 H9 U9 E9 KH) hP ml_X5_330 rfl rfl rfl (by decide) (by decide) rfl hl.1 (Nat.le_of_ble_eq_true rfl) dX5_digestChanges_33 ?_
              refine lv_i2l (v := (cgV th ki va re none n cl (nI v) (nI i) (nI j)).toInt64) hx hb dX5_digestChanges_36 rfl ?_
              refine lv_ladd hx hb dX5_digestChanges_37 ?_
              refine t_l (y := (hf (fun j => cgV th ki va re none n cl (nI v) (nI i) (nI j)) (hg (fun i y => hf (fun j => cgV th ki va re none n cl (nI v) (nI i) (nI j)) y 3) h i) (j + 1))) rfl ?_
              refine lv_lstore (lv' := [(4, .long (hf (fun j => cgV th ki va re none n cl (nI v) (nI i) (nI j)) (hg (fun i y => hf (fun j => cgV th ki va re none n cl (nI v) (nI i) (nI j)) y 3) h i) (j + 1))), (0, .ref (aS 0)), (3, .int (nI v)), (6, .int (nI i)), (7, .int (nI j))]) hx hb dX5_digestChanges_38 hl (by decide) rfl (fun ls hl => ?_)
              refine lv_iinc (v := (nI (j + 1))) (lv' := [(7, .int (nI (j + 1))), (4, .long (hf (fun j => cgV th ki va re none n cl (nI v) (nI i) (nI j)) (hg (fun i y => hf (fun j => cgV th ki va re none n cl (nI v) (nI i) (nI j)) y 3) h i) (j + 1))), (0, .ref (aS 0)), (3, .int (nI v)), (6, .int (nI i))]) hx hb dX5_digestChanges_40 hl (k := 4) rfl (nI_inc _ 1) (by decide) rfl (fun ls hl => ?_)
              refine lv_goto (tgt := 15) hx hb dX5_digestChanges_43 (by decide) ?_
              -- slot 4: have l:hf (fun j => cgV th ki va re none n cl (nI v) (nI i) (nI j)) (hg (fun i y => hf (fun j => cgV th ki va re none n cl (nI v) (nI i) (nI j)) y 3) h i) (j + 1), want l:hf (fun (j + 1) => cgV th ki va re none n cl (nI v) (nI i) (nI (j + 1))) (hg (fun i y => hf (fun (j + 1) => cgV th ki va re none n cl (nI v) (nI i) (nI (j + 1))) y 3) h i) (j + 1)
              -- slot 7: have n:j + 1, want n:(j + 1)
              exact ih (j + 1) (by omega) (by omega) ls (lv_sub hl [2, 3, 1, 4, 0] rfl)
        exact L15 (3 - 0) (0) (Nat.le_refl _) (by omega) ls (lv_sub hl [1, 2, 3, 4, 0] rfl)
  exact L6 (5 - 0) (0) (Nat.le_refl _) (by omega) ls (lv_sub hl [2, 4, 1, 0] rfl)

end
