/-! steps: the calls that change the file, and the counts -/
theorem IM_of {n cl : Nat} {th ki va re fi si co fw : Nat → Nat} (J : IW n cl th ki va re fi) (hs : ∀ j, si j ≤ 60) (hc : ∀ j, co j ≤ 400) (hf : ∀ j, fw j ≤ 15) : IM n cl none th ki va re si co fw := ⟨J.1, J.2.1, (fun w q => by cases q), J.2.2.1, J.2.2.2.1, J.2.2.2.2.1, J.2.2.2.2.2.1, hs, hc, hf⟩
section Steps2
variable {l : Launch} {D : va_G} {cI cZ cS : ClassId} {d : Nat → Nat → Nat}
set_option maxHeartbeats 4000000 in
theorem st_put (z1 z2 z3 : Int32) : Step l D cI cZ cS d yX5_put cX5_put 5 yX6_put cX6_put 4 .int [.int z1, .int z2, .int z3] := by
  intro x h
  have hL : LR x.lo x.rfo x.fo x.si x.rit x.it := h.L
  have hfo := h.E9.1
  have hsi := h.E9.2
  have hn := h.J.1
  have hcl := h.J.2.1
  have hbs := h.KB.1
  have hB := SB_of h.S h.KB
  by_cases hb : okP z1 z2 z3
  rotate_left
  · have hKB := h.KB
    exact Step_mk (show Inv (S9mk x.la x.n x.cl x.th x.ki x.va x.re x.to x.co x.ke x.fi x.bt x.bs (rkN (cls x.ki x.re x.cl) (fun vv => nmC x.bt x.bs (cov x.re x.n x.cl x.to x.co vv)) x.nu x.n) (rkF (cls x.ki x.re x.cl) (fun vv => flE x.re x.n x.cl x.to x.co vv + cif (nmC x.bt x.bs (cov x.re x.n x.cl x.to x.co vv) ≠ x.ke vv) 8 0) x.fw x.n) (cLT x.th x.re none x.n x.lt (x.cl + 1)) (cTR x.th x.ki x.re none x.n x.tr (x.cl + 1)) (cSH x.th x.ki x.va x.re none x.n x.sh (x.cl + 1)) (cCR x.th x.ki x.va x.re none x.n x.cr (x.cl + 1)) (cCT x.th x.ki x.va x.re none x.n x.ct (x.cl + 1)) (cCU x.th x.ki x.va x.re none x.n x.cu (x.cl + 1)) (cVE x.th x.ki x.va x.re none x.n x.cl x.ve x.cl) (cTA x.th x.ki x.va x.re none x.n x.cl x.ta x.cl) (cCH x.th x.ki x.va x.re none x.n (x.cl + 1)) x.lt2 x.tr2 x.sh2 x.cr2 x.ct2 x.cu2 x.ve2 x.ta2 x.ch2 x.lo x.fo x.si x.it x.rfo x.rit x.mo x.rfw) from (Inv_mk h.I h.J h.S h.B9 (⟨h.C9.1, rkF_15 h.C9.2 _⟩) (IHd_c h.H9 (by omega) (by omega) (by omega)) h.U9 h.E9 h.KB (SKc_rk hKB) h.KT (HOK_c) h.L)) (Ca.m (c_X5_put_bad (d 0) (d 6) x.la (d 1) x.n x.cl x.th x.ki x.va x.re x.fi (d 2) x.bt x.bs (d 3) x.to x.co x.ke x.nu x.fw (d 4) x.lt x.tr x.sh x.cr x.ct x.cu x.ve x.ta x.ch (d 5) x.lt2 x.tr2 x.sh2 x.cr2 x.ct2 x.cu2 x.ve2 x.ta2 x.ch2 x.lo x.fo x.si x.it z1 z2 z3 h.J h.S h.B9 h.C9 h.H9 h.U9 h.E9 hb) (by decide)) (Ca.m (c_X6_put_bad (d 7) x.la x.n x.cl none x.rfo x.si x.rit x.mo x.th x.ki x.va x.re x.to x.co x.ke x.rfw z1 z2 z3 h.I hb) (by decide)) ⟨_, rfl⟩
  obtain ⟨t, k, v, ht, hk, hv, rfl, rfl, rfl⟩ := hb
  by_cases hf : x.n = 40
  · have hKB := h.KB
    exact Step_mk (show Inv (S9mk x.la x.n x.cl x.th x.ki x.va x.re x.to x.co x.ke x.fi x.bt x.bs (rkN (cls x.ki x.re x.cl) (fun vv => nmC x.bt x.bs (cov x.re x.n x.cl x.to x.co vv)) x.nu x.n) (rkF (cls x.ki x.re x.cl) (fun vv => flE x.re x.n x.cl x.to x.co vv + cif (nmC x.bt x.bs (cov x.re x.n x.cl x.to x.co vv) ≠ x.ke vv) 8 0) x.fw x.n) (cLT x.th x.re none x.n x.lt (x.cl + 1)) (cTR x.th x.ki x.re none x.n x.tr (x.cl + 1)) (cSH x.th x.ki x.va x.re none x.n x.sh (x.cl + 1)) (cCR x.th x.ki x.va x.re none x.n x.cr (x.cl + 1)) (cCT x.th x.ki x.va x.re none x.n x.ct (x.cl + 1)) (cCU x.th x.ki x.va x.re none x.n x.cu (x.cl + 1)) (cVE x.th x.ki x.va x.re none x.n x.cl x.ve x.cl) (cTA x.th x.ki x.va x.re none x.n x.cl x.ta x.cl) (cCH x.th x.ki x.va x.re none x.n (x.cl + 1)) x.lt2 x.tr2 x.sh2 x.cr2 x.ct2 x.cu2 x.ve2 x.ta2 x.ch2 x.lo x.fo x.si x.it x.rfo x.rit x.mo x.rfw) from (Inv_mk h.I h.J h.S h.B9 (⟨h.C9.1, rkF_15 h.C9.2 _⟩) (IHd_c h.H9 (by omega) (by omega) (by omega)) h.U9 h.E9 h.KB (SKc_rk hKB) h.KT (HOK_c) h.L)) (Ca.m (c_X5_put_full (d 0) (d 6) x.la (d 1) x.n x.cl x.th x.ki x.va x.re x.fi (d 2) x.bt x.bs (d 3) x.to x.co x.ke x.nu x.fw (d 4) x.lt x.tr x.sh x.cr x.ct x.cu x.ve x.ta x.ch (d 5) x.lt2 x.tr2 x.sh2 x.cr2 x.ct2 x.cu2 x.ve2 x.ta2 x.ch2 x.lo x.fo x.si x.it t k v h.J h.S h.B9 h.C9 h.H9 h.U9 h.E9 ht hk hv hf) (by decide)) (Ca.m (c_X6_put_full (d 7) x.la x.n x.cl none x.rfo x.si x.rit x.mo x.th x.ki x.va x.re x.to x.co x.ke x.rfw t k v h.I ht hk hv hf) (by decide)) ⟨_, rfl⟩
  have hlt : x.n < 40 := by omega
  have hJ := IW_put h.J hlt ht hk (okV_le hv)
  have hS := SW_put h.S
  have hKB : SKb (va_up x.th x.n t) (va_up x.ki x.n k) (va_up x.va x.n v) (va_up x.re x.n x.cl) (x.n + 1) x.cl (ap5 x.bt x.bs t k v) (x.bs + 5) := SKb_of hS (by omega) (by rw [hbs]; exact SB_put h.S hB)
  exact Step_mk (show Inv (S9mk x.la (x.n + 1) x.cl (va_up x.th x.n t) (va_up x.ki x.n k) (va_up x.va x.n v) (va_up x.re x.n x.cl) (va_up x.to x.n False) x.co x.ke x.fi (ap5 x.bt x.bs t k v) (x.bs + 5) (rkN (cls (va_up x.ki x.n k) (va_up x.re x.n x.cl) x.cl) (fun vv => nmC (ap5 x.bt x.bs t k v) (x.bs + 5) (cov (va_up x.re x.n x.cl) (x.n + 1) x.cl (va_up x.to x.n False) x.co vv)) x.nu (x.n + 1)) (rkF (cls (va_up x.ki x.n k) (va_up x.re x.n x.cl) x.cl) (fun vv => flE (va_up x.re x.n x.cl) (x.n + 1) x.cl (va_up x.to x.n False) x.co vv + cif (nmC (ap5 x.bt x.bs t k v) (x.bs + 5) (cov (va_up x.re x.n x.cl) (x.n + 1) x.cl (va_up x.to x.n False) x.co vv) ≠ x.ke vv) 8 0) x.fw (x.n + 1)) (cLT (va_up x.th x.n t) (va_up x.re x.n x.cl) none (x.n + 1) x.lt (x.cl + 1)) (cTR (va_up x.th x.n t) (va_up x.ki x.n k) (va_up x.re x.n x.cl) none (x.n + 1) x.tr (x.cl + 1)) (cSH (va_up x.th x.n t) (va_up x.ki x.n k) (va_up x.va x.n v) (va_up x.re x.n x.cl) none (x.n + 1) x.sh (x.cl + 1)) (cCR (va_up x.th x.n t) (va_up x.ki x.n k) (va_up x.va x.n v) (va_up x.re x.n x.cl) none (x.n + 1) x.cr (x.cl + 1)) (cCT (va_up x.th x.n t) (va_up x.ki x.n k) (va_up x.va x.n v) (va_up x.re x.n x.cl) none (x.n + 1) x.ct (x.cl + 1)) (cCU (va_up x.th x.n t) (va_up x.ki x.n k) (va_up x.va x.n v) (va_up x.re x.n x.cl) none (x.n + 1) x.cu (x.cl + 1)) (cVE (va_up x.th x.n t) (va_up x.ki x.n k) (va_up x.va x.n v) (va_up x.re x.n x.cl) none (x.n + 1) x.cl x.ve x.cl) (cTA (va_up x.th x.n t) (va_up x.ki x.n k) (va_up x.va x.n v) (va_up x.re x.n x.cl) none (x.n + 1) x.cl x.ta x.cl) (cCH (va_up x.th x.n t) (va_up x.ki x.n k) (va_up x.va x.n v) (va_up x.re x.n x.cl) none (x.n + 1) (x.cl + 1)) x.lt2 x.tr2 x.sh2 x.cr2 x.ct2 x.cu2 x.ve2 x.ta2 x.ch2 x.lo x.fo x.si x.it x.rfo x.rit x.mo x.rfw) from (Inv_mk (IM_of hJ hsi h.C9.1 h.I.2.2.2.2.2.2.2.2.2) (hJ) (hS) (⟨ap5_le h.B9.1 ht hk (okV_le hv), by omega⟩) (⟨h.C9.1, rkF_15 h.C9.2 _⟩) (IHd_c h.H9 (by omega) (by omega) (by omega)) h.U9 h.E9 (hKB) (SKc_rk hKB) (SKt_put h.KT) (HOK_c) h.L)) (Ca.m (c_X5_put_ok (d 0) (d 6) x.la (d 1) x.n x.cl x.th x.ki x.va x.re x.fi (d 2) x.bt x.bs (d 3) x.to x.co x.ke x.nu x.fw (d 4) x.lt x.tr x.sh x.cr x.ct x.cu x.ve x.ta x.ch (d 5) x.lt2 x.tr2 x.sh2 x.cr2 x.ct2 x.cu2 x.ve2 x.ta2 x.ch2 x.lo x.fo x.si x.it t k v h.J h.S h.B9 h.C9 h.H9 h.U9 h.E9 ht hk hv hlt (by omega)) (by decide)) (Ca.m (c_X6_put_ok (d 7) x.la x.n x.cl none x.rfo x.si x.rit x.mo x.th x.ki x.va x.re x.to x.co x.ke x.rfw t k v h.I ht hk hv hlt) (by decide)) ⟨_, rfl⟩
set_option maxHeartbeats 4000000 in
theorem st_close : Step l D cI cZ cS d yX5_close cX5_close 1 yX6_close cX6_close 2 .int [] := by
  intro x h
  have hL : LR x.lo x.rfo x.fo x.si x.rit x.it := h.L
  have hfo := h.E9.1
  have hsi := h.E9.2
  have hn := h.J.1
  have hcl := h.J.2.1
  have hbs := h.KB.1
  have hB := SB_of h.S h.KB
  by_cases h0 : cntEq x.re x.cl x.n = 0
  · exact ⟨_, x, h, Ca.m (c_X5_close_not (d 0) (d 6) x.la (d 1) x.n x.cl x.th x.ki x.va x.re x.fi (d 2) x.bt x.bs (d 3) x.to x.co x.ke x.nu x.fw (d 4) x.lt x.tr x.sh x.cr x.ct x.cu x.ve x.ta x.ch (d 5) x.lt2 x.tr2 x.sh2 x.cr2 x.ct2 x.cu2 x.ve2 x.ta2 x.ch2 x.lo x.fo x.si x.it h.J h.S h.B9 h.C9 h.H9 h.U9 h.E9 h0) (by decide), Ca.m (c_X6_close_not (d 7) x.la x.n x.cl none x.rfo x.si x.rit x.mo x.th x.ki x.va x.re x.to x.co x.ke x.rfw h.I h0) (by decide), ⟨_, rfl⟩⟩
  have h9 : 0 < cntEq x.re x.cl x.n := by omega
  by_cases h8 : x.cl = 7
  · exact ⟨_, x, h, Ca.m (c_X5_close_full (d 0) (d 6) x.la (d 1) x.n x.cl x.th x.ki x.va x.re x.fi (d 2) x.bt x.bs (d 3) x.to x.co x.ke x.nu x.fw (d 4) x.lt x.tr x.sh x.cr x.ct x.cu x.ve x.ta x.ch (d 5) x.lt2 x.tr2 x.sh2 x.cr2 x.ct2 x.cu2 x.ve2 x.ta2 x.ch2 x.lo x.fo x.si x.it h.J h.S h.B9 h.C9 h.H9 h.U9 h.E9 h9 h8) (by decide), Ca.m (c_X6_close_full (d 7) x.la x.n x.cl none x.rfo x.si x.rit x.mo x.th x.ki x.va x.re x.to x.co x.ke x.rfw h.I h9 h8) (by decide), ⟨_, rfl⟩⟩
  have h7 : x.cl < 7 := by omega
  have hJ := IW_close h.J h7
  have hS := SW_close h.S
  have hKB : SKb x.th x.ki x.va x.re x.n (x.cl + 1) (va_up (va_up x.bt x.bs 0) (x.bs + 1) x.cl) (x.bs + 2) := SKb_of hS (by omega) (by rw [hbs]; exact SB_close h.S hB)
  have hke := ke_eq (to := x.to) (co := x.co) (ke := x.ke) h.S hKB
  refine Step_mk (show Inv (S9mk x.la x.n (x.cl + 1) x.th x.ki x.va x.re x.to x.co (kqR (fun vv => x.ki vv = 4) (fun vv => nmC (va_up (va_up x.bt x.bs 0) (x.bs + 1) x.cl) (x.bs + 2) (cov x.re x.n (x.cl + 1) x.to x.co vv)) x.ke (cntLt x.re x.cl x.n) (cntEq x.re x.cl x.n)) (va_up x.fi (x.cl + 1) x.n) (va_up (va_up x.bt x.bs 0) (x.bs + 1) x.cl) (x.bs + 2) (rkN (cls x.ki x.re (x.cl + 1)) (fun vv => nmC (va_up (va_up x.bt x.bs 0) (x.bs + 1) x.cl) (x.bs + 2) (cov x.re x.n (x.cl + 1) x.to x.co vv)) x.nu x.n) (rkF (cls x.ki x.re (x.cl + 1)) (fun vv => flE x.re x.n (x.cl + 1) x.to x.co vv + cif (nmC (va_up (va_up x.bt x.bs 0) (x.bs + 1) x.cl) (x.bs + 2) (cov x.re x.n (x.cl + 1) x.to x.co vv) ≠ (kqR (fun vv => x.ki vv = 4) (fun vv => nmC (va_up (va_up x.bt x.bs 0) (x.bs + 1) x.cl) (x.bs + 2) (cov x.re x.n (x.cl + 1) x.to x.co vv)) x.ke (cntLt x.re x.cl x.n) (cntEq x.re x.cl x.n)) vv) 8 0) x.fw x.n) (cLT x.th x.re none x.n x.lt ((x.cl + 1) + 1)) (cTR x.th x.ki x.re none x.n x.tr ((x.cl + 1) + 1)) (cSH x.th x.ki x.va x.re none x.n x.sh ((x.cl + 1) + 1)) (cCR x.th x.ki x.va x.re none x.n x.cr ((x.cl + 1) + 1)) (cCT x.th x.ki x.va x.re none x.n x.ct ((x.cl + 1) + 1)) (cCU x.th x.ki x.va x.re none x.n x.cu ((x.cl + 1) + 1)) (cVE x.th x.ki x.va x.re none x.n (x.cl + 1) x.ve (x.cl + 1)) (cTA x.th x.ki x.va x.re none x.n (x.cl + 1) x.ta (x.cl + 1)) (cCH x.th x.ki x.va x.re none x.n ((x.cl + 1) + 1)) x.lt2 x.tr2 x.sh2 x.cr2 x.ct2 x.cu2 x.ve2 x.ta2 x.ch2 x.lo x.fo x.si x.it x.rfo x.rit x.mo x.rfw) from (Inv_mk (IM_of hJ hsi h.C9.1 h.I.2.2.2.2.2.2.2.2.2) (hJ) (hS) (⟨up_le (up_le h.B9.1 (by omega)) (by omega), by omega⟩) (⟨h.C9.1, rkF_15 h.C9.2 _⟩) (IHd_c h.H9 (by omega) (by omega) (by omega)) h.U9 h.E9 (hKB) (SKc_rk hKB) (h.KT) (HOK_c) h.L)) (Ca.m (c_X5_close_ok (d 0) (d 6) x.la (d 1) x.n x.cl x.th x.ki x.va x.re x.fi (d 2) x.bt x.bs (d 3) x.to x.co x.ke x.nu x.fw (d 4) x.lt x.tr x.sh x.cr x.ct x.cu x.ve x.ta x.ch (d 5) x.lt2 x.tr2 x.sh2 x.cr2 x.ct2 x.cu2 x.ve2 x.ta2 x.ch2 x.lo x.fo x.si x.it h.J h.S h.B9 h.C9 h.H9 h.U9 h.E9 h9 h7 (by omega)) (by decide)) ?_ ⟨_, rfl⟩
  have c6 := @c_X6_close_ok l D cI cZ cS (d 7) x.la x.n x.cl none x.rfo x.si x.rit x.mo x.th x.ki x.va x.re x.to x.co x.ke x.rfw h.I h9 h7
  rw [hke] at c6
  exact Ca.m c6 (by decide)
set_option maxHeartbeats 4000000 in
theorem st_undo : Step l D cI cZ cS d yX5_undo cX5_undo 1 yX6_undo cX6_undo 1 .int [] := by
  intro x h
  have hL : LR x.lo x.rfo x.fo x.si x.rit x.it := h.L
  have hfo := h.E9.1
  have hsi := h.E9.2
  have hn := h.J.1
  have hcl := h.J.2.1
  have hbs := h.KB.1
  have hB := SB_of h.S h.KB
  by_cases h0 : cntEq x.re x.cl x.n = 0
  · have hKB := h.KB
    exact ⟨_, x, h, Ca.m (c_X5_undo_not (d 0) (d 6) x.la (d 1) x.n x.cl x.th x.ki x.va x.re x.fi (d 2) x.bt x.bs (d 3) x.to x.co x.ke x.nu x.fw (d 4) x.lt x.tr x.sh x.cr x.ct x.cu x.ve x.ta x.ch (d 5) x.lt2 x.tr2 x.sh2 x.cr2 x.ct2 x.cu2 x.ve2 x.ta2 x.ch2 x.lo x.fo x.si x.it h.J h.S h.B9 h.C9 h.H9 h.U9 h.E9 h0) (by decide), Ca.m (c_X6_undo_not (d 7) x.la x.n x.cl none x.rfo x.si x.rit x.mo x.th x.ki x.va x.re x.to x.co x.ke x.rfw h.I h0) (by decide), ⟨_, rfl⟩⟩
  have h9 : 0 < cntEq x.re x.cl x.n := by omega
  have hl := SW_last h.S h9
  have hJ := IW_undo h.J
  have hS := SW_undo h.S h9
  have hKB : SKb x.th x.ki x.va x.re (x.n - 1) x.cl x.bt (x.bs - 5) := SKb_of hS (by omega) (SB_undo h.S h9 hB)
  exact Step_mk (show Inv (S9mk x.la (x.n - 1) x.cl x.th x.ki x.va x.re x.to x.co x.ke x.fi x.bt (x.bs - 5) (rkN (cls x.ki x.re x.cl) (fun vv => nmC x.bt (x.bs - 5) (cov x.re (x.n - 1) x.cl x.to x.co vv)) x.nu (x.n - 1)) (rkF (cls x.ki x.re x.cl) (fun vv => flE x.re (x.n - 1) x.cl x.to x.co vv + cif (nmC x.bt (x.bs - 5) (cov x.re (x.n - 1) x.cl x.to x.co vv) ≠ x.ke vv) 8 0) x.fw (x.n - 1)) (cLT x.th x.re none (x.n - 1) x.lt (x.cl + 1)) (cTR x.th x.ki x.re none (x.n - 1) x.tr (x.cl + 1)) (cSH x.th x.ki x.va x.re none (x.n - 1) x.sh (x.cl + 1)) (cCR x.th x.ki x.va x.re none (x.n - 1) x.cr (x.cl + 1)) (cCT x.th x.ki x.va x.re none (x.n - 1) x.ct (x.cl + 1)) (cCU x.th x.ki x.va x.re none (x.n - 1) x.cu (x.cl + 1)) (cVE x.th x.ki x.va x.re none (x.n - 1) x.cl x.ve x.cl) (cTA x.th x.ki x.va x.re none (x.n - 1) x.cl x.ta x.cl) (cCH x.th x.ki x.va x.re none (x.n - 1) (x.cl + 1)) x.lt2 x.tr2 x.sh2 x.cr2 x.ct2 x.cu2 x.ve2 x.ta2 x.ch2 x.lo x.fo x.si x.it x.rfo x.rit x.mo x.rfw) from (Inv_mk (IM_of hJ hsi h.C9.1 h.I.2.2.2.2.2.2.2.2.2) (hJ) (hS) (⟨h.B9.1, by omega⟩) (⟨h.C9.1, rkF_15 h.C9.2 _⟩) (IHd_c h.H9 (by omega) (by omega) (by omega)) h.U9 h.E9 (hKB) (SKc_rk hKB) (fun v hv => h.KT v (by omega)) (HOK_c) h.L)) (Ca.m (c_X5_undo_ok (d 0) (d 6) x.la (d 1) x.n x.cl x.th x.ki x.va x.re x.fi (d 2) x.bt x.bs (d 3) x.to x.co x.ke x.nu x.fw (d 4) x.lt x.tr x.sh x.cr x.ct x.cu x.ve x.ta x.ch (d 5) x.lt2 x.tr2 x.sh2 x.cr2 x.ct2 x.cu2 x.ve2 x.ta2 x.ch2 x.lo x.fo x.si x.it h.J h.S h.B9 h.C9 h.H9 h.U9 h.E9 h9 (by omega)) (by decide)) (Ca.m (c_X6_undo_ok (d 7) x.la x.n x.cl none x.rfo x.si x.rit x.mo x.th x.ki x.va x.re x.to x.co x.ke x.rfw h.I h9) (by decide)) ⟨_, rfl⟩
set_option maxHeartbeats 4000000 in
theorem st_cover (z1 z2 z3 z4 z5 : Int32) : Step l D cI cZ cS d yX5_cover cX5_cover 7 yX6_cover cX6_cover 6 .int [.int z1, .int z2, .int z3, .int z4, .int z5] := by
  intro x h
  have hL : LR x.lo x.rfo x.fo x.si x.rit x.it := h.L
  have hfo := h.E9.1
  have hsi := h.E9.2
  have hn := h.J.1
  have hcl := h.J.2.1
  have hbs := h.KB.1
  have hB := SB_of h.S h.KB
  by_cases hb : okW x.n z1 ∧ okC z2 z3 z4 z5
  rotate_left
  · exact ⟨_, x, h, Ca.m (c_X5_cover_bad (d 0) (d 6) x.la (d 1) x.n x.cl x.th x.ki x.va x.re x.fi (d 2) x.bt x.bs (d 3) x.to x.co x.ke x.nu x.fw (d 4) x.lt x.tr x.sh x.cr x.ct x.cu x.ve x.ta x.ch (d 5) x.lt2 x.tr2 x.sh2 x.cr2 x.ct2 x.cu2 x.ve2 x.ta2 x.ch2 x.lo x.fo x.si x.it z1 z2 z3 z4 z5 h.J h.S h.B9 h.C9 h.H9 h.U9 h.E9 hb) (by decide), Ca.m (c_X6_cover_bad (d 7) x.la x.n x.cl none x.rfo x.si x.rit x.mo x.th x.ki x.va x.re x.to x.co x.ke x.rfw z1 z2 z3 z4 z5 h.I hb) (by decide), ⟨_, rfl⟩⟩
  obtain ⟨⟨k, hk, rfl⟩, hc⟩ := hb
  by_cases hs : x.ki k = 4 ∧ ¬ x.re k < x.cl
  rotate_left
  · exact ⟨_, x, h, Ca.m (c_X5_cover_not (d 0) (d 6) x.la (d 1) x.n x.cl x.th x.ki x.va x.re x.fi (d 2) x.bt x.bs (d 3) x.to x.co x.ke x.nu x.fw (d 4) x.lt x.tr x.sh x.cr x.ct x.cu x.ve x.ta x.ch (d 5) x.lt2 x.tr2 x.sh2 x.cr2 x.ct2 x.cu2 x.ve2 x.ta2 x.ch2 x.lo x.fo x.si x.it k z2 z3 z4 z5 h.J h.S h.B9 h.C9 h.H9 h.U9 h.E9 hk hc hs) (by decide), Ca.m (c_X6_cover_not (d 7) x.la x.n x.cl none x.rfo x.si x.rit x.mo x.th x.ki x.va x.re x.to x.co x.ke x.rfw k z2 z3 z4 z5 h.I hk hc hs) (by decide), ⟨_, rfl⟩⟩
  obtain ⟨x1, x2, x3, x4, h12, h23, h34, h44, rfl, rfl, rfl, rfl⟩ := hc
  have hco : ∀ j, (va_up (va_up (va_up (va_up x.co (4 * k) x1) (4 * k + 1) x2) (4 * k + 2) x3) (4 * k + 3) x4) j ≤ 400 := up_le (up_le (up_le (up_le h.C9.1 (by omega)) (by omega)) (by omega)) (by omega)
  exact Step_mk (show Inv (S9mk x.la x.n x.cl x.th x.ki x.va x.re (va_up x.to k True) (va_up (va_up (va_up (va_up x.co (4 * k) x1) (4 * k + 1) x2) (4 * k + 2) x3) (4 * k + 3) x4) x.ke x.fi x.bt x.bs x.nu x.fw x.lt x.tr x.sh x.cr x.ct x.cu x.ve x.ta x.ch x.lt2 x.tr2 x.sh2 x.cr2 x.ct2 x.cu2 x.ve2 x.ta2 x.ch2 x.lo x.fo x.si x.it x.rfo x.rit x.mo x.rfw) from (Inv_mk (IM_of h.J hsi hco h.I.2.2.2.2.2.2.2.2.2) h.J h.S h.B9 (⟨hco, h.C9.2⟩) h.H9 h.U9 h.E9 h.KB (SKc_cover h.KC hs.2) (SKt_cover h.KT h12 h34) h.KH h.L)) (Ca.m (c_X5_cover_ok (d 0) (d 6) x.la (d 1) x.n x.cl x.th x.ki x.va x.re x.fi (d 2) x.bt x.bs (d 3) x.to x.co x.ke x.nu x.fw (d 4) x.lt x.tr x.sh x.cr x.ct x.cu x.ve x.ta x.ch (d 5) x.lt2 x.tr2 x.sh2 x.cr2 x.ct2 x.cu2 x.ve2 x.ta2 x.ch2 x.lo x.fo x.si x.it k x1 x2 x3 x4 h.J h.S h.B9 h.C9 h.H9 h.U9 h.E9 hk h12 h23 h34 h44 hs.1 hs.2) (by decide)) (Ca.m (c_X6_cover_ok (d 7) x.la x.n x.cl none x.rfo x.si x.rit x.mo x.th x.ki x.va x.re x.to x.co x.ke x.rfw k x1 x2 x3 x4 h.I hk (okC_n h12 h23 h34 h44) hs.1 hs.2) (by decide)) ⟨_, rfl⟩
set_option maxHeartbeats 4000000 in
theorem st_alter (z1 z2 : Int32) : Step l D cI cZ cS d yX5_alter cX5_alter 4 yX6_alter cX6_alter 4 .int [.int z1, .int z2] := by
  intro x h
  have hL : LR x.lo x.rfo x.fo x.si x.rit x.it := h.L
  have hfo := h.E9.1
  have hsi := h.E9.2
  have hn := h.J.1
  have hcl := h.J.2.1
  have hbs := h.KB.1
  have hB := SB_of h.S h.KB
  by_cases hb : ∃ k v9, k < x.n ∧ okV (x.ki k) v9 ∧ z1 = nI k ∧ z2 = nI v9
  rotate_left
  · have hKB := h.KB
    exact ⟨_, x, h, Ca.m (c_X5_alter_bad (d 0) (d 6) x.la (d 1) x.n x.cl x.th x.ki x.va x.re x.fi (d 2) x.bt x.bs (d 3) x.to x.co x.ke x.nu x.fw (d 4) x.lt x.tr x.sh x.cr x.ct x.cu x.ve x.ta x.ch (d 5) x.lt2 x.tr2 x.sh2 x.cr2 x.ct2 x.cu2 x.ve2 x.ta2 x.ch2 x.lo x.fo x.si x.it z1 z2 h.J h.S h.B9 h.C9 h.H9 h.U9 h.E9 hb) (by decide), Ca.m (c_X6_alter_bad (d 7) x.la x.n x.cl none x.rfo x.si x.rit x.mo x.th x.ki x.va x.re x.to x.co x.ke x.rfw z1 z2 h.I hb) (by decide), ⟨_, rfl⟩⟩
  obtain ⟨k, v, hk, hv, rfl, rfl⟩ := hb
  have hJ := IW_va (k := k) h.J (okV_le hv)
  have hv2 := okV_le hv
  have hKB : SKb x.th x.ki (va_up x.va k v) x.re x.n x.cl (va_up (va_up x.bt (5 * k + 2 * x.re k + 3) (v / 256)) (5 * k + 2 * x.re k + 3 + 1) (v % 256)) x.bs := SKb_of h.S hbs (SB_alter h.S hB hk)
  exact Step_mk (show Inv (S9mk x.la x.n x.cl x.th x.ki (va_up x.va k v) x.re x.to x.co x.ke x.fi (va_up (va_up x.bt (5 * k + 2 * x.re k + 3) (v / 256)) (5 * k + 2 * x.re k + 3 + 1) (v % 256)) x.bs (rkN (cls x.ki x.re x.cl) (fun vv => nmC (va_up (va_up x.bt (5 * k + 2 * x.re k + 3) (v / 256)) (5 * k + 2 * x.re k + 3 + 1) (v % 256)) x.bs (cov x.re x.n x.cl x.to x.co vv)) x.nu x.n) (rkF (cls x.ki x.re x.cl) (fun vv => flE x.re x.n x.cl x.to x.co vv + cif (nmC (va_up (va_up x.bt (5 * k + 2 * x.re k + 3) (v / 256)) (5 * k + 2 * x.re k + 3 + 1) (v % 256)) x.bs (cov x.re x.n x.cl x.to x.co vv) ≠ x.ke vv) 8 0) x.fw x.n) (cLT x.th x.re none x.n x.lt (x.cl + 1)) (cTR x.th x.ki x.re none x.n x.tr (x.cl + 1)) (cSH x.th x.ki (va_up x.va k v) x.re none x.n x.sh (x.cl + 1)) (cCR x.th x.ki (va_up x.va k v) x.re none x.n x.cr (x.cl + 1)) (cCT x.th x.ki (va_up x.va k v) x.re none x.n x.ct (x.cl + 1)) (cCU x.th x.ki (va_up x.va k v) x.re none x.n x.cu (x.cl + 1)) (cVE x.th x.ki (va_up x.va k v) x.re none x.n x.cl x.ve x.cl) (cTA x.th x.ki (va_up x.va k v) x.re none x.n x.cl x.ta x.cl) (cCH x.th x.ki (va_up x.va k v) x.re none x.n (x.cl + 1)) x.lt2 x.tr2 x.sh2 x.cr2 x.ct2 x.cu2 x.ve2 x.ta2 x.ch2 x.lo x.fo x.si x.it x.rfo x.rit x.mo x.rfw) from (Inv_mk (IM_of hJ hsi h.C9.1 h.I.2.2.2.2.2.2.2.2.2) (hJ) h.S (⟨up_le (up_le h.B9.1 (by omega)) (by omega), h.B9.2⟩) (⟨h.C9.1, rkF_15 h.C9.2 _⟩) (IHd_c h.H9 (by omega) (by omega) (by omega)) h.U9 h.E9 (hKB) (SKc_rk hKB) h.KT (HOK_c) h.L)) (Ca.m (c_X5_alter_ok (d 0) (d 6) x.la (d 1) x.n x.cl x.th x.ki x.va x.re x.fi (d 2) x.bt x.bs (d 3) x.to x.co x.ke x.nu x.fw (d 4) x.lt x.tr x.sh x.cr x.ct x.cu x.ve x.ta x.ch (d 5) x.lt2 x.tr2 x.sh2 x.cr2 x.ct2 x.cu2 x.ve2 x.ta2 x.ch2 x.lo x.fo x.si x.it k v h.J h.S h.B9 h.C9 h.H9 h.U9 h.E9 hk hv) (by decide)) (Ca.m (c_X6_alter_ok (d 7) x.la x.n x.cl none x.rfo x.si x.rit x.mo x.th x.ki x.va x.re x.to x.co x.ke x.rfw k v h.I hk hv) (by decide)) ⟨_, rfl⟩
set_option maxHeartbeats 4000000 in
theorem st_count (z1 : Int32) : Step l D cI cZ cS d yX5_count cX5_count 2 yX6_count cX6_count 2 .int [.int z1] := by
  intro x h
  have hL : LR x.lo x.rfo x.fo x.si x.rit x.it := h.L
  have hfo := h.E9.1
  have hsi := h.E9.2
  by_cases hb : okR 8 z1
  rotate_left
  · exact ⟨_, x, h, Ca.p (c_X5_count_bad (d 0) (d 6) x.la (d 1) x.n x.cl x.th x.ki x.va x.re x.fi (d 2) x.bt x.bs (d 3) x.to x.co x.ke x.nu x.fw (d 4) x.lt x.tr x.sh x.cr x.ct x.cu x.ve x.ta x.ch (d 5) x.lt2 x.tr2 x.sh2 x.cr2 x.ct2 x.cu2 x.ve2 x.ta2 x.ch2 x.lo x.fo x.si x.it z1 h.J h.S h.B9 h.C9 h.H9 h.U9 h.E9 hb) (by decide), Ca.m (c_X6_count_bad (d 7) x.la x.n x.cl none x.rfo x.si x.rit x.mo x.th x.ki x.va x.re x.to x.co x.ke x.rfw z1 h.I hb) (by decide), ⟨_, rfl⟩⟩
  obtain ⟨q, hq, rfl⟩ := hb
  have hle : ∀ j, (cif (q = 4) (lkA x.th x.ki x.va x.re x.n x.cl x.to x.co x.ke x.rfw) x.rfw) j ≤ 15 := by
    intro j
    by_cases e : q = 4
    · rw [cif_t e]; exact lkA_le x.th x.ki x.va x.re x.n x.cl x.to x.co x.ke h.I.2.2.2.2.2.2.2.2.2 j
    · rw [cif_f e]; exact h.I.2.2.2.2.2.2.2.2.2 j
  exact Step_mk (show Inv (S9mk x.la x.n x.cl x.th x.ki x.va x.re x.to x.co x.ke x.fi x.bt x.bs x.nu x.fw x.lt x.tr x.sh x.cr x.ct x.cu x.ve x.ta x.ch x.lt2 x.tr2 x.sh2 x.cr2 x.ct2 x.cu2 x.ve2 x.ta2 x.ch2 x.lo x.fo x.si x.it x.rfo x.rit x.mo (cif (q = 4) (lkA x.th x.ki x.va x.re x.n x.cl x.to x.co x.ke x.rfw) x.rfw)) from (Inv_mk (IM_fw h.I hle) h.J h.S h.B9 h.C9 h.H9 h.U9 h.E9 h.KB h.KC h.KT h.KH h.L)) (Ca.p (c_X5_count_ok (d 0) (d 6) x.la (d 1) x.n x.cl x.th x.ki x.va x.re x.fi (d 2) x.bt x.bs (d 3) x.to x.co x.ke x.nu x.fw (d 4) x.lt x.tr x.sh x.cr x.ct x.cu x.ve x.ta x.ch (d 5) x.lt2 x.tr2 x.sh2 x.cr2 x.ct2 x.cu2 x.ve2 x.ta2 x.ch2 x.lo x.fo x.si x.it q h.J h.S h.B9 h.C9 h.H9 h.U9 h.E9 h.KB h.KC h.KH hq) (by decide)) (Ca.m (c_X6_count_ok (d 7) x.la x.n x.cl none x.rfo x.si x.rit x.mo x.th x.ki x.va x.re x.to x.co x.ke x.rfw q h.I hq) (by decide)) ⟨_, rfl⟩
set_option maxHeartbeats 4000000 in
theorem st_holding (z1 : Int32) : Step l D cI cZ cS d yX5_holding cX5_holding 2 yX6_holding cX6_holding 2 .int [.int z1] := by
  intro x h
  have hL : LR x.lo x.rfo x.fo x.si x.rit x.it := h.L
  have hfo := h.E9.1
  have hsi := h.E9.2
  by_cases hb : okR 1 z1
  rotate_left
  · exact ⟨_, x, h, Ca.p (c_X5_holding_bad (d 0) (d 6) x.la (d 1) x.n x.cl x.th x.ki x.va x.re x.fi (d 2) x.bt x.bs (d 3) x.to x.co x.ke x.nu x.fw (d 4) x.lt x.tr x.sh x.cr x.ct x.cu x.ve x.ta x.ch (d 5) x.lt2 x.tr2 x.sh2 x.cr2 x.ct2 x.cu2 x.ve2 x.ta2 x.ch2 x.lo x.fo x.si x.it z1 h.J h.S h.B9 h.C9 h.H9 h.U9 h.E9 h.KC h.KH hb) (by decide), Ca.m (c_X6_holding_bad (d 7) x.la x.n x.cl none x.rfo x.si x.rit x.mo x.th x.ki x.va x.re x.to x.co x.ke x.rfw z1 h.I hb) (by decide), ⟨_, rfl⟩⟩
  obtain ⟨q, hq, rfl⟩ := hb
  have hle : ∀ j, (lkA x.th x.ki x.va x.re x.n x.cl x.to x.co x.ke x.rfw) j ≤ 15 := lkA_le x.th x.ki x.va x.re x.n x.cl x.to x.co x.ke h.I.2.2.2.2.2.2.2.2.2
  exact Step_mk (show Inv (S9mk x.la x.n x.cl x.th x.ki x.va x.re x.to x.co x.ke x.fi x.bt x.bs x.nu x.fw x.lt x.tr x.sh x.cr x.ct x.cu x.ve x.ta x.ch x.lt2 x.tr2 x.sh2 x.cr2 x.ct2 x.cu2 x.ve2 x.ta2 x.ch2 x.lo x.fo x.si x.it x.rfo x.rit x.mo (lkA x.th x.ki x.va x.re x.n x.cl x.to x.co x.ke x.rfw)) from (Inv_mk (IM_fw h.I hle) h.J h.S h.B9 h.C9 h.H9 h.U9 h.E9 h.KB h.KC h.KT h.KH h.L)) (Ca.p (c_X5_holding_ok (d 0) (d 6) x.la (d 1) x.n x.cl x.th x.ki x.va x.re x.fi (d 2) x.bt x.bs (d 3) x.to x.co x.ke x.nu x.fw (d 4) x.lt x.tr x.sh x.cr x.ct x.cu x.ve x.ta x.ch (d 5) x.lt2 x.tr2 x.sh2 x.cr2 x.ct2 x.cu2 x.ve2 x.ta2 x.ch2 x.lo x.fo x.si x.it q h.J h.S h.B9 h.C9 h.H9 h.U9 h.E9 h.KC h.KH hq) (by decide)) (Ca.m (c_X6_holding_ok (d 7) x.la x.n x.cl none x.rfo x.si x.rit x.mo x.th x.ki x.va x.re x.to x.co x.ke x.rfw q h.I hq) (by decide)) ⟨_, rfl⟩
set_option maxHeartbeats 4000000 in
theorem st_better (z1 : Int32) : Step l D cI cZ cS d yX5_better cX5_better 6 yX6_better cX6_better 2 .int [.int z1] := by
  intro x h
  have hL : LR x.lo x.rfo x.fo x.si x.rit x.it := h.L
  have hfo := h.E9.1
  have hsi := h.E9.2
  by_cases hb : okR 1 z1
  rotate_left
  · exact ⟨_, x, h, Ca.m (c_X5_better_bad (d 0) (d 6) x.la (d 1) x.n x.cl x.th x.ki x.va x.re x.fi (d 2) x.bt x.bs (d 3) x.to x.co x.ke x.nu x.fw (d 4) x.lt x.tr x.sh x.cr x.ct x.cu x.ve x.ta x.ch (d 5) x.lt2 x.tr2 x.sh2 x.cr2 x.ct2 x.cu2 x.ve2 x.ta2 x.ch2 x.lo x.fo x.si x.it z1 h.J h.S h.B9 h.C9 h.H9 h.U9 h.E9 h.KC hb) (by decide), Ca.m (c_X6_better_bad (d 7) x.la x.n x.cl none x.rfo x.si x.rit x.mo x.th x.ki x.va x.re x.to x.co x.ke x.rfw z1 h.I hb) (by decide), ⟨_, rfl⟩⟩
  obtain ⟨q, hq, rfl⟩ := hb
  exact Step_mk (show Inv (S9mk x.la x.n x.cl x.th x.ki x.va x.re x.to x.co x.ke x.fi x.bt x.bs x.nu x.fw x.lt x.tr x.sh x.cr x.ct x.cu x.ve x.ta x.ch (_) (_) (_) (_) (_) (_) (_) (_) (_) x.lo x.fo x.si x.it x.rfo x.rit x.mo (lkA x.th x.ki x.va x.re x.n x.cl x.to x.co x.ke x.rfw)) from (Inv_mk (IM_fw h.I (lkA_le x.th x.ki x.va x.re x.n x.cl x.to x.co x.ke h.I.2.2.2.2.2.2.2.2.2)) h.J h.S h.B9 h.C9 h.H9 (IHd_itr (th := x.th) (ki := x.ki) (va := x.va) (re := x.re) h.J.1 h.J.2.1 x.n h.U9) h.E9 h.KB h.KC h.KT h.KH h.L)) (Ca.m (c_X5_better_ok (d 0) (d 6) x.la (d 1) x.n x.cl x.th x.ki x.va x.re x.fi (d 2) x.bt x.bs (d 3) x.to x.co x.ke x.nu x.fw (d 4) x.lt x.tr x.sh x.cr x.ct x.cu x.ve x.ta x.ch (d 5) x.lt2 x.tr2 x.sh2 x.cr2 x.ct2 x.cu2 x.ve2 x.ta2 x.ch2 x.lo x.fo x.si x.it q h.J h.S h.B9 h.C9 h.H9 h.U9 h.E9 h.KC hq) (by decide)) (Ca.m (c_X6_better_ok (d 7) x.la x.n x.cl none x.rfo x.si x.rit x.mo x.th x.ki x.va x.re x.to x.co x.ke x.rfw q h.I hq rfl) (by decide)) ⟨_, rfl⟩
set_option maxHeartbeats 4000000 in
theorem st_digest : Step l D cI cZ cS d yX5_digest cX5_digest 4 yX6_digest cX6_digest 5 .long [] := by
  intro x h
  have hL : LR x.lo x.rfo x.fo x.si x.rit x.it := h.L
  have hfo := h.E9.1
  have hsi := h.E9.2
  exact Step_mk (show Inv (S9mk x.la x.n x.cl x.th x.ki x.va x.re x.to x.co x.ke x.fi x.bt x.bs x.nu x.fw x.lt x.tr x.sh x.cr x.ct x.cu x.ve x.ta x.ch (_) (_) (_) (_) (_) (_) (_) (_) (_) x.lo x.fo x.si x.it x.rfo x.rit x.mo (dgW x.th x.ki x.va x.re x.n x.cl x.to x.co x.ke x.rfw)) from (Inv_mk (IM_fw h.I (hlF_le x.th x.ki x.va x.re x.n x.cl x.to x.co x.ke (dgF_le x.th x.ki x.va x.re x.n x.cl x.to x.co x.ke h.I.2.2.2.2.2.2.2.2.2 8) 4)) h.J h.S h.B9 h.C9 h.H9 (IHd_itr (th := x.th) (ki := x.ki) (va := x.va) (re := x.re) h.J.1 h.J.2.1 x.n (IHd_itr (th := x.th) (ki := x.ki) (va := x.va) (re := x.re) h.J.1 h.J.2.1 x.n h.U9)) h.E9 h.KB h.KC h.KT h.KH h.L)) (Ca.m (c_X5_digest (d 0) (d 6) x.la (d 1) x.n x.cl x.th x.ki x.va x.re x.fi (d 2) x.bt x.bs (d 3) x.to x.co x.ke x.nu x.fw (d 4) x.lt x.tr x.sh x.cr x.ct x.cu x.ve x.ta x.ch (d 5) x.lt2 x.tr2 x.sh2 x.cr2 x.ct2 x.cu2 x.ve2 x.ta2 x.ch2 x.lo x.fo x.si x.it h.J h.S h.B9 h.C9 h.H9 h.U9 h.E9 h.KB h.KC h.KT h.KH) (by decide)) (Ca.m (c_X6_digest (d 7) x.la x.n x.cl none x.rfo x.si x.rit x.mo x.th x.ki x.va x.re x.to x.co x.ke x.rfw h.I rfl) (by decide)) ⟨_, rfl⟩
end Steps2
