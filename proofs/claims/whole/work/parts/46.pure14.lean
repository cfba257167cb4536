/-! what stays true behind each call that changes the file -/
theorem ap5_lo {bt : Nat → Nat} {bs t k v j : Nat} (h : j < bs) : ap5 bt bs t k v j = bt j := by
  unfold ap5
  rw [up_ne _ _ (by omega), up_ne _ _ (by omega), up_ne _ _ (by omega), up_ne _ _ (by omega), up_ne _ _ (by omega)]
theorem ap5_at {bt th ki va : Nat → Nat} {bs n t k v q : Nat} (hq : q < 5) : ap5 bt bs t k v (bs + q) = byteO (va_up th n t) (va_up ki n k) (va_up va n v) n q := by
  unfold ap5 byteO
  rw [up_at, up_at, up_at]
  obtain rfl | rfl | rfl | rfl | rfl : q = 0 ∨ q = 1 ∨ q = 2 ∨ q = 3 ∨ q = 4 := by omega
  · rw [up_ne _ _ (by omega), up_ne _ _ (by omega), up_ne _ _ (by omega), up_ne _ _ (by omega)]; exact up_at _ _ _
  · rw [up_ne _ _ (by omega), up_ne _ _ (by omega), up_ne _ _ (by omega)]; exact up_at _ _ _
  · rw [up_ne _ _ (by omega), up_ne _ _ (by omega)]; exact up_at _ _ _
  · rw [up_ne _ _ (by omega)]; exact up_at _ _ _
  · exact up_at _ _ _
theorem byteO_cg {th ki va th' ki' va' : Nat → Nat} {w : Nat} (h1 : th w = th' w) (h2 : ki w = ki' w) (h3 : va w = va' w) (q : Nat) : byteO th ki va w q = byteO th' ki' va' w q := by
  unfold byteO
  rw [h1, h2, h3]
section Keep9
variable {th ki va re fi : Nat → Nat} {n cl : Nat} {bt : Nat → Nat} {to : Nat → Prop} {co : Nat → Nat} {ke : Nat → Int32}
theorem SB_put (S : SW n cl re fi) (B : SB th ki va re n cl bt) {t k v : Nat} : SB (va_up th n t) (va_up ki n k) (va_up va n v) (va_up re n cl) (n + 1) cl (ap5 bt (5 * n + 2 * cl) t k v) := by
  refine ⟨fun w q hw hq => ?_, fun r hr => ?_⟩
  · by_cases e : w = n
    · subst e
      rw [up_at]
      exact ap5_at hq
    · have hw2 : w < n := by omega
      have h1 := S.2.1 w hw2
      rw [up_ne _ _ e, ap5_lo (by omega), B.1 w q hw2 hq]
      exact byteO_cg (up_ne _ _ e).symm (up_ne _ _ e).symm (up_ne _ _ e).symm q
  · have h1 : cntLt (va_up re n cl) (r + 1) (n + 1) = cntLt re (r + 1) n := by
      show cntLt (va_up re n cl) (r + 1) n + (if va_up re n cl n < r + 1 then 1 else 0) = _
      rw [up_at, if_neg (by omega), cntLt_up _ _ (Nat.le_refl n)]
      rfl
    have h2 := cntLe9 re (r + 1) n
    rw [h1, ap5_lo (by omega), ap5_lo (by omega)]
    exact B.2 r hr
theorem SB_close (S : SW n cl re fi) (B : SB th ki va re n cl bt) : SB th ki va re n (cl + 1) (va_up (va_up bt (5 * n + 2 * cl) 0) (5 * n + 2 * cl + 1) cl) := by
  refine ⟨fun w q hw hq => ?_, fun r hr => ?_⟩
  · have h1 := S.2.1 w hw
    rw [up_ne _ _ (by omega), up_ne _ _ (by omega)]
    exact B.1 w q hw hq
  · by_cases e : r = cl
    · subst e
      have h1 : cntLt re (r + 1) n = n := cntLt_all (fun v hv => Nat.lt_succ_of_le (S.2.1 v hv))
      rw [h1]
      exact ⟨by rw [up_ne _ _ (by omega), up_at], by rw [up_at]⟩
    · have h2 := cntLe9 re (r + 1) n
      rw [up_ne _ _ (by omega), up_ne _ _ (by omega), up_ne _ _ (by omega), up_ne _ _ (by omega)]
      exact B.2 r (by omega)
theorem SB_undo (S : SW n cl re fi) (h : 0 < cntEq re cl n) (B : SB th ki va re n cl bt) : SB th ki va re (n - 1) cl bt := by
  obtain ⟨hn, hr9⟩ := SW_last S h
  refine ⟨fun w q hw hq => B.1 w q (by omega) hq, fun r hr => ?_⟩
  have h1 : cntLt re (r + 1) n = cntLt re (r + 1) (n - 1) := by
    obtain ⟨m, rfl⟩ : ∃ m, n = m + 1 := ⟨n - 1, by omega⟩
    show cntLt re (r + 1) m + (if re m < r + 1 then 1 else 0) = _
    rw [if_neg (by rw [show m = m + 1 - 1 by omega, hr9]; omega)]
    rfl
  rw [← h1]
  exact B.2 r hr
theorem SB_alter (S : SW n cl re fi) (B : SB th ki va re n cl bt) {k v : Nat} (hk : k < n) : SB th ki (va_up va k v) re n cl (va_up (va_up bt (5 * k + 2 * re k + 3) (v / 256)) (5 * k + 2 * re k + 3 + 1) (v % 256)) := by
  refine ⟨fun w q hw hq => ?_, fun r hr => ?_⟩
  · by_cases e : w = k
    · subst e
      have h0 := B.1 w q hw hq
      unfold byteO at h0 ⊢
      rw [up_at]
      obtain rfl | rfl | rfl | rfl | rfl : q = 0 ∨ q = 1 ∨ q = 2 ∨ q = 3 ∨ q = 4 := by omega
      · rw [up_ne _ _ (by omega), up_ne _ _ (by omega)]; exact h0
      · rw [up_ne _ _ (by omega), up_ne _ _ (by omega)]; exact h0
      · rw [up_ne _ _ (by omega), up_ne _ _ (by omega)]; exact h0
      · rw [up_ne _ _ (by omega), up_at]; rfl
      · exact up_at _ _ _
    · have hx : 5 * w + 2 * re w + q ≠ 5 * k + 2 * re k + 3 ∧ 5 * w + 2 * re w + q ≠ 5 * k + 2 * re k + 3 + 1 := by
        rcases Nat.lt_or_gt_of_ne e with a | a
        · have := S.2.2 w k (by omega) hk; omega
        · have := S.2.2 k w (by omega) hw; omega
      rw [up_ne _ _ hx.2, up_ne _ _ hx.1, B.1 w q hw hq]
      exact byteO_cg rfl rfl (up_ne _ _ e).symm q
  · have hx : (re k < r + 1 ↔ k < cntLt re (r + 1) n) := srt_lt S.2.2 hk
    have h2 := cntLe9 re (r + 1) n
    have hy : ∀ d, d < 2 → 5 * cntLt re (r + 1) n + 2 * r + d ≠ 5 * k + 2 * re k + 3 ∧ 5 * cntLt re (r + 1) n + 2 * r + d ≠ 5 * k + 2 * re k + 3 + 1 := by
      intro d hd
      by_cases a : re k < r + 1
      · have := hx.mp a; omega
      · have : ¬ k < cntLt re (r + 1) n := fun q => a (hx.mpr q); omega
    have y0 := hy 0 (by decide)
    rw [Nat.add_zero] at y0
    have y1 := hy 1 (by decide)
    rw [up_ne _ _ y0.2, up_ne _ _ y0.1, up_ne _ _ y1.2, up_ne _ _ y1.1]
    exact B.2 r hr
theorem SKc_rk {bs : Nat} {nu : Nat → Int32} {fw : Nat → Nat} (K : SKb th ki va re n cl bt bs) : SKc th ki va re n cl to co ke (rkN (cls ki re cl) (fun vv => nmC bt bs (cov re n cl to co vv)) nu n) (rkF (cls ki re cl) (fun vv => flE re n cl to co vv + cif (nmC bt bs (cov re n cl to co vv) ≠ ke vv) 8 0) fw n) := by
  intro v hv hc
  rw [rkN_in hv hc, rkF_in hv hc, nmC_eq K]
  exact ⟨rfl, rfl⟩
theorem cif_iff {α : Type} {q q' : Prop} (h : q ↔ q') (a b : α) : cif q a b = cif q' a b := by rw [propext h]
theorem ke_eq {bs : Nat} (S : SW n cl re fi) (K : SKb th ki va re n (cl + 1) bt bs) : kpR (fun w => re w = cl ∧ ki w = 4) (numO th ki va re n (cl + 1) to co) ke n = kqR (fun vv => ki vv = 4) (fun vv => nmC bt bs (cov re n (cl + 1) to co vv)) ke (cntLt re cl n) (cntEq re cl n) := by
  funext v
  rw [kqR_at, kpR_at, nmC_eq K]
  refine cif_iff ?_ _ _
  have h1 := cnt_all S.2.1
  constructor
  · rintro ⟨a, b, c⟩
    have h2 : ¬ v < cntLt re cl n := fun q => by have := (srt_lt (r := cl) S.2.2 a).mpr q; omega
    exact ⟨by omega, by omega, c⟩
  · rintro ⟨a, b, c⟩
    have hv : v < n := by omega
    have h2 : ¬ re v < cl := fun q => by have := (srt_lt (r := cl) S.2.2 hv).mp q; omega
    have h3 := S.2.1 v hv
    exact ⟨hv, by omega, c⟩
theorem SKt_put (K : SKt n to co) : SKt (n + 1) (va_up to n False) co := by
  intro v hv ht
  by_cases e : v = n
  · subst e; rw [up_at] at ht; exact absurd ht id
  · rw [up_ne _ _ e] at ht; exact K v (by omega) ht
theorem SKt_cover (K : SKt n to co) {k x1 x2 x3 x4 : Nat} (h1 : x1 ≤ x2) (h3 : x3 ≤ x4) : SKt n (va_up to k True) (va_up (va_up (va_up (va_up co (4 * k) x1) (4 * k + 1) x2) (4 * k + 2) x3) (4 * k + 3) x4) := by
  intro v hv ht
  by_cases e : v = k
  · subst e
    refine ⟨?_, ?_⟩
    · rw [up_ne _ _ (by omega), up_ne _ _ (by omega), up_ne _ _ (by omega), up_at, up_ne _ _ (by omega), up_ne _ _ (by omega), up_at]; exact h1
    · rw [up_ne _ _ (by omega), up_at, up_at]; exact h3
  · rw [up_ne _ _ e] at ht
    have := K v hv ht
    rw [up_ne _ _ (by omega), up_ne _ _ (by omega), up_ne _ _ (by omega), up_ne _ _ (by omega), up_ne _ _ (by omega), up_ne _ _ (by omega), up_ne _ _ (by omega), up_ne _ _ (by omega), up_ne _ _ (by omega), up_ne _ _ (by omega), up_ne _ _ (by omega), up_ne _ _ (by omega), up_ne _ _ (by omega), up_ne _ _ (by omega), up_ne _ _ (by omega), up_ne _ _ (by omega)]
    exact this
theorem cov_cover {k x1 x2 x3 x4 v q : Nat} (e : v ≠ k) (hq : q < 4) : cov re n cl (va_up to k True) (va_up (va_up (va_up (va_up co (4 * k) x1) (4 * k + 1) x2) (4 * k + 2) x3) (4 * k + 3) x4) v q = cov re n cl to co v q := by
  unfold cov
  rw [up_ne _ _ e, up_ne _ _ (by omega), up_ne _ _ (by omega), up_ne _ _ (by omega), up_ne _ _ (by omega)]
theorem SKc_cover {nu : Nat → Int32} {fw : Nat → Nat} (K : SKc th ki va re n cl to co ke nu fw) {k x1 x2 x3 x4 : Nat} (hr : ¬ re k < cl) : SKc th ki va re n cl (va_up to k True) (va_up (va_up (va_up (va_up co (4 * k) x1) (4 * k + 1) x2) (4 * k + 2) x3) (4 * k + 3) x4) ke nu fw := by
  intro v hv hc
  have e : v ≠ k := fun q => hr (q ▸ hc.2)
  obtain ⟨h1, h2⟩ := K v hv hc
  have g : numO th ki va re n cl (va_up to k True) (va_up (va_up (va_up (va_up co (4 * k) x1) (4 * k + 1) x2) (4 * k + 2) x3) (4 * k + 3) x4) v = numO th ki va re n cl to co v := by
    unfold numO nmb nmb nmb
    rw [cov_cover e (by decide), cov_cover e (by decide), cov_cover e (by decide), cov_cover e (by decide)]
  rw [g]
  refine ⟨h1, ?_⟩
  rw [h2]
  unfold flO flE
  rw [g, cov_cover e (by decide), cov_cover e (by decide), cov_cover e (by decide), cov_cover e (by decide)]
end Keep9
