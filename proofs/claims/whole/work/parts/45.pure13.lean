/-! the bytes, by where each write and each closing lies -/
theorem cntLt_all {re : Nat → Nat} {r : Nat} : ∀ {n : Nat}, (∀ v, v < n → re v < r) → cntLt re r n = n
  | 0, _ => rfl
  | n + 1, h => by
    show cntLt re r n + (if re n < r then 1 else 0) = n + 1
    rw [if_pos (h n (Nat.lt_succ_self n)), cntLt_all (fun v hv => h v (Nat.lt_succ_of_lt hv))]
theorem cntLe9 (re : Nat → Nat) (r n : Nat) : cntLt re r n ≤ n := by have := cnt_le re r n; omega
theorem srt_lt {re : Nat → Nat} {r : Nat} : ∀ {n : Nat}, (∀ u v, u ≤ v → v < n → re u ≤ re v) → ∀ {w : Nat}, w < n → (re w < r ↔ w < cntLt re r n)
  | 0, _, w, hw => absurd hw (Nat.not_lt_zero w)
  | n + 1, h, w, hw => by
    show re w < r ↔ w < cntLt re r n + (if re n < r then 1 else 0)
    have ih := @srt_lt re r n (fun u v a b => h u v a (Nat.lt_succ_of_lt b))
    by_cases e : w = n
    · subst e
      by_cases q : re w < r
      · rw [if_pos q, cntLt_all (fun v hv => Nat.lt_of_le_of_lt (h v w (Nat.le_of_lt hv) (Nat.lt_succ_self w)) q)]
        exact ⟨fun _ => Nat.lt_succ_self w, fun _ => q⟩
      · rw [if_neg q]
        have := cntLe9 re r w
        exact ⟨fun a => absurd a q, fun a => by omega⟩
    · have hw2 : w < n := by omega
      by_cases q : re n < r
      · have := h w n (by omega) (Nat.lt_succ_self n)
        have h3 := (ih hw2).mp (by omega)
        rw [if_pos q]
        exact ⟨fun _ => by omega, fun _ => by omega⟩
      · rw [if_neg q]
        exact ih hw2
theorem begB_succ (re : Nat → Nat) (n r : Nat) : begB re n (r + 1) = begB re n r + 5 * cntEq re r n + 2 := by
  unfold begB
  rw [cntLt_succ]
  omega
theorem begB_mono (re : Nat → Nat) (n : Nat) {r r' : Nat} (h : r ≤ r') : begB re n r ≤ begB re n r' := by
  induction h with
  | refl => exact Nat.le_refl _
  | step _ ih => exact Nat.le_trans ih (by rw [begB_succ]; omega)
theorem cntLt_0 (re : Nat → Nat) : ∀ n, cntLt re 0 n = 0
  | 0 => rfl
  | n + 1 => by
    show cntLt re 0 n + (if re n < 0 then 1 else 0) = 0
    rw [if_neg (Nat.not_lt_zero _), cntLt_0 re n]
section Bytes9
variable {th ki va re fi : Nat → Nat} {n cl : Nat}
theorem byte_w (S : SW n cl re fi) {w q : Nat} (hw : w < n) (hq : q < 5) : byteA th ki va re n cl (5 * w + 2 * re w + q) = some (byteO th ki va w q) := by
  have hl : re w ≤ cl := S.2.1 w hw
  have h1 : cntLt re (re w) n ≤ w := Nat.not_lt.mp (fun a => Nat.lt_irrefl _ ((srt_lt S.2.2 hw).mpr a))
  have h2 : w < cntLt re (re w) n + cntEq re (re w) n := by rw [← cntLt_succ]; exact (srt_lt S.2.2 hw).mp (Nat.lt_succ_self _)
  have hb : begB re n (re w) = 5 * cntLt re (re w) n + 2 * re w := rfl
  have key : ∀ d r, r + d = cl + 1 → r ≤ re w → byteF th ki va re n cl (5 * w + 2 * re w + q) d r = some (byteO th ki va w q) := by
    intro d
    induction d with
    | zero => intro r hr hle; omega
    | succ d ih =>
      intro r hr hle
      by_cases e : r = re w
      · rw [e, byteF_a (by omega) (by omega)]
        have e1 : 5 * w + 2 * re w + q - begB re n (re w) = 5 * (w - cntLt re (re w) n) + q := by omega
        rw [e1, show (5 * (w - cntLt re (re w) n) + q) / 5 = w - cntLt re (re w) n by omega, show (5 * (w - cntLt re (re w) n) + q) % 5 = q by omega, show cntLt re (re w) n + (w - cntLt re (re w) n) = w by omega]
      · have hm := begB_mono re n (show r + 1 ≤ re w by omega)
        rw [begB_succ] at hm
        rw [byteF_c (by omega) (by omega)]
        exact ih (r + 1) (by omega) (by omega)
  exact key (cl + 1) 0 (by omega) (Nat.zero_le _)
theorem byte_c {r e : Nat} (hr : r < cl) (he : e < 2) : byteA th ki va re n cl (5 * cntLt re (r + 1) n + 2 * r + e) = some (if e = 0 then 0 else r) := by
  have hb : begB re n r = 5 * cntLt re r n + 2 * r := rfl
  have hs := cntLt_succ re r n
  have key : ∀ d r', r' + d = cl + 1 → r' ≤ r → byteF th ki va re n cl (5 * cntLt re (r + 1) n + 2 * r + e) d r' = some (if e = 0 then 0 else r) := by
    intro d
    induction d with
    | zero => intro r' h1 h2; omega
    | succ d ih =>
      intro r' h1 h2
      by_cases e1 : r' = r
      · rw [e1, byteF_b (by omega) hr (by omega) (by omega)]
        by_cases e2 : e = 0
        · rw [if_pos (by omega), if_pos e2]
        · rw [if_neg (by omega), if_neg e2]
      · have hm := begB_mono re n (show r' + 1 ≤ r by omega)
        rw [begB_succ] at hm
        rw [byteF_c (by omega) (by omega)]
        exact ih (r' + 1) (by omega) (by omega)
  exact key (cl + 1) 0 (by omega) (Nat.zero_le _)
/-- the bytes, where they lie -/
def SB (th ki va re : Nat → Nat) (n cl : Nat) (bt : Nat → Nat) : Prop := (∀ w q, w < n → q < 5 → bt (5 * w + 2 * re w + q) = byteO th ki va w q) ∧ ∀ r, r < cl → bt (5 * cntLt re (r + 1) n + 2 * r) = 0 ∧ bt (5 * cntLt re (r + 1) n + 2 * r + 1) = r
theorem SB_of {bt : Nat → Nat} {bs : Nat} (S : SW n cl re fi) (K : SKb th ki va re n cl bt bs) : SB th ki va re n cl bt := by
  refine ⟨fun w q hw hq => ?_, fun r hr => ?_⟩
  · have h1 := S.2.1 w hw
    have h2 := K.2 (5 * w + 2 * re w + q) (by omega)
    rw [byte_w S hw hq] at h2
    exact (Option.some.inj h2).symm
  · have h1 := cntLe9 re (r + 1) n
    have h2 := K.2 (5 * cntLt re (r + 1) n + 2 * r + 0) (by omega)
    have h3 := K.2 (5 * cntLt re (r + 1) n + 2 * r + 1) (by omega)
    rw [byte_c hr (by omega)] at h2 h3
    exact ⟨(Option.some.inj h2).symm, (Option.some.inj h3).symm⟩
theorem SKb_of {bt : Nat → Nat} {bs : Nat} (S : SW n cl re fi) (hb : bs = 5 * n + 2 * cl) (B : SB th ki va re n cl bt) : SKb th ki va re n cl bt bs := by
  refine ⟨hb, fun i hi => ?_⟩
  have hall := cnt_all S.2.1
  have hcl : cntLt re (cl + 1) n = n := cntLt_all (fun v hv => Nat.lt_succ_of_le (S.2.1 v hv))
  have key : ∀ d r, r + d = cl + 1 → begB re n r ≤ i → byteF th ki va re n cl i d r = some (bt i) := by
    intro d
    induction d with
    | zero =>
      intro r hr h1
      have : r = cl + 1 := by omega
      subst this
      unfold begB at h1
      omega
    | succ d ih =>
      intro r hr h1
      have hb0 : begB re n r = 5 * cntLt re r n + 2 * r := rfl
      have hs := cntLt_succ re r n
      have hle := cntLe9 re (r + 1) n
      by_cases a : i < begB re n r + 5 * cntEq re r n
      · rw [byteF_a h1 a]
        have hd : (i - begB re n r) / 5 < cntEq re r n := by omega
        have hw : cntLt re r n + (i - begB re n r) / 5 < n := by omega
        have g1 : re (cntLt re r n + (i - begB re n r) / 5) < r + 1 := (srt_lt S.2.2 hw).mpr (by omega)
        have g2 : ¬ re (cntLt re r n + (i - begB re n r) / 5) < r := fun q => by have := (srt_lt S.2.2 hw).mp q; omega
        have g3 : re (cntLt re r n + (i - begB re n r) / 5) = r := by omega
        have h2 := B.1 _ ((i - begB re n r) % 5) hw (Nat.mod_lt _ (by decide))
        rw [g3] at h2
        rw [← h2]
        congr 2
        omega
      · by_cases b : r < cl ∧ begB re n r + 5 * cntEq re r n ≤ i ∧ i < begB re n r + 5 * cntEq re r n + 2
        · rw [byteF_b (by omega) b.1 b.2.1 b.2.2]
          obtain ⟨h2, h3⟩ := B.2 r b.1
          by_cases e : i = begB re n r + 5 * cntEq re r n
          · rw [if_pos e, ← h2]
            congr 2
            omega
          · rw [if_neg e]
            have e2 : i = 5 * cntLt re (r + 1) n + 2 * r + 1 := by omega
            rw [e2, h3]
        · rw [byteF_c (by omega) b]
          by_cases hc : r < cl
          · exact ih (r + 1) (by omega) (by rw [begB_succ]; omega)
          · exfalso
            have : r = cl := by omega
            subst this
            omega
  exact key (cl + 1) 0 (by omega) (by show 5 * cntLt re 0 n + 2 * 0 ≤ i; have := cntLt_0 re n; omega)
end Bytes9
