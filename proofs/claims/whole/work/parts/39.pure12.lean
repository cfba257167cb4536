/-! the sheets of both sides, held against each other -/
theorem IM_si {n cl : Nat} {go : Option Nat} {th ki va re si si' co fw : Nat → Nat} (I : IM n cl go th ki va re si co fw) (h : ∀ j, si' j ≤ 60) : IM n cl go th ki va re si' co fw := ⟨I.1, I.2.1, I.2.2.1, I.2.2.2.1, I.2.2.2.2.1, I.2.2.2.2.2.1, I.2.2.2.2.2.2.1, h, I.2.2.2.2.2.2.2.2.1, I.2.2.2.2.2.2.2.2.2⟩
def LR (lo : Nat → Prop) (rfo : Nat → Int32) (fo si : Nat → Nat) (rit : Nat → Int32) (it : Nat → Nat → Int32) : Prop := ∀ s, s ≤ 3 → (lo s ∧ rfo s < 0) ∨ (¬ lo s ∧ rfo s = nI (fo s) ∧ ∀ j, j < si s → rit (60 * s + j) = it s j)
section Sheets9
variable {lo : Nat → Prop} {rfo : Nat → Int32} {fo si : Nat → Nat} {rit : Nat → Int32} {it : Nat → Nat → Int32}
theorem L_nul (L : LR lo rfo fo si rit it) (hf : ∀ j, fo j ≤ 2) {s : Nat} (hs : s ≤ 3) : rfo s < 0 ↔ lo s := by
  rcases L s hs with ⟨a, b⟩ | ⟨a, b, -⟩
  · exact ⟨fun _ => a, fun _ => b⟩
  · exact ⟨fun q => absurd (b ▸ q) (nI_pos (by have := hf s; omega)), fun q => absurd q a⟩
theorem L_fo (L : LR lo rfo fo si rit it) {s : Nat} (hs : s ≤ 3) (h : ¬ lo s) : rfo s = nI (fo s) := by
  rcases L s hs with ⟨a, -⟩ | ⟨-, b, -⟩
  · exact absurd a h
  · exact b
theorem L_it (L : LR lo rfo fo si rit it) {s : Nat} (hs : s ≤ 3) (h : ¬ lo s) {j : Nat} (hj : j < si s) : rit (60 * s + j) = it s j := by
  rcases L s hs with ⟨a, -⟩ | ⟨-, -, b⟩
  · exact absurd a h
  · exact b j hj
theorem up_at {α : Type} (f : Nat → α) (k : Nat) (x : α) : va_up f k x k = x := by unfold va_up; exact if_pos rfl
theorem up_ne {α : Type} (f : Nat → α) {k j : Nat} (x : α) (h : j ≠ k) : va_up f k x j = f j := by unfold va_up; exact if_neg h
theorem L_sheet (L : LR lo rfo fo si rit it) (hsi : ∀ j, si j ≤ 60) {i j k : Nat} (hk : k ≤ 60) : LR (va_up lo i False) (va_up rfo i (nI j)) (va_up fo i j) (va_up si i k) (stI rit (60 * i) (fun _ => nI 0) k) (va_up it i (stG (it i) 0 (nI 0) 60)) := by
  intro s hs
  by_cases e : s = i
  · subst e
    refine Or.inr ⟨by rw [up_at]; exact id, by rw [up_at, up_at], fun jj hjj => ?_⟩
    rw [up_at] at hjj
    rw [up_at, stI_in _ _ _ hjj, stG_at, if_pos (by omega)]
  · rw [up_ne _ _ e, up_ne _ _ e, up_ne _ _ e, up_ne _ _ e]
    refine (L s hs).imp id (fun q => ⟨q.1, q.2.1, fun jj hjj => ?_⟩)
    rw [up_ne _ _ e]
    have := hsi s
    rw [stI_out _ _ _ (by omega)]
    exact q.2.2 jj hjj
theorem L_lose (L : LR lo rfo fo si rit it) {i : Nat} : LR (va_up lo i True) (va_up rfo i (-1)) fo si rit it := by
  intro s hs
  by_cases e : s = i
  · subst e
    exact Or.inl ⟨by rw [up_at]; trivial, by rw [up_at]; decide⟩
  · rw [up_ne _ _ e, up_ne _ _ e]
    exact L s hs
theorem L_lay (L : LR lo rfo fo si rit it) (hsi : ∀ j, si j ≤ 60) {i k : Nat} (hk : k < si i) {v v' : Int32} (hv : v = v') : LR lo rfo fo si (va_up rit (60 * i + k) v) (va_up it i (va_up (it i) k v')) := by
  subst hv
  intro s hs
  refine (L s hs).imp id (fun q => ⟨q.1, q.2.1, fun jj hjj => ?_⟩)
  have h1 := hsi s
  have h2 := hsi i
  by_cases e : s = i
  · subst e
    rw [up_at]
    by_cases e2 : jj = k
    · subst e2; rw [up_at, up_at]
    · rw [up_ne _ _ e2, up_ne _ _ (by omega)]; exact q.2.2 jj hjj
  · rw [up_ne _ _ e, up_ne _ _ (by omega)]
    exact q.2.2 jj hjj
theorem L_st (L : LR lo rfo fo si rit it) (hsi : ∀ j, si j ≤ 60) {y j k : Nat} {g f : Nat → Int32} (hy : j + k ≤ si y) (h1 : ∀ u, u < k → g u = f (j + u)) (h2 : ∀ u, u < j ∨ j + k ≤ u → f u = it y u) : LR lo rfo fo si (stI rit (60 * y + j) g k) (va_up it y f) := by
  intro s hs
  refine (L s hs).imp id (fun q => ⟨q.1, q.2.1, fun jj hjj => ?_⟩)
  have h3 := hsi s
  have h4 := hsi y
  by_cases e : s = y
  · subst e
    rw [up_at]
    by_cases e2 : j ≤ jj ∧ jj < j + k
    · have h5 := h1 (jj - j) (by omega)
      rw [show 60 * s + jj = 60 * s + j + (jj - j) by omega, stI_in _ _ _ (by omega), h5]
      congr 1
      omega
    · rw [stI_out _ _ _ (by omega), h2 jj (by omega)]
      exact q.2.2 jj hjj
  · rw [up_ne _ _ e, stI_out _ _ _ (by omega)]
    exact q.2.2 jj hjj
end Sheets9
theorem okCp_H {sx sy : Nat} (hx : sx ≤ 60) (hy : sy ≤ 60) {i j k : Int32} : okCp sx sy i j k ↔ okH sx i k ∧ okH sy j k := by
  constructor
  · rintro ⟨a, b, c, h1, h2, rfl, rfl, rfl⟩
    exact ⟨⟨a, c, h1, rfl, rfl⟩, ⟨b, c, h2, rfl, rfl⟩⟩
  · rintro ⟨⟨a, c, h1, rfl, rfl⟩, ⟨b, c', h2, rfl, e⟩⟩
    have : c = c' := (nI_eq (by omega) (by omega)).mp e
    subst this
    exact ⟨a, b, c, h1, h2, rfl, rfl, rfl⟩
