/-! the class's own pictures: sorted writes, bytes, covers -/
def IW (n cl : Nat) (th ki va re fi : Nat → Nat) : Prop := n ≤ 40 ∧ cl ≤ 7 ∧ (∀ j, th j ≤ 15) ∧ (∀ j, ki j ≤ 5) ∧ (∀ j, va j ≤ 65535) ∧ (∀ j, re j ≤ 7) ∧ (∀ j, fi j ≤ 40)
/-- the writes stand by their revisions, and 'fi' tells where each begins -/
def SW (n cl : Nat) (re fi : Nat → Nat) : Prop := (∀ r, r ≤ cl → fi r = cntLt re r n) ∧ (∀ v, v < n → re v ≤ cl) ∧ (∀ u v, u ≤ v → v < n → re u ≤ re v)
theorem cntLt_succ (re : Nat → Nat) (r n : Nat) : cntLt re (r + 1) n = cntLt re r n + cntEq re r n := by
  induction n with
  | zero => rfl
  | succ n ih => simp only [cntLt, cntEq]; rw [ih]; split <;> split <;> split <;> omega
theorem cnt_all {re : Nat → Nat} {cl n : Nat} (h : ∀ v, v < n → re v ≤ cl) : cntLt re cl n + cntEq re cl n = n := by
  induction n with
  | zero => rfl
  | succ n ih =>
    have h1 := ih (fun v hv => h v (by omega))
    have h2 := h n (by omega)
    simp only [cntLt, cntEq]; split <;> split <;> omega
theorem SW_beh {n cl : Nat} {re fi : Nat → Nat} (S : SW n cl re fi) {r : Nat} (h : r < cl) : fi (r + 1) = cntLt re r n + cntEq re r n := by rw [S.1 (r + 1) h, cntLt_succ]
theorem SW_n {n cl : Nat} {re fi : Nat → Nat} (S : SW n cl re fi) : n = cntLt re cl n + cntEq re cl n := (cnt_all S.2.1).symm
def kOr (ki : Nat → Nat) (o : Option Nat) : Nat := match o with
  | none => 5
  | some v => ki v
theorem kOr_le {ki : Nat → Nat} (h : ∀ j, ki j ≤ 5) (o : Option Nat) : kOr ki o ≤ 5 := by
  cases o with
  | none => exact Nat.le_refl 5
  | some v => exact h v
theorem has_iff {m : Nat} (hm : m < 2 ^ 31) {x : Int32} (h1 : ¬ x < 0) (h2 : ¬ nI m ≤ x) : okW m x := by
  obtain ⟨j, hj, rfl⟩ := nI_of h1
  exact ⟨j, Nat.not_le.mp fun q => h2 (nI_le q hj), rfl⟩
theorem has_lt {m : Nat} {x : Int32} (hm : m < 2 ^ 31) (h : x < 0) : ¬ okW m x := by
  rintro ⟨k, hk, rfl⟩
  exact nI_pos (by omega) h
theorem has_ge {m : Nat} {x : Int32} (hm : m < 2 ^ 31) (h : nI m ≤ x) : ¬ okW m x := by
  rintro ⟨k, hk, rfl⟩
  have := (nI_leI hm (by omega)).mp h
  omega
theorem hr_iff {m : Nat} (hm : m < 2 ^ 31) {x : Int32} (h1 : ¬ x < 0) (h2 : ¬ nI m < x) : okR m x := by
  obtain ⟨j, hj, rfl⟩ := nI_of h1
  exact ⟨j, Nat.not_lt.mp fun q => h2 ((nI_ltI hm hj).mpr q), rfl⟩
theorem hr_lt {m : Nat} {x : Int32} (hm : m < 2 ^ 31) (h : x < 0) : ¬ okR m x := by
  rintro ⟨k, hk, rfl⟩
  exact nI_pos (by omega) h
theorem hr_gt {m : Nat} {x : Int32} (hm : m < 2 ^ 31) (h : nI m < x) : ¬ okR m x := by
  rintro ⟨k, hk, rfl⟩
  have := (nI_ltI hm (by omega)).mp h
  omega
def nmC (bt : Nat → Nat) (bs : Nat) (f : Nat → Nat) : Int32 := numS (fun i => nI (bt i)) (numS (fun i => nI (bt i)) (nI 7) (f 0) (min (f 1) bs - f 0)) (f 2) (min (f 3) bs - f 2)
noncomputable def rkN (cs : Nat → Prop) (g : Nat → Int32) (nu : Nat → Int32) : Nat → Nat → Int32
  | 0 => nu
  | i + 1 => cif (cs i) (va_up (rkN cs g nu i) i (g i)) (rkN cs g nu i)
noncomputable def rkF (cs : Nat → Prop) (g : Nat → Nat) (fw : Nat → Nat) : Nat → Nat → Nat
  | 0 => fw
  | i + 1 => cif (cs i) (va_up (rkF cs g fw i) i (g i)) (rkF cs g fw i)
theorem rkN_in {cs : Nat → Prop} {g nu : Nat → Int32} {d j : Nat} (h : j < d) (hc : cs j) : rkN cs g nu d j = g j := by
  induction d with
  | zero => omega
  | succ d ih =>
    simp only [rkN]
    by_cases e : j = d
    · subst e; rw [cif_t hc]; exact va_up_self _ _ _
    · by_cases hd : cs d
      · rw [cif_t hd, va_up_ne _ _ e]; exact ih (by omega)
      · rw [cif_f hd]; exact ih (by omega)
theorem rkF_in {cs : Nat → Prop} {g fw : Nat → Nat} {d j : Nat} (h : j < d) (hc : cs j) : rkF cs g fw d j = g j := by
  induction d with
  | zero => omega
  | succ d ih =>
    simp only [rkF]
    by_cases e : j = d
    · subst e; rw [cif_t hc]; exact va_up_self _ _ _
    · by_cases hd : cs d
      · rw [cif_t hd, va_up_ne _ _ e]; exact ih (by omega)
      · rw [cif_f hd]; exact ih (by omega)
theorem rkF_le {cs : Nat → Prop} {g fw : Nat → Nat} {z : Nat} (hg : ∀ j, g j ≤ z) (hf : ∀ j, fw j ≤ z) (d : Nat) : ∀ j, rkF cs g fw d j ≤ z := by
  induction d with
  | zero => exact hf
  | succ d ih =>
    intro j
    simp only [rkF]
    by_cases hd : cs d
    · rw [cif_t hd]; exact up_le ih (hg d) j
    · rw [cif_f hd]; exact ih j
noncomputable def kqR (cs : Nat → Prop) (g : Nat → Int32) (ke : Nat → Int32) (lo : Nat) : Nat → Nat → Int32
  | 0 => ke
  | j + 1 => cif (cs (lo + j)) (va_up (kqR cs g ke lo j) (lo + j) (g (lo + j))) (kqR cs g ke lo j)
theorem kqR_at (cs : Nat → Prop) (g ke : Nat → Int32) (lo d x : Nat) : kqR cs g ke lo d x = cif (lo ≤ x ∧ x < lo + d ∧ cs x) (g x) (ke x) := by
  induction d with
  | zero => rw [cif_f (fun h => by omega)]; rfl
  | succ d ih =>
    simp only [kqR]
    by_cases hc : cs (lo + d)
    · rw [cif_t hc]
      by_cases e : x = lo + d
      · subst e; rw [va_up_self, cif_t ⟨by omega, by omega, hc⟩]
      · rw [va_up_ne _ _ e, ih]
        exact cif_c ⟨fun h => ⟨h.1, by omega, h.2.2⟩, fun h => ⟨h.1, by omega, h.2.2⟩⟩
    · rw [cif_f hc, ih]
      exact cif_c ⟨fun h => ⟨h.1, by omega, h.2.2⟩, fun h => ⟨h.1, by
        have h2 := h.2.1
        by_cases e : x = lo + d
        · subst e; exact absurd h.2.2 hc
        · omega, h.2.2⟩⟩
theorem or8 {x : Nat} (h : x ≤ 7) : nI x ||| nI 8 = nI (x + 8) := by
  have : ∀ x, x < 8 → nI x ||| nI 8 = nI (x + 8) := by decide +kernel
  exact this x (by omega)
theorem or0 {x : Nat} (h : x ≤ 7) : nI x ||| nI 0 = nI (x + 0) := by
  have : ∀ x, x < 8 → nI x ||| nI 0 = nI (x + 0) := by decide +kernel
  exact this x (by omega)
theorem usl0 (re : Nat → Nat) (n cl v : Nat) : usl re n cl v 0 = 0 := rfl
theorem or2_t {q q' : Prop} (h : q') : nI (cif q 1 0) ||| nI 2 = nI (cif q 1 0 + cif q' 2 0) := by
  have := c2_or q q'
  rw [cif_t (q := q') h] at this ⊢
  exact this
theorem or2_f {q q' : Prop} (h : ¬ q') : nI (cif q 1 0) = nI (cif q 1 0 + cif q' 2 0) := by rw [cif_f (q := q') h]; rfl
theorem or4_t {q q' q'' : Prop} (h : q'') : nI (cif q 1 0 + cif q' 2 0) ||| nI 4 = nI (cif q 1 0 + cif q' 2 0 + cif q'' 4 0) := by
  have := c4_or q q' q''
  rw [cif_t (q := q'') h] at this ⊢
  exact this
theorem or4_f {q q' q'' : Prop} (h : ¬ q'') : nI (cif q 1 0 + cif q' 2 0) = nI (cif q 1 0 + cif q' 2 0 + cif q'' 4 0) := by rw [cif_f (q := q'') h]; rfl
