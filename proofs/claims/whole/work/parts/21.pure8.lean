/-! the history in closed form: what each step of it makes of the rows -/
theorem cntLt_s (re : Nat → Nat) (r m : Nat) : cntLt re r (m + 1) = cntLt re r m + (if re m < r then 1 else 0) := rfl
theorem lastW_s (th re : Nat → Nat) (go : Option Nat) (t r m : Nat) : lastW th re go t r (m + 1) = if th m = t ∧ re m ≤ r ∧ ¬ go = some m then some m else lastW th re go t r m := rfl
theorem shL_s (th re : Nat → Nat) (go : Option Nat) (t r m : Nat) : shL th re go t r (m + 1) = if th m = t ∧ re m = r ∧ ¬ go = some m then some m else shL th re go t r m := rfl
theorem shI_s (th ki va re : Nat → Nat) (go : Option Nat) (t r i : Nat) : shI th ki va re go t r (i + 1) ↔ (shI th ki va re go t r i ∨ ((th i = t ∧ re i = r ∧ ¬ go = some i) ∧ ∃ v, shL th re go t r i = some v ∧ dif ki va v i)) := Iff.rfl
theorem twL_t {th : Nat → Nat} {go : Option Nat} {lt : Nat → Option Nat} {r lo j : Nat} (h : go = some (lo + j)) (i : Nat) : twL th go lt r lo (j + 1) i = twL th go lt r lo j i := by simp only [twL]; rw [cif_t h]
theorem twL_f {th : Nat → Nat} {go : Option Nat} {lt : Nat → Option Nat} {r lo j : Nat} (h : ¬ go = some (lo + j)) (i : Nat) : twL th go lt r lo (j + 1) i = va_up (twL th go lt r lo j) (r * 16 + th (lo + j)) (some (lo + j)) i := by simp only [twL]; rw [cif_f h]
theorem twS_t {th ki va : Nat → Nat} {go : Option Nat} {lt : Nat → Option Nat} {sh : Nat → Nat} {r lo j : Nat} (h : ¬ go = some (lo + j) ∧ shc ki va (twL th go lt r lo j (r * 16 + th (lo + j))) lo (lo + j)) (i : Nat) : twS th ki va go lt sh r lo (j + 1) i = va_up (twS th ki va go lt sh r lo j) r (twS th ki va go lt sh r lo j r ||| 2 ^ th (lo + j)) i := by simp only [twS]; rw [cif_t h]
theorem twS_f {th ki va : Nat → Nat} {go : Option Nat} {lt : Nat → Option Nat} {sh : Nat → Nat} {r lo j : Nat} (h : ¬ (¬ go = some (lo + j) ∧ shc ki va (twL th go lt r lo j (r * 16 + th (lo + j))) lo (lo + j))) (i : Nat) : twS th ki va go lt sh r lo (j + 1) i = twS th ki va go lt sh r lo j i := by simp only [twS]; rw [cif_f h]
theorem ncR_t {α : Type} {q : Nat → Prop} {g cr : Nat → α} {ch t : Nat} (h : q t) (j : Nat) : ncR q g cr ch (t + 1) j = va_up (ncR q g cr ch t) (ch + cntP q t) (g t) j := by simp only [ncR]; rw [cif_t h]
theorem ncR_f {α : Type} {q : Nat → Prop} {g cr : Nat → α} {ch t : Nat} (h : ¬ q t) (j : Nat) : ncR q g cr ch (t + 1) j = ncR q g cr ch t j := by simp only [ncR]; rw [cif_f h]
theorem cntP_s (q : Nat → Prop) (i : Nat) : cntP q (i + 1) = cntP q i + cif (q i) 1 0 := rfl
theorem cntLt_mono (re : Nat → Nat) (r m k : Nat) : cntLt re r m ≤ cntLt re r (m + k) := by
  induction k with
  | zero => exact Nat.le_refl _
  | succ k ih => rw [← Nat.add_assoc, cntLt_s]; omega
theorem cntLt_full {re : Nat → Nat} {r m : Nat} (h : ∀ v, v < m → re v < r) : cntLt re r m = m := by
  induction m with
  | zero => rfl
  | succ m ih => simp only [cntLt]; rw [ih (fun v hv => h v (by omega)), if_pos (h m (by omega))]
theorem cntLt_stop {re : Nat → Nat} {r m k : Nat} (h : ∀ v, m ≤ v → v < m + k → r ≤ re v) : cntLt re r (m + k) = cntLt re r m := by
  induction k with
  | zero => rfl
  | succ k ih =>
    rw [← Nat.add_assoc, cntLt_s, ih (fun v h1 h2 => h v h1 (by omega)), if_neg (Nat.not_lt.mpr (h (m + k) (by omega) (by omega))), Nat.add_zero]
theorem cntLt_le (re : Nat → Nat) (r m : Nat) : cntLt re r m ≤ m := by have := cnt_le re r m; omega
/-- in sorted writes: of a revision below r just if its place is below their number -/
theorem sorted_lt {re : Nat → Nat} {n : Nat} (hs : ∀ u v, u ≤ v → v < n → re u ≤ re v) {r v : Nat} (hv : v < n) : re v < r ↔ v < cntLt re r n := by
  constructor
  · intro h
    have h1 : cntLt re r (v + 1) = v + 1 := cntLt_full (fun u hu => Nat.lt_of_le_of_lt (hs u v (by omega) hv) h)
    have h2 := cntLt_mono re r (v + 1) (n - (v + 1))
    rw [show v + 1 + (n - (v + 1)) = n by omega] at h2
    omega
  · intro h
    apply Nat.not_le.mp
    intro q
    have h1 : cntLt re r (v + (n - v)) = cntLt re r v := cntLt_stop (fun u hu h2 => Nat.le_trans q (hs v u hu (by omega)))
    rw [show v + (n - v) = n by omega] at h1
    have := cntLt_le re r v
    omega
section Sorted
variable {n cl : Nat} {re fi : Nat → Nat}
theorem S_lt (S : SW n cl re fi) {r v : Nat} (hv : v < n) : re v < r ↔ v < cntLt re r n := sorted_lt S.2.2 hv
theorem S_eq (S : SW n cl re fi) {r v : Nat} (hv : v < n) : re v = r ↔ cntLt re r n ≤ v ∧ v < cntLt re r n + cntEq re r n := by
  have h1 := S_lt S (r := r) hv
  have h2 := S_lt S (r := r + 1) hv
  rw [cntLt_succ] at h2
  omega
/-- writes of later revisions are not looked at -/
theorem lastW_stop {th : Nat → Nat} {go : Option Nat} {t r m : Nat} (k : Nat) (h : ∀ v, m ≤ v → v < m + k → r < re v) : lastW th re go t r (m + k) = lastW th re go t r m := by
  induction k with
  | zero => rfl
  | succ k ih =>
    have := h (m + k) (by omega) (by omega)
    rw [← Nat.add_assoc, lastW_s, if_neg (fun q => by omega)]
    exact ih (fun v h1 h2 => h v h1 (by omega))
theorem lastW_r {th : Nat → Nat} {go : Option Nat} {t r r' m : Nat} (h : ∀ v, v < m → (re v ≤ r ↔ re v ≤ r')) : lastW th re go t r m = lastW th re go t r' m := by
  induction m with
  | zero => rfl
  | succ m ih =>
    simp only [lastW]
    rw [ih (fun v hv => h v (by omega))]
    have e := h m (by omega)
    by_cases q : th m = t ∧ re m ≤ r ∧ ¬ go = some m
    · rw [if_pos q, if_pos ⟨q.1, e.mp q.2.1, q.2.2⟩]
    · rw [if_neg q, if_neg (fun z => q ⟨z.1, e.mpr z.2.1, z.2.2⟩)]
theorem lastW_all (S : SW n cl re fi) {th : Nat → Nat} {go : Option Nat} {t r : Nat} : lastW th re go t r n = lastW th re go t r (cntLt re r n + cntEq re r n) := by
  have hle := cnt_le re r n
  have h := lastW_stop (re := re) (th := th) (go := go) (t := t) (r := r) (m := cntLt re r n + cntEq re r n) (n - (cntLt re r n + cntEq re r n)) (fun v h1 h2 => by
    have hv : v < n := by omega
    have e1 := S_lt S (r := r + 1) hv
    rw [cntLt_succ] at e1
    omega)
  rw [show cntLt re r n + cntEq re r n + (n - (cntLt re r n + cntEq re r n)) = n by omega] at h
  exact h
theorem lastW_prev (S : SW n cl re fi) {th : Nat → Nat} {go : Option Nat} {t r : Nat} (hr : 1 ≤ r) : lastW th re go t (r - 1) n = lastW th re go t r (cntLt re r n) := by
  have e := cntLt_succ re (r - 1) n
  rw [show r - 1 + 1 = r by omega] at e
  rw [lastW_all S, ← e]
  have hle := cntLt_le re r n
  exact lastW_r (fun v hv => by
    have := (S_lt S (r := r) (v := v) (by omega)).mpr hv
    omega)
theorem twL_row (S : SW n cl re fi) {th : Nat → Nat} (hth : ∀ j, th j ≤ 15) {go : Option Nat} {lt : Nat → Option Nat} {r t : Nat} (ht : t < 16) (h0 : lt (r * 16 + t) = lastW th re go t r (cntLt re r n)) : ∀ j, j ≤ cntEq re r n → twL th go lt r (cntLt re r n) j (r * 16 + t) = lastW th re go t r (cntLt re r n + j) := by
  intro j
  induction j with
  | zero => intro _; exact h0
  | succ j ih =>
    intro hj
    have ih := ih (by omega)
    have hle := cnt_le re r n
    have hre : re (cntLt re r n + j) = r := (S_eq S (by omega)).mpr (by omega)
    rw [← Nat.add_assoc, lastW_s]
    by_cases hg : go = some (cntLt re r n + j)
    · rw [twL_t hg, if_neg (fun q => q.2.2 hg)]; exact ih
    · rw [twL_f hg]
      by_cases e : th (cntLt re r n + j) = t
      · rw [if_pos ⟨e, by omega, hg⟩, ← e, va_up_self]
      · rw [if_neg (fun q => e q.1), va_up_ne _ _ (by have := hth (cntLt re r n + j); omega)]; exact ih
theorem twL_out {th : Nat → Nat} (hth : ∀ j, th j ≤ 15) {go : Option Nat} {lt : Nat → Option Nat} {r lo i : Nat} (hi : i < r * 16 ∨ r * 16 + 16 ≤ i) : ∀ j, twL th go lt r lo j i = lt i := by
  intro j
  induction j with
  | zero => rfl
  | succ j ih =>
    by_cases hg : go = some (lo + j)
    · rw [twL_t hg]; exact ih
    · rw [twL_f hg, va_up_ne _ _ (by have := hth (lo + j); omega)]; exact ih
end Sorted
def cLT (th re : Nat → Nat) (go : Option Nat) (n : Nat) (lt : Nat → Option Nat) (r j : Nat) : Option Nat := if j < 16 * r then lastW th re go (j % 16) (j / 16) n else lt j
theorem cLT_row {th re : Nat → Nat} {go : Option Nat} {n : Nat} {lt : Nat → Option Nat} {r r' t : Nat} (h : r' < r) (ht : t < 16) : cLT th re go n lt r (r' * 16 + t) = lastW th re go t r' n := by
  unfold cLT
  rw [if_pos (by omega), show (r' * 16 + t) % 16 = t by omega, show (r' * 16 + t) / 16 = r' by omega]
theorem cLT_lt {th re : Nat → Nat} {go : Option Nat} {n : Nat} {lt : Nat → Option Nat} (hn : n ≤ 40) (hlt : ∀ j v, lt j = some v → v < 40) (r : Nat) : ∀ j v, cLT th re go n lt r j = some v → v < 40 := by
  intro j v
  unfold cLT
  split
  · intro h; have := lastW_lt th re go _ _ n v h; omega
  · exact hlt j v
theorem srL_out {lt : Nat → Option Nat} {r i : Nat} (hi : i < r * 16 ∨ r * 16 + 16 ≤ i) : srL lt r i = lt i := by
  unfold srL
  by_cases h : r = 0
  · rw [if_pos h, stG_at, if_neg (by omega)]
  · rw [if_neg h]; unfold va_cpy; rw [if_neg (by omega)]
theorem LT_step {n cl : Nat} {re fi : Nat → Nat} (S : SW n cl re fi) {th : Nat → Nat} (hth : ∀ j, th j ≤ 15) (go : Option Nat) (lt : Nat → Option Nat) {r : Nat} : twL th go (srL (cLT th re go n lt r) r) r (cntLt re r n) (cntEq re r n) = cLT th re go n lt (r + 1) := by
  funext i
  by_cases hi : i < r * 16 ∨ r * 16 + 16 ≤ i
  · rw [twL_out hth hi, srL_out hi]
    unfold cLT
    by_cases h : i < 16 * r
    · rw [if_pos h, if_pos (by omega)]
    · rw [if_neg h, if_neg (by omega)]
  · obtain ⟨t, ht, rfl⟩ : ∃ t, t < 16 ∧ i = r * 16 + t := ⟨i - r * 16, by omega, by omega⟩
    rw [cLT_row (by omega) ht, lastW_all S]
    refine twL_row S hth ht ?_ _ (Nat.le_refl _)
    unfold srL
    by_cases h : r = 0
    · subst h
      rw [if_pos rfl, stG_at, if_pos (by omega)]
      have : cntLt re 0 n = 0 := by
        have h := cntLt_stop (re := re) (r := 0) (m := 0) (k := n) (fun v _ _ => Nat.zero_le _)
        rw [Nat.zero_add] at h; exact h
      rw [this]; rfl
    · rw [if_neg h]
      unfold va_cpy
      rw [if_pos (by omega), show r * 16 - 16 + (r * 16 + t - r * 16) = (r - 1) * 16 + t by omega, cLT_row (by omega) ht]
      exact lastW_prev S (by omega)
theorem bsm_tb (q : Nat → Prop) (k t : Nat) : (bsm q k).testBit t = true ↔ t < k ∧ q t := by
  induction k with
  | zero => simp [bsm]
  | succ k ih =>
    simp only [bsm]
    by_cases h : q k
    · rw [cif_t h, ← or_pow (bsm_lt q k), Nat.testBit_or, Nat.testBit_two_pow]
      simp only [Bool.or_eq_true, decide_eq_true_eq, ih]
      constructor
      · rintro (⟨a, b⟩ | rfl)
        · exact ⟨by omega, b⟩
        · exact ⟨by omega, h⟩
      · rintro ⟨a, b⟩
        by_cases e : t = k
        · exact Or.inr e.symm
        · exact Or.inl ⟨by omega, b⟩
    · rw [cif_f h, Nat.add_zero, ih]
      constructor
      · rintro ⟨a, b⟩; exact ⟨by omega, b⟩
      · rintro ⟨a, b⟩
        by_cases e : t = k
        · subst e; exact absurd b h
        · exact ⟨by omega, b⟩
theorem bsm_congr {q q' : Nat → Prop} {k : Nat} (h : ∀ t, t < k → (q t ↔ q' t)) : bsm q k = bsm q' k := by
  induction k with
  | zero => rfl
  | succ k ih => simp only [bsm]; rw [ih (fun t ht => h t (by omega)), cif_c (h k (by omega))]
theorem eq_bsm {x : Nat} (hx : x ≤ 65535) {q : Nat → Prop} (h : ∀ t, t < 16 → (x.testBit t = true ↔ q t)) : x = bsm q 16 := by
  apply Nat.eq_of_testBit_eq
  intro t
  by_cases ht : t < 16
  · have h1 := h t ht
    have h2 := bsm_tb q 16 t
    by_cases e : x.testBit t = true
    · rw [e, h2.mpr ⟨ht, h1.mp e⟩]
    · have e2 : ¬ (bsm q 16).testBit t = true := fun z => e (h1.mpr (h2.mp z).2)
      rw [Bool.not_eq_true] at e e2
      rw [e, e2]
  · have p16 : 2 ^ 16 ≤ 2 ^ t := Nat.pow_le_pow_right (by decide) (by omega)
    have := bsm_lt q 16
    rw [Nat.testBit_lt_two_pow (by omega), Nat.testBit_lt_two_pow (by omega)]
section Sorted2
variable {n cl : Nat} {re fi th ki va : Nat → Nat} {go : Option Nat}
theorem shL_lo (S : SW n cl re fi) {t r : Nat} : ∀ i, i ≤ cntLt re r n → shL th re go t r i = none := by
  intro i
  induction i with
  | zero => intro _; rfl
  | succ i ih =>
    intro hi
    have hle := cntLt_le re r n
    have h1 := (S_lt S (r := r) (v := i) (by omega)).mpr (by omega)
    simp only [shL]
    rw [if_neg (fun q => by omega)]
    exact ih (by omega)
theorem shI_lo (S : SW n cl re fi) {t r : Nat} : ∀ i, i ≤ cntLt re r n → ¬ shI th ki va re go t r i := by
  intro i
  induction i with
  | zero => intro _ h; exact h
  | succ i ih =>
    intro hi h
    have hle := cntLt_le re r n
    have h1 := (S_lt S (r := r) (v := i) (by omega)).mpr (by omega)
    rcases h with h | h
    · exact ih (by omega) h
    · omega
theorem last_sh (S : SW n cl re fi) {t r : Nat} : ∀ j, j ≤ cntEq re r n → ∀ u, (lastW th re go t r (cntLt re r n + j) = some u ∧ cntLt re r n ≤ u) ↔ shL th re go t r (cntLt re r n + j) = some u := by
  intro j
  induction j with
  | zero =>
    intro _ u
    rw [Nat.add_zero, shL_lo S _ (Nat.le_refl _)]
    constructor
    · rintro ⟨h1, h2⟩; have := lastW_lt th re go t r _ u h1; omega
    · intro h; cases h
  | succ j ih =>
    intro hj u
    have hle := cnt_le re r n
    have hre : re (cntLt re r n + j) = r := (S_eq S (by omega)).mpr (by omega)
    rw [← Nat.add_assoc, lastW_s, shL_s]
    by_cases q : th (cntLt re r n + j) = t ∧ ¬ go = some (cntLt re r n + j)
    · rw [if_pos ⟨q.1, by omega, q.2⟩, if_pos ⟨q.1, hre, q.2⟩]
      constructor
      · exact fun h => h.1
      · intro h; exact ⟨h, by cases h; omega⟩
    · rw [if_neg (fun z => q ⟨z.1, z.2.2⟩), if_neg (fun z => q ⟨z.1, z.2.2⟩)]
      exact ih (by omega) u
theorem shI_all (S : SW n cl re fi) {t r : Nat} : shI th ki va re go t r n ↔ shI th ki va re go t r (cntLt re r n + cntEq re r n) := by
  have hle := cnt_le re r n
  have h : ∀ k, cntLt re r n + cntEq re r n + k ≤ n → (shI th ki va re go t r (cntLt re r n + cntEq re r n + k) ↔ shI th ki va re go t r (cntLt re r n + cntEq re r n)) := by
    intro k
    induction k with
    | zero => intro _; exact Iff.rfl
    | succ k ih =>
      intro hk
      have e1 := S_eq S (r := r) (v := cntLt re r n + cntEq re r n + k) (by omega)
      rw [← Nat.add_assoc, shI_s]
      constructor
      · rintro (q | q)
        · exact (ih (by omega)).mp q
        · omega
      · intro q; exact Or.inl ((ih (by omega)).mpr q)
  have := h (n - (cntLt re r n + cntEq re r n)) (by omega)
  rw [show cntLt re r n + cntEq re r n + (n - (cntLt re r n + cntEq re r n)) = n by omega] at this
  exact this
theorem twS_row (S : SW n cl re fi) (hth : ∀ j, th j ≤ 15) {lt : Nat → Option Nat} {sh : Nat → Nat} {r : Nat} (h0 : ∀ t, t < 16 → lt (r * 16 + t) = lastW th re go t r (cntLt re r n)) (hs : sh r = 0) : ∀ j, j ≤ cntEq re r n → ∀ t, t < 16 → ((twS th ki va go lt sh r (cntLt re r n) j r).testBit t = true ↔ shI th ki va re go t r (cntLt re r n + j)) := by
  intro j
  induction j with
  | zero =>
    intro _ t _
    show (sh r).testBit t = true ↔ _
    rw [hs]
    constructor
    · intro h; simp at h
    · intro h; exact absurd h (shI_lo S _ (Nat.le_refl _))
  | succ j ih =>
    intro hj t ht
    have ih := ih (by omega) t ht
    have hle := cnt_le re r n
    have hre : re (cntLt re r n + j) = r := (S_eq S (by omega)).mpr (by omega)
    have hrow := twL_row S hth (go := go) (t := th (cntLt re r n + j)) (by have := hth (cntLt re r n + j); omega) (h0 _ (by have := hth (cntLt re r n + j); omega)) j (by omega)
    rw [← Nat.add_assoc, shI_s]
    by_cases q : ¬ go = some (cntLt re r n + j) ∧ shc ki va (twL th go lt r (cntLt re r n) j (r * 16 + th (cntLt re r n + j))) (cntLt re r n) (cntLt re r n + j)
    · rw [twS_t q, va_up_self, Nat.testBit_or, Nat.testBit_two_pow]
      simp only [Bool.or_eq_true, decide_eq_true_eq, ih]
      constructor
      · rintro (a | rfl)
        · exact Or.inl a
        · obtain ⟨u, e, f, d⟩ := q.2
          rw [hrow] at e
          exact Or.inr ⟨⟨rfl, hre, q.1⟩, u, (last_sh S j (by omega) u).mp ⟨e, f⟩, d⟩
      · rintro (a | ⟨a, _⟩)
        · exact Or.inl a
        · exact Or.inr a.1
    · rw [twS_f q, ih]
      constructor
      · exact Or.inl
      · rintro (a | ⟨a, u, e, d⟩)
        · exact a
        · obtain ⟨a1, -, a3⟩ := a
          subst a1
          have := (last_sh S j (by omega) u).mpr e
          exact absurd ⟨a3, u, by rw [hrow]; exact this.1, this.2, d⟩ q
theorem twS_out {lt : Nat → Option Nat} {sh : Nat → Nat} {r lo i : Nat} (hi : i ≠ r) : ∀ j, twS th ki va go lt sh r lo j i = sh i := by
  intro j
  induction j with
  | zero => rfl
  | succ j ih =>
    by_cases q : ¬ go = some (lo + j) ∧ shc ki va (twL th go lt r lo j (r * 16 + th (lo + j))) lo (lo + j)
    · rw [twS_t q, va_up_ne _ _ hi]; exact ih
    · rw [twS_f q]; exact ih
end Sorted2
noncomputable def cSH (th ki va re : Nat → Nat) (go : Option Nat) (n : Nat) (sh : Nat → Nat) (r j : Nat) : Nat := if j < r then bsm (fun t => shad th ki va re go n t j) 16 else sh j
theorem cSH_le {th ki va re : Nat → Nat} {go : Option Nat} {n : Nat} {sh : Nat → Nat} (hsh : ∀ j, sh j ≤ 65535) (r : Nat) : ∀ j, cSH th ki va re go n sh r j ≤ 65535 := by
  intro j
  unfold cSH
  split
  · have := bsm_lt (fun t => shad th ki va re go n t j) 16; omega
  · exact hsh j
theorem srL_row {n cl : Nat} {re fi th : Nat → Nat} {go : Option Nat} (S : SW n cl re fi) (lt : Nat → Option Nat) {r t : Nat} (ht : t < 16) : srL (cLT th re go n lt r) r (r * 16 + t) = lastW th re go t r (cntLt re r n) := by
  unfold srL
  by_cases h : r = 0
  · subst h
    rw [if_pos rfl, stG_at, if_pos (by omega)]
    have : cntLt re 0 n = 0 := by
      have h := cntLt_stop (re := re) (r := 0) (m := 0) (k := n) (fun v _ _ => Nat.zero_le _)
      rw [Nat.zero_add] at h; exact h
    rw [this]; rfl
  · rw [if_neg h]
    unfold va_cpy
    rw [if_pos (by omega), show r * 16 - 16 + (r * 16 + t - r * 16) = (r - 1) * 16 + t by omega, cLT_row (by omega) ht]
    exact lastW_prev S (by omega)
theorem SH_step {n cl : Nat} {re fi : Nat → Nat} (S : SW n cl re fi) {th : Nat → Nat} (hth : ∀ j, th j ≤ 15) (ki va : Nat → Nat) (go : Option Nat) (lt : Nat → Option Nat) {sh : Nat → Nat} (hsh : ∀ j, sh j ≤ 65535) {r : Nat} : twS th ki va go (srL (cLT th re go n lt r) r) (va_up (cSH th ki va re go n sh r) r 0) r (cntLt re r n) (cntEq re r n) = cSH th ki va re go n sh (r + 1) := by
  funext i
  by_cases hi : i = r
  · subst hi
    have hb := twS_le (ki := ki) (va := va) (go := go) (lt := srL (cLT th re go n lt i) i) hth (up_le (k := i) (x := 0) (cSH_le (th := th) (ki := ki) (va := va) (re := re) (go := go) (n := n) hsh i) (by omega)) i (cntLt re i n) (cntEq re i n) i
    have h := eq_bsm hb (q := fun t => shad th ki va re go n t i) (fun t ht => (twS_row S hth (fun t ht => srL_row S lt ht) (va_up_self _ _ _) _ (Nat.le_refl _) t ht).trans (shI_all S).symm)
    rw [h]
    unfold cSH
    rw [if_pos (by omega)]
  · rw [twS_out hi, va_up_ne _ _ hi]
    unfold cSH
    by_cases h : i < r
    · rw [if_pos h, if_pos (by omega)]
    · rw [if_neg h, if_neg (by omega)]
noncomputable def cTR (th ki re : Nat → Nat) (go : Option Nat) (n : Nat) (tr : Nat → Nat) (r j : Nat) : Nat := if j < r then bsm (fun t => ¬ lastT th ki re go t j n = none) 16 else tr j
theorem cTR_le {th ki re : Nat → Nat} {go : Option Nat} {n : Nat} {tr : Nat → Nat} (htr : ∀ j, tr j ≤ 65535) (r : Nat) : ∀ j, cTR th ki re go n tr r j ≤ 65535 := by
  intro j
  unfold cTR
  split
  · have := bsm_lt (fun t => ¬ lastT th ki re go t j n = none) 16; omega
  · exact htr j
theorem TR_step {th ki re : Nat → Nat} {go : Option Nat} {n : Nat} (lt : Nat → Option Nat) (tr : Nat → Nat) {r : Nat} : va_up (cTR th ki re go n tr r) r (bsm (fun t => kOr ki (cLT th re go n lt (r + 1) (r * 16 + t)) ≠ 5) 16) = cTR th ki re go n tr (r + 1) := by
  funext i
  by_cases hi : i = r
  · subst hi
    rw [va_up_self]
    unfold cTR
    rw [if_pos (by omega)]
    exact bsm_congr (fun t ht => by rw [cLT_row (by omega) ht, kOr_5]; exact Iff.rfl)
  · rw [va_up_ne _ _ hi]
    unfold cTR
    by_cases h : i < r
    · rw [if_pos h, if_pos (by omega)]
    · rw [if_neg h, if_neg (by omega)]
theorem cTR_tb {th ki re : Nat → Nat} {go : Option Nat} {n : Nat} {lt : Nat → Option Nat} {tr : Nat → Nat} {r r' t : Nat} (h : r' < r) (ht : t < 16) : (cTR th ki re go n tr r r').testBit t = true ↔ kOr ki (cLT th re go n lt r (r' * 16 + t)) ≠ 5 := by
  unfold cTR
  rw [if_pos h, bsm_tb, cLT_row h ht, kOr_5]
  exact ⟨fun q => q.2, fun q => ⟨ht, q⟩⟩
/-- a change: a place 16 r + t -/
def chg (th ki va re : Nat → Nat) (go : Option Nat) (n i : Nat) : Prop := 16 ≤ i ∧ (shad th ki va re go n (i % 16) (i / 16) ∨ othO ki va (lastT th ki re go (i % 16) (i / 16 - 1) n) (lastT th ki re go (i % 16) (i / 16) n))
theorem cntP_add (q : Nat → Prop) (m k : Nat) : cntP q (m + k) = cntP q m + cntP (fun j => q (m + j)) k := by
  induction k with
  | zero => rfl
  | succ k ih => rw [← Nat.add_assoc, cntP_s, cntP_s, ih]; omega
theorem cntP_none {q : Nat → Prop} {k : Nat} (h : ∀ j, j < k → ¬ q j) : cntP q k = 0 := by
  induction k with
  | zero => rfl
  | succ k ih => rw [cntP_s, ih (fun j hj => h j (by omega)), cif_f (h k (by omega))]
theorem cntP_mono (q : Nat → Prop) {m k : Nat} (h : m ≤ k) : cntP q m ≤ cntP q k := by
  rw [show k = m + (k - m) by omega, cntP_add]; omega
theorem cntP_lt {q : Nat → Prop} {m k : Nat} (h : m < k) (hq : q m) : cntP q m < cntP q k := by
  have h1 := cntP_t (q := q) hq
  have h2 := cntP_mono q (m := m + 1) (k := k) (by omega)
  omega
theorem cntP_inj {q : Nat → Prop} {m k : Nat} (h1 : q m) (h2 : q k) (e : cntP q m = cntP q k) : m = k := by
  rcases Nat.lt_trichotomy m k with h | h | h
  · have := cntP_lt h h1; omega
  · exact h
  · have := cntP_lt h h2; omega
theorem cntP_ex {q : Nat → Prop} {m k : Nat} (h : k < cntP q m) : ∃ u, u < m ∧ q u ∧ cntP q u = k := by
  induction m with
  | zero => exact absurd h (Nat.not_lt_zero k)
  | succ m ih =>
    by_cases hq : q m
    · have h1 := cntP_t (q := q) hq
      by_cases e : k = cntP q m
      · exact ⟨m, by omega, hq, e.symm⟩
      · obtain ⟨u, a, b, c⟩ := ih (by omega); exact ⟨u, by omega, b, c⟩
    · have h1 := cntP_f' (q := q) hq
      obtain ⟨u, a, b, c⟩ := ih (by omega); exact ⟨u, by omega, b, c⟩
/-- the k-th place of a kind -/
noncomputable def nth (q : Nat → Prop) (k : Nat) : Nat := (fnd (fun i => q i ∧ cntP q i = k) 128 0).getD 0
theorem nth_at {q : Nat → Prop} {i : Nat} (hi : i < 128) (hq : q i) : nth q (cntP q i) = i := by
  unfold nth
  cases h : fnd (fun j => q j ∧ cntP q j = cntP q i) 128 0 with
  | none => exact absurd ⟨hq, rfl⟩ (fnd_none h i (by omega) (by omega))
  | some j => obtain ⟨⟨a, b⟩, -⟩ := fnd_spec h; exact cntP_inj a hq b
theorem ncR_in {α : Type} {q : Nat → Prop} {g cr : Nat → α} {ch : Nat} {u : Nat} (hq : q u) : ∀ t, u < t → ncR q g cr ch t (ch + cntP q u) = g u := by
  intro t
  induction t with
  | zero => intro h; omega
  | succ t ih =>
    intro h
    by_cases e : u = t
    · subst e; rw [ncR_t hq, va_up_self]
    · have h1 := cntP_lt (q := q) (m := u) (k := t) (by omega) hq
      by_cases ht : q t
      · rw [ncR_t ht, va_up_ne _ _ (by omega)]; exact ih (by omega)
      · rw [ncR_f ht]; exact ih (by omega)
theorem ncR_out {α : Type} {q : Nat → Prop} {g cr : Nat → α} {ch j : Nat} : ∀ t, (j < ch ∨ ch + cntP q t ≤ j) → ncR q g cr ch t j = cr j := by
  intro t
  induction t with
  | zero => intro _; rfl
  | succ t ih =>
    intro h
    have hm := cntP_mono q (m := t) (k := t + 1) (by omega)
    by_cases ht : q t
    · have h1 := cntP_t (q := q) ht
      rw [ncR_t ht, va_up_ne _ _ (by omega)]; exact ih (by omega)
    · rw [ncR_f ht]; exact ih (by omega)
noncomputable def cCH (th ki va re : Nat → Nat) (go : Option Nat) (n r : Nat) : Nat := cntP (chg th ki va re go n) (16 * r)
noncomputable def cCR (th ki va re : Nat → Nat) (go : Option Nat) (n : Nat) (cr : Nat → Nat) (r j : Nat) : Nat := if j < cCH th ki va re go n r then nth (chg th ki va re go n) j / 16 else cr j
noncomputable def cCT (th ki va re : Nat → Nat) (go : Option Nat) (n : Nat) (ct : Nat → Nat) (r j : Nat) : Nat := if j < cCH th ki va re go n r then nth (chg th ki va re go n) j % 16 else ct j
noncomputable def cCU (th ki va re : Nat → Nat) (go : Option Nat) (n : Nat) (cu : Nat → Nat) (r j : Nat) : Nat := if j < r then cCH th ki va re go n (j + 1) else cu j
theorem cCH_le (th ki va re : Nat → Nat) (go : Option Nat) (n r : Nat) : cCH th ki va re go n r ≤ 16 * r := cntP_le _ _
theorem cCH_1 (th ki va re : Nat → Nat) (go : Option Nat) (n : Nat) : cCH th ki va re go n 1 = 0 := cntP_none (fun j hj q => by have := q.1; omega)
theorem cCH_le' (th ki va re : Nat → Nat) (go : Option Nat) (n r : Nat) (hr : 1 ≤ r) : cCH th ki va re go n r + 16 ≤ 16 * r := by
  unfold cCH
  rw [show 16 * r = 16 * 1 + (16 * r - 16) by omega, cntP_add]
  have h1 := cCH_1 th ki va re go n
  unfold cCH at h1
  rw [h1]
  have := cntP_le (fun j => chg th ki va re go n (16 * 1 + j)) (16 * r - 16)
  omega
section Note
variable {th ki va re : Nat → Nat} {go : Option Nat} {n : Nat}
theorem NP_iff (lt : Nat → Option Nat) (sh : Nat → Nat) {r t : Nat} (hr : 1 ≤ r) (ht : t < 16) : ((cSH th ki va re go n sh (r + 1) r).testBit t = true ∨ othO ki va (nonG ki (cLT th re go n lt (r + 1) ((r - 1) * 16 + t))) (nonG ki (cLT th re go n lt (r + 1) (r * 16 + t)))) ↔ chg th ki va re go n (16 * r + t) := by
  unfold chg
  rw [cLT_row (by omega) ht, cLT_row (by omega) ht, show (16 * r + t) % 16 = t by omega, show (16 * r + t) / 16 = r by omega]
  unfold cSH
  rw [if_pos (by omega), bsm_tb]
  constructor
  · rintro (a | a)
    · exact ⟨by omega, Or.inl a.2⟩
    · exact ⟨by omega, Or.inr a⟩
  · rintro ⟨-, a | a⟩
    · exact Or.inl ⟨ht, a⟩
    · exact Or.inr a
theorem CH_step (lt : Nat → Option Nat) (sh : Nat → Nat) {r : Nat} (hr : 1 ≤ r) : cCH th ki va re go n r + cntP (fun t => (cSH th ki va re go n sh (r + 1) r).testBit t = true ∨ othO ki va (nonG ki (cLT th re go n lt (r + 1) ((r - 1) * 16 + t))) (nonG ki (cLT th re go n lt (r + 1) (r * 16 + t)))) 16 = cCH th ki va re go n (r + 1) := by
  unfold cCH
  rw [show 16 * (r + 1) = 16 * r + 16 by omega, cntP_add, cntP_congr (fun t ht => NP_iff lt sh hr ht)]
theorem nc_step {α : Type} {q : Nat → Prop} {r : Nat} (hr7 : r ≤ 7) (hq : ∀ t, t < 16 → (q t ↔ chg th ki va re go n (16 * r + t))) (hs : cCH th ki va re go n r + cntP q 16 = cCH th ki va re go n (r + 1)) (g : Nat → α) (f : Nat → α) (cr : Nat → α) (hg : ∀ u, u < 16 → g u = f (16 * r + u)) (j : Nat) : ncR q g (fun j => if j < cCH th ki va re go n r then f (nth (chg th ki va re go n) j) else cr j) (cCH th ki va re go n r) 16 j = if j < cCH th ki va re go n (r + 1) then f (nth (chg th ki va re go n) j) else cr j := by
  by_cases h1 : j < cCH th ki va re go n r
  · rw [ncR_out 16 (Or.inl h1), if_pos h1, if_pos (by omega)]
  · by_cases h2 : j < cCH th ki va re go n (r + 1)
    · obtain ⟨u, hu, hqu, hc⟩ := cntP_ex (m := 16) (k := j - cCH th ki va re go n r) (q := q) (by omega)
      have hin := ncR_in (g := g) (cr := fun j => if j < cCH th ki va re go n r then f (nth (chg th ki va re go n) j) else cr j) (ch := cCH th ki va re go n r) hqu 16 hu
      rw [hc, show cCH th ki va re go n r + (j - cCH th ki va re go n r) = j by omega] at hin
      rw [hin, if_pos h2, hg u hu]
      have e : cntP (chg th ki va re go n) (16 * r + u) = j := by
        rw [cntP_add, ← cntP_congr (fun t ht => hq t (Nat.lt_trans ht hu)), hc]
        show cCH th ki va re go n r + _ = j
        omega
      rw [← e, nth_at (by omega) ((hq u hu).mp hqu)]
    · rw [ncR_out 16 (Or.inr (by omega)), if_neg h1, if_neg h2]
theorem CR_step (lt : Nat → Option Nat) (sh cr : Nat → Nat) {r : Nat} (hr : 1 ≤ r) (hr7 : r ≤ 7) : ncR (fun t => (cSH th ki va re go n sh (r + 1) r).testBit t = true ∨ othO ki va (nonG ki (cLT th re go n lt (r + 1) ((r - 1) * 16 + t))) (nonG ki (cLT th re go n lt (r + 1) (r * 16 + t)))) (fun _ => r) (cCR th ki va re go n cr r) (cCH th ki va re go n r) 16 = cCR th ki va re go n cr (r + 1) := by
  funext j
  exact nc_step hr7 (fun t ht => NP_iff lt sh hr ht) (CH_step lt sh hr) (fun _ => r) (fun i => i / 16) cr (fun u hu => by omega) j
theorem CT_step (lt : Nat → Option Nat) (sh ct : Nat → Nat) {r : Nat} (hr : 1 ≤ r) (hr7 : r ≤ 7) : ncR (fun t => (cSH th ki va re go n sh (r + 1) r).testBit t = true ∨ othO ki va (nonG ki (cLT th re go n lt (r + 1) ((r - 1) * 16 + t))) (nonG ki (cLT th re go n lt (r + 1) (r * 16 + t)))) (fun t => t) (cCT th ki va re go n ct r) (cCH th ki va re go n r) 16 = cCT th ki va re go n ct (r + 1) := by
  funext j
  exact nc_step hr7 (fun t ht => NP_iff lt sh hr ht) (CH_step lt sh hr) (fun t => t) (fun i => i % 16) ct (fun u hu => by omega) j
theorem CR_0 (cr : Nat → Nat) : cCR th ki va re go n cr 0 = cCR th ki va re go n cr 1 := by
  have h0 : cCH th ki va re go n 0 = 0 := rfl
  funext j; unfold cCR; rw [cCH_1, h0, if_neg (Nat.not_lt_zero j)]
theorem CT_0 (ct : Nat → Nat) : cCT th ki va re go n ct 0 = cCT th ki va re go n ct 1 := by
  have h0 : cCH th ki va re go n 0 = 0 := rfl
  funext j; unfold cCT; rw [cCH_1, h0, if_neg (Nat.not_lt_zero j)]
theorem CU_step (cu : Nat → Nat) {r : Nat} : va_up (cCU th ki va re go n cu r) r (cCH th ki va re go n (r + 1)) = cCU th ki va re go n cu (r + 1) := by
  funext i
  by_cases hi : i = r
  · subst hi; rw [va_up_self]; unfold cCU; rw [if_pos (by omega)]
  · rw [va_up_ne _ _ hi]
    unfold cCU
    by_cases h : i < r
    · rw [if_pos h, if_pos (by omega)]
    · rw [if_neg h, if_neg (by omega)]
theorem cCR_le {cr : Nat → Nat} (hcr : ∀ j, cr j ≤ 7) (r : Nat) : ∀ j, cCR th ki va re go n cr r j ≤ 7 := by
  intro j
  unfold cCR
  split
  · unfold nth
    cases h : fnd (fun i => chg th ki va re go n i ∧ cntP (chg th ki va re go n) i = j) 128 0 with
    | none => simp
    | some i => obtain ⟨-, -, h3, -⟩ := fnd_spec h; show i / 16 ≤ 7; omega
  · exact hcr j
theorem cCT_le {ct : Nat → Nat} (hct : ∀ j, ct j ≤ 15) (r : Nat) : ∀ j, cCT th ki va re go n ct r j ≤ 15 := by
  intro j
  unfold cCT
  split
  · omega
  · exact hct j
theorem cCU_le {cu : Nat → Nat} (hcu : ∀ j, cu j ≤ 128) {r : Nat} (hr : r ≤ 8) : ∀ j, cCU th ki va re go n cu r j ≤ 128 := by
  intro j
  unfold cCU
  split
  · have := cCH_le th ki va re go n (j + 1); omega
  · exact hcu j
/-- the k-th change is a place that changes -/
theorem nth_chg {r k : Nat} (hr : r ≤ 8) (hk : k < cCH th ki va re go n r) : chg th ki va re go n (nth (chg th ki va re go n) k) ∧ nth (chg th ki va re go n) k < 16 * r ∧ cntP (chg th ki va re go n) (nth (chg th ki va re go n) k) = k := by
  obtain ⟨u, a, b, c⟩ := cntP_ex hk
  rw [← c, nth_at (by omega) b]
  exact ⟨b, a, rfl⟩
end Note
theorem mapk {ki : Nat → Nat} (o : Option Nat) (k : Nat) (hk : k ≠ 5) : (nonG ki o).map ki = some k ↔ kOr ki o = k := by
  cases o with
  | none => simp only [nonG, kOr]; constructor
            · intro h; cases h
            · intro h; exact absurd h.symm hk
  | some v =>
    simp only [nonG, kOr]
    by_cases h : ki v = 5
    · rw [if_pos h]; constructor
      · intro q; cases q
      · intro q; omega
    · rw [if_neg h]; simp
theorem mapn {ki : Nat → Nat} (o : Option Nat) : (nonG ki o).map ki = none ↔ kOr ki o = 5 := by
  cases o with
  | none => simp [nonG, kOr]
  | some v =>
    simp only [nonG, kOr]
    by_cases h : ki v = 5
    · rw [if_pos h]; simp [h]
    · rw [if_neg h]; simp [h]
theorem nn_iff {ki : Nat → Nat} (o : Option Nat) : isNN ((nonG ki o).map ki) ↔ (kOr ki o = 2 ∨ kOr ki o = 5) := by
  unfold isNN
  rw [mapn, mapk o 2 (by decide)]
  exact or_comm
theorem vO_nonG {ki va : Nat → Nat} {o : Option Nat} (h : kOr ki o ≠ 5) : vO va (nonG ki o) = vO va o := by
  cases o with
  | none => rfl
  | some v => simp only [nonG]; rw [if_neg (show ¬ ki v = 5 from h)]
theorem and_zero {x y : Nat} : x &&& y = 0 ↔ ∀ u, x.testBit u = true → ¬ y.testBit u = true := by
  constructor
  · intro h u hx hy
    have : (x &&& y).testBit u = true := by rw [Nat.testBit_and, hx, hy]; rfl
    rw [h] at this
    simp at this
  · intro h
    apply Nat.eq_of_testBit_eq
    intro u
    rw [Nat.testBit_and, Nat.zero_testBit]
    by_cases hx : x.testBit u = true
    · have := h u hx
      rw [Bool.not_eq_true] at this
      rw [this, Bool.and_false]
    · rw [Bool.not_eq_true] at hx
      rw [hx, Bool.false_and]
/-- the class's sort of a change is the reference's -/
theorem srC_srt {th ki va re : Nat → Nat} {go : Option Nat} {n t r z trz : Nat} (hva : ∀ j, va j ≤ 65535) (htz : ∀ u, trz.testBit u = true ↔ u < 16 ∧ ¬ lastT th ki re go u z n = none) (ht : t < 16)
    (hc : shad th ki va re go n t r ∨ othO ki va (lastT th ki re go t (r - 1) n) (lastT th ki re go t r n)) :
    srC ki va (shad th ki va re go n t r) (trz.testBit t = true) trz (lastW th re go t (r - 1) n) (lastW th re go t r n) = srt th ki va re go n t r z := by
  unfold srC srt
  by_cases hs : shad th ki va re go n t r
  · rw [cif_t hs, cif_t hs]
  · rw [cif_f hs, cif_f hs]
    have ho := hc.resolve_left hs
    unfold sr2
    unfold othO at ho
    rw [cif_f ho]
    unfold lastT
    generalize lastW th re go t (r - 1) n = x
    generalize lastW th re go t r n = y
    rw [mapk x 1 (by decide), mapk y 1 (by decide), mapn x, mapk y 4 (by decide)]
    by_cases hf : (kOr ki x = 1 ∧ kOr ki y = 1) ∨ (kOr ki x = 5 ∧ kOr ki y = 4)
    · rw [cif_t hf, cif_t hf]
    · rw [cif_f hf, cif_f hf, nn_iff, nn_iff, mapk x 3 (by decide), mapk y 3 (by decide)]
      have hth : ¬ trz.testBit t = true ↔ nonG ki (lastW th re go t z n) = none := by
        rw [htz]
        constructor
        · intro q; exact Classical.not_not.mp fun e => q ⟨ht, e⟩
        · rintro q ⟨-, e⟩; exact e q
      by_cases hn : ((kOr ki x = 2 ∨ kOr ki x = 5) ∧ (kOr ki y = 2 ∨ kOr ki y = 5)) ∧ ¬ trz.testBit t = true
      · rw [cif_t hn, cif_t (Or.inl ⟨hn.1.1, hn.1.2, hth.mp hn.2⟩)]
      · rw [cif_f hn]
        by_cases hl : kOr ki x = 3 ∧ kOr ki y = 3
        · have e1 : vO va (nonG ki x) = vO va x := vO_nonG (by omega)
          have e2 : vO va (nonG ki y) = vO va y := vO_nonG (by omega)
          rw [e1, e2]
          have hx16 : ∀ u, (vO va x ^^^ vO va y).testBit u = true → u < 16 := by
            intro u hu
            apply Nat.not_le.mp
            intro q
            have b : ∀ o, vO va o ≤ 65535 := fun o => by
              cases o with
              | none => exact Nat.zero_le _
              | some v => exact hva v
            have h1 := xor_lt (b x) (b y)
            have p16 : 2 ^ 16 ≤ 2 ^ u := Nat.pow_le_pow_right (by decide) q
            rw [Nat.testBit_lt_two_pow (by omega)] at hu
            cases hu
          have hfr : (vO va x ^^^ vO va y) &&& trz = 0 ↔ frE th ki re go n (vO va x) (vO va y) z 16 := by
            rw [and_zero]
            unfold frE
            constructor
            · intro h u hu hb
              have := h u hb
              rw [htz] at this
              exact Classical.not_not.mp fun e => this ⟨hu, e⟩
            · intro h u hb hz
              rw [htz] at hz
              exact hz.2 (h u hz.1 hb)
          by_cases hz : (vO va x ^^^ vO va y) &&& trz = 0
          · rw [cif_t ⟨hl, hz⟩, cif_t (Or.inr ⟨hl.1, hl.2, hfr.mp hz⟩)]
          · rw [cif_f (fun q => hz q.2), cif_f]
            rintro (q | q)
            · exact hn ⟨⟨q.1, q.2.1⟩, hth.mpr q.2.2⟩
            · exact hz (hfr.mpr q.2.2)
        · rw [cif_f (fun q => hl q.1), cif_f]
          rintro (q | q)
          · exact hn ⟨⟨q.1, q.2.1⟩, hth.mpr q.2.2⟩
          · exact hl ⟨q.1, q.2.1⟩
/-- no change: sort 0; a change: above -/
theorem srt_pos {th ki va re : Nat → Nat} {go : Option Nat} {n t r z : Nat} : 1 ≤ srt th ki va re go n t r z ↔ (shad th ki va re go n t r ∨ othO ki va (lastT th ki re go t (r - 1) n) (lastT th ki re go t r n)) := by
  unfold srt
  by_cases hs : shad th ki va re go n t r
  · rw [cif_t hs]; exact ⟨fun _ => Or.inl hs, fun _ => by omega⟩
  · rw [cif_f hs]
    unfold sr2
    by_cases h0 : othO ki va (lastT th ki re go t (r - 1) n) (lastT th ki re go t r n)
    · have h1 := h0
      unfold othO at h1
      rw [cif_f h1]
      refine ⟨fun _ => Or.inr h0, fun _ => ?_⟩
      by_cases a : (Option.map ki (lastT th ki re go t (r - 1) n) = some 1 ∧ Option.map ki (lastT th ki re go t r n) = some 1) ∨ (Option.map ki (lastT th ki re go t (r - 1) n) = none ∧ Option.map ki (lastT th ki re go t r n) = some 4)
      · rw [cif_t a]; omega
      · rw [cif_f a]
        generalize ((isNN (Option.map ki (lastT th ki re go t (r - 1) n)) ∧ isNN (Option.map ki (lastT th ki re go t r n)) ∧ lastT th ki re go t z n = none) ∨ (Option.map ki (lastT th ki re go t (r - 1) n) = some 3 ∧ Option.map ki (lastT th ki re go t r n) = some 3 ∧ frE th ki re go n (vO va (lastT th ki re go t (r - 1) n)) (vO va (lastT th ki re go t r n)) z 16)) = b
        by_cases hb : b
        · rw [cif_t hb]; omega
        · rw [cif_f hb]; omega
    · have h1 := Classical.not_not.mp h0
      rw [cif_t h1]
      exact ⟨fun h => by omega, fun h => absurd (h.resolve_left hs) h0⟩
theorem mxP_enum {q : Nat → Prop} {f g : Nat → Nat} {D : Nat} (h0 : ∀ j, j < D → ¬ q j → f j = 0) (hg : ∀ j, j < D → q j → g (cntP q j) = f j) : mxP g (cntP q D) = mxP f D := by
  induction D with
  | zero => rfl
  | succ D ih =>
    have ih := ih (fun j hj => h0 j (by omega)) (fun j hj => hg j (by omega))
    by_cases hq : q D
    · rw [← cntP_t hq]; show max (g (cntP q D)) (mxP g (cntP q D)) = max (f D) (mxP f D); rw [ih, hg D (by omega) hq]
    · rw [← cntP_f' hq, ih]; show _ = max (f D) (mxP f D); rw [h0 D (by omega) hq]; omega
theorem cnt_enum {q : Nat → Prop} {f g : Nat → Nat} {D : Nat} (h0 : ∀ j, j < D → ¬ q j → f j = 0) (hg : ∀ j, j < D → q j → g (cntP q j) = f j) (hf : ∀ j, f j ≤ 3) : cntP (fun k => g k = 3) (cntP q D) = cntP (fun j => 3 ≤ f j) D := by
  induction D with
  | zero => rfl
  | succ D ih =>
    have ih := ih (fun j hj => h0 j (by omega)) (fun j hj => hg j (by omega))
    have hD := hf D
    by_cases hq : q D
    · rw [← cntP_t hq, cntP_s, cntP_s, ih]
      have e := hg D (by omega) hq
      by_cases h3 : g (cntP q D) = 3
      · rw [cif_t (q := g (cntP q D) = 3) h3, cif_t (q := 3 ≤ f D) (by omega)]
      · rw [cif_f (q := g (cntP q D) = 3) h3, cif_f (q := 3 ≤ f D) (by omega)]
    · rw [← cntP_f' hq, ih, cntP_s, cif_f (q := 3 ≤ f D) (by have := h0 D (by omega) hq; omega), Nat.add_zero]
