/-! more of them: truths counted, bits summed, the first of a kind; shadows, covers, numbers, sorts of changes -/
noncomputable def cif {α : Type} (q : Prop) (x y : α) : α := @ite α q (Classical.propDecidable q) x y
theorem cif_t {α : Type} {q : Prop} (h : q) {x y : α} : cif q x y = x := by unfold cif; exact if_pos h
theorem cif_f {α : Type} {q : Prop} (h : ¬ q) {x y : α} : cif q x y = y := by unfold cif; exact if_neg h
theorem cif_c {α : Type} {q q' : Prop} (h : q ↔ q') {x y : α} : cif q x y = cif q' x y := by rw [propext h]
theorem cif_le {q : Prop} {x y z : Nat} (hx : x ≤ z) (hy : y ≤ z) : cif q x y ≤ z := by
  by_cases h : q
  · rw [cif_t h]; exact hx
  · rw [cif_f h]; exact hy
noncomputable def cntP (q : Nat → Prop) : Nat → Nat
  | 0 => 0
  | i + 1 => cntP q i + cif (q i) 1 0
theorem cntP_t {q : Nat → Prop} {i : Nat} (h : q i) : cntP q i + 1 = cntP q (i + 1) := by simp only [cntP, cif_t h]
theorem cntP_f {q : Nat → Prop} {i : Nat} (h : ¬ q i) : cntP q i + 0 = cntP q (i + 1) := by simp only [cntP, cif_f h]
theorem cntP_f' {q : Nat → Prop} {i : Nat} (h : ¬ q i) : cntP q i = cntP q (i + 1) := by simp only [cntP, cif_f h, Nat.add_zero]
theorem cntP_le (q : Nat → Prop) (i : Nat) : cntP q i ≤ i := by
  induction i with
  | zero => exact Nat.le_refl 0
  | succ i ih => simp only [cntP]; have := cif_le (q := q i) (x := 1) (y := 0) (z := 1) (by omega) (by omega); omega
noncomputable def bsm (q : Nat → Prop) : Nat → Nat
  | 0 => 0
  | t + 1 => bsm q t + cif (q t) (2 ^ t) 0
theorem bsm_lt (q : Nat → Prop) (t : Nat) : bsm q t < 2 ^ t := by
  induction t with
  | zero => simp [bsm]
  | succ t ih => simp only [bsm, Nat.pow_succ]; have := cif_le (q := q t) (x := 2 ^ t) (y := 0) (z := 2 ^ t) (by omega) (by omega); omega
theorem one_shl {t : Nat} (h : t < 16) : nI 1 <<< (nI t &&& 31) = nI (2 ^ t) := by
  have : ∀ t, t < 16 → nI 1 <<< (nI t &&& 31) = nI (2 ^ t) := by decide +kernel
  exact this t h
theorem nI_or {x y : Nat} (hx : x < 2 ^ 31) (hy : y < 2 ^ 31) : nI x ||| nI y = nI (x ||| y) := by
  have h := Nat.or_lt_two_pow hx hy
  rw [← Int32.toBitVec_inj]
  apply BitVec.eq_of_toNat_eq
  rw [Int32.toBitVec_or, BitVec.toNat_or, pk_tn (by omega), pk_tn (by omega), pk_tn (by omega)]
theorem or_pow {x t : Nat} (hx : x < 2 ^ t) : x ||| 2 ^ t = x + 2 ^ t := by
  have := Nat.two_pow_add_eq_or_of_lt hx 1
  rw [Nat.mul_one] at this
  rw [Nat.or_comm, Nat.add_comm]
  exact this.symm
theorem bsm_t {q : Nat → Prop} {t : Nat} (ht : t < 16) (h : q t) : nI (bsm q t) ||| nI (2 ^ t) = nI (bsm q (t + 1)) := by
  have h1 := bsm_lt q t
  have h2 : 2 ^ t < 2 ^ 16 := Nat.pow_lt_pow_right (by decide) ht
  rw [nI_or (by omega) (by omega), or_pow h1]
  simp only [bsm, cif_t h]
theorem bsm_f {q : Nat → Prop} {t : Nat} (ht : t < 16) (h : ¬ q t) : nI (bsm q t) ||| nI 0 = nI (bsm q (t + 1)) := by
  have h1 := bsm_lt q t
  have h2 : 2 ^ t < 2 ^ 16 := Nat.pow_lt_pow_right (by decide) ht
  rw [nI_or (by omega) (by omega), Nat.or_zero]
  simp only [bsm, cif_f h, Nat.add_zero]
/-- the first number from j on, within d, of which q holds -/
noncomputable def fnd (q : Nat → Prop) : Nat → Nat → Option Nat
  | 0, _ => none
  | d + 1, j => cif (q j) (some j) (fnd q d (j + 1))
theorem fnd_t {q : Nat → Prop} {d j : Nat} (h : q j) : fnd q (d + 1) j = some j := by simp only [fnd, cif_t h]
theorem fnd_f {q : Nat → Prop} {d j : Nat} (h : ¬ q j) : fnd q (d + 1) j = fnd q d (j + 1) := by simp only [fnd, cif_f h]
theorem fnd_spec {q : Nat → Prop} : ∀ {d j k : Nat}, fnd q d j = some k → q k ∧ j ≤ k ∧ k < j + d ∧ ∀ i, j ≤ i → i < k → ¬ q i
  | 0, _, _, h => by cases h
  | d + 1, j, k, h => by
    by_cases hq : q j
    · rw [fnd_t hq] at h; cases h; exact ⟨hq, Nat.le_refl _, by omega, fun i h1 h2 => by omega⟩
    · rw [fnd_f hq] at h
      obtain ⟨a1, a2, a3, a4⟩ := fnd_spec h
      exact ⟨a1, by omega, by omega, fun i h1 h2 => by
        by_cases e : i = j
        · rw [e]; exact hq
        · exact a4 i (by omega) h2⟩
theorem fnd_none {q : Nat → Prop} : ∀ {d j : Nat}, fnd q d j = none → ∀ i, j ≤ i → i < j + d → ¬ q i
  | 0, _, _, i, h1, h2 => by omega
  | d + 1, j, h, i, h1, h2 => by
    by_cases hq : q j
    · rw [fnd_t hq] at h; cases h
    · rw [fnd_f hq] at h
      by_cases e : i = j
      · rw [e]; exact hq
      · exact fnd_none h i (by omega) (by omega)
/-- the greatest of the first -/
def mxP (f : Nat → Nat) : Nat → Nat
  | 0 => 0
  | j + 1 => max (f j) (mxP f j)
theorem mxP_le {f : Nat → Nat} {z : Nat} (h : ∀ j, f j ≤ z) (j : Nat) : mxP f j ≤ z := by
  induction j with
  | zero => exact Nat.zero_le _
  | succ j ih => simp only [mxP]; have := h j; omega
def shL (th re : Nat → Nat) (go : Option Nat) (t r : Nat) : Nat → Option Nat
  | 0 => none
  | i + 1 => if th i = t ∧ re i = r ∧ ¬ go = some i then some i else shL th re go t r i
def dif (ki va : Nat → Nat) (v w : Nat) : Prop := ki v ≠ ki w ∨ va v ≠ va w
def shI (th ki va re : Nat → Nat) (go : Option Nat) (t r : Nat) : Nat → Prop
  | 0 => False
  | i + 1 => shI th ki va re go t r i ∨ ((th i = t ∧ re i = r ∧ ¬ go = some i) ∧ ∃ v, shL th re go t r i = some v ∧ dif ki va v i)
theorem shL_lt (th re : Nat → Nat) (go : Option Nat) (t r n : Nat) : ∀ w, shL th re go t r n = some w → w < n := by
  induction n with
  | zero => intro w h; cases h
  | succ n ih =>
    intro w h
    simp only [shL] at h
    split at h
    · cases h; omega
    · have := ih w h; omega
theorem shL_t {th re : Nat → Nat} {go : Option Nat} {t r i : Nat} (h1 : th i = t) (h2 : re i = r) (h3 : ¬ go = some i) : some i = shL th re go t r (i + 1) := by simp [shL, h1, h2, h3]
theorem shL_f1 {th re : Nat → Nat} {go : Option Nat} {t r i : Nat} (h1 : th i ≠ t) : shL th re go t r i = shL th re go t r (i + 1) := by simp [shL, h1]
theorem shL_f2 {th re : Nat → Nat} {go : Option Nat} {t r i : Nat} (h1 : re i ≠ r) : shL th re go t r i = shL th re go t r (i + 1) := by simp [shL, h1]
theorem shL_f3 {th re : Nat → Nat} {go : Option Nat} {t r i : Nat} (h1 : go = some i) : shL th re go t r i = shL th re go t r (i + 1) := by simp [shL, h1]
theorem shI_f1 {th ki va re : Nat → Nat} {go : Option Nat} {t r i : Nat} (h1 : th i ≠ t) : bI (shI th ki va re go t r i) = bI (shI th ki va re go t r (i + 1)) := bI_iff ⟨Or.inl, fun h => h.elim id (fun q => absurd q.1.1 h1)⟩
theorem shI_f2 {th ki va re : Nat → Nat} {go : Option Nat} {t r i : Nat} (h1 : re i ≠ r) : bI (shI th ki va re go t r i) = bI (shI th ki va re go t r (i + 1)) := bI_iff ⟨Or.inl, fun h => h.elim id (fun q => absurd q.1.2.1 h1)⟩
theorem shI_f3 {th ki va re : Nat → Nat} {go : Option Nat} {t r i : Nat} (h1 : go = some i) : bI (shI th ki va re go t r i) = bI (shI th ki va re go t r (i + 1)) := bI_iff ⟨Or.inl, fun h => h.elim id (fun q => absurd h1 q.1.2.2)⟩
theorem shI_a {th ki va re : Nat → Nat} {go : Option Nat} {t r i : Nat} (h : shI th ki va re go t r i) : nI 1 = bI (shI th ki va re go t r (i + 1)) := b1 (Or.inl h)
theorem shI_b {th ki va re : Nat → Nat} {go : Option Nat} {t r i v : Nat} (h1 : th i = t) (h2 : re i = r) (h3 : ¬ go = some i) (hv : shL th re go t r i = some v) (h : dif ki va v i) : nI 1 = bI (shI th ki va re go t r (i + 1)) := b1 (Or.inr ⟨⟨h1, h2, h3⟩, v, hv, h⟩)
theorem shI_c {th ki va re : Nat → Nat} {go : Option Nat} {t r i : Nat} (h : ¬ shI th ki va re go t r i) (hv : shL th re go t r i = none) : nI 0 = bI (shI th ki va re go t r (i + 1)) := b0 (fun q => q.elim h (fun ⟨_, v, e, _⟩ => by rw [hv] at e; cases e))
theorem shI_d {th ki va re : Nat → Nat} {go : Option Nat} {t r i v : Nat} (h : ¬ shI th ki va re go t r i) (hv : shL th re go t r i = some v) (h1 : ki v = ki i) (h2 : va v = va i) : nI 0 = bI (shI th ki va re go t r (i + 1)) := b0 (fun q => q.elim h (fun ⟨_, v', e, d⟩ => by rw [hv] at e; cases e; exact d.elim (fun f => f h1) (fun f => f h2)))
def shad (th ki va re : Nat → Nat) (go : Option Nat) (n t r : Nat) : Prop := shI th ki va re go t r n
def usl (re : Nat → Nat) (n cl w q : Nat) : Nat := if q = 0 then 0 else if q = 1 then 5 * w + 2 * re w else if q = 2 then 5 * w + 2 * re w + 5 else endB re n cl (re w)
noncomputable def cov (re : Nat → Nat) (n cl : Nat) (to : Nat → Prop) (co : Nat → Nat) (w q : Nat) : Nat := cif (to w) (co (4 * w + q)) (usl re n cl w q)
theorem usl_le (re : Nat → Nat) (n cl : Nat) (hn : n ≤ 40) (hre : ∀ j, re j ≤ 7) (w : Nat) (hw : w < 40) (q : Nat) : usl re n cl w q ≤ 400 := by
  have h1 := cnt_le re (re w) n
  have h2 := hre w
  unfold usl endB begB
  repeat' split
  all_goals omega
theorem cov_le (re : Nat → Nat) (n cl : Nat) (to : Nat → Prop) (co : Nat → Nat) (hn : n ≤ 40) (hre : ∀ j, re j ≤ 7) (hco : ∀ j, co j ≤ 400) (w : Nat) (hw : w < 40) (q : Nat) : cov re n cl to co w q ≤ 400 := cif_le (hco _) (usl_le re n cl hn hre w hw q)
noncomputable def cvS (re : Nat → Nat) (n cl : Nat) (to : Nat → Prop) (co : Nat → Nat) (w : Nat) : Nat → Int32
  | 0 => nI 0
  | k + 1 => cvS re n cl to co w k + (nI (min (cov re n cl to co w (2 * k + 1)) (5 * n + 2 * cl)) - nI (min (cov re n cl to co w (2 * k)) (5 * n + 2 * cl)))
def numS (f : Nat → Int32) (h : Int32) (lo : Nat) : Nat → Int32
  | 0 => h
  | d + 1 => nI 31 * numS f h lo d + f (lo + d)
noncomputable def nmb (f : Nat → Int32) (re : Nat → Nat) (n cl : Nat) (to : Nat → Prop) (co : Nat → Nat) (w : Nat) : Nat → Int32
  | 0 => nI 7
  | k + 1 => numS f (nmb f re n cl to co w k) (cov re n cl to co w (2 * k)) (min (cov re n cl to co w (2 * k + 1)) (5 * n + 2 * cl) - cov re n cl to co w (2 * k))
noncomputable def numO (th ki va re : Nat → Nat) (n cl : Nat) (to : Nat → Prop) (co : Nat → Nat) (w : Nat) : Int32 := nmb (fun i => oI (byteA th ki va re n cl i)) re n cl to co w 2
noncomputable def flE (re : Nat → Nat) (n cl : Nat) (to : Nat → Prop) (co : Nat → Nat) (w : Nat) : Nat := cif (0 < cov re n cl to co w 0) 1 0 + cif (cov re n cl to co w 1 ≠ usl re n cl w 1 ∨ cov re n cl to co w 2 ≠ usl re n cl w 2) 2 0 + cif (cov re n cl to co w 3 ≠ usl re n cl w 3) 4 0
noncomputable def flO (th ki va re : Nat → Nat) (n cl : Nat) (to : Nat → Prop) (co : Nat → Nat) (ke : Nat → Int32) (w : Nat) : Nat := flE re n cl to co w + cif (numO th ki va re n cl to co w ≠ ke w) 8 0
theorem c2_or (q q' : Prop) : nI (cif q 1 0) ||| nI (cif q' 2 0) = nI (cif q 1 0 + cif q' 2 0) := by
  by_cases h : q <;> by_cases h' : q' <;> simp only [cif_t, cif_f, h, h', not_true, not_false_iff] <;> decide
theorem c4_or (q q' q'' : Prop) : nI (cif q 1 0 + cif q' 2 0) ||| nI (cif q'' 4 0) = nI (cif q 1 0 + cif q' 2 0 + cif q'' 4 0) := by
  by_cases h : q <;> by_cases h' : q' <;> by_cases h'' : q'' <;> simp only [cif_t, cif_f, h, h', h'', not_true, not_false_iff] <;> decide
theorem c8_or (q q' q'' q3 : Prop) : nI (cif q 1 0 + cif q' 2 0 + cif q'' 4 0) ||| nI (cif q3 8 0) = nI (cif q 1 0 + cif q' 2 0 + cif q'' 4 0 + cif q3 8 0) := by
  by_cases h : q <;> by_cases h' : q' <;> by_cases h'' : q'' <;> by_cases h3 : q3 <;> simp only [cif_t, cif_f, h, h', h'', h3, not_true, not_false_iff] <;> decide
theorem flE_le (re : Nat → Nat) (n cl : Nat) (to : Nat → Prop) (co : Nat → Nat) (w : Nat) : flE re n cl to co w ≤ 7 := by
  unfold flE
  have h1 := cif_le (q := 0 < cov re n cl to co w 0) (x := 1) (y := 0) (z := 1) (by omega) (by omega)
  have h2 := cif_le (q := cov re n cl to co w 1 ≠ usl re n cl w 1 ∨ cov re n cl to co w 2 ≠ usl re n cl w 2) (x := 2) (y := 0) (z := 2) (by omega) (by omega)
  have h3 := cif_le (q := cov re n cl to co w 3 ≠ usl re n cl w 3) (x := 4) (y := 0) (z := 4) (by omega) (by omega)
  omega
theorem flO_le (th ki va re : Nat → Nat) (n cl : Nat) (to : Nat → Prop) (co : Nat → Nat) (ke : Nat → Int32) (w : Nat) : flO th ki va re n cl to co ke w ≤ 15 := by
  unfold flO
  have h1 := flE_le re n cl to co w
  have h2 := cif_le (q := numO th ki va re n cl to co w ≠ ke w) (x := 8) (y := 0) (z := 8) (by omega) (by omega)
  omega
theorem kO_lt {ki : Nat → Nat} (h : ∀ j, ki j ≤ 5) (o : Option Nat) : ∀ v, o.map ki = some v → v < 6 := by
  intro v e
  cases o with
  | none => cases e
  | some w => cases e; have := h w; omega
def isNN (o : Option Nat) : Prop := o = none ∨ o = some 2
def frE (th ki re : Nat → Nat) (go : Option Nat) (n x y s t : Nat) : Prop := ∀ u, u < t → (x ^^^ y).testBit u = true → lastT th ki re go u s n = none
def vO (va : Nat → Nat) (o : Option Nat) : Nat := match o with
  | none => 0
  | some w => va w
/-- of what sort the change of t in r is, since s; a, b: what it was, is; 0: none -/
noncomputable def sr2 (ki va : Nat → Nat) (nt : Prop) (fr : Prop) (a b : Option Nat) : Nat :=
  cif (a.map ki = b.map ki ∧ (a = none ∨ vO va a = vO va b)) 0 (cif ((a.map ki = some 1 ∧ b.map ki = some 1) ∨ (a.map ki = none ∧ b.map ki = some 4)) 1 (cif ((isNN (a.map ki) ∧ isNN (b.map ki) ∧ nt) ∨ (a.map ki = some 3 ∧ b.map ki = some 3 ∧ fr)) 2 3))
noncomputable def srt (th ki va re : Nat → Nat) (go : Option Nat) (n t r s : Nat) : Nat :=
  cif (shad th ki va re go n t r) 3 (sr2 ki va (lastT th ki re go t s n = none) (frE th ki re go n (vO va (lastT th ki re go t (r - 1) n)) (vO va (lastT th ki re go t r n)) s 16) (lastT th ki re go t (r - 1) n) (lastT th ki re go t r n))
theorem srt_le (th ki va re : Nat → Nat) (go : Option Nat) (n t r s : Nat) : srt th ki va re go n t r s ≤ 3 := by
  unfold srt sr2
  exact cif_le (by omega) (cif_le (by omega) (cif_le (by omega) (cif_le (by omega) (by omega))))
/-- of the j-th place behind a seal's revision -/
noncomputable def sjt (th ki va re : Nat → Nat) (go : Option Nat) (n s j : Nat) : Nat := srt th ki va re go n ((16 * (s + 1) + j) % 16) ((16 * (s + 1) + j) / 16) s
noncomputable def vrd (th ki va re : Nat → Nat) (go : Option Nat) (n cl s : Nat) : Nat := mxP (sjt th ki va re go n s) (16 * (cl + 1) - 16 * (s + 1))
noncomputable def mch (th ki va re : Nat → Nat) (go : Option Nat) (n cl s q : Nat) : Nat := cntP (fun j => q ≤ sjt th ki va re go n s j) (16 * (cl + 1) - 16 * (s + 1))
def cls (ki re : Nat → Nat) (cl w : Nat) : Prop := ki w = 4 ∧ re w < cl
noncomputable def alw (ki va re : Nat → Nat) (r : Nat) : Nat → Nat
  | 0 => 3
  | i + 1 => cif (ki i = 4 ∧ re i < r) (min (va i) (alw ki va re r i)) (alw ki va re r i)
theorem alw_le (ki va re : Nat → Nat) (r i : Nat) : alw ki va re r i ≤ 3 := by
  induction i with
  | zero => exact Nat.le_refl 3
  | succ i ih => simp only [alw]; exact cif_le (by omega) ih
noncomputable def mho (th ki va re : Nat → Nat) (go : Option Nat) (n cl : Nat) (fw : Nat → Nat) (i : Nat) : Nat := cntP (fun w => cls ki re cl w ∧ ¬ go = some w ∧ (fw w = 0 ∧ vrd th ki va re go n cl (re w) ≤ va w)) i
noncomputable def chB (th ki va re : Nat → Nat) (go : Option Nat) (n cl s k : Nat) : Option Nat := fnd (fun j => 1 ≤ sjt th ki va re go n s j ∧ cntP (fun j => 1 ≤ sjt th ki va re go n s j) j = k) (16 * (cl + 1) - 16 * (s + 1)) 0
noncomputable def chV (th ki va re : Nat → Nat) (go : Option Nat) (n s q j : Nat) : Nat := if q = 0 then (16 * (s + 1) + j) / 16 else if q = 1 then (16 * (s + 1) + j) % 16 else sjt th ki va re go n s j
def bad (th ki va re : Nat → Nat) (go : Option Nat) (n cl i w : Nat) : Prop := cls ki re cl w ∧ re w < i / 16 ∧ va w < srt th ki va re go n (i % 16) (i / 16) (re w)
noncomputable def fsI (th ki va re : Nat → Nat) (go : Option Nat) (n cl : Nat) : Option Nat := fnd (fun i => fnd (bad th ki va re go n cl i) n 0 ≠ none) (16 * (cl + 1)) 0
noncomputable def fsV (th ki va re : Nat → Nat) (go : Option Nat) (n cl q : Nat) : Option Nat := (fsI th ki va re go n cl).map (fun i => if q = 0 then i / 16 else if q = 1 then i % 16 else ((fnd (bad th ki va re go n cl i) n 0).getD 0))
