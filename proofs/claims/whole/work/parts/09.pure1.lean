/-! the words of the document as functions of the writes: counts, places, bytes, the last write of a thing -/
def cntEq (re : Nat → Nat) (r : Nat) : Nat → Nat
  | 0 => 0
  | i + 1 => cntEq re r i + (if re i = r then 1 else 0)
def cntLt (re : Nat → Nat) (r : Nat) : Nat → Nat
  | 0 => 0
  | i + 1 => cntLt re r i + (if re i < r then 1 else 0)
theorem cntEq_t {re : Nat → Nat} {r i : Nat} (h : re i = r) : cntEq re r (i + 1) = cntEq re r i + 1 := by simp [cntEq, h]
theorem cntEq_f {re : Nat → Nat} {r i : Nat} (h : re i ≠ r) : cntEq re r (i + 1) = cntEq re r i + 0 := by simp [cntEq, h]
theorem cntLt_t {re : Nat → Nat} {r i : Nat} (h : re i < r) : cntLt re r (i + 1) = cntLt re r i + 1 := by simp [cntLt, h]
theorem cntLt_f {re : Nat → Nat} {r i : Nat} (h : r ≤ re i) : cntLt re r (i + 1) = cntLt re r i + 0 := by simp [cntLt, Nat.not_lt.mpr h]
theorem cnt_le (re : Nat → Nat) (r n : Nat) : cntLt re r n + cntEq re r n ≤ n := by
  induction n with
  | zero => simp [cntLt, cntEq]
  | succ n ih => simp only [cntLt, cntEq]; split <;> split <;> omega
def begB (re : Nat → Nat) (n r : Nat) : Nat := 5 * cntLt re r n + 2 * r
def endB (re : Nat → Nat) (n cl r : Nat) : Nat := begB re n r + 5 * cntEq re r n + (if r < cl then 2 else 0)
def byteO (th ki va : Nat → Nat) (w i : Nat) : Nat := if i = 0 then 79 else if i = 1 then th w else if i = 2 then ki w else if i = 3 then va w / 256 else va w % 256
def byteF (th ki va re : Nat → Nat) (n cl i : Nat) : Nat → Nat → Option Nat
  | 0, _ => none
  | d + 1, r => if begB re n r ≤ i ∧ i < begB re n r + 5 * cntEq re r n then some (byteO th ki va (cntLt re r n + (i - begB re n r) / 5) ((i - begB re n r) % 5))
      else if r < cl ∧ begB re n r + 5 * cntEq re r n ≤ i ∧ i < begB re n r + 5 * cntEq re r n + 2 then some (if i = begB re n r + 5 * cntEq re r n then 0 else r) else byteF th ki va re n cl i d (r + 1)
def byteA (th ki va re : Nat → Nat) (n cl i : Nat) : Option Nat := byteF th ki va re n cl i (cl + 1) 0
def lastW (th re : Nat → Nat) (go : Option Nat) (t r : Nat) : Nat → Option Nat
  | 0 => none
  | i + 1 => if th i = t ∧ re i ≤ r ∧ ¬ go = some i then some i else lastW th re go t r i
def nonG (ki : Nat → Nat) (o : Option Nat) : Option Nat := match o with
  | none => none
  | some w => if ki w = 5 then none else some w
def lastT (th ki re : Nat → Nat) (go : Option Nat) (t r n : Nat) : Option Nat := nonG ki (lastW th re go t r n)
theorem lastW_lt (th re : Nat → Nat) (go : Option Nat) (t r n : Nat) : ∀ w, lastW th re go t r n = some w → w < n := by
  induction n with
  | zero => intro w h; cases h
  | succ n ih =>
    intro w h
    simp only [lastW] at h
    split at h
    · cases h; omega
    · have := ih w h; omega
theorem nonG_of {ki : Nat → Nat} {o : Option Nat} {w : Nat} (h : nonG ki o = some w) : o = some w ∧ ki w ≠ 5 := by
  cases o with
  | none => cases h
  | some v =>
    simp only [nonG] at h
    split at h
    · cases h
    · rename_i hk; cases h; exact ⟨rfl, hk⟩
theorem lastT_lt (th ki re : Nat → Nat) (go : Option Nat) (t r n : Nat) : ∀ w, lastT th ki re go t r n = some w → w < n := fun w h => lastW_lt th re go t r n w (nonG_of h).1
/-- the reference's numbers are in their bounds -/
def IM (n cl : Nat) (go : Option Nat) (th ki va re si co fw : Nat → Nat) : Prop := n ≤ 40 ∧ cl ≤ 7 ∧ (∀ w, go = some w → w < 40) ∧ (∀ j, th j ≤ 15) ∧ (∀ j, ki j ≤ 5) ∧ (∀ j, va j ≤ 65535) ∧ (∀ j, re j ≤ 7) ∧ (∀ j, si j ≤ 60) ∧ (∀ j, co j ≤ 400) ∧ (∀ j, fw j ≤ 15)
def okW (n : Nat) (w : Int32) : Prop := ∃ k, k < n ∧ w = nI k
def okR (cl : Nat) (r : Int32) : Prop := ∃ k, k ≤ cl ∧ r = nI k
theorem okN {m : Nat} (hm : m < 2 ^ 31) {x : Int32} : (0 ≤ x ∧ x ≤ nI m) ↔ ∃ k, k ≤ m ∧ x = nI k := by
  constructor
  · rintro ⟨h1, h2⟩
    obtain ⟨j, hj, rfl⟩ := nI_of (x := x) (fun h => by rw [Int32.lt_iff_toInt_lt] at h; rw [Int32.le_iff_toInt_le] at h1; omega)
    exact ⟨j, (nI_leI hj hm).mp h2, rfl⟩
  · rintro ⟨k, hk, rfl⟩
    exact ⟨nI_pos' (by omega), nI_le hk hm⟩
theorem okW_iff {n : Nat} (hn : n ≤ 40) {w : Int32} : (0 ≤ w ∧ w ≤ nI n - 1) ↔ okW n w := by
  cases n with
  | zero =>
    constructor
    · rintro ⟨h1, h2⟩
      rw [Int32.le_iff_toInt_le] at h1 h2
      have : (nI 0 - 1).toInt = -1 := by decide
      have : (0 : Int32).toInt = 0 := by decide
      omega
    · rintro ⟨k, hk, _⟩; omega
  | succ n =>
    rw [nI_pred, okN (by omega)]
    exact ⟨fun ⟨k, h, e⟩ => ⟨k, by omega, e⟩, fun ⟨k, h, e⟩ => ⟨k, by omega, e⟩⟩
theorem okR_iff {cl : Nat} (h : cl ≤ 7) {x : Int32} : (0 ≤ x ∧ x ≤ nI cl) ↔ okR cl x := okN (by omega)
theorem in_lt {x lo hi : Int32} (h : lg_cmp x.toInt64 lo.toInt64 < 0) : nI 0 = bI (lo ≤ x ∧ x ≤ hi) := b0 (fun q => by
  rw [lg_cmp_lt, i64_lt, Int32.lt_iff_toInt_lt] at h
  have := Int32.le_iff_toInt_le.mp q.1
  omega)
theorem in_gt {x lo hi : Int32} (h : 0 < lg_cmp x.toInt64 hi.toInt64) : nI 0 = bI (lo ≤ x ∧ x ≤ hi) := b0 (fun q => by
  rw [lg_cmp_gt, i64_lt, Int32.lt_iff_toInt_lt] at h
  have := Int32.le_iff_toInt_le.mp q.2
  omega)
theorem in_ok {x lo hi : Int32} (h : ¬ lg_cmp x.toInt64 lo.toInt64 < 0) (h2 : ¬ 0 < lg_cmp x.toInt64 hi.toInt64) : nI 1 = bI (lo ≤ x ∧ x ≤ hi) := b1 (by
  rw [lg_cmp_lt, i64_lt, Int32.lt_iff_toInt_lt] at h
  rw [lg_cmp_gt, i64_lt, Int32.lt_iff_toInt_lt] at h2
  rw [Int32.le_iff_toInt_le, Int32.le_iff_toInt_le]
  omega)
theorem sh_bit {x k : Nat} (hx : x < 65536) (hk : k < 16) : (nI x >>> (nI k &&& 31) &&& nI 1) = nI (x / 2 ^ k % 2) := by
  have h1 : ∀ k, k < 16 → ((nI k &&& 31).toBitVec.smod 32).toNat = k := by decide +kernel
  rw [pk_shrN (by omega) _ k (h1 k hk)]
  exact pk_andN (Nat.lt_of_le_of_lt (Nat.div_le_self _ _) (by omega)) 1 (by decide)
theorem tb_iff (x k : Nat) : x / 2 ^ k % 2 = 1 ↔ x.testBit k = true := by
  rw [Nat.testBit_eq_decide_div_mod_eq]; simp
def wrB (th ki va re : Nat → Nat) (w q : Nat) : Nat := if q = 0 then th w else if q = 1 then ki w else if q = 2 then va w else if q = 3 then re w else 5 * w + 2 * re w
def rvB (re : Nat → Nat) (n cl r q : Nat) : Nat := if q = 0 then cntLt re r n else if q = 1 then cntEq re r n else if q = 2 then begB re n r else endB re n cl r
theorem lastW_t {th re : Nat → Nat} {go : Option Nat} {t r i : Nat} (h1 : th i = t) (h2 : re i ≤ r) (h3 : ¬ go = some i) : some i = lastW th re go t r (i + 1) := by simp [lastW, h1, h2, h3]
theorem lastW_f1 {th re : Nat → Nat} {go : Option Nat} {t r i : Nat} (h1 : th i ≠ t) : lastW th re go t r i = lastW th re go t r (i + 1) := by simp [lastW, h1]
theorem lastW_f2 {th re : Nat → Nat} {go : Option Nat} {t r i : Nat} (h1 : r < re i) : lastW th re go t r i = lastW th re go t r (i + 1) := by simp [lastW, Nat.not_le.mpr h1]
theorem lastW_f3 {th re : Nat → Nat} {go : Option Nat} {t r i : Nat} (h1 : go = some i) : lastW th re go t r i = lastW th re go t r (i + 1) := by simp [lastW, h1]
theorem lastT_n {th ki re : Nat → Nat} {go : Option Nat} {t r n : Nat} (h : lastW th re go t r n = none) : none = lastT th ki re go t r n := by simp [lastT, h, nonG]
theorem lastT_g {th ki re : Nat → Nat} {go : Option Nat} {t r n v : Nat} (h : lastW th re go t r n = some v) (hk : ki v = 5) : none = lastT th ki re go t r n := by simp [lastT, h, nonG, hk]
theorem lastT_s {th ki re : Nat → Nat} {go : Option Nat} {t r n v : Nat} (h : lastW th re go t r n = some v) (hk : ki v ≠ 5) : lastW th re go t r n = lastT th ki re go t r n := by simp [lastT, h, nonG, hk]
theorem lv_re {ls : Array Slot} {nL : Nat} {l l' : List (Nat × Value)} (h : lv_has ls nL l) (e : l = l') : lv_has ls nL l' := e ▸ h
theorem byteF_a {th ki va re : Nat → Nat} {n cl i d r : Nat} (h1 : begB re n r ≤ i) (h2 : i < begB re n r + 5 * cntEq re r n) : byteF th ki va re n cl i (d + 1) r = some (byteO th ki va (cntLt re r n + (i - begB re n r) / 5) ((i - begB re n r) % 5)) := by simp [byteF, h1, h2]
theorem byteF_b {th ki va re : Nat → Nat} {n cl i d r : Nat} (h : ¬ (begB re n r ≤ i ∧ i < begB re n r + 5 * cntEq re r n)) (h0 : r < cl) (h1 : begB re n r + 5 * cntEq re r n ≤ i) (h2 : i < begB re n r + 5 * cntEq re r n + 2) : byteF th ki va re n cl i (d + 1) r = some (if i = begB re n r + 5 * cntEq re r n then 0 else r) := by simp only [byteF, if_neg h, h0, h1, h2, and_self, if_true]
theorem byteF_c {th ki va re : Nat → Nat} {n cl i d r : Nat} (h : ¬ (begB re n r ≤ i ∧ i < begB re n r + 5 * cntEq re r n)) (h0 : ¬ (r < cl ∧ begB re n r + 5 * cntEq re r n ≤ i ∧ i < begB re n r + 5 * cntEq re r n + 2)) : byteF th ki va re n cl i (d + 1) r = byteF th ki va re n cl i d (r + 1) := by simp only [byteF, if_neg h, if_neg h0]
theorem begB_eq (re : Nat → Nat) (n r : Nat) : begB re n r = 5 * cntLt re r n + 2 * r := rfl
