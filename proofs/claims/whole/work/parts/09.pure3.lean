/-! what the public calls answer -/
def tN (x : Int32) : Nat := x.toNatClampNeg
theorem tN_nI {k : Nat} (h : k < 2 ^ 31) : tN (nI k) = k := nI_clamp h
theorem okRi {m : Nat} {x : Int32} (hm : m < 2 ^ 31) (h : 0 ≤ x ∧ x ≤ nI m) : okR m x := (okN hm).mp h
theorem noR {m : Nat} {x : Int32} (hm : m < 2 ^ 31) (h : ¬ (0 ≤ x ∧ x ≤ nI m)) : ¬ okR m x := fun q => h ((okN hm).mpr q)
theorem okB_iff {n cl : Nat} (hn : n ≤ 40) (hcl : cl ≤ 7) {i : Int32} : (0 ≤ i ∧ i ≤ nI (5 * n + 2 * cl) - nI 1) ↔ okW (5 * n + 2 * cl) i := by
  generalize hm : 5 * n + 2 * cl = m
  have hm9 : m ≤ 300 := by omega
  cases m with
  | zero =>
    constructor
    · rintro ⟨h1, h2⟩
      rw [Int32.le_iff_toInt_le] at h1 h2
      have : (nI 0 - nI 1).toInt = -1 := by decide
      have : (0 : Int32).toInt = 0 := by decide
      omega
    · rintro ⟨k, hk, _⟩; omega
  | succ n =>
    rw [show nI (n + 1) - nI 1 = nI n from nI_pred n, okN (by omega)]
    exact ⟨fun ⟨k, h, e⟩ => ⟨k, by omega, e⟩, fun ⟨k, h, e⟩ => ⟨k, by omega, e⟩⟩
noncomputable def byV (th ki va re : Nat → Nat) (n cl : Nat) (i : Int32) : Int32 := cif (i = -1) (nI (5 * n + 2 * cl)) (cif (okW (5 * n + 2 * cl) i) (oI (byteA th ki va re n cl (tN i))) (-2))
theorem byV_n {th ki va re : Nat → Nat} {n cl : Nat} : nI (5 * n + 2 * cl) = byV th ki va re n cl (-1) := by unfold byV; rw [cif_t rfl]
theorem byV_o {th ki va re : Nat → Nat} {n cl : Nat} (hn : n ≤ 40) (hcl : cl ≤ 7) {i : Int32} (h : i ≠ -1) (h2 : ¬ (0 ≤ i ∧ i ≤ nI (5 * n + 2 * cl) - nI 1)) : -2 = byV th ki va re n cl i := by unfold byV; rw [cif_f h, cif_f (fun q => h2 ((okB_iff hn hcl).mpr q))]
theorem byV_k {th ki va re : Nat → Nat} {n cl : Nat} (hn : n ≤ 40) (hcl : cl ≤ 7) {k : Nat} (h : k < 5 * n + 2 * cl) : oI (byteA th ki va re n cl k) = byV th ki va re n cl (nI k) := by
  unfold byV; rw [cif_f (nI_nm1 (by omega)), cif_t ⟨k, h, rfl⟩, tN_nI (by omega)]
noncomputable def wrV (th ki va re : Nat → Nat) (n : Nat) (w q : Int32) : Int32 := cif (okW n w ∧ okR 4 q) (nI (wrB th ki va re (tN w) (tN q))) (-2)
theorem wrV_k {th ki va re : Nat → Nat} {n k j : Nat} (hn : n ≤ 40) (hk : k < n) (hj : j ≤ 4) : nI (wrB th ki va re k j) = wrV th ki va re n (nI k) (nI j) := by
  unfold wrV; rw [cif_t ⟨⟨k, hk, rfl⟩, j, hj, rfl⟩, tN_nI (by omega), tN_nI (by omega)]
theorem wrV_w {th ki va re : Nat → Nat} {n : Nat} {w q : Int32} (h : ¬ okW n w) : -2 = wrV th ki va re n w q := by unfold wrV; rw [cif_f (fun q => h q.1)]
theorem wrV_q {th ki va re : Nat → Nat} {n : Nat} {w q : Int32} (h : ¬ (0 ≤ q ∧ q ≤ nI 4)) : -2 = wrV th ki va re n w q := by unfold wrV; rw [cif_f (fun z => noR (by decide) h z.2)]
noncomputable def rvV (re : Nat → Nat) (n cl : Nat) (x q : Int32) : Int32 := cif (okR cl x ∧ okR 3 q) (nI (rvB re n cl (tN x) (tN q))) (-2)
theorem rvV_k {re : Nat → Nat} {n cl k j : Nat} (hcl : cl ≤ 7) (hk : k ≤ cl) (hj : j ≤ 3) : nI (rvB re n cl k j) = rvV re n cl (nI k) (nI j) := by
  unfold rvV; rw [cif_t ⟨⟨k, hk, rfl⟩, j, hj, rfl⟩, tN_nI (by omega), tN_nI (by omega)]
theorem rvV_x {re : Nat → Nat} {n cl : Nat} {x q : Int32} (h : ¬ okR cl x) : -2 = rvV re n cl x q := by unfold rvV; rw [cif_f (fun q => h q.1)]
theorem rvV_q {re : Nat → Nat} {n cl : Nat} {x q : Int32} (h : ¬ (0 ≤ q ∧ q ≤ nI 3)) : -2 = rvV re n cl x q := by unfold rvV; rw [cif_f (fun z => noR (by decide) h z.2)]
def tgB (th ki va re : Nat → Nat) (go : Option Nat) (n t r q : Nat) : Option Nat := (lastT th ki re go t r n).map (fun w => if q = 0 then ki w else if q = 1 then va w else w)
theorem tgB_n {th ki va re : Nat → Nat} {go : Option Nat} {n t r q : Nat} (h : lastT th ki re go t r n = none) : none = tgB th ki va re go n t r q := by simp [tgB, h]
theorem tgB_0 {th ki va re : Nat → Nat} {go : Option Nat} {n t r q v : Nat} (h : lastT th ki re go t r n = some v) (hq : q = 0) : some (ki v) = tgB th ki va re go n t r q := by simp [tgB, h, hq]
theorem tgB_1 {th ki va re : Nat → Nat} {go : Option Nat} {n t r q v : Nat} (h : lastT th ki re go t r n = some v) (hq : q = 1) : some (va v) = tgB th ki va re go n t r q := by simp [tgB, h, hq]
theorem tgB_2 {th ki va re : Nat → Nat} {go : Option Nat} {n t r q v : Nat} (h : lastT th ki re go t r n = some v) (hq : q ≠ 0) (hq1 : q ≠ 1) : lastT th ki re go t r n = tgB th ki va re go n t r q := by simp [tgB, h, hq, hq1]
noncomputable def tgV (th ki va re : Nat → Nat) (go : Option Nat) (n cl : Nat) (t x q : Int32) : Int32 := cif (okR 15 t ∧ okR cl x ∧ okR 2 q) (oI (tgB th ki va re go n (tN t) (tN x) (tN q))) (-2)
theorem tgV_k {th ki va re : Nat → Nat} {go : Option Nat} {n cl i k j : Nat} (hcl : cl ≤ 7) (hi : i ≤ 15) (hk : k ≤ cl) (hj : j ≤ 2) : oI (tgB th ki va re go n i k j) = tgV th ki va re go n cl (nI i) (nI k) (nI j) := by
  unfold tgV; rw [cif_t ⟨⟨i, hi, rfl⟩, ⟨k, hk, rfl⟩, j, hj, rfl⟩, tN_nI (by omega), tN_nI (by omega), tN_nI (by omega)]
theorem tgV_t {th ki va re : Nat → Nat} {go : Option Nat} {n cl : Nat} {t x q : Int32} (h : ¬ (0 ≤ t ∧ t ≤ nI 15)) : -2 = tgV th ki va re go n cl t x q := by unfold tgV; rw [cif_f (fun z => noR (by decide) h z.1)]
theorem tgV_x {th ki va re : Nat → Nat} {go : Option Nat} {n cl : Nat} {t x q : Int32} (h : ¬ okR cl x) : -2 = tgV th ki va re go n cl t x q := by unfold tgV; rw [cif_f (fun z => h z.2.1)]
theorem tgV_q {th ki va re : Nat → Nat} {go : Option Nat} {n cl : Nat} {t x q : Int32} (h : ¬ (0 ≤ q ∧ q ≤ nI 2)) : -2 = tgV th ki va re go n cl t x q := by unfold tgV; rw [cif_f (fun z => noR (by decide) h z.2.2)]
noncomputable def shV (th ki va re : Nat → Nat) (go : Option Nat) (n cl : Nat) (x : Int32) : Int32 := cif (okR cl x) (nI (bsm (fun t => shad th ki va re go n t (tN x)) 16)) (-2)
theorem shV_k {th ki va re : Nat → Nat} {go : Option Nat} {n cl k : Nat} (hcl : cl ≤ 7) (hk : k ≤ cl) : nI (bsm (fun t => shad th ki va re go n t k) 16) = shV th ki va re go n cl (nI k) := by
  unfold shV; rw [cif_t ⟨k, hk, rfl⟩, tN_nI (by omega)]
theorem shV_x {th ki va re : Nat → Nat} {go : Option Nat} {n cl : Nat} {x : Int32} (h : ¬ okR cl x) : -2 = shV th ki va re go n cl x := by unfold shV; rw [cif_f h]
noncomputable def cvV (ki re : Nat → Nat) (n cl : Nat) (to : Nat → Prop) (co : Nat → Nat) (w q : Int32) : Int32 := cif (okW n w ∧ okR 3 q) (cif (ki (tN w) = 4) (nI (cov re n cl to co (tN w) (tN q))) (-3)) (-2)
theorem cvV_k {ki re : Nat → Nat} {n cl : Nat} {to : Nat → Prop} {co : Nat → Nat} {k j : Nat} (hn : n ≤ 40) (hk : k < n) (hj : j ≤ 3) (h : ki k = 4) : nI (cov re n cl to co k j) = cvV ki re n cl to co (nI k) (nI j) := by
  unfold cvV; rw [cif_t ⟨⟨k, hk, rfl⟩, j, hj, rfl⟩, tN_nI (by omega), tN_nI (by omega), cif_t h]
theorem cvV_s {ki re : Nat → Nat} {n cl : Nat} {to : Nat → Prop} {co : Nat → Nat} {k j : Nat} (hn : n ≤ 40) (hk : k < n) (hj : j ≤ 3) (h : ¬ ki k = 4) : -3 = cvV ki re n cl to co (nI k) (nI j) := by
  unfold cvV; rw [cif_t ⟨⟨k, hk, rfl⟩, j, hj, rfl⟩, tN_nI (by omega), tN_nI (by omega), cif_f h]
theorem cvV_w {ki re : Nat → Nat} {n cl : Nat} {to : Nat → Prop} {co : Nat → Nat} {w q : Int32} (h : ¬ okW n w) : -2 = cvV ki re n cl to co w q := by unfold cvV; rw [cif_f (fun z => h z.1)]
theorem cvV_q {ki re : Nat → Nat} {n cl : Nat} {to : Nat → Prop} {co : Nat → Nat} {w q : Int32} (h : ¬ (0 ≤ q ∧ q ≤ nI 3)) : -2 = cvV ki re n cl to co w q := by unfold cvV; rw [cif_f (fun z => noR (by decide) h z.2)]
noncomputable def cdV (ki re : Nat → Nat) (n cl : Nat) (to : Nat → Prop) (co : Nat → Nat) (w : Int32) : Int32 := cif (okW n w) (cif (ki (tN w) = 4) (cvS re n cl to co (tN w) 2) (-3)) (-2)
theorem cdV_k {ki re : Nat → Nat} {n cl : Nat} {to : Nat → Prop} {co : Nat → Nat} {k : Nat} (hn : n ≤ 40) (hk : k < n) (h : ki k = 4) : cvS re n cl to co k 2 = cdV ki re n cl to co (nI k) := by
  unfold cdV; rw [cif_t ⟨k, hk, rfl⟩, tN_nI (by omega), cif_t h]
theorem cdV_s {ki re : Nat → Nat} {n cl : Nat} {to : Nat → Prop} {co : Nat → Nat} {k : Nat} (hn : n ≤ 40) (hk : k < n) (h : ¬ ki k = 4) : -3 = cdV ki re n cl to co (nI k) := by
  unfold cdV; rw [cif_t ⟨k, hk, rfl⟩, tN_nI (by omega), cif_f h]
theorem cdV_w {ki re : Nat → Nat} {n cl : Nat} {to : Nat → Prop} {co : Nat → Nat} {w : Int32} (h : ¬ okW n w) : -2 = cdV ki re n cl to co w := by unfold cdV; rw [cif_f h]
noncomputable def nbV (th ki va re : Nat → Nat) (n cl : Nat) (to : Nat → Prop) (co : Nat → Nat) (ke : Nat → Int32) (w q : Int32) : Int32 := cif (okW n w ∧ okR 1 q ∧ cls ki re cl (tN w)) (cif (tN q = 0) (numO th ki va re n cl to co (tN w)) (ke (tN w))) (-2147483648)
theorem nbV_0 {th ki va re : Nat → Nat} {n cl : Nat} {to : Nat → Prop} {co : Nat → Nat} {ke : Nat → Int32} {k j : Nat} (hn : n ≤ 40) (hk : k < n) (hj : j ≤ 1) (h : ki k = 4 ∧ re k < cl) (h0 : j = 0) : numO th ki va re n cl to co k = nbV th ki va re n cl to co ke (nI k) (nI j) := by
  unfold nbV; rw [tN_nI (by omega : k < 2 ^ 31), tN_nI (by omega : j < 2 ^ 31), cif_t ⟨⟨k, hk, rfl⟩, ⟨j, hj, rfl⟩, h⟩, cif_t h0]
theorem nbV_1 {th ki va re : Nat → Nat} {n cl : Nat} {to : Nat → Prop} {co : Nat → Nat} {ke : Nat → Int32} {k j : Nat} (hn : n ≤ 40) (hk : k < n) (hj : j ≤ 1) (h : ki k = 4 ∧ re k < cl) (h0 : 0 < j) : ke k = nbV th ki va re n cl to co ke (nI k) (nI j) := by
  unfold nbV; rw [tN_nI (by omega : k < 2 ^ 31), tN_nI (by omega : j < 2 ^ 31), cif_t ⟨⟨k, hk, rfl⟩, ⟨j, hj, rfl⟩, h⟩, cif_f (by omega)]
theorem nbV_c {th ki va re : Nat → Nat} {n cl : Nat} {to : Nat → Prop} {co : Nat → Nat} {ke : Nat → Int32} {k : Nat} {q : Int32} (hn : n ≤ 40) (hk : k < n) (h : ¬ (ki k = 4 ∧ re k < cl)) : -2147483648 = nbV th ki va re n cl to co ke (nI k) q := by
  unfold nbV; rw [tN_nI (by omega : k < 2 ^ 31), cif_f (fun z => h z.2.2)]
theorem nbV_w {th ki va re : Nat → Nat} {n cl : Nat} {to : Nat → Prop} {co : Nat → Nat} {ke : Nat → Int32} {w q : Int32} (h : ¬ okW n w) : -2147483648 = nbV th ki va re n cl to co ke w q := by unfold nbV; rw [cif_f (fun z => h z.1)]
theorem nbV_q {th ki va re : Nat → Nat} {n cl : Nat} {to : Nat → Prop} {co : Nat → Nat} {ke : Nat → Int32} {w q : Int32} (h : ¬ (0 ≤ q ∧ q ≤ nI 1)) : -2147483648 = nbV th ki va re n cl to co ke w q := by unfold nbV; rw [cif_f (fun z => noR (by decide) h z.2.1)]
noncomputable def fwV (th ki va re : Nat → Nat) (n cl : Nat) (to : Nat → Prop) (co : Nat → Nat) (ke : Nat → Int32) (w : Int32) : Int32 := cif (okW n w) (cif (cls ki re cl (tN w)) (nI (flO th ki va re n cl to co ke (tN w))) (-3)) (-2)
theorem fwV_k {th ki va re : Nat → Nat} {n cl : Nat} {to : Nat → Prop} {co : Nat → Nat} {ke : Nat → Int32} {k : Nat} (hn : n ≤ 40) (hk : k < n) (h : ki k = 4 ∧ re k < cl) : nI (flO th ki va re n cl to co ke k) = fwV th ki va re n cl to co ke (nI k) := by
  unfold fwV; rw [tN_nI (by omega : k < 2 ^ 31), cif_t ⟨k, hk, rfl⟩, cif_t (show cls ki re cl k from h)]
theorem fwV_s {th ki va re : Nat → Nat} {n cl : Nat} {to : Nat → Prop} {co : Nat → Nat} {ke : Nat → Int32} {k : Nat} (hn : n ≤ 40) (hk : k < n) (h : ¬ (ki k = 4 ∧ re k < cl)) : -3 = fwV th ki va re n cl to co ke (nI k) := by
  unfold fwV; rw [tN_nI (by omega : k < 2 ^ 31), cif_t ⟨k, hk, rfl⟩, cif_f (show ¬ cls ki re cl k from h)]
theorem fwV_w {th ki va re : Nat → Nat} {n cl : Nat} {to : Nat → Prop} {co : Nat → Nat} {ke : Nat → Int32} {w : Int32} (h : ¬ okW n w) : -2 = fwV th ki va re n cl to co ke w := by unfold fwV; rw [cif_f h]
