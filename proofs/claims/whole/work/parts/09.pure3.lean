/-! what the public calls answer -/
def tN (x : Int32) : Nat := x.toNatClampNeg
theorem tN_nI {k : Nat} (h : k < 2 ^ 31) : tN (nI k) = k := nI_clamp h
theorem okRi {m : Nat} {x : Int32} (hm : m < 2 ^ 31) (h : 0 ≤ x ∧ x ≤ nI m) : okR m x := (okN hm).mp h
theorem noR {m : Nat} {x : Int32} (hm : m < 2 ^ 31) (h : ¬ (0 ≤ x ∧ x ≤ nI m)) : ¬ okR m x := fun q => h ((okN hm).mpr q)
theorem okB_iff {n cl : Nat} (hn : n ≤ 40) (hcl : cl ≤ 7) {i : Int32} : (0 ≤ i ∧ i ≤ nI (5 * n + 2 * cl) - nI 1) ↔ okW (5 * n + 2 * cl) i := by
  generalize hm : 5 * n + 2 * cl = m
  have hm9 : m ≤ 300 := by omega
  cases m with
  | zero =>
    constructor
    · rintro ⟨h1, h2⟩
      rw [Int32.le_iff_toInt_le] at h1 h2
      have : (nI 0 - nI 1).toInt = -1 := by decide
      have : (0 : Int32).toInt = 0 := by decide
      omega
    · rintro ⟨k, hk, _⟩; omega
  | succ n =>
    rw [show nI (n + 1) - nI 1 = nI n from nI_pred n, okN (by omega)]
    exact ⟨fun ⟨k, h, e⟩ => ⟨k, by omega, e⟩, fun ⟨k, h, e⟩ => ⟨k, by omega, e⟩⟩
noncomputable def byV (th ki va re : Nat → Nat) (n cl : Nat) (i : Int32) : Int32 := cif (i = -1) (nI (5 * n + 2 * cl)) (cif (okW (5 * n + 2 * cl) i) (oI (byteA th ki va re n cl (tN i))) (-2))
theorem byV_n {th ki va re : Nat → Nat} {n cl : Nat} : nI (5 * n + 2 * cl) = byV th ki va re n cl (-1) := by unfold byV; rw [cif_t rfl]
theorem byV_o {th ki va re : Nat → Nat} {n cl : Nat} (hn : n ≤ 40) (hcl : cl ≤ 7) {i : Int32} (h : i ≠ -1) (h2 : ¬ (0 ≤ i ∧ i ≤ nI (5 * n + 2 * cl) - nI 1)) : -2 = byV th ki va re n cl i := by unfold byV; rw [cif_f h, cif_f (fun q => h2 ((okB_iff hn hcl).mpr q))]
theorem byV_k {th ki va re : Nat → Nat} {n cl : Nat} (hn : n ≤ 40) (hcl : cl ≤ 7) {k : Nat} (h : k < 5 * n + 2 * cl) : oI (byteA th ki va re n cl k) = byV th ki va re n cl (nI k) := by
  unfold byV; rw [cif_f (nI_nm1 (by omega)), cif_t ⟨k, h, rfl⟩, tN_nI (by omega)]
noncomputable def wrV (th ki va re : Nat → Nat) (n : Nat) (w q : Int32) : Int32 := cif (okW n w ∧ okR 4 q) (nI (wrB th ki va re (tN w) (tN q))) (-2)
theorem wrV_k {th ki va re : Nat → Nat} {n k j : Nat} (hn : n ≤ 40) (hk : k < n) (hj : j ≤ 4) : nI (wrB th ki va re k j) = wrV th ki va re n (nI k) (nI j) := by
  unfold wrV; rw [cif_t ⟨⟨k, hk, rfl⟩, j, hj, rfl⟩, tN_nI (by omega), tN_nI (by omega)]
theorem wrV_w {th ki va re : Nat → Nat} {n : Nat} {w q : Int32} (h : ¬ okW n w) : -2 = wrV th ki va re n w q := by unfold wrV; rw [cif_f (fun q => h q.1)]
theorem wrV_q {th ki va re : Nat → Nat} {n : Nat} {w q : Int32} (h : ¬ (0 ≤ q ∧ q ≤ nI 4)) : -2 = wrV th ki va re n w q := by unfold wrV; rw [cif_f (fun z => noR (by decide) h z.2)]
noncomputable def rvV (re : Nat → Nat) (n cl : Nat) (x q : Int32) : Int32 := cif (okR cl x ∧ okR 3 q) (nI (rvB re n cl (tN x) (tN q))) (-2)
theorem rvV_k {re : Nat → Nat} {n cl k j : Nat} (hcl : cl ≤ 7) (hk : k ≤ cl) (hj : j ≤ 3) : nI (rvB re n cl k j) = rvV re n cl (nI k) (nI j) := by
  unfold rvV; rw [cif_t ⟨⟨k, hk, rfl⟩, j, hj, rfl⟩, tN_nI (by omega), tN_nI (by omega)]
theorem rvV_x {re : Nat → Nat} {n cl : Nat} {x q : Int32} (h : ¬ okR cl x) : -2 = rvV re n cl x q := by unfold rvV; rw [cif_f (fun q => h q.1)]
theorem rvV_q {re : Nat → Nat} {n cl : Nat} {x q : Int32} (h : ¬ (0 ≤ q ∧ q ≤ nI 3)) : -2 = rvV re n cl x q := by unfold rvV; rw [cif_f (fun z => noR (by decide) h z.2)]
def tgB (th ki va re : Nat → Nat) (go : Option Nat) (n t r q : Nat) : Option Nat := (lastT th ki re go t r n).map (fun w => if q = 0 then ki w else if q = 1 then va w else w)
theorem tgB_n {th ki va re : Nat → Nat} {go : Option Nat} {n t r q : Nat} (h : lastT th ki re go t r n = none) : none = tgB th ki va re go n t r q := by simp [tgB, h]
theorem tgB_0 {th ki va re : Nat → Nat} {go : Option Nat} {n t r q v : Nat} (h : lastT th ki re go t r n = some v) (hq : q = 0) : some (ki v) = tgB th ki va re go n t r q := by simp [tgB, h, hq]
theorem tgB_1 {th ki va re : Nat → Nat} {go : Option Nat} {n t r q v : Nat} (h : lastT th ki re go t r n = some v) (hq : q = 1) : some (va v) = tgB th ki va re go n t r q := by simp [tgB, h, hq]
theorem tgB_2 {th ki va re : Nat → Nat} {go : Option Nat} {n t r q v : Nat} (h : lastT th ki re go t r n = some v) (hq : q ≠ 0) (hq1 : q ≠ 1) : lastT th ki re go t r n = tgB th ki va re go n t r q := by simp [tgB, h, hq, hq1]
noncomputable def tgV (th ki va re : Nat → Nat) (go : Option Nat) (n cl : Nat) (t x q : Int32) : Int32 := cif (okR 15 t ∧ okR cl x ∧ okR 2 q) (oI (tgB th ki va re go n (tN t) (tN x) (tN q))) (-2)
theorem tgV_k {th ki va re : Nat → Nat} {go : Option Nat} {n cl i k j : Nat} (hcl : cl ≤ 7) (hi : i ≤ 15) (hk : k ≤ cl) (hj : j ≤ 2) : oI (tgB th ki va re go n i k j) = tgV th ki va re go n cl (nI i) (nI k) (nI j) := by
  unfold tgV; rw [cif_t ⟨⟨i, hi, rfl⟩, ⟨k, hk, rfl⟩, j, hj, rfl⟩, tN_nI (by omega), tN_nI (by omega), tN_nI (by omega)]
theorem tgV_t {th ki va re : Nat → Nat} {go : Option Nat} {n cl : Nat} {t x q : Int32} (h : ¬ (0 ≤ t ∧ t ≤ nI 15)) : -2 = tgV th ki va re go n cl t x q := by unfold tgV; rw [cif_f (fun z => noR (by decide) h z.1)]
theorem tgV_x {th ki va re : Nat → Nat} {go : Option Nat} {n cl : Nat} {t x q : Int32} (h : ¬ okR cl x) : -2 = tgV th ki va re go n cl t x q := by unfold tgV; rw [cif_f (fun z => h z.2.1)]
theorem tgV_q {th ki va re : Nat → Nat} {go : Option Nat} {n cl : Nat} {t x q : Int32} (h : ¬ (0 ≤ q ∧ q ≤ nI 2)) : -2 = tgV th ki va re go n cl t x q := by unfold tgV; rw [cif_f (fun z => noR (by decide) h z.2.2)]
noncomputable def shV (th ki va re : Nat → Nat) (go : Option Nat) (n cl : Nat) (x : Int32) : Int32 := cif (okR cl x) (nI (bsm (fun t => shad th ki va re go n t (tN x)) 16)) (-2)
theorem shV_k {th ki va re : Nat → Nat} {go : Option Nat} {n cl k : Nat} (hcl : cl ≤ 7) (hk : k ≤ cl) : nI (bsm (fun t => shad th ki va re go n t k) 16) = shV th ki va re go n cl (nI k) := by
  unfold shV; rw [cif_t ⟨k, hk, rfl⟩, tN_nI (by omega)]
theorem shV_x {th ki va re : Nat → Nat} {go : Option Nat} {n cl : Nat} {x : Int32} (h : ¬ okR cl x) : -2 = shV th ki va re go n cl x := by unfold shV; rw [cif_f h]
noncomputable def cvV (ki re : Nat → Nat) (n cl : Nat) (to : Nat → Prop) (co : Nat → Nat) (w q : Int32) : Int32 := cif (okW n w ∧ okR 3 q) (cif (ki (tN w) = 4) (nI (cov re n cl to co (tN w) (tN q))) (-3)) (-2)
theorem cvV_k {ki re : Nat → Nat} {n cl : Nat} {to : Nat → Prop} {co : Nat → Nat} {k j : Nat} (hn : n ≤ 40) (hk : k < n) (hj : j ≤ 3) (h : ki k = 4) : nI (cov re n cl to co k j) = cvV ki re n cl to co (nI k) (nI j) := by
  unfold cvV; rw [cif_t ⟨⟨k, hk, rfl⟩, j, hj, rfl⟩, tN_nI (by omega), tN_nI (by omega), cif_t h]
theorem cvV_s {ki re : Nat → Nat} {n cl : Nat} {to : Nat → Prop} {co : Nat → Nat} {k j : Nat} (hn : n ≤ 40) (hk : k < n) (hj : j ≤ 3) (h : ¬ ki k = 4) : -3 = cvV ki re n cl to co (nI k) (nI j) := by
  unfold cvV; rw [cif_t ⟨⟨k, hk, rfl⟩, j, hj, rfl⟩, tN_nI (by omega), tN_nI (by omega), cif_f h]
theorem cvV_w {ki re : Nat → Nat} {n cl : Nat} {to : Nat → Prop} {co : Nat → Nat} {w q : Int32} (h : ¬ okW n w) : -2 = cvV ki re n cl to co w q := by unfold cvV; rw [cif_f (fun z => h z.1)]
theorem cvV_q {ki re : Nat → Nat} {n cl : Nat} {to : Nat → Prop} {co : Nat → Nat} {w q : Int32} (h : ¬ (0 ≤ q ∧ q ≤ nI 3)) : -2 = cvV ki re n cl to co w q := by unfold cvV; rw [cif_f (fun z => noR (by decide) h z.2)]
noncomputable def cdV (ki re : Nat → Nat) (n cl : Nat) (to : Nat → Prop) (co : Nat → Nat) (w : Int32) : Int32 := cif (okW n w) (cif (ki (tN w) = 4) (cvS re n cl to co (tN w) 2) (-3)) (-2)
theorem cdV_k {ki re : Nat → Nat} {n cl : Nat} {to : Nat → Prop} {co : Nat → Nat} {k : Nat} (hn : n ≤ 40) (hk : k < n) (h : ki k = 4) : cvS re n cl to co k 2 = cdV ki re n cl to co (nI k) := by
  unfold cdV; rw [cif_t ⟨k, hk, rfl⟩, tN_nI (by omega), cif_t h]
theorem cdV_s {ki re : Nat → Nat} {n cl : Nat} {to : Nat → Prop} {co : Nat → Nat} {k : Nat} (hn : n ≤ 40) (hk : k < n) (h : ¬ ki k = 4) : -3 = cdV ki re n cl to co (nI k) := by
  unfold cdV; rw [cif_t ⟨k, hk, rfl⟩, tN_nI (by omega), cif_f h]
theorem cdV_w {ki re : Nat → Nat} {n cl : Nat} {to : Nat → Prop} {co : Nat → Nat} {w : Int32} (h : ¬ okW n w) : -2 = cdV ki re n cl to co w := by unfold cdV; rw [cif_f h]
noncomputable def nbV (th ki va re : Nat → Nat) (n cl : Nat) (to : Nat → Prop) (co : Nat → Nat) (ke : Nat → Int32) (w q : Int32) : Int32 := cif (okW n w ∧ okR 1 q ∧ cls ki re cl (tN w)) (cif (tN q = 0) (numO th ki va re n cl to co (tN w)) (ke (tN w))) (-2147483648)
theorem nbV_0 {th ki va re : Nat → Nat} {n cl : Nat} {to : Nat → Prop} {co : Nat → Nat} {ke : Nat → Int32} {k j : Nat} (hn : n ≤ 40) (hk : k < n) (hj : j ≤ 1) (h : ki k = 4 ∧ re k < cl) (h0 : j = 0) : numO th ki va re n cl to co k = nbV th ki va re n cl to co ke (nI k) (nI j) := by
  unfold nbV; rw [tN_nI (by omega : k < 2 ^ 31), tN_nI (by omega : j < 2 ^ 31), cif_t ⟨⟨k, hk, rfl⟩, ⟨j, hj, rfl⟩, h⟩, cif_t h0]
theorem nbV_1 {th ki va re : Nat → Nat} {n cl : Nat} {to : Nat → Prop} {co : Nat → Nat} {ke : Nat → Int32} {k j : Nat} (hn : n ≤ 40) (hk : k < n) (hj : j ≤ 1) (h : ki k = 4 ∧ re k < cl) (h0 : 0 < j) : ke k = nbV th ki va re n cl to co ke (nI k) (nI j) := by
  unfold nbV; rw [tN_nI (by omega : k < 2 ^ 31), tN_nI (by omega : j < 2 ^ 31), cif_t ⟨⟨k, hk, rfl⟩, ⟨j, hj, rfl⟩, h⟩, cif_f (by omega)]
theorem nbV_c {th ki va re : Nat → Nat} {n cl : Nat} {to : Nat → Prop} {co : Nat → Nat} {ke : Nat → Int32} {k : Nat} {q : Int32} (hn : n ≤ 40) (hk : k < n) (h : ¬ (ki k = 4 ∧ re k < cl)) : -2147483648 = nbV th ki va re n cl to co ke (nI k) q := by
  unfold nbV; rw [tN_nI (by omega : k < 2 ^ 31), cif_f (fun z => h z.2.2)]
theorem nbV_w {th ki va re : Nat → Nat} {n cl : Nat} {to : Nat → Prop} {co : Nat → Nat} {ke : Nat → Int32} {w q : Int32} (h : ¬ okW n w) : -2147483648 = nbV th ki va re n cl to co ke w q := by unfold nbV; rw [cif_f (fun z => h z.1)]
theorem nbV_q {th ki va re : Nat → Nat} {n cl : Nat} {to : Nat → Prop} {co : Nat → Nat} {ke : Nat → Int32} {w q : Int32} (h : ¬ (0 ≤ q ∧ q ≤ nI 1)) : -2147483648 = nbV th ki va re n cl to co ke w q := by unfold nbV; rw [cif_f (fun z => noR (by decide) h z.2.1)]
noncomputable def fwV (th ki va re : Nat → Nat) (n cl : Nat) (to : Nat → Prop) (co : Nat → Nat) (ke : Nat → Int32) (w : Int32) : Int32 := cif (okW n w) (cif (cls ki re cl (tN w)) (nI (flO th ki va re n cl to co ke (tN w))) (-3)) (-2)
theorem fwV_k {th ki va re : Nat → Nat} {n cl : Nat} {to : Nat → Prop} {co : Nat → Nat} {ke : Nat → Int32} {k : Nat} (hn : n ≤ 40) (hk : k < n) (h : ki k = 4 ∧ re k < cl) : nI (flO th ki va re n cl to co ke k) = fwV th ki va re n cl to co ke (nI k) := by
  unfold fwV; rw [tN_nI (by omega : k < 2 ^ 31), cif_t ⟨k, hk, rfl⟩, cif_t (show cls ki re cl k from h)]
theorem fwV_s {th ki va re : Nat → Nat} {n cl : Nat} {to : Nat → Prop} {co : Nat → Nat} {ke : Nat → Int32} {k : Nat} (hn : n ≤ 40) (hk : k < n) (h : ¬ (ki k = 4 ∧ re k < cl)) : -3 = fwV th ki va re n cl to co ke (nI k) := by
  unfold fwV; rw [tN_nI (by omega : k < 2 ^ 31), cif_t ⟨k, hk, rfl⟩, cif_f (show ¬ cls ki re cl k from h)]
theorem fwV_w {th ki va re : Nat → Nat} {n cl : Nat} {to : Nat → Prop} {co : Nat → Nat} {ke : Nat → Int32} {w : Int32} (h : ¬ okW n w) : -2 = fwV th ki va re n cl to co ke w := by unfold fwV; rw [cif_f h]
noncomputable def jdB (th ki va re : Nat → Nat) (go : Option Nat) (n cl : Nat) (to : Nat → Prop) (co : Nat → Nat) (ke : Nat → Int32) (w q : Nat) : Nat := if q = 0 then vrd th ki va re go n cl (re w) else if q = 1 then mch th ki va re go n cl (re w) 1 else if q = 2 then mch th ki va re go n cl (re w) 3 else cif (flO th ki va re n cl to co ke w = 0 ∧ vrd th ki va re go n cl (re w) ≤ va w) 1 0
noncomputable def jdV (th ki va re : Nat → Nat) (go : Option Nat) (n cl : Nat) (to : Nat → Prop) (co : Nat → Nat) (ke : Nat → Int32) (w q : Int32) : Int32 := cif (okW n w ∧ okR 3 q) (cif (cls ki re cl (tN w)) (nI (jdB th ki va re go n cl to co ke (tN w) (tN q))) (-3)) (-2)
theorem jdV_k {th ki va re : Nat → Nat} {go : Option Nat} {n cl : Nat} {to : Nat → Prop} {co : Nat → Nat} {ke : Nat → Int32} {k j : Nat} (hn : n ≤ 40) (hk : k < n) (hj : j ≤ 3) (h : ki k = 4 ∧ re k < cl) : nI (jdB th ki va re go n cl to co ke k j) = jdV th ki va re go n cl to co ke (nI k) (nI j) := by
  unfold jdV; rw [tN_nI (by omega : k < 2 ^ 31), tN_nI (by omega : j < 2 ^ 31), cif_t ⟨⟨k, hk, rfl⟩, j, hj, rfl⟩, cif_t (show cls ki re cl k from h)]
theorem jdV_s {th ki va re : Nat → Nat} {go : Option Nat} {n cl : Nat} {to : Nat → Prop} {co : Nat → Nat} {ke : Nat → Int32} {k j : Nat} (hn : n ≤ 40) (hk : k < n) (hj : j ≤ 3) (h : ¬ (ki k = 4 ∧ re k < cl)) : -3 = jdV th ki va re go n cl to co ke (nI k) (nI j) := by
  unfold jdV; rw [tN_nI (by omega : k < 2 ^ 31), tN_nI (by omega : j < 2 ^ 31), cif_t ⟨⟨k, hk, rfl⟩, j, hj, rfl⟩, cif_f (show ¬ cls ki re cl k from h)]
theorem jdV_w {th ki va re : Nat → Nat} {go : Option Nat} {n cl : Nat} {to : Nat → Prop} {co : Nat → Nat} {ke : Nat → Int32} {w q : Int32} (h : ¬ okW n w) : -2 = jdV th ki va re go n cl to co ke w q := by unfold jdV; rw [cif_f (fun z => h z.1)]
theorem jdV_q {th ki va re : Nat → Nat} {go : Option Nat} {n cl : Nat} {to : Nat → Prop} {co : Nat → Nat} {ke : Nat → Int32} {w q : Int32} (h : ¬ (0 ≤ q ∧ q ≤ nI 3)) : -2 = jdV th ki va re go n cl to co ke w q := by unfold jdV; rw [cif_f (fun z => noR (by decide) h z.2)]
noncomputable def chV2 (th ki va re : Nat → Nat) (go : Option Nat) (n cl s k q : Nat) : Option Nat := (chB th ki va re go n cl s k).map (chV th ki va re go n s q)
noncomputable def cgV (th ki va re : Nat → Nat) (go : Option Nat) (n cl : Nat) (w i q : Int32) : Int32 := cif (okW n w ∧ okR 99 i ∧ okR 2 q) (cif (cls ki re cl (tN w)) (oI (chV2 th ki va re go n cl (re (tN w)) (tN i) (tN q))) (-3)) (-2)
theorem cgV_k {th ki va re : Nat → Nat} {go : Option Nat} {n cl : Nat} {k i j : Nat} (hn : n ≤ 40) (hk : k < n) (hi : i ≤ 99) (hj : j ≤ 2) (h : ki k = 4 ∧ re k < cl) : oI (chV2 th ki va re go n cl (re k) i j) = cgV th ki va re go n cl (nI k) (nI i) (nI j) := by
  unfold cgV; rw [tN_nI (by omega : k < 2 ^ 31), tN_nI (by omega : i < 2 ^ 31), tN_nI (by omega : j < 2 ^ 31), cif_t ⟨⟨k, hk, rfl⟩, ⟨i, hi, rfl⟩, j, hj, rfl⟩, cif_t (show cls ki re cl k from h)]
theorem cgV_s {th ki va re : Nat → Nat} {go : Option Nat} {n cl : Nat} {k i j : Nat} (hn : n ≤ 40) (hk : k < n) (hi : i ≤ 99) (hj : j ≤ 2) (h : ¬ (ki k = 4 ∧ re k < cl)) : -3 = cgV th ki va re go n cl (nI k) (nI i) (nI j) := by
  unfold cgV; rw [tN_nI (by omega : k < 2 ^ 31), tN_nI (by omega : i < 2 ^ 31), tN_nI (by omega : j < 2 ^ 31), cif_t ⟨⟨k, hk, rfl⟩, ⟨i, hi, rfl⟩, j, hj, rfl⟩, cif_f (show ¬ cls ki re cl k from h)]
theorem cgV_w {th ki va re : Nat → Nat} {go : Option Nat} {n cl : Nat} {w i q : Int32} (h : ¬ okW n w) : -2 = cgV th ki va re go n cl w i q := by unfold cgV; rw [cif_f (fun z => h z.1)]
theorem cgV_i {th ki va re : Nat → Nat} {go : Option Nat} {n cl : Nat} {w i q : Int32} (h : ¬ (0 ≤ i ∧ i ≤ nI 99)) : -2 = cgV th ki va re go n cl w i q := by unfold cgV; rw [cif_f (fun z => noR (by decide) h z.2.1)]
theorem cgV_q {th ki va re : Nat → Nat} {go : Option Nat} {n cl : Nat} {w i q : Int32} (h : ¬ (0 ≤ q ∧ q ≤ nI 2)) : -2 = cgV th ki va re go n cl w i q := by unfold cgV; rw [cif_f (fun z => noR (by decide) h z.2.2)]
noncomputable def alV (ki va re : Nat → Nat) (n cl : Nat) (x : Int32) : Int32 := cif (okR cl x) (nI (alw ki va re (tN x) n)) (-2)
theorem alV_k {ki va re : Nat → Nat} {n cl k : Nat} (hcl : cl ≤ 7) (hk : k ≤ cl) : nI (alw ki va re k n) = alV ki va re n cl (nI k) := by
  unfold alV; rw [cif_t ⟨k, hk, rfl⟩, tN_nI (by omega)]
theorem alV_x {ki va re : Nat → Nat} {n cl : Nat} {x : Int32} (h : ¬ okR cl x) : -2 = alV ki va re n cl x := by unfold alV; rw [cif_f h]
noncomputable def fsW (th ki va re : Nat → Nat) (go : Option Nat) (n cl : Nat) (q : Int32) : Int32 := cif (okR 2 q) (oI (fsV th ki va re go n cl (tN q))) (-2)
theorem fsW_k {th ki va re : Nat → Nat} {go : Option Nat} {n cl j : Nat} (hj : j ≤ 2) : oI (fsV th ki va re go n cl j) = fsW th ki va re go n cl (nI j) := by
  unfold fsW; rw [cif_t ⟨j, hj, rfl⟩, tN_nI (by omega)]
theorem fsW_q {th ki va re : Nat → Nat} {go : Option Nat} {n cl : Nat} {q : Int32} (h : ¬ (0 ≤ q ∧ q ≤ nI 2)) : -2 = fsW th ki va re go n cl q := by unfold fsW; rw [cif_f (fun z => noR (by decide) h z)]
theorem frE_s {th ki re : Nat → Nat} {go : Option Nat} {n x y s t : Nat} (h : frE th ki re go n x y s t) (h1 : (x ^^^ y).testBit t = true → lastT th ki re go t s n = none) : nI 1 = bI (frE th ki re go n x y s (t + 1)) := b1 (fun u hu hb => by
  by_cases e : u = t
  · subst e; exact h1 hb
  · exact h u (by omega) hb)
theorem frE_a {th ki re : Nat → Nat} {go : Option Nat} {n x y s t : Nat} (h : ¬ frE th ki re go n x y s t) : nI 0 = bI (frE th ki re go n x y s (t + 1)) := b0 (fun q => h (fun u hu hb => q u (by omega) hb))
theorem frE_b {th ki re : Nat → Nat} {go : Option Nat} {n x y s t : Nat} (h : (x ^^^ y).testBit t = true) (h1 : ¬ lastT th ki re go t s n = none) : nI 0 = bI (frE th ki re go n x y s (t + 1)) := b0 (fun q => h1 (q t (by omega) h))
theorem xor_lt {x y : Nat} (hx : x ≤ 65535) (hy : y ≤ 65535) : x ^^^ y < 65536 := Nat.xor_lt_two_pow (n := 16) (by omega) (by omega)
theorem nI_xor (a b : Nat) : nI a ^^^ nI b = nI (a ^^^ b) := by
  rw [← Int32.toBitVec_inj]
  apply BitVec.eq_of_toNat_eq
  have e1 : ∀ a : Nat, (nI a).toBitVec.toNat = a % 2 ^ 32 := fun a => rfl
  rw [Int32.toBitVec_xor, BitVec.toNat_xor, e1, e1, e1, Nat.xor_mod_two_pow]
theorem srt_3 {th ki va re : Nat → Nat} {go : Option Nat} {n t r s : Nat} (h : shad th ki va re go n t r) : nI 3 = nI (srt th ki va re go n t r s) := congrArg nI (by unfold srt; rw [cif_t h])
theorem map_none {ki : Nat → Nat} {a : Option Nat} : a.map ki = none ↔ a = none := by cases a <;> simp
theorem chB_hit {q : Nat → Prop} {d j : Nat} {B : Option Nat} (hB : fnd q (d + 1) j = B) (h : q j) : some j = B := by rw [← hB, fnd_t h]
theorem alw_t {ki va re : Nat → Nat} {r i : Nat} (h : ki i = 4) (h2 : re i < r) : min (va i) (alw ki va re r i) = alw ki va re r (i + 1) := by simp only [alw]; rw [cif_t ⟨h, h2⟩]
theorem alw_f {ki va re : Nat → Nat} {r i : Nat} (h : ¬ (ki i = 4 ∧ re i < r)) : alw ki va re r i = alw ki va re r (i + 1) := by simp only [alw]; rw [cif_f h]
theorem vrd_le (th ki va re : Nat → Nat) (go : Option Nat) (n cl s : Nat) : vrd th ki va re go n cl s ≤ 3 := mxP_le (fun _ => srt_le th ki va re go n _ _ s) _
theorem mho_le (th ki va re : Nat → Nat) (go : Option Nat) (n cl : Nat) (fw : Nat → Nat) (i : Nat) : mho th ki va re go n cl fw i ≤ i := cntP_le _ i
def cutV (f v : Int32) : Int32 := if f = 0 then v.toInt8.toInt32 else if f = nI 1 then v.toInt16.toInt32 else v
