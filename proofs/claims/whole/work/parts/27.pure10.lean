/-! the class's rows against the words: what its calls that ask answer -/
def SKb (th ki va re : Nat → Nat) (n cl : Nat) (bt : Nat → Nat) (bs : Nat) : Prop := bs = 5 * n + 2 * cl ∧ ∀ i, i < 5 * n + 2 * cl → byteA th ki va re n cl i = some (bt i)
def SKc (th ki va re : Nat → Nat) (n cl : Nat) (to : Nat → Prop) (co : Nat → Nat) (ke nu : Nat → Int32) (fw : Nat → Nat) : Prop := ∀ v, v < n → cls ki re cl v → nu v = numO th ki va re n cl to co v ∧ fw v = flO th ki va re n cl to co ke v
def SKt (n : Nat) (to : Nat → Prop) (co : Nat → Nat) : Prop := ∀ v, v < n → to v → co (4 * v) ≤ co (4 * v + 1) ∧ co (4 * v + 2) ≤ co (4 * v + 3)
theorem okW_R {m : Nat} {x : Int32} : okW (m + 1) x ↔ okR m x := ⟨fun ⟨k, h, e⟩ => ⟨k, by omega, e⟩, fun ⟨k, h, e⟩ => ⟨k, by omega, e⟩⟩
theorem sw_no {m : Nat} (hm : m < 2 ^ 31) {x : Int32} (h : x.toInt < 0 ∨ (m : Int) < x.toInt) : ¬ okR m x := by
  rintro ⟨k, hk, rfl⟩
  rw [nI_toInt (by omega)] at h
  omega
theorem cif2 {α : Type} {q : Prop} {x y z : α} (h1 : q → z = x) (h2 : ¬ q → z = y) : z = cif q x y := by
  by_cases h : q
  · rw [cif_t h]; exact h1 h
  · rw [cif_f h]; exact h2 h
theorem wrV_o {th ki va re : Nat → Nat} {n : Nat} {w q : Int32} (h : ¬ okR 4 q) : -2 = wrV th ki va re n w q := by unfold wrV; rw [cif_f (fun z => h z.2)]
theorem rvV_o {re : Nat → Nat} {n cl : Nat} {x q : Int32} (h : ¬ okR 3 q) : -2 = rvV re n cl x q := by unfold rvV; rw [cif_f (fun z => h z.2)]
theorem tgV_o {th ki va re : Nat → Nat} {go : Option Nat} {n cl : Nat} {t x q : Int32} (h : ¬ (okR 15 t ∧ okR cl x ∧ okR 2 q)) : -2 = tgV th ki va re go n cl t x q := by unfold tgV; rw [cif_f h]
theorem cvV_o {ki re : Nat → Nat} {n cl : Nat} {to : Nat → Prop} {co : Nat → Nat} {w q : Int32} (h : ¬ okR 3 q) : -2 = cvV ki re n cl to co w q := by unfold cvV; rw [cif_f (fun z => h z.2)]
theorem nbV_o {th ki va re : Nat → Nat} {n cl : Nat} {to : Nat → Prop} {co : Nat → Nat} {ke : Nat → Int32} {w q : Int32} (h : ¬ okR 1 q) : -2147483648 = nbV th ki va re n cl to co ke w q := by unfold nbV; rw [cif_f (fun z => h z.2.1)]
theorem jdV_o {th ki va re : Nat → Nat} {go : Option Nat} {n cl : Nat} {to : Nat → Prop} {co : Nat → Nat} {ke : Nat → Int32} {w q : Int32} (h : ¬ okR 3 q) : -2 = jdV th ki va re go n cl to co ke w q := by unfold jdV; rw [cif_f (fun z => h z.2)]
theorem cgV_o {th ki va re : Nat → Nat} {go : Option Nat} {n cl : Nat} {w i q : Int32} (h : ¬ (okR 99 i ∧ okR 2 q)) : -2 = cgV th ki va re go n cl w i q := by unfold cgV; rw [cif_f (fun z => h z.2)]
theorem fsW_o {th ki va re : Nat → Nat} {go : Option Nat} {n cl : Nat} {q : Int32} (h : ¬ okR 2 q) : -2 = fsW th ki va re go n cl q := by unfold fsW; rw [cif_f h]
theorem byV_w {th ki va re : Nat → Nat} {n cl : Nat} {i : Int32} (h : i ≠ -1) (h2 : ¬ okW (5 * n + 2 * cl) i) : -2 = byV th ki va re n cl i := by unfold byV; rw [cif_f h, cif_f h2]
section Asks
variable {th ki va re fi : Nat → Nat} {n cl : Nat} {to : Nat → Prop} {co : Nat → Nat} {ke nu : Nat → Int32} {fw bt : Nat → Nat} {bs : Nat}
theorem cov_mono (S : SW n cl re fi) (K : SKt n to co) {v : Nat} (hv : v < n) : cov re n cl to co v 0 ≤ cov re n cl to co v 1 ∧ cov re n cl to co v 2 ≤ cov re n cl to co v 3 := by
  unfold cov
  by_cases h : to v
  · rw [cif_t h, cif_t h, cif_t h, cif_t h]; exact K v hv h
  · rw [cif_f h, cif_f h, cif_f h, cif_f h]
    have h1 := (S_eq S (r := re v) hv).mp rfl
    refine ⟨Nat.zero_le _, ?_⟩
    show 5 * v + 2 * re v + 5 ≤ endB re n cl (re v)
    unfold endB begB
    split <;> omega
theorem cd_eq (S : SW n cl re fi) (K : SKt n to co) (hn : n ≤ 40) (hcl : cl ≤ 7) (hb : bs = 5 * n + 2 * cl) {v : Nat} (hv : v < n) : nI (min (cov re n cl to co v 1) bs - cov re n cl to co v 0 + (min (cov re n cl to co v 3) bs - cov re n cl to co v 2)) = cvS re n cl to co v 2 := by
  obtain ⟨h1, h2⟩ := cov_mono S K hv
  show _ = nI 0 + (nI (min (cov re n cl to co v 1) (5 * n + 2 * cl)) - nI (min (cov re n cl to co v 0) (5 * n + 2 * cl))) + (nI (min (cov re n cl to co v 3) (5 * n + 2 * cl)) - nI (min (cov re n cl to co v 2) (5 * n + 2 * cl)))
  rw [pk_sub (by omega), pk_sub (by omega), nI_add, nI_add]
  exact congrArg nI (by omega)
theorem numS_congr {f g : Nat → Int32} {h : Int32} {lo d : Nat} (e : ∀ i, lo ≤ i → i < lo + d → f i = g i) : numS f h lo d = numS g h lo d := by
  induction d with
  | zero => rfl
  | succ d ih => simp only [numS]; rw [ih (fun i h1 h2 => e i h1 (by omega)), e (lo + d) (by omega) (by omega)]
theorem nmC_eq (K : SKb th ki va re n cl bt bs) (v : Nat) : nmC bt bs (cov re n cl to co v) = numO th ki va re n cl to co v := by
  obtain ⟨hb, hk⟩ := K
  have e : ∀ i, i < 5 * n + 2 * cl → nI (bt i) = oI (byteA th ki va re n cl i) := fun i hi => by rw [hk i hi]; rfl
  show numS (fun i => nI (bt i)) (numS (fun i => nI (bt i)) (nI 7) (cov re n cl to co v 0) (min (cov re n cl to co v 1) bs - cov re n cl to co v 0)) (cov re n cl to co v 2) (min (cov re n cl to co v 3) bs - cov re n cl to co v 2) = numS (fun i => oI (byteA th ki va re n cl i)) (numS (fun i => oI (byteA th ki va re n cl i)) (nI 7) (cov re n cl to co v 0) (min (cov re n cl to co v 1) (5 * n + 2 * cl) - cov re n cl to co v 0)) (cov re n cl to co v 2) (min (cov re n cl to co v 3) (5 * n + 2 * cl) - cov re n cl to co v 2)
  rw [hb]
  rw [numS_congr (f := fun i => nI (bt i)) (g := fun i => oI (byteA th ki va re n cl i)) (h := nI 7) (fun i h1 h2 => e i (by omega))]
  exact numS_congr (fun i h1 h2 => e i (by omega))
end Asks
section Asks2
variable {th ki va re fi : Nat → Nat} {go : Option Nat} {n cl : Nat} {lt : Nat → Option Nat} {tr sh cr ct cu ve ta : Nat → Nat} {ch : Nat}
theorem mch1 (K : HOK th ki va re go n cl lt tr sh cr ct cu ve ta ch) {z : Nat} (hz : z < cl) : ch - cu z = mch th ki va re go n cl z 1 := by
  obtain ⟨-, -, -, -, h5, -, h7⟩ := K
  rw [h7, h5 z (by omega), CH_sub hz]
  exact cntP_congr (fun j hj => chg_lo)
theorem fnd_eq {q : Nat → Prop} {d k : Nat} (hq : q k) (hk : k < d) (hm : ∀ i, i < k → ¬ q i) : fnd q d 0 = some k := by
  cases h : fnd q d 0 with
  | none => exact absurd hq (fnd_none h k (Nat.zero_le k) (by omega))
  | some j =>
    obtain ⟨a, -, -, b⟩ := fnd_spec h
    rcases Nat.lt_trichotomy j k with c | c | c
    · exact absurd a (hm j c)
    · rw [c]
    · exact absurd hq (b k (Nat.zero_le k) c)
theorem fnd_no {q : Nat → Prop} {d : Nat} (hm : ∀ i, i < d → ¬ q i) : fnd q d 0 = none := by
  cases h : fnd q d 0 with
  | none => rfl
  | some j => obtain ⟨a, -, b, -⟩ := fnd_spec h; exact absurd a (hm j (by omega))
/-- the i-th change behind a seal's revision -/
theorem ch_at (hcl : cl ≤ 7) (K : HOK th ki va re go n cl lt tr sh cr ct cu ve ta ch) {z i : Nat} (hz : z < cl) (hi : i < ch - cu z) : ∃ j, chB th ki va re go n cl z i = some j ∧ cu z + i < ch ∧ nth (chg th ki va re go n) (cu z + i) = 16 * (z + 1) + j ∧ 16 * (z + 1) + j < 16 * (cl + 1) ∧ chg th ki va re go n (16 * (z + 1) + j) ∧ cr (cu z + i) = (16 * (z + 1) + j) / 16 ∧ ct (cu z + i) = (16 * (z + 1) + j) % 16 := by
  obtain ⟨-, -, -, h4, h5, -, h7⟩ := K
  have e5 := h5 z (by omega)
  have hs := CH_sub (th := th) (ki := ki) (va := va) (re := re) (go := go) (n := n) hz
  rw [h7, e5, hs] at hi
  obtain ⟨j, a1, a2, a3⟩ := cntP_ex hi
  have e : cntP (chg th ki va re go n) (16 * (z + 1) + j) = cu z + i := by rw [cntP_add, a3, e5]; rfl
  have hlt : cu z + i < cCH th ki va re go n (cl + 1) := by rw [← e]; exact cntP_lt (by omega) a2
  have hn : nth (chg th ki va re go n) (cu z + i) = 16 * (z + 1) + j := by rw [← e, nth_at (by omega) a2]
  obtain ⟨c1, c2⟩ := h4 _ hlt
  rw [hn] at c1 c2
  refine ⟨j, ?_, by rw [h7]; exact hlt, hn, by omega, a2, c1, c2⟩
  unfold chB
  have a3' : cntP (fun j => 1 ≤ sjt th ki va re go n z j) j = i := by rw [← a3]; exact (cntP_congr (fun k _ => chg_lo)).symm
  refine fnd_eq ⟨chg_lo.mp a2, a3'⟩ a1 (fun k hk q => ?_)
  have := cntP_lt (q := fun j => 1 ≤ sjt th ki va re go n z j) hk q.1
  rw [q.2, a3'] at this
  omega
theorem ch_no (K : HOK th ki va re go n cl lt tr sh cr ct cu ve ta ch) {z i : Nat} (hz : z < cl) (hi : ch - cu z ≤ i) : chB th ki va re go n cl z i = none := by
  unfold chB
  refine fnd_no (fun j hj q => ?_)
  have h1 := mch1 K hz
  have h2 := cntP_lt (q := fun j => 1 ≤ sjt th ki va re go n z j) hj q.1
  unfold mch at h1
  rw [q.2, ← h1] at h2
  omega
/-- seals against the i-th place -/
def fsQ (th ki va re : Nat → Nat) (go : Option Nat) (n i v : Nat) : Prop := ki v = 4 ∧ va v < srt th ki va re go n (i % 16) (i / 16) (re v)
theorem fnd_trunc {q q' : Nat → Prop} {d m : Nat} (hm : m ≤ d) (h : ∀ v, v < d → (q v ↔ (v < m ∧ q' v))) : fnd q d 0 = fnd q' m 0 := by
  cases e : fnd q' m 0 with
  | none => exact fnd_no (fun i hi z => fnd_none e i (Nat.zero_le i) (by have := ((h i hi).mp z).1; omega) ((h i hi).mp z).2)
  | some k =>
    obtain ⟨a, -, b, c⟩ := fnd_spec e
    exact fnd_eq ((h k (by omega)).mpr ⟨by omega, a⟩) (by omega) (fun i hi z => c i (Nat.zero_le i) hi ((h i (by omega)).mp z).2)
theorem bad_fs (S : SW n cl re fi) {i : Nat} (hi : i < 16 * (cl + 1)) : fnd (bad th ki va re go n cl i) n 0 = fnd (fsQ th ki va re go n i) (cntLt re (i / 16) n) 0 := by
  refine fnd_trunc (cntLt_le _ _ _) (fun v hv => ?_)
  have h := S_lt S (r := i / 16) hv
  constructor
  · rintro ⟨a, b, c⟩; exact ⟨h.mp b, a.1, c⟩
  · rintro ⟨a, b, c⟩; have := h.mpr a; exact ⟨⟨b, by omega⟩, this, c⟩
theorem fsQ_chg {i v : Nat} (hi : 16 ≤ i) (h : fsQ th ki va re go n i v) : chg th ki va re go n i := ⟨hi, srt_pos.mp (Nat.lt_of_le_of_lt (Nat.zero_le _) h.2)⟩
theorem fsI_some (S : SW n cl re fi) (hcl : cl ≤ 7) {k : Nat} (hk : k < cCH th ki va re go n (cl + 1)) (h1 : fnd (fsQ th ki va re go n (nth (chg th ki va re go n) k)) (cntLt re (nth (chg th ki va re go n) k / 16) n) 0 ≠ none) (h2 : ∀ j, j < k → fnd (fsQ th ki va re go n (nth (chg th ki va re go n) j)) (cntLt re (nth (chg th ki va re go n) j / 16) n) 0 = none) : fsI th ki va re go n cl = some (nth (chg th ki va re go n) k) := by
  obtain ⟨a, b, c⟩ := nth_chg (th := th) (ki := ki) (va := va) (re := re) (go := go) (n := n) (r := cl + 1) (by omega) hk
  unfold fsI
  refine fnd_eq (by rw [bad_fs S b]; exact h1) b (fun i hi q => ?_)
  rw [bad_fs S (by omega)] at q
  obtain ⟨v, hv⟩ := Option.ne_none_iff_exists'.mp q
  obtain ⟨q1, -, q3, -⟩ := fnd_spec hv
  have hi16 : 16 ≤ i := by
    apply Nat.not_lt.mp
    intro z
    have : i / 16 = 0 := by omega
    rw [this] at q3
    have h0 := cntLt_stop (re := re) (r := 0) (m := 0) (k := n) (fun v _ _ => Nat.zero_le _)
    rw [Nat.zero_add] at h0
    have : cntLt re 0 0 = 0 := rfl
    omega
  have hc := fsQ_chg hi16 q1
  have hlt := cntP_lt hi hc
  rw [c] at hlt
  have := h2 _ hlt
  rw [nth_at (by omega) hc] at this
  exact q this
theorem fsI_none (S : SW n cl re fi) (hcl : cl ≤ 7) (h2 : ∀ j, j < cCH th ki va re go n (cl + 1) → fnd (fsQ th ki va re go n (nth (chg th ki va re go n) j)) (cntLt re (nth (chg th ki va re go n) j / 16) n) 0 = none) : fsI th ki va re go n cl = none := by
  unfold fsI
  refine fnd_no (fun i hi q => ?_)
  rw [bad_fs S hi] at q
  obtain ⟨v, hv⟩ := Option.ne_none_iff_exists'.mp q
  obtain ⟨q1, -, q3, -⟩ := fnd_spec hv
  have hi16 : 16 ≤ i := by
    apply Nat.not_lt.mp
    intro z
    have : i / 16 = 0 := by omega
    rw [this] at q3
    have h0 := cntLt_stop (re := re) (r := 0) (m := 0) (k := n) (fun v _ _ => Nat.zero_le _)
    rw [Nat.zero_add] at h0
    have : cntLt re 0 0 = 0 := rfl
    omega
  have hc := fsQ_chg hi16 q1
  have hlt : cntP (chg th ki va re go n) i < cCH th ki va re go n (cl + 1) := cntP_lt hi hc
  have := h2 _ hlt
  rw [nth_at (by omega) hc] at this
  exact q this
noncomputable def alC (ki va : Nat → Nat) : Nat → Nat
  | 0 => 3
  | i + 1 => cif (ki i = 4) (min (alC ki va i) (va i)) (alC ki va i)
theorem alC_le (ki va : Nat → Nat) (i : Nat) : alC ki va i ≤ 3 := by
  induction i with
  | zero => exact Nat.le_refl 3
  | succ i ih => simp only [alC]; exact cif_le (by omega) ih
theorem alC_eq (S : SW n cl re fi) (r : Nat) : alC ki va (cntLt re r n) = alw ki va re r n := by
  have key : ∀ m, m ≤ n → alw ki va re r m = alC ki va (min m (cntLt re r n)) := by
    intro m
    induction m with
    | zero => intro _; rw [Nat.zero_min]; rfl
    | succ m ih =>
      intro hm
      have ih := ih (by omega)
      have h := S_lt S (r := r) (v := m) (by omega)
      simp only [alw]
      by_cases hr : re m < r
      · have hm2 := h.mp hr
        rw [show min (m + 1) (cntLt re r n) = m + 1 by omega]
        rw [show min m (cntLt re r n) = m by omega] at ih
        simp only [alC]
        rw [ih]
        by_cases hk : ki m = 4
        · rw [cif_t ⟨hk, hr⟩, cif_t hk, Nat.min_comm]
        · rw [cif_f (fun q => hk q.1), cif_f hk]
      · have hm2 : ¬ m < cntLt re r n := fun q => hr (h.mpr q)
        rw [cif_f (fun q => hr q.2), ih]
        congr 1
        omega
  have := key n (Nat.le_refl n)
  rw [show min n (cntLt re r n) = cntLt re r n by have := cntLt_le re r n; omega] at this
  exact this.symm
theorem hold_eq {to : Nat → Prop} {co : Nat → Nat} {ke nu : Nat → Int32} {fw : Nat → Nat} (K : HOK th ki va re go n cl lt tr sh cr ct cu ve ta ch) (C : SKc th ki va re n cl to co ke nu fw) : cntP (fun v => ¬ go = some v ∧ cls ki re cl v ∧ (ve (re v) ≤ va v ∧ fw v = 0)) n = hoN th ki va re go n cl to co ke := by
  obtain ⟨-, -, -, -, -, h6, -⟩ := K
  refine cntP_congr (fun v hv => ?_)
  constructor
  · rintro ⟨a, b, c, d⟩
    rw [(h6 (re v) b.2).1] at c
    rw [(C v hv b).2] at d
    exact ⟨b, a, d, c⟩
  · rintro ⟨b, a, d, c⟩
    rw [← (h6 (re v) b.2).1] at c
    rw [← (C v hv b).2] at d
    exact ⟨a, b, c, d⟩
theorem shd_sum (q : Nat → Nat → Prop) (c : Nat) : ∀ r, cntP (fun i => q (i % 16) (i / 16)) (16 * r) = cntP (fun i => q (i % 16) (i / 16)) (16 * r) := fun _ => rfl
theorem shd_step (q : Nat → Nat → Prop) (r : Nat) : cntP (fun i => q (i % 16) (i / 16)) (16 * r) + cntP (fun t => q t r) 16 = cntP (fun i => q (i % 16) (i / 16)) (16 * (r + 1)) := by
  rw [show 16 * (r + 1) = 16 * r + 16 by omega, cntP_add]
  congr 1
  refine cntP_congr (fun t ht => ?_)
  rw [show (16 * r + t) % 16 = t by omega, show (16 * r + t) / 16 = r by omega]
end Asks2
theorem nlt_le {x y : Int32} (h : ¬ y < x) : x ≤ y := by
  rw [Int32.lt_iff_toInt_lt] at h; rw [Int32.le_iff_toInt_le]; omega
theorem lt_nle {x y : Int32} (h : y < x) : ¬ x ≤ y := by
  rw [Int32.lt_iff_toInt_lt] at h; rw [Int32.le_iff_toInt_le]; omega
theorem le_nlt {x y : Int32} (h : x ≤ y) : ¬ y < x := by
  rw [Int32.le_iff_toInt_le] at h; rw [Int32.lt_iff_toInt_lt]; omega
theorem nle_lt {x y : Int32} (h : ¬ x ≤ y) : y < x := by
  rw [Int32.le_iff_toInt_le] at h; rw [Int32.lt_iff_toInt_lt]; omega
theorem okP_1 {t k v : Int32} (h : okP t k v) : okR 15 t := by
  obtain ⟨t', k', v', h1, h2, h3, e1, e2, e3⟩ := h; exact ⟨t', h1, e1⟩
theorem okP_2 {t k v : Int32} (h : okP t k v) : okR 5 k := by
  obtain ⟨t', k', v', h1, h2, h3, e1, e2, e3⟩ := h; exact ⟨k', h2, e2⟩
theorem okP_3 {t k v : Int32} (h : okP t k v) : 0 ≤ v ∧ v ≤ (if k = nI 4 then 2 else 65535) := by
  obtain ⟨t', k', v', h1, h2, h3, e1, e2, e3⟩ := h; rw [e2, e3]; exact (val_iff h2).mpr ⟨v', h3, rfl⟩
theorem okP_i {t k v : Int32} (h1 : okR 15 t) (h2 : ¬ k < 0) (h3 : ¬ nI 5 < k) (h4 : 0 ≤ v ∧ v ≤ (if k = nI 4 then 2 else 65535)) : okP t k v := by
  obtain ⟨t', a1, rfl⟩ := h1
  obtain ⟨k', a2, rfl⟩ := hr_iff (m := 5) (by decide) h2 h3
  obtain ⟨v', a3, rfl⟩ := (val_iff a2).mp h4
  exact ⟨t', k', v', a1, a2, a3, rfl, rfl, rfl⟩
theorem fnd_lt (q : Nat → Prop) (d n : Nat) (h : d ≤ n) : ∀ w, fnd q d 0 = some w → w < n := by
  intro w e
  obtain ⟨-, -, h3, -⟩ := fnd_spec e
  omega
