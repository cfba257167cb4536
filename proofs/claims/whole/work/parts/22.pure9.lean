/-! the whole history, told: what its rows hold -/
def HOK (th ki va re : Nat → Nat) (go : Option Nat) (n cl : Nat) (lt : Nat → Option Nat) (tr sh cr ct cu ve ta : Nat → Nat) (ch : Nat) : Prop :=
  (∀ r t, r ≤ cl → t < 16 → lt (r * 16 + t) = lastW th re go t r n) ∧ (∀ r, r ≤ cl → tr r = bsm (fun t => ¬ lastT th ki re go t r n = none) 16) ∧ (∀ r, r ≤ cl → sh r = bsm (fun t => shad th ki va re go n t r) 16) ∧
  (∀ k, k < cCH th ki va re go n (cl + 1) → cr k = nth (chg th ki va re go n) k / 16 ∧ ct k = nth (chg th ki va re go n) k % 16) ∧ (∀ r, r ≤ cl → cu r = cCH th ki va re go n (r + 1)) ∧ (∀ r, r < cl → ve r = vrd th ki va re go n cl r ∧ ta r = mch th ki va re go n cl r 3) ∧ ch = cCH th ki va re go n (cl + 1)
section Told
variable {th ki va re : Nat → Nat} {go : Option Nat} {n cl : Nat}
/-- the sort of a change, out of rows that are told -/
theorem srC_at {lt : Nat → Option Nat} {tr sh : Nat → Nat} (hva : ∀ j, va j ≤ 65535) (h1 : ∀ r t, r ≤ cl → t < 16 → lt (r * 16 + t) = lastW th re go t r n) (h2 : ∀ r, r ≤ cl → tr r = bsm (fun t => ¬ lastT th ki re go t r n = none) 16) (h3 : ∀ r, r ≤ cl → sh r = bsm (fun t => shad th ki va re go n t r) 16) {i z : Nat} (hi : i < 16 * (cl + 1)) (hz : z ≤ cl) (hc : chg th ki va re go n i) :
    srC ki va ((sh (i / 16)).testBit (i % 16) = true) ((tr z).testBit (i % 16) = true) (tr z) (lt ((i / 16 - 1) * 16 + i % 16)) (lt (i / 16 * 16 + i % 16)) = srt th ki va re go n (i % 16) (i / 16) z := by
  have ht : i % 16 < 16 := Nat.mod_lt _ (by decide)
  have hi16 := hc.1
  rw [h1 (i / 16 - 1) (i % 16) (by omega) ht, h1 (i / 16) (i % 16) (by omega) ht]
  have hsh : ((sh (i / 16)).testBit (i % 16) = true) = shad th ki va re go n (i % 16) (i / 16) := propext (by rw [h3 _ (by omega), bsm_tb]; exact ⟨fun q => q.2, fun q => ⟨ht, q⟩⟩)
  rw [hsh]
  exact srC_srt hva (fun u => by rw [h2 z hz, bsm_tb]) ht hc.2
theorem chg_lo {z j : Nat} : chg th ki va re go n (16 * (z + 1) + j) ↔ 1 ≤ sjt th ki va re go n z j := by
  unfold sjt chg
  rw [srt_pos]
  exact ⟨fun q => q.2, fun q => ⟨by omega, q⟩⟩
theorem CH_sub {z : Nat} (hz : z < cl) : cCH th ki va re go n (cl + 1) - cCH th ki va re go n (z + 1) = cntP (fun j => chg th ki va re go n (16 * (z + 1) + j)) (16 * (cl + 1) - 16 * (z + 1)) := by
  unfold cCH
  have h := cntP_add (chg th ki va re go n) (16 * (z + 1)) (16 * (cl + 1) - 16 * (z + 1))
  rw [show 16 * (z + 1) + (16 * (cl + 1) - 16 * (z + 1)) = 16 * (cl + 1) by omega] at h
  omega
theorem J_g {lt : Nat → Option Nat} {tr sh cr ct : Nat → Nat} (hcl : cl ≤ 7) (hva : ∀ j, va j ≤ 65535) (h1 : ∀ r t, r ≤ cl → t < 16 → lt (r * 16 + t) = lastW th re go t r n) (h2 : ∀ r, r ≤ cl → tr r = bsm (fun t => ¬ lastT th ki re go t r n = none) 16) (h3 : ∀ r, r ≤ cl → sh r = bsm (fun t => shad th ki va re go n t r) 16)
    (h4 : ∀ k, k < cCH th ki va re go n (cl + 1) → cr k = nth (chg th ki va re go n) k / 16 ∧ ct k = nth (chg th ki va re go n) k % 16) {z j : Nat} (hz : z < cl) (hj : j < 16 * (cl + 1) - 16 * (z + 1)) (hq : chg th ki va re go n (16 * (z + 1) + j)) (k : Nat) (hk : k = cCH th ki va re go n (z + 1) + cntP (fun j => chg th ki va re go n (16 * (z + 1) + j)) j) :
    srC ki va ((sh (cr k)).testBit (ct k) = true) ((tr z).testBit (ct k) = true) (tr z) (lt ((cr k - 1) * 16 + ct k)) (lt (cr k * 16 + ct k)) = sjt th ki va re go n z j := by
  have e : k = cntP (chg th ki va re go n) (16 * (z + 1) + j) := by rw [hk, cntP_add]; rfl
  have hlt : k < cCH th ki va re go n (cl + 1) := by rw [e]; exact cntP_lt (by omega) hq
  obtain ⟨e1, e2⟩ := h4 k hlt
  rw [e, nth_at (by omega) hq, ← e] at e1 e2
  rw [e1, e2, srC_at hva h1 h2 h3 (by omega) (by omega) hq]
  rfl
theorem JV {lt : Nat → Option Nat} {tr sh cr ct cu : Nat → Nat} {ch : Nat} (hcl : cl ≤ 7) (hva : ∀ j, va j ≤ 65535) (h1 : ∀ r t, r ≤ cl → t < 16 → lt (r * 16 + t) = lastW th re go t r n) (h2 : ∀ r, r ≤ cl → tr r = bsm (fun t => ¬ lastT th ki re go t r n = none) 16) (h3 : ∀ r, r ≤ cl → sh r = bsm (fun t => shad th ki va re go n t r) 16)
    (h4 : ∀ k, k < cCH th ki va re go n (cl + 1) → cr k = nth (chg th ki va re go n) k / 16 ∧ ct k = nth (chg th ki va re go n) k % 16) {z : Nat} (hz : z < cl) (h5 : cu z = cCH th ki va re go n (z + 1)) (h6 : ch = cCH th ki va re go n (cl + 1)) :
    mxP (fun j => srC ki va ((sh (cr (cu z + j))).testBit (ct (cu z + j)) = true) ((tr z).testBit (ct (cu z + j)) = true) (tr z) (lt ((cr (cu z + j) - 1) * 16 + ct (cu z + j))) (lt (cr (cu z + j) * 16 + ct (cu z + j)))) (ch - cu z) = vrd th ki va re go n cl z ∧
    cntP (fun j => srC ki va ((sh (cr (cu z + j))).testBit (ct (cu z + j)) = true) ((tr z).testBit (ct (cu z + j)) = true) (tr z) (lt ((cr (cu z + j) - 1) * 16 + ct (cu z + j))) (lt (cr (cu z + j) * 16 + ct (cu z + j))) = 3) (ch - cu z) = mch th ki va re go n cl z 3 := by
  rw [h6, h5, CH_sub hz]
  constructor
  · exact mxP_enum (q := fun j => chg th ki va re go n (16 * (z + 1) + j)) (f := sjt th ki va re go n z) (fun j hj hq => by rw [chg_lo] at hq; omega) (fun j hj hq => J_g hcl hva h1 h2 h3 h4 hz hj hq _ rfl)
  · exact cnt_enum (q := fun j => chg th ki va re go n (16 * (z + 1) + j)) (f := sjt th ki va re go n z) (g := fun j => srC ki va ((sh (cr (cCH th ki va re go n (z + 1) + j))).testBit (ct (cCH th ki va re go n (z + 1) + j)) = true) ((tr z).testBit (ct (cCH th ki va re go n (z + 1) + j)) = true) (tr z) (lt ((cr (cCH th ki va re go n (z + 1) + j) - 1) * 16 + ct (cCH th ki va re go n (z + 1) + j))) (lt (cr (cCH th ki va re go n (z + 1) + j) * 16 + ct (cCH th ki va re go n (z + 1) + j)))) (fun j hj hq => by rw [chg_lo] at hq; omega) (fun j hj hq => J_g hcl hva h1 h2 h3 h4 hz hj hq _ rfl) (fun j => srt_le th ki va re go n _ _ z)
end Told
noncomputable def cVE (th ki va re : Nat → Nat) (go : Option Nat) (n cl : Nat) (ve : Nat → Nat) (r j : Nat) : Nat := if j < r then vrd th ki va re go n cl j else ve j
noncomputable def cTA (th ki va re : Nat → Nat) (go : Option Nat) (n cl : Nat) (ta : Nat → Nat) (r j : Nat) : Nat := if j < r then mch th ki va re go n cl j 3 else ta j
theorem up_step {f f' : Nat → Nat} {r x : Nat} (h1 : f' r = x) (h2 : ∀ j, j ≠ r → f' j = f j) : va_up f r x = f' := by
  funext j
  by_cases e : j = r
  · subst e; rw [va_up_self, h1]
  · rw [va_up_ne _ _ e, h2 j e]
theorem VE_step {th ki va re : Nat → Nat} {go : Option Nat} {n cl : Nat} (ve : Nat → Nat) (r : Nat) : va_up (cVE th ki va re go n cl ve r) r (vrd th ki va re go n cl r) = cVE th ki va re go n cl ve (r + 1) := by
  refine up_step (by unfold cVE; rw [if_pos (by omega)]) (fun j hj => ?_)
  unfold cVE
  by_cases h : j < r
  · rw [if_pos h, if_pos (by omega)]
  · rw [if_neg h, if_neg (by omega)]
theorem TA_step {th ki va re : Nat → Nat} {go : Option Nat} {n cl : Nat} (ta : Nat → Nat) (r : Nat) : va_up (cTA th ki va re go n cl ta r) r (mch th ki va re go n cl r 3) = cTA th ki va re go n cl ta (r + 1) := by
  refine up_step (by unfold cTA; rw [if_pos (by omega)]) (fun j hj => ?_)
  unfold cTA
  by_cases h : j < r
  · rw [if_pos h, if_pos (by omega)]
  · rw [if_neg h, if_neg (by omega)]
theorem cVE_le {th ki va re : Nat → Nat} {go : Option Nat} {n cl : Nat} {ve : Nat → Nat} (h : ∀ j, ve j ≤ 3) (r : Nat) : ∀ j, cVE th ki va re go n cl ve r j ≤ 3 := by
  intro j; unfold cVE; split
  · exact vrd_le th ki va re go n cl j
  · exact h j
theorem cTA_le {th ki va re : Nat → Nat} {go : Option Nat} {n cl : Nat} (hcl : cl ≤ 7) {ta : Nat → Nat} (h : ∀ j, ta j ≤ 128) (r : Nat) : ∀ j, cTA th ki va re go n cl ta r j ≤ 128 := by
  intro j; unfold cTA; split
  · have := cntP_le (fun i => 3 ≤ sjt th ki va re go n j i) (16 * (cl + 1) - 16 * (j + 1)); unfold mch; omega
  · exact h j
theorem IHd_c {th ki va re : Nat → Nat} {go : Option Nat} {n cl : Nat} {lt : Nat → Option Nat} {tr sh cr ct cu ve ta : Nat → Nat} {ch : Nat} (H : IHd lt tr sh cr ct cu ve ta ch) (hn : n ≤ 40) (hcl : cl ≤ 7) {r z : Nat} (hr : r ≤ 8) : IHd (cLT th re go n lt r) (cTR th ki re go n tr r) (cSH th ki va re go n sh r) (cCR th ki va re go n cr r) (cCT th ki va re go n ct r) (cCU th ki va re go n cu r) (cVE th ki va re go n cl ve z) (cTA th ki va re go n cl ta z) (cCH th ki va re go n r) := by
  obtain ⟨h1, h2, h3, h4, h5, h6, h7, h8, h9⟩ := H
  exact ⟨cLT_lt hn h1 r, cTR_le h2 r, cSH_le h3 r, cCR_le h4 r, cCT_le h5 r, cCU_le h6 hr, cVE_le h7 z, cTA_le hcl h8 z, by have := cCH_le th ki va re go n r; omega⟩
theorem cVE_0 {th ki va re : Nat → Nat} {go : Option Nat} {n cl : Nat} (ve : Nat → Nat) : cVE th ki va re go n cl ve 0 = ve := by funext j; unfold cVE; rw [if_neg (Nat.not_lt_zero j)]
theorem cTA_0 {th ki va re : Nat → Nat} {go : Option Nat} {n cl : Nat} (ta : Nat → Nat) : cTA th ki va re go n cl ta 0 = ta := by funext j; unfold cTA; rw [if_neg (Nat.not_lt_zero j)]
theorem cz_LT {th re : Nat → Nat} {go : Option Nat} {n : Nat} (lt : Nat → Option Nat) : cLT th re go n lt 0 = lt := by funext j; unfold cLT; rw [if_neg (by omega)]
theorem cz_TR {th ki re : Nat → Nat} {go : Option Nat} {n : Nat} (tr : Nat → Nat) : cTR th ki re go n tr 0 = tr := by funext j; unfold cTR; rw [if_neg (Nat.not_lt_zero j)]
theorem cz_SH {th ki va re : Nat → Nat} {go : Option Nat} {n : Nat} (sh : Nat → Nat) : cSH th ki va re go n sh 0 = sh := by funext j; unfold cSH; rw [if_neg (Nat.not_lt_zero j)]
theorem cz_CR {th ki va re : Nat → Nat} {go : Option Nat} {n : Nat} (cr : Nat → Nat) : cCR th ki va re go n cr 0 = cr := by funext j; unfold cCR; exact if_neg (Nat.not_lt_zero j)
theorem cz_CT {th ki va re : Nat → Nat} {go : Option Nat} {n : Nat} (ct : Nat → Nat) : cCT th ki va re go n ct 0 = ct := by funext j; unfold cCT; exact if_neg (Nat.not_lt_zero j)
theorem cz_CU {th ki va re : Nat → Nat} {go : Option Nat} {n : Nat} (cu : Nat → Nat) : cCU th ki va re go n cu 0 = cu := by funext j; unfold cCU; rw [if_neg (Nat.not_lt_zero j)]
/-- what retell leaves is told -/
theorem HOK_c {th ki va re : Nat → Nat} {go : Option Nat} {n cl : Nat} {lt : Nat → Option Nat} {tr sh cr ct cu ve ta : Nat → Nat} : HOK th ki va re go n cl (cLT th re go n lt (cl + 1)) (cTR th ki re go n tr (cl + 1)) (cSH th ki va re go n sh (cl + 1)) (cCR th ki va re go n cr (cl + 1)) (cCT th ki va re go n ct (cl + 1)) (cCU th ki va re go n cu (cl + 1)) (cVE th ki va re go n cl ve cl) (cTA th ki va re go n cl ta cl) (cCH th ki va re go n (cl + 1)) := by
  refine ⟨fun r t hr ht => cLT_row (by omega) ht, fun r hr => ?_, fun r hr => ?_, fun k hk => ⟨?_, ?_⟩, fun r hr => ?_, fun r hr => ⟨?_, ?_⟩, rfl⟩
  · unfold cTR; rw [if_pos (by omega)]
  · unfold cSH; rw [if_pos (by omega)]
  · unfold cCR; rw [if_pos hk]
  · unfold cCT; rw [if_pos hk]
  · unfold cCU; rw [if_pos (by omega)]
  · unfold cVE; rw [if_pos hr]
  · unfold cTA; rw [if_pos hr]
theorem CR_pos {th ki va re : Nat → Nat} {go : Option Nat} {n cl : Nat} {cr : Nat → Nat} (hcl : cl ≤ 7) : ∀ k, k < cCH th ki va re go n (cl + 1) → 1 ≤ cCR th ki va re go n cr (cl + 1) k ∧ cCR th ki va re go n cr (cl + 1) k ≤ cl := by
  intro k hk
  obtain ⟨a, b, -⟩ := nth_chg (by omega) hk
  have := a.1
  unfold cCR
  rw [if_pos hk]
  omega
