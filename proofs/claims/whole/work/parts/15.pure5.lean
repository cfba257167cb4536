/-! hashes; what a sheet's items write -/
def hs (h : Int64) (x : Int32) : Int64 := (31 : Int32).toInt64 * h + x.toInt64
def hf (f : Nat → Int32) (h : Int64) : Nat → Int64
  | 0 => h
  | k + 1 => hs (hf f h k) (f k)
def hg (F : Nat → Int64 → Int64) (h : Int64) : Nat → Int64
  | 0 => h
  | k + 1 => F k (hg F h k)
theorem hf_congr {f f' : Nat → Int32} {h : Int64} {k : Nat} (e : ∀ j, j < k → f j = f' j) : hf f h k = hf f' h k := by
  induction k with
  | zero => rfl
  | succ k ih => simp only [hf]; rw [ih (fun j hj => e j (by omega)), e k (by omega)]
theorem hg_congr {F F' : Nat → Int64 → Int64} {h : Int64} {k : Nat} (e : ∀ j, j < k → ∀ x, F j x = F' j x) : hg F h k = hg F' h k := by
  induction k with
  | zero => rfl
  | succ k ih => simp only [hg]; rw [ih (fun j hj => e j (by omega)), e k (by omega)]
def apN {α : Type} (f : Nat → α) (n : Nat) (g : Nat → α) : Nat → Nat → α
  | 0 => f
  | k + 1 => va_up (apN f n g k) (n + k) (g k)
def rdS (it : Nat → Int32) (si : Nat → Nat) (n x k : Nat) : Prop := ¬ (3 * k + 3 ≤ si x ∧ okP (it (60 * x + 3 * k)) (it (60 * x + 3 * k + 1)) (it (60 * x + 3 * k + 2)) ∧ n + k < 40)
noncomputable def rdK (it : Nat → Int32) (si : Nat → Nat) (n x : Nat) : Nat := (fnd (rdS it si n x) 21 0).getD 0
theorem rdK_at {it : Nat → Int32} {si : Nat → Nat} {n x d k : Nat} (hB : fnd (rdS it si n x) (d + 1) k = fnd (rdS it si n x) 21 0) (h : rdS it si n x k) : rdK it si n x = k := by
  unfold rdK
  rw [← hB, fnd_t h]
  rfl
noncomputable def dgF (th ki va re : Nat → Nat) (n cl : Nat) (to : Nat → Prop) (co : Nat → Nat) (ke : Nat → Int32) (fw : Nat → Nat) : Nat → Nat → Nat
  | 0 => fw
  | k + 1 => cif (k = 4) (lkA th ki va re n cl to co ke (dgF th ki va re n cl to co ke fw k)) (dgF th ki va re n cl to co ke fw k)
theorem dgF_le (th ki va re : Nat → Nat) (n cl : Nat) (to : Nat → Prop) (co : Nat → Nat) (ke : Nat → Int32) {fw : Nat → Nat} (hw : ∀ j, fw j ≤ 15) (k : Nat) : ∀ j, dgF th ki va re n cl to co ke fw k j ≤ 15 := by
  induction k with
  | zero => exact hw
  | succ k ih =>
    intro j
    simp only [dgF]
    by_cases h : k = 4
    · rw [cif_t h]; exact lkA_le th ki va re n cl to co ke ih j
    · rw [cif_f h]; exact ih j
noncomputable def hlF (th ki va re : Nat → Nat) (n cl : Nat) (to : Nat → Prop) (co : Nat → Nat) (ke : Nat → Int32) (fw : Nat → Nat) : Nat → Nat → Nat
  | 0 => fw
  | k + 1 => lkA th ki va re n cl to co ke (hlF th ki va re n cl to co ke fw k)
theorem hlF_le (th ki va re : Nat → Nat) (n cl : Nat) (to : Nat → Prop) (co : Nat → Nat) (ke : Nat → Int32) {fw : Nat → Nat} (hw : ∀ j, fw j ≤ 15) (k : Nat) : ∀ j, hlF th ki va re n cl to co ke fw k j ≤ 15 := by
  induction k with
  | zero => exact hw
  | succ k ih => exact lkA_le th ki va re n cl to co ke ih
noncomputable def dgW (th ki va re : Nat → Nat) (n cl : Nat) (to : Nat → Prop) (co : Nat → Nat) (ke : Nat → Int32) (fw : Nat → Nat) : Nat → Nat := hlF th ki va re n cl to co ke (dgF th ki va re n cl to co ke fw 8) 4
noncomputable def twA (th ki va re : Nat → Nat) (n cl : Nat) (to : Nat → Prop) (co : Nat → Nat) (h : Int64) (v : Nat) : Int64 := hf (fun j => cvV ki re n cl to co (nI v) (nI j)) (hf (fun j => nI (wrB th ki va re v j)) h 5) 4
noncomputable def twB (th ki va re : Nat → Nat) (n cl : Nat) (to : Nat → Prop) (co : Nat → Nat) (ke : Nat → Int32) (h : Int64) (v : Nat) : Int64 := hs (hs (hs (hs (twA th ki va re n cl to co h v) (cdV ki re n cl to co (nI v))) (nbV th ki va re n cl to co ke (nI v) (nI 0))) (nbV th ki va re n cl to co ke (nI v) (nI 1))) (fwV th ki va re n cl to co ke (nI v))
noncomputable def twC (th ki va re : Nat → Nat) (go : Option Nat) (n cl : Nat) (to : Nat → Prop) (co : Nat → Nat) (ke : Nat → Int32) (h : Int64) (v : Nat) : Int64 := hf (fun j => jdV th ki va re go n cl to co ke (nI v) (nI j)) (twB th ki va re n cl to co ke h v) 4
noncomputable def twV (th ki va re : Nat → Nat) (go : Option Nat) (n cl : Nat) (to : Nat → Prop) (co : Nat → Nat) (ke : Nat → Int32) (h : Int64) (v : Nat) : Int64 := hg (fun i y => hf (fun j => cgV th ki va re go n cl (nI v) (nI i) (nI j)) y 3) (twC th ki va re go n cl to co ke h v) 5
noncomputable def dg1 (th ki va re : Nat → Nat) (go : Option Nat) (n cl : Nat) (to : Nat → Prop) (co : Nat → Nat) (ke : Nat → Int32) (la : Int32) : Int64 := hf (cnN th ki va re go n cl to co ke la) (17 : Int32).toInt64 8
noncomputable def dg2 (th ki va re : Nat → Nat) (go : Option Nat) (n cl : Nat) (h : Int64) : Int64 := hg (fun r y => hs (hs (hf (fun j => rvV re n cl (nI r) (nI j)) y 4) (shV th ki va re go n cl (nI r))) (alV ki va re n cl (nI r))) h 8
noncomputable def dg3 (th ki va re : Nat → Nat) (go : Option Nat) (n cl : Nat) (h : Int64) : Int64 := hg (fun t y => hf (fun j => oI (tgB th ki va re go n t cl j)) (hs (hs y (tgV th ki va re go n cl (nI t) (nI 0) (nI 0))) (tgV th ki va re go n cl (nI t) (nI 2) (nI 1))) 3) h 16
noncomputable def dg4 (th ki va re : Nat → Nat) (go : Option Nat) (n cl : Nat) (to : Nat → Prop) (co : Nat → Nat) (ke : Nat → Int32) (h : Int64) : Int64 := hg (fun v y => twV th ki va re go n cl to co ke y v) h n
noncomputable def dg5 (th ki va re : Nat → Nat) (n cl : Nat) (h : Int64) : Int64 := hs (hf (fun i => byV th ki va re n cl (nI i)) h 31) (nI (5 * n + 2 * cl))
noncomputable def dg6 (th ki va re : Nat → Nat) (go : Option Nat) (n cl : Nat) (h : Int64) : Int64 := hf (fun j => oI (fsV th ki va re go n cl j)) h 3
noncomputable def dg7 (th ki va re : Nat → Nat) (go : Option Nat) (n cl : Nat) (to : Nat → Prop) (co : Nat → Nat) (ke : Nat → Int32) (h : Int64) : Int64 := hf (fun j => nI (cif (j = 0) (hoN th ki va re go n cl to co ke) (cntP (cls ki re cl) n))) h 2
noncomputable def btN (th ki va re : Nat → Nat) (n cl : Nat) (to : Nat → Prop) (co : Nat → Nat) (ke : Nat → Int32) (q : Nat) : Option Nat := cif (q = 0) (bst (fun k => hoN th ki va re (some k) n cl to co ke) n) (mst (fun k => hoN th ki va re (some k) n cl to co ke) n)
noncomputable def dgV (th ki va re : Nat → Nat) (go : Option Nat) (n cl : Nat) (to : Nat → Prop) (co : Nat → Nat) (ke : Nat → Int32) (la : Int32) : Int64 :=
  hs (hs (dg7 th ki va re go n cl to co ke (dg6 th ki va re go n cl (dg5 th ki va re n cl (dg4 th ki va re go n cl to co ke (dg3 th ki va re go n cl (dg2 th ki va re go n cl (dg1 th ki va re go n cl to co ke la))))))) (oI (btN th ki va re n cl to co ke 0))) (oI (btN th ki va re n cl to co ke 1))
theorem rd_cases (t k v : Int32) (n i : Nat) : (∃ t' k' v', t' ≤ 15 ∧ k' ≤ 5 ∧ okV k' v' ∧ t = nI t' ∧ k = nI k' ∧ v = nI v' ∧ okP t k v ∧ n + i < 40) ∨ (∃ t' k' v', t' ≤ 15 ∧ k' ≤ 5 ∧ okV k' v' ∧ t = nI t' ∧ k = nI k' ∧ v = nI v' ∧ okP t k v ∧ 40 ≤ n + i) ∨ ¬ okP t k v := by
  rcases Classical.em (okP t k v) with h | h
  · obtain ⟨t', k', v', h1, h2, h3, e1, e2, e3⟩ := id h
    rcases Nat.lt_or_ge (n + i) 40 with q | q
    · exact Or.inl ⟨t', k', v', h1, h2, h3, e1, e2, e3, h, q⟩
    · exact Or.inr (Or.inl ⟨t', k', v', h1, h2, h3, e1, e2, e3, h, q⟩)
  · exact Or.inr (Or.inr h)
