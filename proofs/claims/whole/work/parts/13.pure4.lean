/-! what the calls that write leave behind -/
def gtO (x : Nat) (o : Option Nat) : Prop := ∀ m, o = some m → m < x
def mxO (x : Nat) (o : Option Nat) : Nat := match o with
  | none => x
  | some m => max x m
theorem le_oI {x : Nat} {o : Option Nat} (hx : x < 2 ^ 31) (ho : ∀ w, o = some w → w < 2 ^ 31) : nI x ≤ oI o ↔ ¬ gtO x o := by
  cases o with
  | none =>
    constructor
    · intro h
      have h1 : nI x ≤ -1 := h
      rw [Int32.le_iff_toInt_le, nI_toInt hx] at h1
      have : (-1 : Int32).toInt = -1 := by decide
      omega
    · intro h; exact absurd (fun m e => by cases e) h
  | some m =>
    rw [oI_some, nI_leI hx (ho m rfl)]
    constructor
    · intro h q; have := q m rfl; omega
    · intro h; exact Nat.not_lt.mp fun q => h (fun m' e => by cases e; exact q)
section MyRows4
variable {p : Program} {l : Launch} {e : Env} {R : Room} {s : State} {m : MethodId} {args : Array Value} {below : List Frame} {meth : Method} {c : Code} {H : Heap} {locs : List Loc} {cells slots : Nat} {Q : State → Prop}
variable {cc : ByteArray} {pc : Nat} {ls : Array Slot} {rest : List Value} {nL : Nat} {own : String}
theorem no_le (G : CallFix p m c cc nL s args TB own) {x : Nat} {o : Option Nat} {off : Int} {tgt : Nat} (hx : x < 2 ^ 31) (ho : ∀ w, o = some w → w < 2 ^ 31) (hdg : decode cc pc = .ok (.if_icmp .le off, 3)) (ht : (pc : Int) + off = (tgt : Int)) (kt : ¬ gtO x o → W p l e R s m args below meth c H locs cells slots Q (F0 m tgt ls rest)) (kf : gtO x o → W p l e R s m args below meth c H locs cells slots Q (F0 m (pc + 3) ls rest)) : W p l e R s m args below meth c H locs cells slots Q (F0 m pc ls (.int (oI o) :: .int (nI x) :: rest)) := lv_icmp_le G.1 G.2.1 hdg ht (fun h => kt ((le_oI hx ho).mp h)) (fun h => kf (Classical.not_not.mp fun q => h ((le_oI hx ho).mpr q)))
end MyRows4
/-- a row with d places from b on set, one behind another -/
def stI (it : Nat → Int32) (b : Nat) (g : Nat → Int32) : Nat → Nat → Int32
  | 0 => it
  | j + 1 => va_up (stI it b g j) (b + j) (g j)
theorem stI_in (it : Nat → Int32) (b : Nat) (g : Nat → Int32) {d j : Nat} (h : j < d) : stI it b g d (b + j) = g j := by
  induction d with
  | zero => omega
  | succ d ih =>
    simp only [stI]
    by_cases e : j = d
    · subst e; exact va_up_self _ _ _
    · rw [va_up_ne _ _ (by omega)]; exact ih (by omega)
theorem stI_out (it : Nat → Int32) (b : Nat) (g : Nat → Int32) {d x : Nat} (h : x < b ∨ b + d ≤ x) : stI it b g d x = it x := by
  induction d with
  | zero => rfl
  | succ d ih =>
    simp only [stI]
    rw [va_up_ne _ _ (by omega)]
    exact ih (by omega)
noncomputable def kpR (kp : Nat → Prop) (f : Nat → Int32) (ke : Nat → Int32) : Nat → Nat → Int32
  | 0 => ke
  | i + 1 => va_up (kpR kp f ke i) i (cif (kp i) (f i) (kpR kp f ke i i))
theorem kpR_at (kp : Nat → Prop) (f ke : Nat → Int32) (i x : Nat) : kpR kp f ke i x = cif (x < i ∧ kp x) (f x) (ke x) := by
  induction i with
  | zero => rw [cif_f (fun h => Nat.not_lt_zero _ h.1)]; rfl
  | succ i ih =>
    simp only [kpR]
    by_cases e : x = i
    · subst e
      rw [va_up_self]
      by_cases hk : kp x
      · rw [cif_t hk, cif_t ⟨Nat.lt_succ_self x, hk⟩]
      · rw [cif_f hk, cif_f (fun h => hk h.2), ih, cif_f (fun h => hk h.2)]
    · rw [va_up_ne _ _ e, ih]
      exact cif_c ⟨fun h => ⟨by omega, h.2⟩, fun h => ⟨by omega, h.2⟩⟩
noncomputable def lkF (cs : Nat → Prop) (f : Nat → Nat) (fw : Nat → Nat) : Nat → Nat → Nat
  | 0 => fw
  | i + 1 => va_up (lkF cs f fw i) i (cif (cs i) (f i) 0)
theorem lkF_in {cs : Nat → Prop} {f fw : Nat → Nat} {d j : Nat} (h : j < d) : lkF cs f fw d j = cif (cs j) (f j) 0 := by
  induction d with
  | zero => omega
  | succ d ih =>
    simp only [lkF]
    by_cases e : j = d
    · subst e; exact va_up_self _ _ _
    · rw [va_up_ne _ _ (by omega)]; exact ih (by omega)
theorem lkF_le {cs : Nat → Prop} {f fw : Nat → Nat} (hf : ∀ j, f j ≤ 15) (hw : ∀ j, fw j ≤ 15) (d : Nat) : ∀ j, lkF cs f fw d j ≤ 15 := by
  induction d with
  | zero => exact hw
  | succ d ih =>
    intro j
    simp only [lkF]
    by_cases e : j = d
    · subst e; rw [va_up_self]; exact cif_le (hf _) (by omega)
    · rw [va_up_ne _ _ e]; exact ih j
/-- the flaws as the reference keeps them when it has looked -/
noncomputable def lkA (th ki va re : Nat → Nat) (n cl : Nat) (to : Nat → Prop) (co : Nat → Nat) (ke : Nat → Int32) (fw : Nat → Nat) : Nat → Nat := lkF (cls ki re cl) (flO th ki va re n cl to co ke) fw n
theorem lkA_le (th ki va re : Nat → Nat) (n cl : Nat) (to : Nat → Prop) (co : Nat → Nat) (ke : Nat → Int32) {fw : Nat → Nat} (hw : ∀ j, fw j ≤ 15) : ∀ j, lkA th ki va re n cl to co ke fw j ≤ 15 := lkF_le (flO_le th ki va re n cl to co ke) hw n
theorem cntP_congr {q q' : Nat → Prop} {i : Nat} (h : ∀ j, j < i → (q j ↔ q' j)) : cntP q i = cntP q' i := by
  induction i with
  | zero => rfl
  | succ i ih => simp only [cntP]; rw [ih (fun j hj => h j (by omega)), cif_c (h i (by omega))]
/-- how many hold, the write 'go' left out -/
noncomputable def hoN (th ki va re : Nat → Nat) (go : Option Nat) (n cl : Nat) (to : Nat → Prop) (co : Nat → Nat) (ke : Nat → Int32) : Nat := mho th ki va re go n cl (flO th ki va re n cl to co ke) n
theorem mho_lk (th ki va re : Nat → Nat) (go : Option Nat) (n cl : Nat) (to : Nat → Prop) (co : Nat → Nat) (ke : Nat → Int32) (fw : Nat → Nat) : mho th ki va re go n cl (lkA th ki va re n cl to co ke fw) n = hoN th ki va re go n cl to co ke := by
  refine cntP_congr (fun j hj => ?_)
  constructor
  · rintro ⟨h1, h2, h3, h4⟩
    refine ⟨h1, h2, ?_, h4⟩
    unfold lkA at h3
    rw [lkF_in hj, cif_t h1] at h3
    exact h3
  · rintro ⟨h1, h2, h3, h4⟩
    refine ⟨h1, h2, ?_, h4⟩
    unfold lkA
    rw [lkF_in hj, cif_t h1]
    exact h3
theorem hoN_le (th ki va re : Nat → Nat) (go : Option Nat) (n cl : Nat) (to : Nat → Prop) (co : Nat → Nat) (ke : Nat → Int32) : hoN th ki va re go n cl to co ke ≤ n := cntP_le _ n
/-- the best so far and how many hold by it -/
noncomputable def mst (g : Nat → Nat) : Nat → Option Nat
  | 0 => none
  | k + 1 => some (mxO (g k) (mst g k))
noncomputable def bst (g : Nat → Nat) : Nat → Option Nat
  | 0 => none
  | k + 1 => cif (gtO (g k) (mst g k)) (some k) (bst g k)
theorem mst_lt {g : Nat → Nat} {z : Nat} (hg : ∀ k, g k ≤ z) (k : Nat) : ∀ w, mst g k = some w → w ≤ z := by
  induction k with
  | zero => intro w h; cases h
  | succ k ih =>
    intro w h
    simp only [mst] at h
    cases h
    have h1 := hg k
    cases hm : mst g k with
    | none => exact h1
    | some m => have := ih m hm; show max (g k) m ≤ z; omega
theorem bst_t {g : Nat → Nat} {k : Nat} (h : gtO (g k) (mst g k)) : some k = bst g (k + 1) := by simp only [bst]; rw [cif_t h]
theorem bst_f {g : Nat → Nat} {k : Nat} (h : ¬ gtO (g k) (mst g k)) : bst g k = bst g (k + 1) := by simp only [bst]; rw [cif_f h]
theorem IM_fw {n cl : Nat} {go : Option Nat} {th ki va re si co fw fw' : Nat → Nat} (I : IM n cl go th ki va re si co fw) (h : ∀ j, fw' j ≤ 15) : IM n cl go th ki va re si co fw' := ⟨I.1, I.2.1, I.2.2.1, I.2.2.2.1, I.2.2.2.2.1, I.2.2.2.2.2.1, I.2.2.2.2.2.2.1, I.2.2.2.2.2.2.2.1, I.2.2.2.2.2.2.2.2.1, h⟩
theorem IM_go {n cl : Nat} {go go' : Option Nat} {th ki va re si co fw : Nat → Nat} (I : IM n cl go th ki va re si co fw) (h : ∀ w, go' = some w → w < 40) : IM n cl go' th ki va re si co fw := ⟨I.1, I.2.1, h, I.2.2.2⟩
theorem IM_cl {n cl cl' : Nat} {go : Option Nat} {th ki va re si co fw : Nat → Nat} (I : IM n cl go th ki va re si co fw) (h : cl' ≤ 7) : IM n cl' go th ki va re si co fw := ⟨I.1, h, I.2.2⟩
theorem up_le {f : Nat → Nat} {z k x : Nat} (h : ∀ j, f j ≤ z) (hx : x ≤ z) : ∀ j, va_up f k x j ≤ z := by
  intro j
  by_cases e : j = k
  · subst e; rw [va_up_self]; exact hx
  · rw [va_up_ne _ _ e]; exact h j
theorem IM_put {n cl : Nat} {go : Option Nat} {th ki va re si co fw : Nat → Nat} (I : IM n cl go th ki va re si co fw) (hn : n < 40) {t k v : Nat} (ht : t ≤ 15) (hk : k ≤ 5) (hv : v ≤ 65535) : IM (n + 1) cl go (va_up th n t) (va_up ki n k) (va_up va n v) (va_up re n cl) si co fw :=
  ⟨hn, I.2.1, I.2.2.1, up_le I.2.2.2.1 ht, up_le I.2.2.2.2.1 hk, up_le I.2.2.2.2.2.1 hv, up_le I.2.2.2.2.2.2.1 I.2.1, I.2.2.2.2.2.2.2⟩
/-- what may be put: by its numbers -/
def okV (k : Nat) (v : Nat) : Prop := v ≤ (if k = 4 then 2 else 65535)
def okP (t k v : Int32) : Prop := ∃ t' k' v', t' ≤ 15 ∧ k' ≤ 5 ∧ okV k' v' ∧ t = nI t' ∧ k = nI k' ∧ v = nI v'
theorem okV_le {k v : Nat} (h : okV k v) : v ≤ 65535 := by unfold okV at h; split at h <;> omega
theorem val_iff {k : Nat} (hk : k ≤ 5) {v : Int32} : (0 ≤ v ∧ v ≤ (if nI k = nI 4 then 2 else 65535)) ↔ ∃ v', okV k v' ∧ v = nI v' := by
  by_cases h : k = 4
  · subst h
    rw [if_pos rfl]
    have := okN (m := 2) (by decide) (x := v)
    unfold okV
    simp only [if_true]
    exact this
  · rw [if_neg (fun e => h ((nI_eq (by omega) (by decide)).mp e))]
    have := okN (m := 65535) (by decide) (x := v)
    unfold okV
    simp only [if_neg h]
    exact this
theorem mxO_t {x : Nat} {o : Option Nat} (h : gtO x o) : nI x = nI (mxO x o) := by
  cases o with
  | none => rfl
  | some m => have := h m rfl; exact congrArg nI (by show x = max x m; omega)
theorem mxO_f {x : Nat} {o : Option Nat} (ho : ∀ w, o = some w → w < 2 ^ 31) (h : ¬ gtO x o) : oI o = nI (mxO x o) := by
  cases o with
  | none => exact absurd (fun m e => by cases e) h
  | some m =>
    have : ¬ m < x := fun q => h (fun m' e => by cases e; exact q)
    exact congrArg nI (by show m = max x m; omega)
theorem neg_le {k : Int32} (h : k < 0) : k ≤ nI 60 := by
  rw [Int32.lt_iff_toInt_lt] at h
  rw [Int32.le_iff_toInt_le]
  have : (nI 60).toInt = 60 := by decide
  have : (0 : Int32).toInt = 0 := by decide
  omega
theorem neg_nge {k : Int32} (h : k < 0) : ¬ 0 ≤ k := by
  rw [Int32.lt_iff_toInt_lt] at h
  rw [Int32.le_iff_toInt_le]
  omega
theorem nneg_ge {k : Int32} (h : ¬ k < 0) : 0 ≤ k := by
  rw [Int32.lt_iff_toInt_lt] at h
  rw [Int32.le_iff_toInt_le]
  omega
theorem okZ_iff {m : Nat} (hm : m ≤ 60) {x : Int32} : (0 ≤ x ∧ x ≤ nI m - nI 1) ↔ okW m x := by
  cases m with
  | zero =>
    constructor
    · rintro ⟨h1, h2⟩
      rw [Int32.le_iff_toInt_le] at h1 h2
      have : (nI 0 - nI 1).toInt = -1 := by decide
      have : (0 : Int32).toInt = 0 := by decide
      omega
    · rintro ⟨k, hk, _⟩; omega
  | succ n =>
    rw [show nI (n + 1) - nI 1 = nI n from nI_pred n, okN (by omega)]
    exact ⟨fun ⟨k, h, e⟩ => ⟨k, by omega, e⟩, fun ⟨k, h, e⟩ => ⟨k, by omega, e⟩⟩
/-- edges as they may be told -/
def okC (x1 x2 x3 x4 : Int32) : Prop := ∃ a b c d, a ≤ b ∧ b ≤ c ∧ c ≤ d ∧ d ≤ 400 ∧ x1 = nI a ∧ x2 = nI b ∧ x3 = nI c ∧ x4 = nI d
theorem okC_n {a b c d : Nat} (h1 : a ≤ b) (h2 : b ≤ c) (h3 : c ≤ d) (h4 : d ≤ 400) : okC (nI a) (nI b) (nI c) (nI d) := ⟨a, b, c, d, h1, h2, h3, h4, rfl, rfl, rfl, rfl⟩
theorem okC_1 {x1 x2 x3 x4 : Int32} (h : okC x1 x2 x3 x4) : 0 ≤ x1 ∧ x1 ≤ x2 := by
  obtain ⟨a, b, c, d, h1, h2, h3, h4, rfl, rfl, rfl, rfl⟩ := h
  exact ⟨nI_pos' (by omega), nI_le h1 (by omega)⟩
theorem okC_2 {x1 x2 x3 x4 : Int32} (h : okC x1 x2 x3 x4) : x1 ≤ x2 ∧ x2 ≤ x3 := by
  obtain ⟨a, b, c, d, h1, h2, h3, h4, rfl, rfl, rfl, rfl⟩ := h
  exact ⟨nI_le h1 (by omega), nI_le h2 (by omega)⟩
theorem okC_3 {x1 x2 x3 x4 : Int32} (h : okC x1 x2 x3 x4) : x2 ≤ x3 ∧ x3 ≤ x4 := by
  obtain ⟨a, b, c, d, h1, h2, h3, h4, rfl, rfl, rfl, rfl⟩ := h
  exact ⟨nI_le h2 (by omega), nI_le h3 (by omega)⟩
theorem okC_4 {x1 x2 x3 x4 : Int32} (h : okC x1 x2 x3 x4) : x3 ≤ x4 ∧ x4 ≤ nI 400 := by
  obtain ⟨a, b, c, d, h1, h2, h3, h4, rfl, rfl, rfl, rfl⟩ := h
  exact ⟨nI_le h3 (by omega), nI_le h4 (by omega)⟩
theorem okC_i {x1 x2 x3 x4 : Int32} (h1 : 0 ≤ x1 ∧ x1 ≤ x2) (h2 : x1 ≤ x2 ∧ x2 ≤ x3) (h3 : x2 ≤ x3 ∧ x3 ≤ x4) (h4 : x3 ≤ x4 ∧ x4 ≤ nI 400) : okC x1 x2 x3 x4 := by
  have e0 : (0 : Int32).toInt = 0 := by decide
  have e4 : (nI 400).toInt = 400 := by decide
  have t1 := Int32.le_iff_toInt_le.mp h1.1
  have t2 := Int32.le_iff_toInt_le.mp h1.2
  have t3 := Int32.le_iff_toInt_le.mp h2.2
  have t4 := Int32.le_iff_toInt_le.mp h3.2
  have t5 := Int32.le_iff_toInt_le.mp h4.2
  have nn : ∀ x : Int32, 0 ≤ x.toInt → ¬ x < 0 := fun x hx h => by rw [Int32.lt_iff_toInt_lt] at h; omega
  obtain ⟨a, ha, rfl⟩ := nI_of (nn x1 (by omega))
  obtain ⟨b, hb, rfl⟩ := nI_of (nn x2 (by omega))
  obtain ⟨c, hc, rfl⟩ := nI_of (nn x3 (by omega))
  obtain ⟨d, hd, rfl⟩ := nI_of (nn x4 (by omega))
  rw [nI_toInt ha] at t1 t2
  rw [nI_toInt hb] at t2 t3
  rw [nI_toInt hc] at t3 t4
  rw [nI_toInt hd] at t4 t5
  exact ⟨a, b, c, d, by omega, by omega, by omega, by omega, rfl, rfl, rfl, rfl⟩
/-- what may be copied -/
def okCp (sx sy : Nat) (i j k : Int32) : Prop := ∃ i' j' k', i' + k' ≤ sx ∧ j' + k' ≤ sy ∧ i = nI i' ∧ j = nI j' ∧ k = nI k'
theorem i64_sum {a b : Nat} (ha : a < 2 ^ 31) (hb : b < 2 ^ 31) : (nI a).toInt64 + (nI b).toInt64 = lN (a + b) := by rw [nI_l ha, nI_l hb, lN_add]
theorem okCp_i {sx sy : Nat} (hx : sx ≤ 60) (hy : sy ≤ 60) {i j k : Int32} (h1 : ¬ i < 0) (h2 : ¬ j < 0) (h3 : ¬ k < 0) (h4 : ¬ 0 < lg_cmp (i.toInt64 + k.toInt64) (nI sx).toInt64) (h5 : lg_cmp (j.toInt64 + k.toInt64) (nI sy).toInt64 ≤ 0) : okCp sx sy i j k := by
  obtain ⟨a, ha, rfl⟩ := nI_of h1
  obtain ⟨b, hb, rfl⟩ := nI_of h2
  obtain ⟨c, hc, rfl⟩ := nI_of h3
  rw [lg_cmp_gt, i64_sum ha hc, nI_l (by omega), pk_lLT (by omega) (by omega)] at h4
  rw [lg_cmp_le, i64_sum hb hc, nI_l (by omega), pk_lLE (by omega) (by omega)] at h5
  exact ⟨a, b, c, by omega, h5, rfl, rfl, rfl⟩
theorem cmp_sum {a c sx : Nat} (ha : a < 2 ^ 31) (hc : c < 2 ^ 31) (hs : sx < 2 ^ 31) (h : a + c ≤ sx) : ¬ 0 < lg_cmp ((nI a).toInt64 + (nI c).toInt64) (nI sx).toInt64 := by
  rw [lg_cmp_gt, i64_sum ha hc, nI_l hs, pk_lLT (by omega) (by omega)]; omega
theorem cmp_sum2 {a c sx : Nat} (ha : a < 2 ^ 31) (hc : c < 2 ^ 31) (hs : sx < 2 ^ 31) (h : a + c ≤ sx) : lg_cmp ((nI a).toInt64 + (nI c).toInt64) (nI sx).toInt64 ≤ 0 := by
  rw [lg_cmp_le, i64_sum ha hc, nI_l hs, pk_lLE (by omega) (by omega)]; exact h
theorem tr_sub {x y : Nat} (hx : x < 2 ^ 30) (hy : y < 2 ^ 30) : (if nI 0 < nI x - nI y then nI x - nI y else nI 0) = nI (x - y) := by
  by_cases h : y < x
  · rw [pk_sub (Nat.le_of_lt h), if_pos ((nI_ltI (by decide) (by omega)).mpr (by omega))]
  · have e : ¬ nI 0 < nI x - nI y := by
      rw [Int32.lt_iff_toInt_lt, pk_sub_toInt hx hy]
      have : (nI 0).toInt = 0 := by decide
      omega
    rw [if_neg e, show x - y = 0 by omega]
noncomputable def cnN (th ki va re : Nat → Nat) (go : Option Nat) (n cl : Nat) (to : Nat → Prop) (co : Nat → Nat) (ke : Nat → Int32) (la : Int32) (q : Nat) : Int32 :=
  if q = 0 then nI n else if q = 1 then nI cl else if q = 2 then nI (5 * n + 2 * cl) else if q = 3 then nI (cntP (cls ki re cl) n) else if q = 4 then nI (cif (0 = 0) (hoN th ki va re go n cl to co ke) (cntP (cls ki re cl) n)) else if q = 5 then nI (cntP (fun t => ¬ lastT th ki re go t cl n = none) 16) else if q = 6 then nI (cntP (fun i => shad th ki va re go n (i % 16) (i / 16)) (16 * (cl + 1))) else if q = 7 then nI (alw ki va re cl n) else la
