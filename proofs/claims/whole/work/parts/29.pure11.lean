/-! what a write, a closing, an undoing leave of the picture -/
theorem cntLt_up {re : Nat → Nat} {n c : Nat} : ∀ r m, m ≤ n → cntLt (va_up re n c) r m = cntLt re r m := by
  intro r m
  induction m with
  | zero => intro _; rfl
  | succ m ih => intro h; rw [cntLt_s, cntLt_s, ih (by omega), va_up_ne _ _ (by omega)]
theorem IW_put {n cl : Nat} {th ki va re fi : Nat → Nat} (J : IW n cl th ki va re fi) (hn : n < 40) {t k v : Nat} (ht : t ≤ 15) (hk : k ≤ 5) (hv : v ≤ 65535) : IW (n + 1) cl (va_up th n t) (va_up ki n k) (va_up va n v) (va_up re n cl) fi :=
  ⟨hn, J.2.1, up_le J.2.2.1 ht, up_le J.2.2.2.1 hk, up_le J.2.2.2.2.1 hv, up_le J.2.2.2.2.2.1 J.2.1, J.2.2.2.2.2.2⟩
theorem SW_put {n cl : Nat} {re fi : Nat → Nat} (S : SW n cl re fi) : SW (n + 1) cl (va_up re n cl) fi := by
  obtain ⟨h1, h2, h3⟩ := S
  refine ⟨fun r hr => ?_, fun v hv => ?_, fun u v huv hv => ?_⟩
  · rw [cntLt_s, cntLt_up r n (Nat.le_refl n), va_up_self, if_neg (by omega), h1 r hr, Nat.add_zero]
  · by_cases e : v = n
    · subst e; rw [va_up_self]; exact Nat.le_refl cl
    · rw [va_up_ne _ _ e]; exact h2 v (by omega)
  · by_cases e : v = n
    · subst e
      rw [va_up_self]
      by_cases e2 : u = v
      · subst e2; rw [va_up_self]; exact Nat.le_refl cl
      · rw [va_up_ne _ _ e2]; exact h2 u (by omega)
    · rw [va_up_ne _ _ e, va_up_ne _ _ (by omega)]; exact h3 u v huv (by omega)
theorem IW_close {n cl : Nat} {th ki va re fi : Nat → Nat} (J : IW n cl th ki va re fi) (hc : cl < 7) : IW n (cl + 1) th ki va re (va_up fi (cl + 1) n) :=
  ⟨J.1, hc, J.2.2.1, J.2.2.2.1, J.2.2.2.2.1, J.2.2.2.2.2.1, up_le J.2.2.2.2.2.2 J.1⟩
theorem SW_close {n cl : Nat} {re fi : Nat → Nat} (S : SW n cl re fi) : SW n (cl + 1) re (va_up fi (cl + 1) n) := by
  have hn := SW_n S
  obtain ⟨h1, h2, h3⟩ := S
  refine ⟨fun r hr => ?_, fun v hv => Nat.le_succ_of_le (h2 v hv), h3⟩
  by_cases e : r = cl + 1
  · subst e; rw [va_up_self, cntLt_succ]; exact hn
  · rw [va_up_ne _ _ e]; exact h1 r (by omega)
theorem SW_last {n cl : Nat} {re fi : Nat → Nat} (S : SW n cl re fi) (h : 0 < cntEq re cl n) : 0 < n ∧ re (n - 1) = cl := by
  have hn := SW_n S
  have h0 : 0 < n := by omega
  exact ⟨h0, (S_eq S (v := n - 1) (by omega)).mpr ⟨by omega, by omega⟩⟩
theorem IW_undo {n cl : Nat} {th ki va re fi : Nat → Nat} (J : IW n cl th ki va re fi) : IW (n - 1) cl th ki va re fi := ⟨by have := J.1; omega, J.2⟩
theorem SW_undo {n cl : Nat} {re fi : Nat → Nat} (S : SW n cl re fi) (h : 0 < cntEq re cl n) : SW (n - 1) cl re fi := by
  obtain ⟨h0, hl⟩ := SW_last S h
  obtain ⟨h1, h2, h3⟩ := S
  refine ⟨fun r hr => ?_, fun v hv => h2 v (by omega), fun u v huv hv => h3 u v huv (by omega)⟩
  rw [h1 r hr]
  have e := cntLt_s re r (n - 1)
  rw [show n - 1 + 1 = n by omega, hl, if_neg (by omega), Nat.add_zero] at e
  exact e
theorem IW_va {n cl : Nat} {th ki va re fi : Nat → Nat} (J : IW n cl th ki va re fi) {k v : Nat} (hv : v ≤ 65535) : IW n cl th ki (va_up va k v) re fi := ⟨J.1, J.2.1, J.2.2.1, J.2.2.2.1, up_le J.2.2.2.2.1 hv, J.2.2.2.2.2⟩
/-- a step taken k times -/
def itr {α : Type} (F : Nat → α → α) (x : α) : Nat → α
  | 0 => x
  | k + 1 => F k (itr F x k)
theorem mst_f {g : Nat → Nat} {k : Nat} (h : ¬ gtO (g k) (mst g k)) : mst g k = mst g (k + 1) := by
  cases e : mst g k with
  | none => exact absurd (fun m q => by rw [e] at q; cases q) h
  | some m =>
    show some m = some (mxO (g k) (mst g k))
    rw [e]
    have : ¬ g k > m := fun q => h (fun m' q' => by rw [e] at q'; cases q'; exact q)
    show some m = some (max (g k) m)
    rw [show max (g k) m = m by omega]
theorem mst_t {g : Nat → Nat} {k : Nat} (h : gtO (g k) (mst g k)) : nI (g k) = oI (mst g (k + 1)) := mxO_t h
def rdSc (it1 : Nat → Int32) (si1 n k : Nat) : Prop := ¬ (3 * k + 3 ≤ si1 ∧ okP (it1 (3 * k)) (it1 (3 * k + 1)) (it1 (3 * k + 2)) ∧ n + k < 40)
noncomputable def rdC (it1 : Nat → Int32) (si1 n : Nat) : Nat := (fnd (rdSc it1 si1 n) 21 0).getD 0
theorem rdC_at {it1 : Nat → Int32} {si1 n d k : Nat} (hB : fnd (rdSc it1 si1 n) (d + 1) k = fnd (rdSc it1 si1 n) 21 0) (h : rdSc it1 si1 n k) : rdC it1 si1 n = k := by
  unfold rdC
  rw [← hB, fnd_t h]
  rfl
/-- five bytes more -/
def ap5 (bt : Nat → Nat) (bs t k v : Nat) : Nat → Nat := va_up (va_up (va_up (va_up (va_up bt bs 79) (bs + 1) t) (bs + 2) k) (bs + 3) (v / 256)) (bs + 3 + 1) (v % 256)
theorem ap5_le {bt : Nat → Nat} {bs t k v : Nat} (h : ∀ j, bt j ≤ 255) (ht : t ≤ 15) (hk : k ≤ 5) (hv : v ≤ 65535) : ∀ j, ap5 bt bs t k v j ≤ 255 := up_le (up_le (up_le (up_le (up_le h (by omega)) (by omega)) (by omega)) (by omega)) (by omega)
def apB (bt : Nat → Nat) (bs : Nat) (gt gk gv : Nat → Nat) : Nat → Nat → Nat
  | 0 => bt
  | k + 1 => ap5 (apB bt bs gt gk gv k) (bs + 5 * k) (gt k) (gk k) (gv k)
theorem rkF_15 {ki re : Nat → Nat} {n cl : Nat} {to : Nat → Prop} {co : Nat → Nat} {bt : Nat → Nat} {bs : Nat} {ke : Nat → Int32} {fw : Nat → Nat} (hfw : ∀ j, fw j ≤ 15) (i : Nat) : ∀ j, rkF (cls ki re cl) (fun v => flE re n cl to co v + cif (nmC bt bs (cov re n cl to co v) ≠ ke v) 8 0) fw i j ≤ 15 :=
  rkF_le (fun j => by have := flE_le re n cl to co j; have := cif_le (q := nmC bt bs (cov re n cl to co j) ≠ ke j) (x := 8) (y := 0) (z := 8) (by omega) (by omega); omega) hfw i
theorem up_id {α : Type} (f : Nat → α) (k : Nat) : va_up f k (f k) = f := by
  funext j
  by_cases e : j = k
  · subst e; exact va_up_self _ _ _
  · exact va_up_ne _ _ e
theorem IHd_itr {th ki va re : Nat → Nat} {n cl : Nat} {lt : Nat → Option Nat} {tr sh cr ct cu ve ta : Nat → Nat} {ch : Nat} (hn : n ≤ 40) (hcl : cl ≤ 7) (k : Nat) (H : IHd lt tr sh cr ct cu ve ta ch) : IHd (itr (fun k x => cLT th re (some k) n x (cl + 1)) lt k) (itr (fun k x => cTR th ki re (some k) n x (cl + 1)) tr k) (itr (fun k x => cSH th ki va re (some k) n x (cl + 1)) sh k) (itr (fun k x => cCR th ki va re (some k) n x (cl + 1)) cr k) (itr (fun k x => cCT th ki va re (some k) n x (cl + 1)) ct k) (itr (fun k x => cCU th ki va re (some k) n x (cl + 1)) cu k) (itr (fun k x => cVE th ki va re (some k) n cl x cl) ve k) (itr (fun k x => cTA th ki va re (some k) n cl x cl) ta k) (itr (fun k _ => cCH th ki va re (some k) n (cl + 1)) ch k) := by
  induction k with
  | zero => exact H
  | succ k ih => exact IHd_c ih hn hcl (by omega)
