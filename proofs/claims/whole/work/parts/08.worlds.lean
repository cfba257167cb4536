/-! the cells of each class as a list, by what they hold -/
def TY (cI cZ cS : ClassId) : List (ClassId × FieldType) := [(cI, .int), (cZ, .boolean), (cS, .object "SealedFile$Sheet")]
def oI (o : Option Nat) : Int32 := match o with
  | none => -1
  | some w => nI w
/-- the reference's cells -/
noncomputable def wM (cI cZ : ClassId) (a : Nat → Nat) (la : Int32) (n cl : Nat) (go : Option Nat) (fo : Nat → Int32) (si : Nat → Nat) (it mo : Nat → Int32) (th ki va re : Nat → Nat) (to : Nat → Prop) (co : Nat → Nat) (ke : Nat → Int32) (fw : Nat → Nat) : va_W :=
  [(a 0, .inr (6, [.ref (a 1), .ref (a 2), .ref (a 3), .ref (a 4), .int la, .int (nI n), .ref (a 5), .ref (a 6), .ref (a 7), .ref (a 8), .ref (a 9), .ref (a 10), .ref (a 11), .int (nI cl), .int (oI go), .ref (a 12)])),
   (a 1, .inl (cI, 4, .inl fo)), (a 2, .inl (cI, 4, .inl (fun j => nI (si j)))), (a 3, .inl (cI, 240, .inl it)), (a 4, .inl (cI, 60, .inl mo)),
   (a 5, .inl (cI, 40, .inl (fun j => nI (th j)))), (a 6, .inl (cI, 40, .inl (fun j => nI (ki j)))), (a 7, .inl (cI, 40, .inl (fun j => nI (va j)))), (a 8, .inl (cI, 40, .inl (fun j => nI (re j)))),
   (a 9, .inl (cZ, 40, .inl (fun j => bI (to j)))), (a 10, .inl (cI, 160, .inl (fun j => nI (co j)))), (a 11, .inl (cI, 40, .inl ke)), (a 12, .inl (cI, 40, .inl (fun j => nI (fw j))))]
/-- Writes -/
def wW (cI : ClassId) (a : Nat → Nat) (n cl : Nat) (th ki va re fi : Nat → Nat) : va_W :=
  [(a 0, .inr (4, [.ref (a 1), .ref (a 2), .ref (a 3), .ref (a 4), .ref (a 5), .int (nI n), .int (nI cl)])),
   (a 1, .inl (cI, 40, .inl (fun j => nI (th j)))), (a 2, .inl (cI, 40, .inl (fun j => nI (ki j)))), (a 3, .inl (cI, 40, .inl (fun j => nI (va j)))), (a 4, .inl (cI, 40, .inl (fun j => nI (re j)))), (a 5, .inl (cI, 8, .inl (fun j => nI (fi j))))]
/-- ByteFile -/
def wB (cI : ClassId) (a : Nat → Nat) (bt : Nat → Nat) (bs : Nat) : va_W :=
  [(a 0, .inr (0, [.ref (a 1), .int (nI bs)])), (a 1, .inl (cI, 216, .inl (fun j => nI (bt j))))]
/-- Covers -/
noncomputable def wC (cI cZ : ClassId) (a : Nat → Nat) (hW hB : Nat) (to : Nat → Prop) (co : Nat → Nat) (ke nu : Nat → Int32) (fw : Nat → Nat) : va_W :=
  [(a 0, .inr (1, [.ref hW, .ref hB, .ref (a 1), .ref (a 2), .ref (a 3), .ref (a 4), .ref (a 5)])),
   (a 1, .inl (cZ, 40, .inl (fun j => bI (to j)))), (a 2, .inl (cI, 160, .inl (fun j => nI (co j)))), (a 3, .inl (cI, 40, .inl ke)), (a 4, .inl (cI, 40, .inl nu)), (a 5, .inl (cI, 40, .inl (fun j => nI (fw j))))]
/-- History -/
def wH (cI : ClassId) (a : Nat → Nat) (hW : Nat) (lt : Nat → Option Nat) (tr sh cr ct cu ve ta : Nat → Nat) (ch : Nat) : va_W :=
  [(a 0, .inr (2, [.ref hW, .ref (a 1), .ref (a 2), .ref (a 3), .ref (a 4), .ref (a 5), .ref (a 6), .ref (a 7), .ref (a 8), .int (nI ch)])),
   (a 1, .inl (cI, 128, .inl (fun j => oI (lt j)))), (a 2, .inl (cI, 8, .inl (fun j => nI (tr j)))), (a 3, .inl (cI, 8, .inl (fun j => nI (sh j)))), (a 4, .inl (cI, 128, .inl (fun j => nI (cr j)))), (a 5, .inl (cI, 128, .inl (fun j => nI (ct j)))), (a 6, .inl (cI, 8, .inl (fun j => nI (cu j)))), (a 7, .inl (cI, 8, .inl (fun j => nI (ve j)))), (a 8, .inl (cI, 8, .inl (fun j => nI (ta j))))]
theorem va_P_nil (D : va_G) (H : Heap) : va_P D vwCl [] H := fun k q h => by simp at h
theorem b1 {q : Prop} (h : q) : nI 1 = bI q := (bI_t h).symm
theorem b0 {q : Prop} (h : ¬ q) : nI 0 = bI q := (bI_f h).symm
theorem oI_some (w : Nat) : oI (some w) = nI w := rfl
theorem oI_none : oI none = -1 := rfl
theorem nI_nm1 {n : Nat} (h : n < 2 ^ 31) : nI n ≠ -1 := by
  intro e
  have := nI_pos h
  rw [e] at this
  exact this (by decide)
theorem oI_eqn {o : Option Nat} (h : ∀ w, o = some w → w < 2 ^ 31) : oI o = -1 ↔ o = none := by
  cases o with
  | none => exact ⟨fun _ => rfl, fun _ => rfl⟩
  | some w => exact ⟨fun e => absurd e (nI_nm1 (h w rfl)), fun e => by cases e⟩
theorem oI_inj {o q : Option Nat} (h : ∀ w, o = some w → w < 2 ^ 31) (h' : ∀ w, q = some w → w < 2 ^ 31) : oI o = oI q ↔ o = q := by
  cases o with
  | none => cases q with
    | none => exact ⟨fun _ => rfl, fun _ => rfl⟩
    | some w => exact ⟨fun e => absurd e.symm (nI_nm1 (h' w rfl)), fun e => by cases e⟩
  | some v => cases q with
    | none => exact ⟨fun e => absurd e (nI_nm1 (h v rfl)), fun e => by cases e⟩
    | some w => exact ⟨fun e => by rw [(nI_eq (h v rfl) (h' w rfl)).mp e], fun e => by rw [e]⟩
theorem nI_oI {w : Nat} {o : Option Nat} (hw : w < 2 ^ 31) (h : ∀ w, o = some w → w < 2 ^ 31) : nI w = oI o ↔ o = some w := by
  rw [← oI_some w, oI_inj (fun v e => by cases e; exact hw) h]
  exact eq_comm
theorem sw1 (x : Int32) : x = nI 0 ∨ x = nI 1 ∨ (x.toInt < 0 ∨ 1 < x.toInt) := by
  have h : x = nI 0 ↔ x.toInt = 0 := by rw [← Int32.toInt_inj]; exact Iff.rfl
  have h1 : x = nI 1 ↔ x.toInt = 1 := by rw [← Int32.toInt_inj]; exact Iff.rfl
  rw [h, h1]; omega
theorem sw2 (x : Int32) : x = nI 0 ∨ x = nI 1 ∨ x = nI 2 ∨ (x.toInt < 0 ∨ 2 < x.toInt) := by
  have h2 : x = nI 2 ↔ x.toInt = 2 := by rw [← Int32.toInt_inj]; exact Iff.rfl
  rcases sw1 x with h | h | h
  · exact Or.inl h
  · exact Or.inr (Or.inl h)
  · rw [h2]; omega
theorem sw3 (x : Int32) : x = nI 0 ∨ x = nI 1 ∨ x = nI 2 ∨ x = nI 3 ∨ (x.toInt < 0 ∨ 3 < x.toInt) := by
  have h2 : x = nI 3 ↔ x.toInt = 3 := by rw [← Int32.toInt_inj]; exact Iff.rfl
  rcases sw2 x with h | h | h | h
  · exact Or.inl h
  · exact Or.inr (Or.inl h)
  · exact Or.inr (Or.inr (Or.inl h))
  · rw [h2]; omega
theorem sw4 (x : Int32) : x = nI 0 ∨ x = nI 1 ∨ x = nI 2 ∨ x = nI 3 ∨ x = nI 4 ∨ (x.toInt < 0 ∨ 4 < x.toInt) := by
  have h2 : x = nI 4 ↔ x.toInt = 4 := by rw [← Int32.toInt_inj]; exact Iff.rfl
  rcases sw3 x with h | h | h | h | h
  · exact Or.inl h
  · exact Or.inr (Or.inl h)
  · exact Or.inr (Or.inr (Or.inl h))
  · exact Or.inr (Or.inr (Or.inr (Or.inl h)))
  · rw [h2]; omega
theorem sw_of {k : Nat} (hk : k < 2 ^ 31) (x : Int32) : x = nI k ↔ x.toInt = (k : Int) := by rw [← Int32.toInt_inj, nI_toInt hk]
theorem sw8 (x : Int32) : x = nI 0 ∨ x = nI 1 ∨ x = nI 2 ∨ x = nI 3 ∨ x = nI 4 ∨ x = nI 5 ∨ x = nI 6 ∨ x = nI 7 ∨ x = nI 8 ∨ (x.toInt < 0 ∨ 8 < x.toInt) := by
  simp only [sw_of (by decide : (0 : Nat) < 2 ^ 31), sw_of (by decide : (1 : Nat) < 2 ^ 31), sw_of (by decide : (2 : Nat) < 2 ^ 31), sw_of (by decide : (3 : Nat) < 2 ^ 31), sw_of (by decide : (4 : Nat) < 2 ^ 31), sw_of (by decide : (5 : Nat) < 2 ^ 31), sw_of (by decide : (6 : Nat) < 2 ^ 31), sw_of (by decide : (7 : Nat) < 2 ^ 31), sw_of (by decide : (8 : Nat) < 2 ^ 31)]
  omega
theorem m_min {x y : Nat} (hx : x < 2 ^ 31) (hy : y < 2 ^ 31) : (if nI y < nI x then nI y else nI x) = nI (min x y) := by
  by_cases h : y < x
  · rw [if_pos ((nI_ltI hy hx).mpr h), Nat.min_eq_right (Nat.le_of_lt h)]
  · rw [if_neg (fun e => h ((nI_ltI hy hx).mp e)), Nat.min_eq_left (Nat.not_lt.mp h)]
theorem i64_le (x y : Int32) : x.toInt64 ≤ y.toInt64 ↔ x ≤ y := by
  rw [Int64.le_iff_toInt_le, Int32.le_iff_toInt_le, Int32.toInt_toInt64, Int32.toInt_toInt64]
theorem i64_lt (x y : Int32) : x.toInt64 < y.toInt64 ↔ x < y := by
  rw [Int64.lt_iff_toInt_lt, Int32.lt_iff_toInt_lt, Int32.toInt_toInt64, Int32.toInt_toInt64]
section MyRows2
variable {p : Program} {l : Launch} {e : Env} {R : Room} {s : State} {m : MethodId} {args : Array Value} {below : List Frame} {meth : Method} {c : Code} {H : Heap} {locs : List Loc} {cells slots : Nat} {Q : State → Prop}
variable {cc : ByteArray} {pc : Nat} {ls : Array Slot} {rest : List Value} {D : va_G} {A : Nat → Prop} {a : Nat} {T : List (ClassId × FieldType)} {ws : va_W} {H0 : Heap} {nL : Nat} {own : String}
/-- against -1, of a number or none: two goals, with the number named -/
theorem o_eq (G : CallFix p m c cc nL s args TB own) {o : Option Nat} {off : Int} {tgt : Nat} (ho : ∀ w, o = some w → w < 2 ^ 31) (hdg : decode cc pc = .ok (.if_icmp .eq off, 3)) (ht : (pc : Int) + off = (tgt : Int)) (kt : o = none → W p l e R s m args below meth c H locs cells slots Q (F0 m tgt ls rest)) (kf : ¬ o = none → W p l e R s m args below meth c H locs cells slots Q (F0 m (pc + 3) ls rest)) : W p l e R s m args below meth c H locs cells slots Q (F0 m pc ls (.int (-1) :: .int (oI o) :: rest)) := lv_icmp_eq G.1 G.2.1 hdg ht (fun h => kt ((oI_eqn ho).mp h)) (fun h => kf (fun e => h ((oI_eqn ho).mpr e)))
theorem o_ne (G : CallFix p m c cc nL s args TB own) {o : Option Nat} {off : Int} {tgt : Nat} (ho : ∀ w, o = some w → w < 2 ^ 31) (hdg : decode cc pc = .ok (.if_icmp .ne off, 3)) (ht : (pc : Int) + off = (tgt : Int)) (kt : ¬ o = none → W p l e R s m args below meth c H locs cells slots Q (F0 m tgt ls rest)) (kf : o = none → W p l e R s m args below meth c H locs cells slots Q (F0 m (pc + 3) ls rest)) : W p l e R s m args below meth c H locs cells slots Q (F0 m pc ls (.int (-1) :: .int (oI o) :: rest)) := lv_icmp_ne G.1 G.2.1 hdg ht (fun h => kt (fun e => h ((oI_eqn ho).mpr e))) (fun h => kf ((oI_eqn ho).mp h))
theorem oo_eq (G : CallFix p m c cc nL s args TB own) {x y : Option Nat} {off : Int} {tgt : Nat} (hx : ∀ w, x = some w → w < 2 ^ 31) (hy : ∀ w, y = some w → w < 2 ^ 31) (hdg : decode cc pc = .ok (.if_icmp .eq off, 3)) (ht : (pc : Int) + off = (tgt : Int)) (kt : x = y → W p l e R s m args below meth c H locs cells slots Q (F0 m tgt ls rest)) (kf : ¬ x = y → W p l e R s m args below meth c H locs cells slots Q (F0 m (pc + 3) ls rest)) : W p l e R s m args below meth c H locs cells slots Q (F0 m pc ls (.int (oI y) :: .int (oI x) :: rest)) := lv_icmp_eq G.1 G.2.1 hdg ht (fun h => kt ((oI_inj hx hy).mp h)) (fun h => kf (fun e => h ((oI_inj hx hy).mpr e)))
theorem oo_ne (G : CallFix p m c cc nL s args TB own) {x y : Option Nat} {off : Int} {tgt : Nat} (hx : ∀ w, x = some w → w < 2 ^ 31) (hy : ∀ w, y = some w → w < 2 ^ 31) (hdg : decode cc pc = .ok (.if_icmp .ne off, 3)) (ht : (pc : Int) + off = (tgt : Int)) (kt : ¬ x = y → W p l e R s m args below meth c H locs cells slots Q (F0 m tgt ls rest)) (kf : x = y → W p l e R s m args below meth c H locs cells slots Q (F0 m (pc + 3) ls rest)) : W p l e R s m args below meth c H locs cells slots Q (F0 m pc ls (.int (oI y) :: .int (oI x) :: rest)) := lv_icmp_ne G.1 G.2.1 hdg ht (fun h => kt (fun e => h ((oI_inj hx hy).mpr e))) (fun h => kf ((oI_inj hx hy).mp h))
theorem no_eq (G : CallFix p m c cc nL s args TB own) {w : Nat} {o : Option Nat} {off : Int} {tgt : Nat} (hw : w < 2 ^ 31) (ho : ∀ w, o = some w → w < 2 ^ 31) (hdg : decode cc pc = .ok (.if_icmp .eq off, 3)) (ht : (pc : Int) + off = (tgt : Int)) (kt : o = some w → W p l e R s m args below meth c H locs cells slots Q (F0 m tgt ls rest)) (kf : ¬ o = some w → W p l e R s m args below meth c H locs cells slots Q (F0 m (pc + 3) ls rest)) : W p l e R s m args below meth c H locs cells slots Q (F0 m pc ls (.int (oI o) :: .int (nI w) :: rest)) := lv_icmp_eq G.1 G.2.1 hdg ht (fun h => kt ((nI_oI hw ho).mp h)) (fun h => kf (fun e => h ((nI_oI hw ho).mpr e)))
theorem no_ne (G : CallFix p m c cc nL s args TB own) {w : Nat} {o : Option Nat} {off : Int} {tgt : Nat} (hw : w < 2 ^ 31) (ho : ∀ w, o = some w → w < 2 ^ 31) (hdg : decode cc pc = .ok (.if_icmp .ne off, 3)) (ht : (pc : Int) + off = (tgt : Int)) (kt : ¬ o = some w → W p l e R s m args below meth c H locs cells slots Q (F0 m tgt ls rest)) (kf : o = some w → W p l e R s m args below meth c H locs cells slots Q (F0 m (pc + 3) ls rest)) : W p l e R s m args below meth c H locs cells slots Q (F0 m pc ls (.int (oI o) :: .int (nI w) :: rest)) := lv_icmp_ne G.1 G.2.1 hdg ht (fun h => kt (fun e => h ((nI_oI hw ho).mpr e))) (fun h => kf ((nI_oI hw ho).mp h))
theorem on_eq (G : CallFix p m c cc nL s args TB own) {w : Nat} {o : Option Nat} {off : Int} {tgt : Nat} (hw : w < 2 ^ 31) (ho : ∀ w, o = some w → w < 2 ^ 31) (hdg : decode cc pc = .ok (.if_icmp .eq off, 3)) (ht : (pc : Int) + off = (tgt : Int)) (kt : o = some w → W p l e R s m args below meth c H locs cells slots Q (F0 m tgt ls rest)) (kf : ¬ o = some w → W p l e R s m args below meth c H locs cells slots Q (F0 m (pc + 3) ls rest)) : W p l e R s m args below meth c H locs cells slots Q (F0 m pc ls (.int (nI w) :: .int (oI o) :: rest)) := lv_icmp_eq G.1 G.2.1 hdg ht (fun h => kt ((nI_oI hw ho).mp h.symm)) (fun h => kf (fun e => h ((nI_oI hw ho).mpr e).symm))
theorem on_ne (G : CallFix p m c cc nL s args TB own) {w : Nat} {o : Option Nat} {off : Int} {tgt : Nat} (hw : w < 2 ^ 31) (ho : ∀ w, o = some w → w < 2 ^ 31) (hdg : decode cc pc = .ok (.if_icmp .ne off, 3)) (ht : (pc : Int) + off = (tgt : Int)) (kt : ¬ o = some w → W p l e R s m args below meth c H locs cells slots Q (F0 m tgt ls rest)) (kf : o = some w → W p l e R s m args below meth c H locs cells slots Q (F0 m (pc + 3) ls rest)) : W p l e R s m args below meth c H locs cells slots Q (F0 m pc ls (.int (nI w) :: .int (oI o) :: rest)) := lv_icmp_ne G.1 G.2.1 hdg ht (fun h => kt (fun e => h ((nI_oI hw ho).mpr e).symm)) (fun h => kf ((nI_oI hw ho).mp h.symm))
end MyRows2
theorem upO (g : Nat → Option Nat) (k : Nat) (x : Option Nat) : upd (fun j => oI (g j)) k (oI x) = fun j => oI (va_up g k x j) := by
  funext j
  unfold upd va_up
  by_cases h : j = k <;> simp [h]
section MyRows3
variable {p : Program} {l : Launch} {e : Env} {R : Room} {s : State} {m : MethodId} {args : Array Value} {below : List Frame} {meth : Method} {c : Code} {H : Heap} {locs : List Loc} {cells slots : Nat} {Q : State → Prop}
variable {cc : ByteArray} {pc : Nat} {ls : Array Slot} {rest : List Value} {D : va_G} {A : Nat → Prop} {a : Nat} {T : List (ClassId × FieldType)} {ws : va_W} {H0 : Heap} {nL : Nat} {own : String}
theorem a_ldO (G : CallFix p m c cc nL s args TB own) (K : va_K D vwCl T s) (hP : va_P D vwCl ws H) (q0 t0 : Nat) {cA : ClassId} {n : Nat} {g : Nat → Option Nat} (ha : ws[q0]? = some (a, .inl (cA, n, .inl (fun j => oI (g j))))) (ht : T[t0]? = some (cA, .int)) {k : Nat} (hk : k < n) (hn : n < 2 ^ 31) (hdg : decode cc pc = .ok (.iaload, 1))
    (kk : W p l e R s m args below meth c H locs cells slots Q (F0 m (pc + 1) ls (.int (oI (g k)) :: rest))) : W p l e R s m args below meth c H locs cells slots Q (F0 m pc ls (.int (nI k) :: .ref a :: rest)) := a_ld G K hP q0 t0 ha ht hk hn hdg kk
theorem a_stO (G : CallFix p m c cc nL s args TB own) (K : va_K D vwCl T s) (w : WW D A H0 ws H locs) (q0 t0 : Nat) {cA : ClassId} {n : Nat} {g : Nat → Option Nat} (ha : ws[q0]? = some (a, .inl (cA, n, .inl (fun j => oI (g j))))) (ht : T[t0]? = some (cA, .int)) {k : Nat} (hk : k < n) (hn : n < 2 ^ 31) {x : Option Nat} {v : Int32} (hv : v = oI x) (hdg : decode cc pc = .ok (.iastore, 1)) {w2 : va_W} (hw : ws.set q0 (a, .inl (cA, n, .inl (fun j => oI (va_up g k x j)))) = w2)
    (kk : ∀ (H1 : Heap) (locs1 : List Loc), WW D A H0 w2 H1 locs1 → W p l e R s m args below meth c H1 locs1 cells slots Q (F0 m (pc + 1) ls rest)) : W p l e R s m args below meth c H locs cells slots Q (F0 m pc ls (.int v :: .int (nI k) :: .ref a :: rest)) := by
  subst hv
  exact a_st G K w q0 t0 ha ht hk hn hdg (by rw [← upR, upO]; exact hw) kk
end MyRows3
