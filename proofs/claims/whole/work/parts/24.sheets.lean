/-! sheets, and the whole object's cells -/
noncomputable def wT (cI : ClassId) (o x : Nat) (lo1 : Prop) (fo1 si1 : Nat) (it1 : Nat → Int32) : va_W := [(o, .inr (3, [.ref x, .int (bI lo1), .int (nI fo1), .int (nI si1)])), (x, .inl (cI, 60, .inl it1))]
noncomputable def wE (cI : ClassId) (aE : Nat → Nat) (lo : Nat → Prop) (fo si : Nat → Nat) (it : Nat → Nat → Int32) : va_W :=
  [(aE 0, .inr (3, [.ref (aE 4), .int (bI (lo 0)), .int (nI (fo 0)), .int (nI (si 0))])), (aE 1, .inr (3, [.ref (aE 5), .int (bI (lo 1)), .int (nI (fo 1)), .int (nI (si 1))])), (aE 2, .inr (3, [.ref (aE 6), .int (bI (lo 2)), .int (nI (fo 2)), .int (nI (si 2))])), (aE 3, .inr (3, [.ref (aE 7), .int (bI (lo 3)), .int (nI (fo 3)), .int (nI (si 3))])),
   (aE 4, .inl (cI, 60, .inl (it 0))), (aE 5, .inl (cI, 60, .inl (it 1))), (aE 6, .inl (cI, 60, .inl (it 2))), (aE 7, .inl (cI, 60, .inl (it 3)))]
def wS (cS : ClassId) (aS : Nat → Nat) (hW hB hC hH hT : Nat) (aE : Nat → Nat) (la : Int32) : va_W :=
  [(aS 0, .inr (5, [.ref hW, .ref hB, .ref hC, .ref hH, .ref hT, .ref (aS 1), .int la])), (aS 1, .inl (cS, 4, .inr (.inr (.inr (.inr (fun j => some (aE j)))))))]
section MyRows7
variable {p : Program} {l : Launch} {e : Env} {R : Room} {s : State} {m : MethodId} {args : Array Value} {below : List Frame} {meth : Method} {c : Code} {H : Heap} {locs : List Loc} {cells slots : Nat} {Q : State → Prop}
variable {cc : ByteArray} {pc : Nat} {ls : Array Slot} {rest : List Value} {D : va_G} {a : Nat} {T : List (ClassId × FieldType)} {ws : va_W} {nL : Nat} {own : String}
theorem a_ldR (G : CallFix p m c cc nL s args TB own) (K : va_K D vwCl T s) (hP : va_P D vwCl ws H) (q0 t0 : Nat) {cA : ClassId} {C : String} {n : Nat} {g : Nat → Nat} (ha : ws[q0]? = some (a, .inl (cA, n, .inr (.inr (.inr (.inr (fun j => some (g j)))))))) (ht : T[t0]? = some (cA, .object C)) {k : Nat} (hk : k < n) (hn : n < 2 ^ 31) (hdg : decode cc pc = .ok (.aaload, 1))
    (kk : W p l e R s m args below meth c H locs cells slots Q (F0 m (pc + 1) ls (.ref (g k) :: rest))) : W p l e R s m args below meth c H locs cells slots Q (F0 m pc ls (.int (nI k) :: .ref a :: rest)) := va_aldq G.1 G.2.1 K hP q0 t0 ha ht (vp_in_nI hk hn) hdg (t_v (by rw [nI_clamp (Nat.lt_trans hk hn)]; rfl) kk)
end MyRows7
noncomputable def fdA (lo1 : Prop) (fo1 si1 f : Nat) (y : Int32) : Nat := cif lo1 1 (cif (fo1 = f) (cif (okW si1 y) 0 2) 3)
/-- i, k as told are within so many items -/
def okH (si1 : Nat) (i k : Int32) : Prop := ∃ i' k', i' + k' ≤ si1 ∧ i = nI i' ∧ k = nI k'
theorem okH_t {si1 : Nat} (hs : si1 ≤ 60) {i k : Int32} (h1 : ¬ i < 0) (h2 : ¬ k < 0) (h3 : ¬ nI si1 - i < k) : okH si1 i k := by
  obtain ⟨a, ha, rfl⟩ := nI_of h1
  obtain ⟨b, hb, rfl⟩ := nI_of h2
  refine ⟨a, b, ?_, rfl, rfl⟩
  rw [Int32.lt_iff_toInt_lt, nI_toInt hb] at h3
  by_cases h : a ≤ si1
  · rw [pk_sub h, nI_toInt (by omega)] at h3; omega
  · exfalso
    apply h3
    have e : (nI si1 - nI a).toInt < 0 := by
      rw [Int32.toInt_sub, nI_toInt (by omega), nI_toInt ha]
      rw [Int.bmod_eq_of_le (by omega) (by omega)]
      omega
    omega
theorem okH_f {si1 : Nat} (hs : si1 ≤ 60) {i k : Int32} (h3 : nI si1 - i < k) : ¬ okH si1 i k := by
  rintro ⟨a, b, h, rfl, rfl⟩
  rw [Int32.lt_iff_toInt_lt, pk_sub (by omega), nI_toInt (by omega), nI_toInt (by omega)] at h3
  omega
theorem okH_1 {si1 : Nat} (hs : si1 ≤ 60) {i k : Int32} (h : i < 0) : ¬ okH si1 i k := by
  rintro ⟨a, b, h2, rfl, rfl⟩
  exact nI_pos (by omega) h
theorem okH_2 {si1 : Nat} (hs : si1 ≤ 60) {i k : Int32} (h : k < 0) : ¬ okH si1 i k := by
  rintro ⟨a, b, h2, rfl, rfl⟩
  exact nI_pos (by omega) h
theorem cutV_0 (v : Int32) : cutV (nI 0) v = v.toInt8.toInt32 := rfl
theorem cutV_1 (v : Int32) : cutV (nI 1) v = v.toInt16.toInt32 := by
  unfold cutV; rw [if_neg (by decide), if_pos rfl]
theorem cutV_2 {f : Nat} (h : 1 < f) (hf : f ≤ 2) (v : Int32) : cutV (nI f) v = v := by
  unfold cutV
  rw [if_neg (fun e => by have := (nI_eq (a := f) (b := 0) (by omega) (by decide)).mp (e.trans nI_0.symm); omega), if_neg (fun e => by have := (nI_eq (a := f) (b := 1) (by omega) (by decide)).mp e; omega)]
theorem lk_o {a b : Int} {f : Nat} (h : 1 < f) (hf : f < 2 ^ 31) {d : Int} : Op.lookupswitch.offset [(0, a), (1, b)] d (nI f).toInt = d := by
  rw [nI_toInt hf]
  simp only [Op.lookupswitch.offset]
  split
  · omega
  · split
    · omega
    · first | rfl | (simp only [Op.lookupswitch.offset])
theorem bI_fit (q : Prop) : fits .boolean (.int (bI q)) = true := by
  rcases bI_01 q with h | h <;> rw [h] <;> decide
theorem sw_lk1 {a b d : Int} {x : Int32} (h : x.toInt < 0 ∨ 1 < x.toInt) : Op.lookupswitch.offset [(0, a), (1, b)] d x.toInt = d := by
  generalize x.toInt = y at h
  simp only [Op.lookupswitch.offset]
  split
  · omega
  · split
    · omega
    · first | rfl | (simp only [Op.lookupswitch.offset])
