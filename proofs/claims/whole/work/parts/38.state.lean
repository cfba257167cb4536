/-! both sides as one state: what they share, and what each keeps for itself -/
structure AD where
  a : Nat → Nat
  aS : Nat → Nat
  aW : Nat → Nat
  aB : Nat → Nat
  aC : Nat → Nat
  aH : Nat → Nat
  aT : Nat → Nat
  aE : Nat → Nat
structure S9 where
  la : Int32
  n : Nat
  cl : Nat
  th : Nat → Nat
  ki : Nat → Nat
  va : Nat → Nat
  re : Nat → Nat
  to : Nat → Prop
  co : Nat → Nat
  ke : Nat → Int32
  fi : Nat → Nat
  bt : Nat → Nat
  bs : Nat
  nu : Nat → Int32
  fw : Nat → Nat
  lt : Nat → Option Nat
  tr : Nat → Nat
  sh : Nat → Nat
  cr : Nat → Nat
  ct : Nat → Nat
  cu : Nat → Nat
  ve : Nat → Nat
  ta : Nat → Nat
  ch : Nat
  lt2 : Nat → Option Nat
  tr2 : Nat → Nat
  sh2 : Nat → Nat
  cr2 : Nat → Nat
  ct2 : Nat → Nat
  cu2 : Nat → Nat
  ve2 : Nat → Nat
  ta2 : Nat → Nat
  ch2 : Nat
  lo : Nat → Prop
  fo : Nat → Nat
  si : Nat → Nat
  it : Nat → Nat → Int32
  rfo : Nat → Int32
  rit : Nat → Int32
  mo : Nat → Int32
  rfw : Nat → Nat
noncomputable def S9.R (x : S9) (cI cZ : ClassId) (d : AD) : va_W := wM cI cZ d.a x.la x.n x.cl none x.rfo x.si x.rit x.mo x.th x.ki x.va x.re x.to x.co x.ke x.rfw
noncomputable def S9.C (x : S9) (cI cZ cS : ClassId) (d : AD) : va_W := (wS cS d.aS (d.aW 0) (d.aB 0) (d.aC 0) (d.aH 0) (d.aT 0) d.aE x.la) ++ ((wW cI d.aW x.n x.cl x.th x.ki x.va x.re x.fi) ++ ((wB cI d.aB x.bt x.bs) ++ ((wC cI cZ d.aC (d.aW 0) (d.aB 0) x.to x.co x.ke x.nu x.fw) ++ ((wH cI d.aH (d.aW 0) x.lt x.tr x.sh x.cr x.ct x.cu x.ve x.ta x.ch) ++ ((wH cI d.aT (d.aW 0) x.lt2 x.tr2 x.sh2 x.cr2 x.ct2 x.cu2 x.ve2 x.ta2 x.ch2) ++ (wE cI d.aE x.lo x.fo x.si x.it))))))
structure Inv (x : S9) : Prop where
  I : IM x.n x.cl none x.th x.ki x.va x.re x.si x.co x.rfw
  J : IW x.n x.cl x.th x.ki x.va x.re x.fi
  S : SW x.n x.cl x.re x.fi
  B9 : (∀ j, x.bt j ≤ 255) ∧ x.bs ≤ 216
  C9 : (∀ j, x.co j ≤ 400) ∧ (∀ j, x.fw j ≤ 15)
  H9 : IHd x.lt x.tr x.sh x.cr x.ct x.cu x.ve x.ta x.ch
  U9 : IHd x.lt2 x.tr2 x.sh2 x.cr2 x.ct2 x.cu2 x.ve2 x.ta2 x.ch2
  E9 : (∀ j, x.fo j ≤ 2) ∧ (∀ j, x.si j ≤ 60)
  KB : SKb x.th x.ki x.va x.re x.n x.cl x.bt x.bs
  KC : SKc x.th x.ki x.va x.re x.n x.cl x.to x.co x.ke x.nu x.fw
  KT : SKt x.n x.to x.co
  KH : HOK x.th x.ki x.va x.re none x.n x.cl x.lt x.tr x.sh x.cr x.ct x.cu x.ve x.ta x.ch
  L : ∀ s, s ≤ 3 → (x.lo s ∧ x.rfo s < 0) ∨ (¬ x.lo s ∧ x.rfo s = nI (x.fo s) ∧ ∀ j, j < x.si s → x.rit (60 * s + j) = x.it s j)
/-- a call that writes, or one that only reads -/
def Ca (l : Launch) (D : va_G) (T : List (ClassId × FieldType)) (y : MethodName) (b : ByteArray) (mL : Nat) (ret : FieldType) (vs : List Value) (ws : va_W) (r : Value) (ws' : va_W) : Prop := ∃ k, k ≤ 10 ∧ (CM l D T y b mL (some ret) k vs ws (some r) ws' ∨ (CP l D T y b mL ret k vs ws r ∧ ws' = ws))
theorem Ca.m {l : Launch} {D : va_G} {T : List (ClassId × FieldType)} {y : MethodName} {b : ByteArray} {mL k : Nat} {ret : FieldType} {vs : List Value} {ws ws' : va_W} {r : Value} (C : CM l D T y b mL (some ret) k vs ws (some r) ws') (hk : k ≤ 10) : Ca l D T y b mL ret vs ws r ws' := ⟨k, hk, Or.inl C⟩
theorem Ca.p {l : Launch} {D : va_G} {T : List (ClassId × FieldType)} {y : MethodName} {b : ByteArray} {mL k : Nat} {ret : FieldType} {vs : List Value} {ws : va_W} {r : Value} (C : CP l D T y b mL ret k vs ws r) (hk : k ≤ 10) : Ca l D T y b mL ret vs ws r ws := ⟨k, hk, Or.inr ⟨C, rfl⟩⟩
/-- both sides answer the same, and stand alike behind it -/
def Step (l : Launch) (D : va_G) (cI cZ cS : ClassId) (d : AD) (y5 : MethodName) (b5 : ByteArray) (m5 : Nat) (y6 : MethodName) (b6 : ByteArray) (m6 : Nat) (ret : FieldType) (As : List Value) : Prop :=
  ∀ x : S9, Inv x → ∃ (r : Value) (x' : S9), Inv x' ∧ Ca l D (TY cI cZ cS) y5 b5 m5 ret (.ref (d.aS 0) :: As) (x.C cI cZ cS d) r (x'.C cI cZ cS d) ∧ Ca l D (TY cI cZ cS) y6 b6 m6 ret (.ref (d.a 0) :: As) (x.R cI cZ d) r (x'.R cI cZ d)
section LawCalls
variable {p : Program} {l : Launch} {e : Env} {R : Room} {s : State} {m : MethodId} {args : Array Value} {below : List Frame} {meth : Method} {c : Code} {H : Heap} {locs : List Loc} {cells slots : Nat} {Q : State → Prop}
variable {pc : Nat} {ls : Array Slot} {rest : List Value} {D : va_G} {y : MethodName} {b cc : ByteArray} {mL nL n index : Nat} {own : String} {A : Nat → Prop} {H0 : Heap} {cI cZ cS : ClassId} {d : AD}
theorem lawC {ret : FieldType} {As : List Value} {x x1 x' : S9} {r : Value} (G : CallFix p m c cc nL s args TB own) (K : va_K D vwCl (TY cI cZ cS) s) (hA : ∀ q : Nat, H0.size ≤ q → A q) (w : WW D A H0 (x.C cI cZ cS d ++ x1.R cI cZ d) H locs) (F : MV y b mL (some ret) n) (C : Ca l D (TY cI cZ cS) y b mL ret (.ref (d.aS 0) :: As) (x.C cI cZ cS d) r (x'.C cI cZ cS d)) (hlink : Cond.methodLink own index y ∈ TB)
    (hci : vwCl[5]? = some (y.cls, TX5, 7)) (hf : 11 ≤ R.frames) (hl : 440 ≤ R.locals) (hm : mL ≤ 20) (hn : As.length = n) (hls : ls.size = nL) (hrest : (rest.map fun v => v.category).sum ≤ 8) (hdg : decode cc pc = .ok (.invokevirtual index, 3)) (hc9 : cells ≤ R.cells) (hs9 : slots ≤ R.slots)
    (kk : ∀ (H1 : Heap) (locs1 : List Loc), WW D A H0 (x'.C cI cZ cS d ++ x1.R cI cZ d) H1 locs1 → W p l e R s m args below meth c H1 locs1 cells slots Q (F0 m (pc + 3) ls (r :: rest))) : W p l e R s m args below meth c H locs cells slots Q (F0 m pc ls (As.reverse ++ .ref (d.aS 0) :: rest)) := by
  obtain ⟨k, hk, C | ⟨C, e9⟩⟩ := C
  · exact callMVg (As := As) (rest := rest) (q0 := 0) (ci := 5) (wr := x1.R cI cZ d) (ws2 := x'.C cI cZ cS d ++ x1.R cI cZ d) G K hA w F C hlink (List.range 42) [42, 43, 44, 45, 46, 47, 48, 49, 50, 51, 52, 53, 54] [13, 14, 15, 16, 17, 18, 19, 20, 21, 22, 23, 24, 25, 26, 27, 28, 29, 30, 31, 32, 33, 34, 35, 36, 37, 38, 39, 40, 41, 42, 43, 44, 45, 46, 47, 48, 49, 50, 51, 52, 53, 54, 0, 1, 2, 3, 4, 5, 6, 7, 8, 9, 10, 11, 12] rfl rfl (by decide) (by decide) (by decide) (by decide) rfl rfl rfl hci (by omega) (by omega) hm hn hls hrest hdg hc9 hs9 kk
  · rw [e9] at kk
    exact callPVg (As := As) (rest := rest) (q0 := 0) (ci := 5) G K F C (WW_sub w (List.range 42) (by decide) rfl).1 hlink rfl rfl hci (by omega) (by omega) hm hn hls hrest hdg hc9 hs9 (kk H locs w)
theorem lawR {ret : FieldType} {As : List Value} {x x1 x' : S9} {r : Value} (G : CallFix p m c cc nL s args TB own) (K : va_K D vwCl (TY cI cZ cS) s) (hA : ∀ q : Nat, H0.size ≤ q → A q) (w : WW D A H0 (x1.C cI cZ cS d ++ x.R cI cZ d) H locs) (F : MV y b mL (some ret) n) (C : Ca l D (TY cI cZ cS) y b mL ret (.ref (d.a 0) :: As) (x.R cI cZ d) r (x'.R cI cZ d)) (hlink : Cond.methodLink own index y ∈ TB)
    (hci : vwCl[6]? = some (y.cls, TX6, 16)) (hf : 11 ≤ R.frames) (hl : 440 ≤ R.locals) (hm : mL ≤ 20) (hn : As.length = n) (hls : ls.size = nL) (hrest : (rest.map fun v => v.category).sum ≤ 8) (hdg : decode cc pc = .ok (.invokevirtual index, 3)) (hc9 : cells ≤ R.cells) (hs9 : slots ≤ R.slots)
    (kk : ∀ (H1 : Heap) (locs1 : List Loc), WW D A H0 (x1.C cI cZ cS d ++ x'.R cI cZ d) H1 locs1 → W p l e R s m args below meth c H1 locs1 cells slots Q (F0 m (pc + 3) ls (r :: rest))) : W p l e R s m args below meth c H locs cells slots Q (F0 m pc ls (As.reverse ++ .ref (d.a 0) :: rest)) := by
  obtain ⟨k, hk, C | ⟨C, e9⟩⟩ := C
  · exact callMVg (As := As) (rest := rest) (q0 := 0) (ci := 6) (wr := x1.C cI cZ cS d) (ws2 := x1.C cI cZ cS d ++ x'.R cI cZ d) G K hA w F C hlink [42, 43, 44, 45, 46, 47, 48, 49, 50, 51, 52, 53, 54] (List.range 42) (List.range 55) rfl rfl (by decide) (by decide) (by decide) (by decide) rfl rfl rfl hci (by omega) (by omega) hm hn hls hrest hdg hc9 hs9 kk
  · rw [e9] at kk
    exact callPVg (As := As) (rest := rest) (q0 := 0) (ci := 6) G K F C (WW_sub w [42, 43, 44, 45, 46, 47, 48, 49, 50, 51, 52, 53, 54] (by decide) rfl).1 hlink rfl rfl hci (by omega) (by omega) hm hn hls hrest hdg hc9 hs9 (kk H locs w)
end LawCalls
section Asks
variable {l : Launch} {D : va_G} {cI cZ cS : ClassId} {d : AD}
theorem st_write (z1 z2 : Int32) : Step l D cI cZ cS d yX5_write cX5_write 3 yX6_write cX6_write 3 .int [.int z1, .int z2] := by
  intro x h
  exact ⟨_, x, h, Ca.p (c_X5_write (x := z1) (q := z2) (J := h.J) (S := h.S) (B9 := h.B9) (C9 := h.C9) (H9 := h.H9) (U9 := h.U9) (E9 := h.E9)  ..) (by decide), Ca.p (c_X6_write (w := z1) (q := z2) (I := h.I) ..) (by decide)⟩
theorem st_revision (z1 z2 : Int32) : Step l D cI cZ cS d yX5_revision cX5_revision 3 yX6_revision cX6_revision 3 .int [.int z1, .int z2] := by
  intro x h
  exact ⟨_, x, h, Ca.p (c_X5_revision (x := z1) (q := z2) (J := h.J) (S := h.S) (B9 := h.B9) (C9 := h.C9) (H9 := h.H9) (U9 := h.U9) (E9 := h.E9)  ..) (by decide), Ca.p (c_X6_revision (x := z1) (q := z2) (I := h.I) ..) (by decide)⟩
theorem st_bytes (z1 : Int32) : Step l D cI cZ cS d yX5_bytes cX5_bytes 2 yX6_bytes cX6_bytes 2 .int [.int z1] := by
  intro x h
  exact ⟨_, x, h, Ca.p (c_X5_bytes (x := z1) (J := h.J) (S := h.S) (B9 := h.B9) (C9 := h.C9) (H9 := h.H9) (U9 := h.U9) (E9 := h.E9) (KB := h.KB) ..) (by decide), Ca.p (c_X6_bytes (i := z1) (I := h.I) ..) (by decide)⟩
theorem st_thing (z1 z2 z3 : Int32) : Step l D cI cZ cS d yX5_thing cX5_thing 5 yX6_thing cX6_thing 4 .int [.int z1, .int z2, .int z3] := by
  intro x h
  exact ⟨_, x, h, Ca.p (c_X5_thing (t := z1) (x := z2) (q := z3) (J := h.J) (S := h.S) (B9 := h.B9) (C9 := h.C9) (H9 := h.H9) (U9 := h.U9) (E9 := h.E9) (KH := h.KH) ..) (by decide), Ca.p (c_X6_thing (t := z1) (x := z2) (q := z3) (I := h.I) ..) (by decide)⟩
theorem st_shadows (z1 : Int32) : Step l D cI cZ cS d yX5_shadows cX5_shadows 2 yX6_shadows cX6_shadows 2 .int [.int z1] := by
  intro x h
  exact ⟨_, x, h, Ca.p (c_X5_shadows (x := z1) (J := h.J) (S := h.S) (B9 := h.B9) (C9 := h.C9) (H9 := h.H9) (U9 := h.U9) (E9 := h.E9) (KH := h.KH) ..) (by decide), Ca.p (c_X6_shadows (x := z1) (I := h.I) ..) (by decide)⟩
theorem st_covers (z1 z2 : Int32) : Step l D cI cZ cS d yX5_covers cX5_covers 3 yX6_covers cX6_covers 3 .int [.int z1, .int z2] := by
  intro x h
  exact ⟨_, x, h, Ca.p (c_X5_covers (x := z1) (q := z2) (J := h.J) (S := h.S) (B9 := h.B9) (C9 := h.C9) (H9 := h.H9) (U9 := h.U9) (E9 := h.E9)  ..) (by decide), Ca.p (c_X6_covers (w := z1) (q := z2) (I := h.I) ..) (by decide)⟩
theorem st_covered (z1 : Int32) : Step l D cI cZ cS d yX5_covered cX5_covered 2 yX6_covered cX6_covered 2 .int [.int z1] := by
  intro x h
  exact ⟨_, x, h, Ca.p (c_X5_covered (x := z1) (J := h.J) (S := h.S) (B9 := h.B9) (C9 := h.C9) (H9 := h.H9) (U9 := h.U9) (E9 := h.E9) (KB := h.KB) (KT := h.KT) ..) (by decide), Ca.p (c_X6_covered (w := z1) (I := h.I) ..) (by decide)⟩
theorem st_number (z1 z2 : Int32) : Step l D cI cZ cS d yX5_number cX5_number 3 yX6_number cX6_number 3 .int [.int z1, .int z2] := by
  intro x h
  exact ⟨_, x, h, Ca.p (c_X5_number (x := z1) (q := z2) (J := h.J) (S := h.S) (B9 := h.B9) (C9 := h.C9) (H9 := h.H9) (U9 := h.U9) (E9 := h.E9) (KC := h.KC) ..) (by decide), Ca.p (c_X6_number (w := z1) (q := z2) (I := h.I) ..) (by decide)⟩
theorem st_flaws (z1 : Int32) : Step l D cI cZ cS d yX5_flaws cX5_flaws 2 yX6_flaws cX6_flaws 2 .int [.int z1] := by
  intro x h
  exact ⟨_, x, h, Ca.p (c_X5_flaws (x := z1) (J := h.J) (S := h.S) (B9 := h.B9) (C9 := h.C9) (H9 := h.H9) (U9 := h.U9) (E9 := h.E9) (KC := h.KC) ..) (by decide), Ca.p (c_X6_flaws (w := z1) (I := h.I) ..) (by decide)⟩
theorem st_judge (z1 z2 : Int32) : Step l D cI cZ cS d yX5_judge cX5_judge 4 yX6_judge cX6_judge 3 .int [.int z1, .int z2] := by
  intro x h
  exact ⟨_, x, h, Ca.p (c_X5_judge (x := z1) (q := z2) (J := h.J) (S := h.S) (B9 := h.B9) (C9 := h.C9) (H9 := h.H9) (U9 := h.U9) (E9 := h.E9) (KC := h.KC) (KH := h.KH) ..) (by decide), Ca.p (c_X6_judge (w := z1) (q := z2) (I := h.I) ..) (by decide)⟩
theorem st_change (z1 z2 z3 : Int32) : Step l D cI cZ cS d yX5_change cX5_change 6 yX6_change cX6_change 4 .int [.int z1, .int z2, .int z3] := by
  intro x h
  exact ⟨_, x, h, Ca.p (c_X5_change (x := z1) (i := z2) (q := z3) (J := h.J) (S := h.S) (B9 := h.B9) (C9 := h.C9) (H9 := h.H9) (U9 := h.U9) (E9 := h.E9) (KH := h.KH) ..) (by decide), Ca.p (c_X6_change (w := z1) (i := z2) (q := z3) (I := h.I) ..) (by decide)⟩
theorem st_allowed (z1 : Int32) : Step l D cI cZ cS d yX5_allowed cX5_allowed 4 yX6_allowed cX6_allowed 2 .int [.int z1] := by
  intro x h
  exact ⟨_, x, h, Ca.p (c_X5_allowed (x := z1) (J := h.J) (S := h.S) (B9 := h.B9) (C9 := h.C9) (H9 := h.H9) (U9 := h.U9) (E9 := h.E9)  ..) (by decide), Ca.p (c_X6_allowed (x := z1) (I := h.I) ..) (by decide)⟩
theorem st_first (z1 : Int32) : Step l D cI cZ cS d yX5_first cX5_first 4 yX6_first cX6_first 2 .int [.int z1] := by
  intro x h
  exact ⟨_, x, h, Ca.p (c_X5_first (q := z1) (J := h.J) (S := h.S) (B9 := h.B9) (C9 := h.C9) (H9 := h.H9) (U9 := h.U9) (E9 := h.E9) (KH := h.KH) ..) (by decide), Ca.p (c_X6_first (q := z1) (I := h.I) ..) (by decide)⟩
end Asks
