/-! my own rows over the kit's: rooms by depth, truth as an int, contracts that read alone (CP), contracts that write (CM), how each is begun and called -/
def RM (k : Nat) : Room := { frames := k, cells := 0, slots := 0, locals := 40 * k }
noncomputable def bI (p : Prop) : Int32 := @ite Int32 p (Classical.propDecidable p) 1 0
theorem bI_t {p : Prop} (h : p) : bI p = 1 := by unfold bI; exact if_pos h
theorem bI_f {p : Prop} (h : ¬ p) : bI p = 0 := by unfold bI; exact if_neg h
theorem bI_iff {p q : Prop} (h : p ↔ q) : bI p = bI q := by rw [propext h]
theorem bI_01 (p : Prop) : bI p = 0 ∨ bI p = 1 := by
  by_cases h : p
  · exact Or.inr (bI_t h)
  · exact Or.inl (bI_f h)
theorem bI_eq0 {p : Prop} : bI p = 0 ↔ ¬ p := by
  by_cases h : p
  · rw [bI_t h]; exact ⟨fun e => absurd e (by decide), fun e => absurd h e⟩
  · rw [bI_f h]; exact ⟨fun _ => h, fun _ => rfl⟩
theorem bI_nar (p : Prop) : narrow .boolean (.int (bI p)) = .int (bI p) := by
  rcases bI_01 p with h | h <;> rw [h] <;> decide
theorem nar_int (x : Int32) : narrow .int (.int x) = .int x := rfl
def WW (D : va_G) (A : Nat → Prop) (H0 : Heap) (ws : va_W) (H : Heap) (locs : List Loc) : Prop := va_P D vwCl ws H ∧ va_D A ws ∧ va_S A H0 H locs
def PP (D : va_G) (T : List (ClassId × FieldType)) (wc : va_W) (U : State) : Prop := va_P D vwCl wc U.heap ∧ va_K D vwCl T U
def QP (r : Value) : Array Value → State → Outcome → State → Prop := fun _ st oc t => oc = .returned (some r) ∧ t.heap = st.heap
/-- reads alone: called with these values where the cells wc stand, it answers r, and the heap is as it was -/
def CP (l : Launch) (D : va_G) (T : List (ClassId × FieldType)) (y : MethodName) (b : ByteArray) (mL : Nat) (ty : FieldType) (k : Nat) (vs : List Value) (wc : va_W) (r : Value) : Prop :=
  Met l y (.code y b mL (some ty) :: TB) (RM k) (va_Pc vs (PP D T wc)) (QP r) 0 0 (fun _ => False)
def PM (D : va_G) (T : List (ClassId × FieldType)) (ws : va_W) (sz : Nat) (U : State) : Prop := U.heap.size = sz ∧ va_P D vwCl ws U.heap ∧ va_K D vwCl T U ∧ va_D (fun _ => True) ws
def QM (D : va_G) (T : List (ClassId × FieldType)) (A : Nat → Prop) (r : Option Value) (ws' : va_W) : Array Value → State → Outcome → State → Prop := fun _ st oc t => (oc = .returned r ∧ va_P D vwCl ws' t.heap ∧ va_K D vwCl T t ∧ va_D A ws') ∧ va_F A st t
/-- writes too: the cells ws become the cells ws', it answers r, nothing else has changed -/
def CM (l : Launch) (D : va_G) (T : List (ClassId × FieldType)) (y : MethodName) (b : ByteArray) (mL : Nat) (ret : Option FieldType) (k : Nat) (vs : List Value) (ws : va_W) (r : Option Value) (ws' : va_W) : Prop :=
  ∀ sz : Nat, Met l y (.code y b mL ret :: TB) (RM k) (va_Pc vs (PM D T ws sz)) (QM D T (va_A ws sz) r ws') 0 0 (va_A ws sz)
theorem Pin {D : va_G} {T : List (ClassId × FieldType)} {wc : va_W} {a : Array Value} {U : State} {g : JFrame} {mk : MethodId} (h : PP D T wc U) : PP D T wc (U.calling g mk a) := ⟨h.1, va_K.moved (u := U) (U := U.calling g mk a) (Vm.Alike.refl U.vm) h.2⟩
theorem hts_TB {y : MethodName} {b : ByteArray} {n : Nat} {r : Option FieldType} {args : Array Value} {s : State} (h : ∀ w ∈ (Cond.code y b n r :: TB), w.before args s = true) : ∀ w ∈ TB, w.before args s = true := fun w hw => h w (List.mem_cons_of_mem _ hw)
theorem CP.ofI {l : Launch} {D : va_G} {T : List (ClassId × FieldType)} {y : MethodName} {b : ByteArray} {mL k : Nat} {ty : FieldType} {vs : List Value} {wc : va_W} {v : Int32} (hy : plainName y.cls = true) (hn : (lg_sl vs).length ≤ mL) (hnar : narrow ty (.int v) = .int v)
    (body : ∀ (p : Program) (e : Env) (s : State) (m : MethodId) (args : Array Value) (below : List Frame) (meth : Method) (c : Code) (Q : State → Prop), CallFix p m c b mL s args TB y.cls → va_K D vwCl T s → va_P D vwCl wc s.heap →
      (∀ (pc : Nat) (ls : Array Slot) (x : Int32), x = v → decode b pc = .ok (.ireturn, 1) → W p l e (RM k) s m args below meth c s.heap [] 0 0 Q (F0 m pc ls [.int x])) →
      ∀ ls : Array Slot, lv_has ls mL (lv_args 0 vs) → W p l e (RM k) s m args below meth c s.heap [] 0 0 Q (F0 m 0 ls [])) : CP l D T y b mL ty k vs wc (.int v) := by
  refine Met.ofW (cc := b) (maxL := mL) (ret := some ty) hy rfl ?_
  intro p e s m args below meth c s₁ B hml hv
  obtain ⟨rfl, hP, hK⟩ := hv
  have hts := hts_TB (atoms_spec (ws := Cond.code y b mL (some ty) :: TB) B.pre)
  have hown : s.vm.findClass y.cls = some m.cls := findClass_of_methodNamed B.named
  have hlocks := B.notSynchronized
  have hl := lv_entry vs (n := mL) hn
  rw [lg_entry_eq]
  generalize (lg_sl vs ++ List.replicate (mL - (lg_sl vs).length) Slot.unset).toArray = ls at hl ⊢
  refine body p e s m _ below meth c _ ⟨B.exec, B.bytes, hml, hown, hts⟩ hK hP (fun pc ls x hx hdg => ?_) ls hl
  subst hx
  exact W.zret B.exec B.bytes B.returns hnar (fun t ht _ => ⟨rfl, ht⟩) (fun q hq => by cases hq) hdg
theorem CP.ofL {l : Launch} {D : va_G} {T : List (ClassId × FieldType)} {y : MethodName} {b : ByteArray} {mL k : Nat} {vs : List Value} {wc : va_W} {v : Int64} (hy : plainName y.cls = true) (hn : (lg_sl vs).length ≤ mL)
    (body : ∀ (p : Program) (e : Env) (s : State) (m : MethodId) (args : Array Value) (below : List Frame) (meth : Method) (c : Code) (Q : State → Prop), CallFix p m c b mL s args TB y.cls → va_K D vwCl T s → va_P D vwCl wc s.heap →
      (∀ (pc : Nat) (ls : Array Slot) (x : Int64), x = v → decode b pc = .ok (.lreturn, 1) → W p l e (RM k) s m args below meth c s.heap [] 0 0 Q (F0 m pc ls [.long x])) →
      ∀ ls : Array Slot, lv_has ls mL (lv_args 0 vs) → W p l e (RM k) s m args below meth c s.heap [] 0 0 Q (F0 m 0 ls [])) : CP l D T y b mL .long k vs wc (.long v) := by
  refine Met.ofW (cc := b) (maxL := mL) (ret := some .long) hy rfl ?_
  intro p e s m args below meth c s₁ B hml hv
  obtain ⟨rfl, hP, hK⟩ := hv
  have hts := hts_TB (atoms_spec (ws := Cond.code y b mL (some .long) :: TB) B.pre)
  have hown : s.vm.findClass y.cls = some m.cls := findClass_of_methodNamed B.named
  have hlocks := B.notSynchronized
  have hl := lv_entry vs (n := mL) hn
  rw [lg_entry_eq]
  generalize (lg_sl vs ++ List.replicate (mL - (lg_sl vs).length) Slot.unset).toArray = ls at hl ⊢
  refine body p e s m _ below meth c _ ⟨B.exec, B.bytes, hml, hown, hts⟩ hK hP (fun pc ls x hx hdg => ?_) ls hl
  subst hx
  exact W.lret B.exec B.bytes B.returns (fun t ht _ => ⟨rfl, ht⟩) (fun q hq => by cases hq) hdg
theorem CM.ofI {l : Launch} {D : va_G} {T : List (ClassId × FieldType)} {y : MethodName} {b : ByteArray} {mL k : Nat} {ty : FieldType} {vs : List Value} {ws ws' : va_W} {v : Int32} (hy : plainName y.cls = true) (hn : (lg_sl vs).length ≤ mL) (hnar : narrow ty (.int v) = .int v)
    (body : ∀ (p : Program) (e : Env) (s : State) (m : MethodId) (args : Array Value) (below : List Frame) (meth : Method) (c : Code) (Q : State → Prop) (A : Nat → Prop), CallFix p m c b mL s args TB y.cls → va_K D vwCl T s → (∀ q : Nat, s.heap.size ≤ q → A q) → WW D A s.heap ws s.heap [] →
      (∀ (pc : Nat) (ls : Array Slot) (x : Int32) (w2 : va_W) (H : Heap) (locs : List Loc), x = v → w2 = ws' → WW D A s.heap w2 H locs → decode b pc = .ok (.ireturn, 1) → W p l e (RM k) s m args below meth c H locs 0 0 Q (F0 m pc ls [.int x])) →
      ∀ ls : Array Slot, lv_has ls mL (lv_args 0 vs) → W p l e (RM k) s m args below meth c s.heap [] 0 0 Q (F0 m 0 ls [])) : CM l D T y b mL (some ty) k vs ws (some (.int v)) ws' := by
  intro sz
  refine Met.ofW (cc := b) (maxL := mL) (ret := some ty) hy rfl ?_
  intro p e s m args below meth c s₁ B hml hv
  obtain ⟨rfl, rfl, hP, hK, hD0⟩ := hv
  have hts := hts_TB (atoms_spec (ws := Cond.code y b mL (some ty) :: TB) B.pre)
  have hown : s.vm.findClass y.cls = some m.cls := findClass_of_methodNamed B.named
  have hlocks := B.notSynchronized
  have hl := lv_entry vs (n := mL) hn
  rw [lg_entry_eq]
  generalize (lg_sl vs ++ List.replicate (mL - (lg_sl vs).length) Slot.unset).toArray = ls at hl ⊢
  refine body p e s m _ below meth c _ (va_A ws s.heap.size) ⟨B.exec, B.bytes, hml, hown, hts⟩ hK (fun q h => Or.inr h) ⟨hP, hD0.self, va_S.rf⟩ (fun pc ls x w2 H locs hx hw hH hdg => ?_) ls hl
  subst hx hw
  exact W.zret B.exec B.bytes B.returns hnar (fun t ht hW => ⟨⟨rfl, by rw [ht]; exact hH.1, va_K.moved hW.alike hK, hH.2.1⟩, hH.2.2.F ht⟩) hH.2.2.2.2 hdg
theorem CM.ofL {l : Launch} {D : va_G} {T : List (ClassId × FieldType)} {y : MethodName} {b : ByteArray} {mL k : Nat} {vs : List Value} {ws ws' : va_W} {v : Int64} (hy : plainName y.cls = true) (hn : (lg_sl vs).length ≤ mL)
    (body : ∀ (p : Program) (e : Env) (s : State) (m : MethodId) (args : Array Value) (below : List Frame) (meth : Method) (c : Code) (Q : State → Prop) (A : Nat → Prop), CallFix p m c b mL s args TB y.cls → va_K D vwCl T s → (∀ q : Nat, s.heap.size ≤ q → A q) → WW D A s.heap ws s.heap [] →
      (∀ (pc : Nat) (ls : Array Slot) (x : Int64) (w2 : va_W) (H : Heap) (locs : List Loc), x = v → w2 = ws' → WW D A s.heap w2 H locs → decode b pc = .ok (.lreturn, 1) → W p l e (RM k) s m args below meth c H locs 0 0 Q (F0 m pc ls [.long x])) →
      ∀ ls : Array Slot, lv_has ls mL (lv_args 0 vs) → W p l e (RM k) s m args below meth c s.heap [] 0 0 Q (F0 m 0 ls [])) : CM l D T y b mL (some .long) k vs ws (some (.long v)) ws' := by
  intro sz
  refine Met.ofW (cc := b) (maxL := mL) (ret := some .long) hy rfl ?_
  intro p e s m args below meth c s₁ B hml hv
  obtain ⟨rfl, rfl, hP, hK, hD0⟩ := hv
  have hts := hts_TB (atoms_spec (ws := Cond.code y b mL (some .long) :: TB) B.pre)
  have hown : s.vm.findClass y.cls = some m.cls := findClass_of_methodNamed B.named
  have hlocks := B.notSynchronized
  have hl := lv_entry vs (n := mL) hn
  rw [lg_entry_eq]
  generalize (lg_sl vs ++ List.replicate (mL - (lg_sl vs).length) Slot.unset).toArray = ls at hl ⊢
  refine body p e s m _ below meth c _ (va_A ws s.heap.size) ⟨B.exec, B.bytes, hml, hown, hts⟩ hK (fun q h => Or.inr h) ⟨hP, hD0.self, va_S.rf⟩ (fun pc ls x w2 H locs hx hw hH hdg => ?_) ls hl
  subst hx hw
  exact W.lret B.exec B.bytes B.returns (fun t ht hW => ⟨⟨rfl, by rw [ht]; exact hH.1, va_K.moved hW.alike hK, hH.2.1⟩, hH.2.2.F ht⟩) hH.2.2.2.2 hdg
theorem CM.ofV {l : Launch} {D : va_G} {T : List (ClassId × FieldType)} {y : MethodName} {b : ByteArray} {mL k : Nat} {vs : List Value} {ws ws' : va_W} (hy : plainName y.cls = true) (hn : (lg_sl vs).length ≤ mL)
    (body : ∀ (p : Program) (e : Env) (s : State) (m : MethodId) (args : Array Value) (below : List Frame) (meth : Method) (c : Code) (Q : State → Prop) (A : Nat → Prop), CallFix p m c b mL s args TB y.cls → va_K D vwCl T s → (∀ q : Nat, s.heap.size ≤ q → A q) → WW D A s.heap ws s.heap [] →
      (∀ (pc : Nat) (ls : Array Slot) (w2 : va_W) (H : Heap) (locs : List Loc), w2 = ws' → WW D A s.heap w2 H locs → decode b pc = .ok (.return_, 1) → W p l e (RM k) s m args below meth c H locs 0 0 Q (F0 m pc ls [])) →
      ∀ ls : Array Slot, lv_has ls mL (lv_args 0 vs) → W p l e (RM k) s m args below meth c s.heap [] 0 0 Q (F0 m 0 ls [])) : CM l D T y b mL none k vs ws none ws' := by
  intro sz
  refine Met.ofW (cc := b) (maxL := mL) (ret := none) hy rfl ?_
  intro p e s m args below meth c s₁ B hml hv
  obtain ⟨rfl, rfl, hP, hK, hD0⟩ := hv
  have hts := hts_TB (atoms_spec (ws := Cond.code y b mL none :: TB) B.pre)
  have hown : s.vm.findClass y.cls = some m.cls := findClass_of_methodNamed B.named
  have hlocks := B.notSynchronized
  have hl := lv_entry vs (n := mL) hn
  rw [lg_entry_eq]
  generalize (lg_sl vs ++ List.replicate (mL - (lg_sl vs).length) Slot.unset).toArray = ls at hl ⊢
  refine body p e s m _ below meth c _ (va_A ws s.heap.size) ⟨B.exec, B.bytes, hml, hown, hts⟩ hK (fun q h => Or.inr h) ⟨hP, hD0.self, va_S.rf⟩ (fun pc ls w2 H locs hw hH hdg => ?_) ls hl
  subst hw
  exact W.vret B.exec B.bytes B.returns (fun t ht hW => ⟨⟨rfl, by rw [ht]; exact hH.1, va_K.moved hW.alike hK, hH.2.1⟩, hH.2.2.F ht⟩) hH.2.2.2.2 hdg
/-- what a call of a method needs of the tables, whoever calls it -/
def MV (y : MethodName) (b : ByteArray) (mL : Nat) (ret : Option FieldType) (n : Nat) : Prop := Cond.instanceMethod y ∈ TB ∧ Cond.selects y.cls y y ∈ TB ∧ Cond.initialized y.cls ∈ TB ∧ Cond.code y b mL ret ∈ TB ∧ y.cls ≠ "java/lang/invoke/MethodHandle" ∧ y.cls ≠ "java/lang/invoke/VarHandle" ∧ (parseMethodDescriptor y.desc).map (fun d => d.parameters.length) = some n
def MS (y : MethodName) (b : ByteArray) (mL : Nat) (ret : Option FieldType) (n : Nat) : Prop := Cond.static y ∈ TB ∧ Cond.initialized y.cls ∈ TB ∧ Cond.code y b mL ret ∈ TB ∧ y.cls ≠ "java/lang/invoke/MethodHandle" ∧ y.cls ≠ "java/lang/invoke/VarHandle" ∧ (parseMethodDescriptor y.desc).map (fun d => d.parameters.length) = some n
section MyCalls
variable {p : Program} {l : Launch} {e : Env} {s : State} {m : MethodId} {args : Array Value} {below : List Frame} {meth : Method} {c : Code} {H : Heap} {locs : List Loc} {cells slots : Nat} {Q : State → Prop}
variable {pc : Nat} {ls : Array Slot} {rest : List Value} {D : va_G} {T : List (ClassId × FieldType)} {y : MethodName} {b cc : ByteArray} {mL nL n k kR index : Nat} {own : String} {A : Nat → Prop} {H0 : Heap}
theorem roomOK {r : Value} {ty : Option FieldType} {hd : Room} (_ : k + 1 ≤ kR) : True := trivial
/-- behind a call that reads alone the heap is the same one -/
theorem after_P {R : Room} {r : Value} {st0 : List Value} {a : Array Value} (hr : va_Run p l e R s m args below meth c H locs cells slots 0 0 (F0 m pc ls st0) rest (QP r a) (fun _ => False))
    (kk : W p l e R s m args below meth c H locs cells slots Q (F0 m (pc + 3) ls (r :: rest))) : W p l e R s m args below meth c H locs cells slots Q (F0 m pc ls st0) := by
  intro T hT X
  obtain ⟨v, st₀, t, T', L, h0, X', hL, e1, e2, ⟨hv, hh⟩, st⟩ := hr T hT X
  cases hv
  have hL0 : L = [] := by
    cases L with
    | nil => rfl
    | cons q L => exact absurd (hL q List.mem_cons_self) id
  subst hL0
  rw [List.append_nil] at X'
  obtain ⟨t2, a1, b1⟩ := kk T' (by rw [e1, hh, h0]) X'
  exact ⟨t2, st t2 a1, b1⟩
theorem callPV {ret : FieldType} {vs As : List Value} {b0 : Nat} {wc : va_W} {r : Value} {ci q0 : Nat} {fs : List Value} {TC : u_T} {NC : Nat} (G : CallFix p m c cc nL s args TB own) (K : va_K D vwCl T s) (F : MV y b mL (some ret) n) (C : CP l D T y b mL ret k vs wc r) (hP : va_P D vwCl wc H) (hlink : Cond.methodLink own index y ∈ TB)
    (hvs : vs = .ref b0 :: As) (hrec : wc[q0]? = some (b0, .inr (ci, fs))) (hci : vwCl[ci]? = some (y.cls, TC, NC)) (hk : k + 1 ≤ kR) (hm : mL ≤ 20) (hn : As.length = n) (hls : ls.size = nL) (hrest : (rest.map fun v => v.category).sum ≤ 8) (hdg : decode cc pc = .ok (.invokevirtual index, 3))
    (kk : W p l e (RM kR) s m args below meth c H locs 0 0 Q (F0 m (pc + 3) ls (r :: rest))) : W p l e (RM kR) s m args below meth c H locs 0 0 Q (F0 m pc ls (As.reverse ++ .ref b0 :: rest)) := by
  subst hvs
  obtain ⟨hx, hb, hml, hown, hts⟩ := G
  obtain ⟨f1, f2, f3, f4, f5, f6, f7⟩ := F
  have cw : CallW (RM kR) s args own y.cls index y b mL (some ret) (Cond.code y b mL (some ret) :: TB) (RM k) 0 0 n := ⟨callB_of n hts (TB_c f4) rfl rfl rfl (hts _ f3) (hts _ hlink) ⟨f5, f6, f7⟩ ⟨hk, by show 8 + (mL + 11) + 40 * k ≤ 40 * kR; omega⟩, hts _ f1, hts _ f2⟩
  refine after_P (va_runV (As := As) (rest := rest) ⟨hx, hb, hml, hown, hts⟩ C cw ⟨fun a U g mk q => ⟨q.1, Pin q.2⟩, va_recv K hP (ci := ci) hci hrec, fun U hU hW => ⟨rfl, by rw [hU]; exact hP, va_K.moved hW.alike K⟩⟩ rfl hn hls rfl (lv_room hrest) hdg ⟨Nat.le_refl 0, Nat.le_refl 0⟩) kk
theorem callPS {ret : FieldType} {vs : List Value} {wc : va_W} {r : Value} (G : CallFix p m c cc nL s args TB own) (K : va_K D vwCl T s) (F : MS y b mL (some ret) n) (C : CP l D T y b mL ret k vs wc r) (hP : va_P D vwCl wc H) (hlink : Cond.methodLink own index y ∈ TB)
    (hk : k + 1 ≤ kR) (hm : mL ≤ 20) (hn : vs.length = n) (hls : ls.size = nL) (hrest : (rest.map fun v => v.category).sum ≤ 8) (hdg : decode cc pc = .ok (.invokestatic index, 3))
    (kk : W p l e (RM kR) s m args below meth c H locs 0 0 Q (F0 m (pc + 3) ls (r :: rest))) : W p l e (RM kR) s m args below meth c H locs 0 0 Q (F0 m pc ls (vs.reverse ++ rest)) := by
  obtain ⟨hx, hb, hml, hown, hts⟩ := G
  obtain ⟨f1, f3, f4, f5, f6, f7⟩ := F
  have cw : CallB (RM kR) s args own index y b mL (some ret) (Cond.code y b mL (some ret) :: TB) (RM k) 0 0 n ∧ (Cond.static y).before args s = true := ⟨callB_of n hts (TB_c f4) rfl rfl rfl (hts _ f3) (hts _ hlink) ⟨f5, f6, f7⟩ ⟨hk, by show 8 + (mL + 11) + 40 * k ≤ 40 * kR; omega⟩, hts _ f1⟩
  refine after_P (va_runS (As := vs) (rest := rest) ⟨hx, hb, hml, hown, hts⟩ C cw ⟨fun a U g mk q => ⟨q.1, Pin q.2⟩, fun U hU hW => ⟨rfl, by rw [hU]; exact hP, va_K.moved hW.alike K⟩⟩ rfl hn hls rfl (lv_room hrest) hdg ⟨Nat.le_refl 0, Nat.le_refl 0⟩) kk
/-- behind a call that writes: the caller's own cells, with what came back in their places -/
theorem after_M {R : Room} {r : Option Value} {st0 : List Value} {a : Array Value} {A1 : Nat → Prop} {ws' : va_W} (hr : va_Run p l e R s m args below meth c H locs cells slots 0 0 (F0 m pc ls st0) rest (QM D T A1 r ws' a) A1) (hS : va_S A H0 H locs) (hA : ∀ q, A1 q → A q)
    (kk : ∀ (H1 : Heap) (locs1 : List Loc), va_P D vwCl ws' H1 → va_D A1 ws' → (∀ q : Nat, q < H.size → ¬ A1 q → H1[q]? = H[q]?) → va_S A H0 H1 locs1 → W p l e R s m args below meth c H1 locs1 cells slots Q (F0 m (pc + 3) ls (r.toList ++ rest))) : W p l e R s m args below meth c H locs cells slots Q (F0 m pc ls st0) := by
  intro T hT X
  obtain ⟨v, st₀, t, T', L, h0, X', hL, e1, e2, ⟨⟨hv, hp, hk9, hd⟩, hz, hk⟩, st⟩ := hr T hT X
  cases hv
  rw [h0] at hz hk
  obtain ⟨t2, a1, b1⟩ := kk T'.heap (locs ++ L) (by rw [e1]; exact hp) hd (fun q h1 h2 => by rw [e1]; exact hk q h1 h2)
    ⟨Nat.le_trans hS.1 (by rw [e1]; exact hz), fun q h1 h2 => by rw [e1, hk q (Nat.lt_of_lt_of_le h1 hS.1) (fun z => h2 (hA q z))]; exact hS.2.1 q h1 h2, fun q hq => by
      rcases List.mem_append.mp hq with h | h
      · exact hS.2.2 q h
      · exact hA _ (hL q h)⟩ T' rfl X'
  exact ⟨t2, st t2 a1, b1⟩
theorem callMV {ret : Option FieldType} {vs As : List Value} {b0 : Nat} {ws wc wc' : va_W} {r : Option Value} {ci q0 : Nat} {fs : List Value} {TC : u_T} {NC : Nat} (G : CallFix p m c cc nL s args TB own) (K : va_K D vwCl T s) (hA : ∀ q : Nat, H0.size ≤ q → A q) (w : WW D A H0 ws H locs) (F : MV y b mL ret n) (C : CM l D T y b mL ret k vs wc r wc') (hlink : Cond.methodLink own index y ∈ TB)
    (isC isR perm : List Nat) {wr ws2 : va_W} (hC : isC.map (fun i => ws[i]?) = wc.map some) (hR : isR.map (fun i => ws[i]?) = wr.map some) (hnC : va_nd isC = true) (hnR : va_nd isR = true) (hdis : isR.all (fun i => !isC.contains i) = true) (hnp : va_nd perm = true) (hp : perm.map (fun i => (wr ++ wc')[i]?) = ws2.map some)
    (hvs : vs = .ref b0 :: As) (hrec : wc[q0]? = some (b0, .inr (ci, fs))) (hci : vwCl[ci]? = some (y.cls, TC, NC)) (hk : k + 1 ≤ kR) (hm : mL ≤ 20) (hn : As.length = n) (hls : ls.size = nL) (hrest : (rest.map fun v => v.category).sum ≤ 8) (hdg : decode cc pc = .ok (.invokevirtual index, 3))
    (kk : ∀ (H1 : Heap) (locs1 : List Loc), WW D A H0 ws2 H1 locs1 → W p l e (RM kR) s m args below meth c H1 locs1 0 0 Q (F0 m (pc + 3) ls (r.toList ++ rest))) : W p l e (RM kR) s m args below meth c H locs 0 0 Q (F0 m pc ls (As.reverse ++ .ref b0 :: rest)) := by
  subst hvs
  obtain ⟨hx, hb, hml, hown, hts⟩ := G
  obtain ⟨f1, f2, f3, f4, f5, f6, f7⟩ := F
  obtain ⟨wP, wD, wS⟩ := w
  have cw : CallW (RM kR) s args own y.cls index y b mL ret (Cond.code y b mL ret :: TB) (RM k) 0 0 n := ⟨callB_of n hts (TB_c f4) rfl rfl rfl (hts _ f3) (hts _ hlink) ⟨f5, f6, f7⟩ ⟨hk, by show 8 + (mL + 11) + 40 * k ≤ 40 * kR; omega⟩, hts _ f1, hts _ f2⟩
  have hF := va_free (wc := wc) wD wS hA isC hC
  have hPc : va_P D vwCl wc H := by
    intro j q hj
    have h1 : (isC.map (fun i => ws[i]?))[j]? = some (some q) := by rw [hC, List.getElem?_map, hj]; rfl
    rw [List.getElem?_map] at h1
    cases hi : isC[j]? with
    | none => rw [hi] at h1; cases h1
    | some i => rw [hi] at h1; exact wP i q (by simpa using h1)
  have hDc := wD.sub (ws' := wc) isC hnC hC
  refine after_M (va_runV (As := As) (rest := rest) ⟨hx, hb, hml, hown, hts⟩ (C H.size) cw ⟨fun a U g mk q => ⟨q.1, q.2.1, q.2.2.1, va_K.moved (u := U) (U := U.calling g mk a) (Vm.Alike.refl U.vm) q.2.2.2.1, q.2.2.2.2⟩, va_recv K hPc (ci := ci) hci hrec, fun U hU hW => ⟨rfl, by rw [hU], by rw [hU]; exact hPc, va_K.moved hW.alike K, hDc.weaken (fun _ _ _ _ => trivial)⟩⟩ rfl hn hls rfl (lv_room hrest) hdg ⟨Nat.le_refl 0, Nat.le_refl 0⟩) wS hF (fun H1 locs1 hP1 hD1 hk1 hS1 => ?_)
  obtain ⟨jP, jD⟩ := va_join (wr := wr) (w1 := wc') wP wD isC isR hC hR hnR (fun i hi hc => by
    have := List.all_eq_true.mp hdis i hi
    simp at this
    exact this hc) hk1 hF hP1 hD1
  refine kk H1 locs1 ⟨?_, jD.sub (ws' := ws2) perm hnp hp, hS1⟩
  intro j q hj
  have h1 : (perm.map (fun i => (wr ++ wc')[i]?))[j]? = some (some q) := by rw [hp, List.getElem?_map, hj]; rfl
  rw [List.getElem?_map] at h1
  cases hi : perm[j]? with
  | none => rw [hi] at h1; cases h1
  | some i => rw [hi] at h1; exact jP i q (by simpa using h1)
/-- the callee's cells are all of the caller's -/
theorem callMF {ret : Option FieldType} {vs As : List Value} {b0 : Nat} {ws ws' : va_W} {r : Option Value} {ci q0 : Nat} {fs : List Value} {TC : u_T} {NC : Nat} (G : CallFix p m c cc nL s args TB own) (K : va_K D vwCl T s) (hA : ∀ q : Nat, H0.size ≤ q → A q) (w : WW D A H0 ws H locs) (F : MV y b mL ret n) (C : CM l D T y b mL ret k vs ws r ws') (hlink : Cond.methodLink own index y ∈ TB)
    (hvs : vs = .ref b0 :: As) (hrec : ws[q0]? = some (b0, .inr (ci, fs))) (hci : vwCl[ci]? = some (y.cls, TC, NC)) (hk : k + 1 ≤ kR) (hm : mL ≤ 20) (hn : As.length = n) (hls : ls.size = nL) (hrest : (rest.map fun v => v.category).sum ≤ 8) (hdg : decode cc pc = .ok (.invokevirtual index, 3))
    (kk : ∀ (H1 : Heap) (locs1 : List Loc), WW D A H0 ws' H1 locs1 → W p l e (RM kR) s m args below meth c H1 locs1 0 0 Q (F0 m (pc + 3) ls (r.toList ++ rest))) : W p l e (RM kR) s m args below meth c H locs 0 0 Q (F0 m pc ls (As.reverse ++ .ref b0 :: rest)) := by
  subst hvs
  obtain ⟨hx, hb, hml, hown, hts⟩ := G
  obtain ⟨f1, f2, f3, f4, f5, f6, f7⟩ := F
  obtain ⟨wP, wD, wS⟩ := w
  have cw : CallW (RM kR) s args own y.cls index y b mL ret (Cond.code y b mL ret :: TB) (RM k) 0 0 n := ⟨callB_of n hts (TB_c f4) rfl rfl rfl (hts _ f3) (hts _ hlink) ⟨f5, f6, f7⟩ ⟨hk, by show 8 + (mL + 11) + 40 * k ≤ 40 * kR; omega⟩, hts _ f1, hts _ f2⟩
  have hF : ∀ q, va_A ws H.size q → A q := by
    intro q h
    rcases h with ⟨j, e, h⟩ | h
    · exact wD.2 j _ h
    · exact hA q (Nat.le_trans wS.1 h)
  refine after_M (va_runV (As := As) (rest := rest) ⟨hx, hb, hml, hown, hts⟩ (C H.size) cw ⟨fun a U g mk q => ⟨q.1, q.2.1, q.2.2.1, va_K.moved (u := U) (U := U.calling g mk a) (Vm.Alike.refl U.vm) q.2.2.2.1, q.2.2.2.2⟩, va_recv K wP (ci := ci) hci hrec, fun U hU hW => ⟨rfl, by rw [hU], by rw [hU]; exact wP, va_K.moved hW.alike K, wD.weaken (fun _ _ _ _ => trivial)⟩⟩ rfl hn hls rfl (lv_room hrest) hdg ⟨Nat.le_refl 0, Nat.le_refl 0⟩) wS hF (fun H1 locs1 hP1 hD1 hk1 hS1 => ?_)
  exact kk H1 locs1 ⟨hP1, hD1.weaken (fun j q _ h => hF _ h), hS1⟩
end MyCalls
