/-! constructors: contracts that make cells, and calls in a room of any size -/
def RC (k mc ms : Nat) : Room := { frames := k, cells := mc, slots := ms, locals := 40 * k }
def QN (D : va_G) (T : List (ClassId × FieldType)) (A : Nat → Prop) (h : Nat) (ws' : (Nat → Nat → Nat) → va_W) : Array Value → State → Outcome → State → Prop := fun _ st oc t => (∃ q : Nat → Nat → Nat, oc = .returned none ∧ q 0 0 = h ∧ va_P D vwCl (ws' q) t.heap ∧ va_K D vwCl T t ∧ va_D A (ws' q)) ∧ va_F A st t
/-- makes so many cells of so many slots: behind it the cells ws' stand, at addresses q -/
def CN (l : Launch) (D : va_G) (T : List (ClassId × FieldType)) (y : MethodName) (b : ByteArray) (mL : Nat) (k mc ms : Nat) (h : Nat) (As : List Value) (ws : va_W) (N : State → Prop) (ws' : (Nat → Nat → Nat) → va_W) : Prop :=
  ∀ sz : Nat, Met l y (.code y b mL none :: TB) (RC k mc ms) (va_Pc (.ref h :: As) (fun U => PM D T ws sz U ∧ N U)) (QN D T (va_A ws sz) h ws') mc ms (va_A ws sz)
theorem CN.of {l : Launch} {D : va_G} {T : List (ClassId × FieldType)} {y : MethodName} {b : ByteArray} {mL k mc ms h : Nat} {As : List Value} {ws : va_W} {N : State → Prop} {ws' : (Nat → Nat → Nat) → va_W} (hy : plainName y.cls = true) (hyn : y.name = "<init>") (hn : (lg_sl (.ref h :: As)).length ≤ mL)
    (body : ∀ (p : Program) (e : Env) (s : State) (m : MethodId) (args : Array Value) (below : List Frame) (meth : Method) (c : Code) (Q : State → Prop) (A : Nat → Prop), CallFix p m c b mL s args TB y.cls → meth.name = "<init>" → va_K D vwCl T s → N s → (∀ q : Nat, s.heap.size ≤ q → A q) → WW D A s.heap ws s.heap [] →
      (∀ (pc : Nat) (ls : Array Slot) (q : Nat → Nat → Nat) (w2 : va_W) (H : Heap) (locs : List Loc), w2 = ws' q → q 0 0 = h → WW D A s.heap w2 H locs → decode b pc = .ok (.return_, 1) → W p l e (RC k mc ms) s m args below meth c H locs mc ms Q (F0 m pc ls [])) →
      ∀ ls : Array Slot, lv_has ls mL (lv_args 0 (.ref h :: As)) → W p l e (RC k mc ms) s m args below meth c s.heap [] 0 0 Q (F0 m 0 ls [])) : CN l D T y b mL k mc ms h As ws N ws' := by
  intro sz
  refine Met.ofW (cc := b) (maxL := mL) (ret := none) hy rfl ?_
  intro p e s m args below meth c s₁ B hml hv
  obtain ⟨rfl, ⟨rfl, hP, hK, hD0⟩, hN⟩ := hv
  have hts := hts_TB (atoms_spec (ws := Cond.code y b mL none :: TB) B.pre)
  have hown : s.vm.findClass y.cls = some m.cls := findClass_of_methodNamed B.named
  have hlocks := B.notSynchronized
  have hin : meth.name = "<init>" := (name_of_methodNamed B.named B.method).1.trans hyn
  have hl := lv_entry (.ref h :: As) (n := mL) hn
  rw [lg_entry_eq]
  generalize (lg_sl (.ref h :: As) ++ List.replicate (mL - (lg_sl (.ref h :: As)).length) Slot.unset).toArray = ls at hl ⊢
  refine body p e s m _ below meth c _ (va_A ws s.heap.size) ⟨B.exec, B.bytes, hml, hown, hts⟩ hin hK hN (fun q h => Or.inr h) ⟨hP, hD0.self, va_S.rf⟩ (fun pc ls q w2 H locs hw hq hH hdg => ?_) ls hl
  subst hw
  exact W.vret B.exec B.bytes B.returns (fun t ht hW => ⟨⟨q, rfl, hq, by rw [ht]; exact hH.1, va_K.moved hW.alike hK, hH.2.1⟩, hH.2.2.F ht⟩) hH.2.2.2.2 hdg
section MyMake
variable {p : Program} {l : Launch} {e : Env} {R : Room} {s : State} {m : MethodId} {args : Array Value} {below : List Frame} {meth : Method} {c : Code} {H : Heap} {locs : List Loc} {cells slots : Nat} {Q : State → Prop}
variable {pc : Nat} {ls : Array Slot} {rest : List Value} {D : va_G} {T : List (ClassId × FieldType)} {y : MethodName} {b cc : ByteArray} {mL nL n k index : Nat} {own : String} {A : Nat → Prop} {H0 : Heap} {a : Nat} {ws : va_W}
theorem o_init (G : CallFix p m c cc nL s args TB own) {r : Nat} (hl : Cond.methodLink own index objectInit ∈ TB) (hls : ls.size = nL) (hdg : decode cc pc = .ok (.invokespecial index, 3)) (hf : 1 ≤ R.frames) (hr : 40 ≤ R.locals) (k : W p l e R s m args below meth c H locs cells slots Q (F0 m (pc + 3) ls [])) : W p l e R s m args below meth c H locs cells slots Q (F0 m pc ls [.ref r]) := by
  obtain ⟨hx, hb, hml, hown, hts⟩ := G
  refine W.objInit hx hb hown (hts _ hl) (hts _ im_objectInit) (hts _ cd_objectInit) rfl (by rw [hml]; exact hls) rfl hdg (by first | exact hf | omega) (by first | omega | (simp; omega)) ?_
  exact W.eq (g2 := F0 m (pc + 3) ls []) rfl k
theorem arr_one {U : State} {cA cI : ClassId} (h1 : va_RA U cA .int) (h2 : va_RA U cI .int) : cA = cI := Option.some.inj ((show U.vm.findClass _ = some cA from h1).symm.trans h2)
theorem arr_oneZ {U : State} {cA cI : ClassId} (h1 : va_RA U cA .boolean) (h2 : va_RA U cI .boolean) : cA = cI := Option.some.inj ((show U.vm.findClass _ = some cA from h1).symm.trans h2)
theorem n_ai (G : CallFix p m c cc nL s args TB own) (K : va_K D vwCl T s) (hA : ∀ q : Nat, H0.size ≤ q → A q) (w : WW D A H0 ws H locs) {cI : ClassId} (t0 : Nat) (ht : T[t0]? = some (cI, .int)) {n : Int32} (N : Nat) {f : Nat → Int32} (hf : f = fun _ => 0) (hn : ¬ n < 0) (hN : n.toNatClampNeg = N) (hb9 : N * 4 ≤ 536870912) (hc9 : cells + 1 ≤ R.cells) (hs9 : slots + N ≤ R.slots) (hdg : decode cc pc = .ok (.newarray .int, 2))
    (kk : ∀ (q : Nat) (H1 : Heap), WW D A H0 (ws ++ [(q, .inl (cI, N, .inl f))]) H1 locs → W p l e R s m args below meth c H1 locs (cells + 1) (slots + N) Q (F0 m (pc + 2) ls (.ref q :: rest))) : W p l e R s m args below meth c H locs cells slots Q (F0 m pc ls (.int n :: rest)) := by
  subst hf
  refine va_newa (atype := .int) (ty := .int) G.1 G.2.1 (G.2.2.2.2 _ ac_62) rfl K w.1 w.2.1 w.2.2 hA (a0 := (N, .inl (fun _ => 0))) (fun cA => rfl) hn hN hb9 hc9 hs9 hdg (fun q cA H1 hK hP hD hS => ?_)
  have h1 := (hK.2 T.length (cA, .int) (by simp)).2
  have h2 := (K.2 t0 _ ht).2
  cases arr_one h1 h2
  exact kk q H1 ⟨hP, hD, hS⟩
theorem n_az (G : CallFix p m c cc nL s args TB own) (K : va_K D vwCl T s) (hA : ∀ q : Nat, H0.size ≤ q → A q) (w : WW D A H0 ws H locs) {cI : ClassId} (t0 : Nat) (ht : T[t0]? = some (cI, .boolean)) {n : Int32} (N : Nat) {f : Nat → Int32} (hf : f = fun _ => 0) (hn : ¬ n < 0) (hN : n.toNatClampNeg = N) (hb9 : N * 1 ≤ 536870912) (hc9 : cells + 1 ≤ R.cells) (hs9 : slots + N ≤ R.slots) (hdg : decode cc pc = .ok (.newarray .boolean, 2))
    (kk : ∀ (q : Nat) (H1 : Heap), WW D A H0 (ws ++ [(q, .inl (cI, N, .inl f))]) H1 locs → W p l e R s m args below meth c H1 locs (cells + 1) (slots + N) Q (F0 m (pc + 2) ls (.ref q :: rest))) : W p l e R s m args below meth c H locs cells slots Q (F0 m pc ls (.int n :: rest)) := by
  subst hf
  refine va_newa (atype := .boolean) (ty := .boolean) G.1 G.2.1 (G.2.2.2.2 _ ac_109) rfl K w.1 w.2.1 w.2.2 hA (a0 := (N, .inl (fun _ => 0))) (fun cA => rfl) hn hN hb9 hc9 hs9 hdg (fun q cA H1 hK hP hD hS => ?_)
  have h1 := (hK.2 T.length (cA, .boolean) (by simp)).2
  have h2 := (K.2 t0 _ ht).2
  cases arr_oneZ h1 h2
  exact kk q H1 ⟨hP, hD, hS⟩
theorem f_putF (G : CallFix p m c cc nL s args TB own) (K : va_K D vwCl T s) (hini : meth.name = "<init>") (w : WW D A H0 ws H locs) {C : String} {TC : u_T} {N ci index : Nat} (hin : ∀ w ∈ u_ws C TC N, w ∈ TB) (ty0 : Nat → FieldType) (hty : ∀ k, k < N → parseFieldDescriptor (TC k).2.2.1 = some (ty0 k)) (hnm : ∀ a, a < N → ∀ b, b < N → a ≠ b → (TC a).2.1 ≠ (TC b).2.1) (q0 : Nat) {fs : List Value} (he : ws[q0]? = some (a, .inr (ci, fs))) (hc : vwCl[ci]? = some (C, TC, N)) (k : Nat) (hk : Nat.blt k N = true) (hl : Cond.fieldLink own index (TC k).1 (TC k).2.1 (TC k).2.2.1 ∈ TB) (hfin : (TC k).2.2.2 = true) (hdecl : (TC k).1 = own) {v : Value} (hn : narrow (ty0 k) v = v) (hfit : fits (ty0 k) v = true) (hlen : Nat.blt k fs.length = true) (hdg : decode cc pc = .ok (.putfield index, 3)) {w2 : va_W} (hw : ws.set q0 (a, .inr (ci, fs.set k v)) = w2)
    (kk : ∀ (H1 : Heap) (locs1 : List Loc), WW D A H0 w2 H1 locs1 → W p l e R s m args below meth c H1 locs1 cells slots Q (F0 m (pc + 3) ls rest)) : W p l e R s m args below meth c H locs cells slots Q (F0 m pc ls (v :: .ref a :: rest)) :=
  va_putF G.1 G.2.1 G.2.2.2.2 hin ty0 hty hnm G.2.2.2.1 K w.1 w.2.1 w.2.2 q0 he hc k (Nat.blt_eq.mp hk) (G.2.2.2.2 _ hl) (fun _ h => h) hfin hini hdecl (hty k (Nat.blt_eq.mp hk)) hn hfit (Nat.blt_eq.mp hlen) hdg (fun H1 locs1 hP hD hS => kk H1 locs1 ⟨hw ▸ hP, hw ▸ hD, hS⟩)
theorem n_o (G : CallFix p m c cc nL s args TB own) (K : va_K D vwCl T s) (hA : ∀ q : Nat, H0.size ≤ q → A q) (w : WW D A H0 ws H locs) {C : String} {TC : u_T} {N ci index : Nat} (hin : ∀ w ∈ u_ws C TC N, w ∈ TB) (ty0 : Nat → FieldType) (hty : ∀ k, k < N → parseFieldDescriptor (TC k).2.2.1 = some (ty0 k)) (hcl : Cond.classLink own index C ∈ TB) (hi : Cond.instantiable C N ∈ TB) (hini : Cond.initialized C ∈ TB) (hc : vwCl[ci]? = some (C, TC, N)) (fs : List Value) (hfs : ∀ j, j < N → defaultValue (ty0 j) = vp_V fs j) (hc9 : cells + 1 ≤ R.cells) (hs9 : slots + N ≤ R.slots) (hdg : decode cc pc = .ok (.new index, 3))
    (kk : ∀ (q : Nat) (H1 : Heap), WW D A H0 (ws ++ [(q, .inr (ci, fs))]) H1 locs → W p l e R s m args below meth c H1 locs (cells + 1) (slots + N) Q (F0 m (pc + 3) ls (.ref q :: rest))) : W p l e R s m args below meth c H locs cells slots Q (F0 m pc ls rest) :=
  va_new G.1 G.2.1 G.2.2.2.2 hin ty0 hty G.2.2.2.1 (G.2.2.2.2 _ hcl) (G.2.2.2.2 _ hi) (G.2.2.2.2 _ hini) K w.1 w.2.1 w.2.2 hA hc hfs hc9 hs9 hdg (fun q H1 hP hD hS => kk q H1 ⟨hP, hD, hS⟩)
theorem after_N {mc ms h : Nat} {st0 : List Value} {aa : Array Value} {A1 : Nat → Prop} {ws' : (Nat → Nat → Nat) → va_W} (hr : va_Run p l e R s m args below meth c H locs cells slots mc ms (F0 m pc ls st0) rest (QN D T A1 h ws' aa) A1) (hS : va_S A H0 H locs) (hA : ∀ q, A1 q → A q)
    (kk : ∀ (q : Nat → Nat → Nat) (H1 : Heap) (locs1 : List Loc), q 0 0 = h → va_P D vwCl (ws' q) H1 → va_D A1 (ws' q) → (∀ q : Nat, q < H.size → ¬ A1 q → H1[q]? = H[q]?) → va_S A H0 H1 locs1 → W p l e R s m args below meth c H1 locs1 (cells + mc) (slots + ms) Q (F0 m (pc + 3) ls rest)) : W p l e R s m args below meth c H locs cells slots Q (F0 m pc ls st0) := by
  intro T hT X
  obtain ⟨v, st₀, t, T', L, h0, X', hL, e1, e2, ⟨⟨q, hv, hq, hp, hk9, hd⟩, hz, hk⟩, st⟩ := hr T hT X
  cases hv
  rw [h0] at hz hk
  obtain ⟨t2, a1, b1⟩ := kk q T'.heap (locs ++ L) hq (by rw [e1]; exact hp) hd (fun q h1 h2 => by rw [e1]; exact hk q h1 h2)
    ⟨Nat.le_trans hS.1 (by rw [e1]; exact hz), fun q h1 h2 => by rw [e1, hk q (Nat.lt_of_lt_of_le h1 hS.1) (fun z => h2 (hA q z))]; exact hS.2.1 q h1 h2, fun q hq => by
      rcases List.mem_append.mp hq with h | h
      · exact hS.2.2 q h
      · exact hA _ (hL q h)⟩ T' rfl X'
  exact ⟨t2, st t2 a1, b1⟩
/-- the constructor of the object that was made last: in place of its one cell its cells stand -/
theorem mkI {ws0 : va_W} {h ci mc ms : Nat} {fs As : List Value} {N : State → Prop} {ws' : (Nat → Nat → Nat) → va_W} (G : CallFix p m c cc nL s args TB own) (K : va_K D vwCl T s) (hA : ∀ q : Nat, H0.size ≤ q → A q) (w : WW D A H0 (ws0 ++ [(h, .inr (ci, fs))]) H locs) (C : CN l D T y b mL k mc ms h As [(h, .inr (ci, fs))] N ws') (hN1 : ∀ (U : State) (g : JFrame) (mk : MethodId) (aa : Array Value), N U → N (U.calling g mk aa)) (hN2 : ∀ U : State, s.WarmedH U.vm → N U)
    (hini : Cond.initialized y.cls ∈ TB) (hcd : Cond.code y b mL none ∈ TB) (him : Cond.instanceMethod y ∈ TB) (hlink : Cond.methodLink own index y ∈ TB) (hyn : y.name = "<init>") (hd : y.cls ≠ "java/lang/invoke/MethodHandle" ∧ y.cls ≠ "java/lang/invoke/VarHandle" ∧ (parseMethodDescriptor y.desc).map (fun d => d.parameters.length) = some n)
    (hnR : va_nd (List.range ws0.length) = true) (hk : k + 1 ≤ R.frames) (hk2 : 40 * k + 40 ≤ R.locals) (hm : mL ≤ 20) (hn : As.length = n) (hls : ls.size = nL) (hrest : (rest.map fun v => v.category).sum ≤ 8) (hdg : decode cc pc = .ok (.invokespecial index, 3)) (hc9 : cells + mc ≤ R.cells) (hs9 : slots + ms ≤ R.slots)
    (kk : ∀ (q : Nat → Nat → Nat) (H1 : Heap) (locs1 : List Loc), q 0 0 = h → WW D A H0 (ws0 ++ ws' q) H1 locs1 → W p l e R s m args below meth c H1 locs1 (cells + mc) (slots + ms) Q (F0 m (pc + 3) ls rest)) : W p l e R s m args below meth c H locs cells slots Q (F0 m pc ls (As.reverse ++ .ref h :: rest)) := by
  obtain ⟨hx, hb, hml, hown, hts⟩ := G
  obtain ⟨wP, wD, wS⟩ := w
  have hC : [ws0.length].map (fun i => (ws0 ++ [(h, (.inr (ci, fs) : va_E))])[i]?) = [(h, (.inr (ci, fs) : va_E))].map some := by simp
  have hR : (List.range ws0.length).map (fun i => (ws0 ++ [(h, (.inr (ci, fs) : va_E))])[i]?) = ws0.map some := by
    refine List.ext_getElem? (fun i => ?_)
    simp only [List.getElem?_map]
    by_cases hi : i < ws0.length
    · simp [hi, List.getElem?_append_left hi]
    · rw [List.getElem?_eq_none (by simpa using hi), List.getElem?_eq_none (by omega)]
      rfl
  have hF := va_free (wc := [(h, .inr (ci, fs))]) wD wS hA [ws0.length] hC
  have hPc : va_P D vwCl [(h, .inr (ci, fs))] H := by
    intro j q hj
    have hz : j < 1 := (List.getElem?_eq_some_iff.mp hj).1
    rw [show j = 0 by omega] at hj
    cases hj
    exact wP ws0.length _ (by simp)
  have hDc := wD.sub (ws' := [(h, .inr (ci, fs))]) [ws0.length] rfl hC
  have cw : CallB R s args own index y b mL none (Cond.code y b mL none :: TB) (RC k mc ms) mc ms n ∧ y.name = "<init>" ∧ (Cond.instanceMethod y).before args s = true := ⟨callB_of n hts (TB_c hcd) rfl rfl rfl (hts _ hini) (hts _ hlink) hd ⟨hk, by show 8 + (mL + 11) + 40 * k ≤ R.locals; omega⟩, hyn, hts _ him⟩
  refine after_N (va_runI (As := As) (rest := rest) ⟨hx, hb, hml, hown, hts⟩ (C H.size) cw ⟨fun a U g mk q => ⟨q.1, ⟨q.2.1.1, q.2.1.2.1, va_K.moved (u := U) (U := U.calling g mk a) (Vm.Alike.refl U.vm) q.2.1.2.2.1, q.2.1.2.2.2⟩, hN1 U g mk a q.2.2⟩, fun U hU hW => ⟨rfl, ⟨by rw [hU], by rw [hU]; exact hPc, va_K.moved hW.alike K, hDc.weaken (fun _ _ _ _ => trivial)⟩, hN2 U hW⟩⟩ rfl hn hls rfl (lv_room hrest) hdg ⟨hc9, hs9⟩) wS hF (fun q H1 locs1 hq hP1 hD1 hk1 hS1 => ?_)
  obtain ⟨jP, jD⟩ := va_join (wr := ws0) (w1 := ws' q) wP wD [ws0.length] (List.range ws0.length) hC hR hnR (fun i hi hc => by
    have h1 := List.mem_range.mp hi
    have h2 := List.mem_singleton.mp hc
    omega) hk1 hF hP1 hD1
  exact kk q H1 locs1 hq ⟨jP, jD, hS1⟩
theorem mkIN {ws0 : va_W} {h ci mc ms : Nat} {fs As : List Value} {N : State → Prop} {host : String} {ws' : (Nat → Nat → Nat) → va_W} (G : CallFix p m c cc nL s args TB own) (K : va_K D vwCl T s) (hA : ∀ q : Nat, H0.size ≤ q → A q) (w : WW D A H0 (ws0 ++ [(h, .inr (ci, fs))]) H locs) (C : CN l D T y b mL k mc ms h As [(h, .inr (ci, fs))] N ws') (hN1 : ∀ (U : State) (g : JFrame) (mk : MethodId) (aa : Array Value), N U → N (U.calling g mk aa)) (hN2 : ∀ U : State, s.WarmedH U.vm → N U)
    (hini : Cond.initialized y.cls ∈ TB) (hcd : Cond.code y b mL none ∈ TB) (him : Cond.instanceMethod y ∈ TB) (hlink : va_Nw (.methodLinkNest own index y host) s) (hyn : y.name = "<init>") (hd : y.cls ≠ "java/lang/invoke/MethodHandle" ∧ y.cls ≠ "java/lang/invoke/VarHandle" ∧ (parseMethodDescriptor y.desc).map (fun d => d.parameters.length) = some n)
    (hnR : va_nd (List.range ws0.length) = true) (hk : k + 1 ≤ R.frames) (hk2 : 40 * k + 40 ≤ R.locals) (hm : mL ≤ 20) (hn : As.length = n) (hls : ls.size = nL) (hrest : (rest.map fun v => v.category).sum ≤ 8) (hdg : decode cc pc = .ok (.invokespecial index, 3)) (hc9 : cells + mc ≤ R.cells) (hs9 : slots + ms ≤ R.slots)
    (kk : ∀ (q : Nat → Nat → Nat) (H1 : Heap) (locs1 : List Loc), q 0 0 = h → WW D A H0 (ws0 ++ ws' q) H1 locs1 → W p l e R s m args below meth c H1 locs1 (cells + mc) (slots + ms) Q (F0 m (pc + 3) ls rest)) : W p l e R s m args below meth c H locs cells slots Q (F0 m pc ls (As.reverse ++ .ref h :: rest)) := by
  obtain ⟨hx, hb, hml, hown, hts⟩ := G
  obtain ⟨wP, wD, wS⟩ := w
  have hC : [ws0.length].map (fun i => (ws0 ++ [(h, (.inr (ci, fs) : va_E))])[i]?) = [(h, (.inr (ci, fs) : va_E))].map some := by simp
  have hR : (List.range ws0.length).map (fun i => (ws0 ++ [(h, (.inr (ci, fs) : va_E))])[i]?) = ws0.map some := by
    refine List.ext_getElem? (fun i => ?_)
    simp only [List.getElem?_map]
    by_cases hi : i < ws0.length
    · simp [hi, List.getElem?_append_left hi]
    · rw [List.getElem?_eq_none (by simpa using hi), List.getElem?_eq_none (by omega)]
      rfl
  have hF := va_free (wc := [(h, .inr (ci, fs))]) wD wS hA [ws0.length] hC
  have hPc : va_P D vwCl [(h, .inr (ci, fs))] H := by
    intro j q hj
    have hz : j < 1 := (List.getElem?_eq_some_iff.mp hj).1
    rw [show j = 0 by omega] at hj
    cases hj
    exact wP ws0.length _ (by simp)
  have hDc := wD.sub (ws' := [(h, .inr (ci, fs))]) [ws0.length] rfl hC
  have cw : va_CN R s args own index y host b mL none (Cond.code y b mL none :: TB) (RC k mc ms) mc ms n ∧ y.name = "<init>" ∧ (Cond.instanceMethod y).before args s = true := ⟨va_cnB n hts (TB_c hcd) rfl rfl rfl hlink (hts _ hini) hd ⟨hk, by show 8 + (mL + 11) + 40 * k ≤ R.locals; omega⟩, hyn, hts _ him⟩
  refine after_N (va_runIN (As := As) (rest := rest) ⟨hx, hb, hml, hown, hts⟩ (C H.size) cw ⟨fun a U g mk q => ⟨q.1, ⟨q.2.1.1, q.2.1.2.1, va_K.moved (u := U) (U := U.calling g mk a) (Vm.Alike.refl U.vm) q.2.1.2.2.1, q.2.1.2.2.2⟩, hN1 U g mk a q.2.2⟩, fun U hU hW => ⟨rfl, ⟨by rw [hU], by rw [hU]; exact hPc, va_K.moved hW.alike K, hDc.weaken (fun _ _ _ _ => trivial)⟩, hN2 U hW⟩⟩ rfl hn hls rfl (lv_room hrest) hdg ⟨hc9, hs9⟩) wS hF (fun q H1 locs1 hq hP1 hD1 hk1 hS1 => ?_)
  obtain ⟨jP, jD⟩ := va_join (wr := ws0) (w1 := ws' q) wP wD [ws0.length] (List.range ws0.length) hC hR hnR (fun i hi hc => by
    have h1 := List.mem_range.mp hi
    have h2 := List.mem_singleton.mp hc
    omega) hk1 hF hP1 hD1
  exact kk q H1 locs1 hq ⟨jP, jD, hS1⟩
end MyMake
