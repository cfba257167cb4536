/-! the history's steps, exactly as they go -/
def stG {α : Type} (f : Nat → α) (b : Nat) (x : α) : Nat → Nat → α
  | 0 => f
  | j + 1 => va_up (stG f b x j) (b + j) x
theorem stG_at {α : Type} (f : Nat → α) (b : Nat) (x : α) (d j : Nat) : stG f b x d j = if b ≤ j ∧ j < b + d then x else f j := by
  induction d with
  | zero => rw [if_neg (by omega)]; rfl
  | succ d ih =>
    simp only [stG]
    by_cases e : j = b + d
    · subst e; rw [va_up_self, if_pos (by omega)]
    · rw [va_up_ne _ _ e, ih]
      by_cases h : b ≤ j ∧ j < b + d
      · rw [if_pos h, if_pos (by omega)]
      · rw [if_neg h, if_neg (by omega)]
theorem stG_oI (f : Nat → Option Nat) (b : Nat) (x : Option Nat) (d : Nat) : stG (fun j => oI (f j)) b (oI x) d = fun j => oI (stG f b x d j) := by
  funext j
  rw [stG_at, stG_at]
  by_cases h : b ≤ j ∧ j < b + d
  · rw [if_pos h, if_pos h]
  · rw [if_neg h, if_neg h]
theorem cpy_oI (f g : Nat → Option Nat) (sp dp m : Nat) : va_cpy (fun j => oI (f j)) (fun j => oI (g j)) sp dp m = fun j => oI (va_cpy f g sp dp m j) := by
  funext j
  unfold va_cpy
  by_cases h : dp ≤ j ∧ j < dp + m
  · simp only [if_pos h]
  · simp only [if_neg h]
def srL (lt : Nat → Option Nat) (r : Nat) : Nat → Option Nat := if r = 0 then stG lt 0 none 16 else va_cpy lt lt (r * 16 - 16) (r * 16) 16
noncomputable def twL (th : Nat → Nat) (go : Option Nat) (lt : Nat → Option Nat) (r lo : Nat) : Nat → Nat → Option Nat
  | 0 => lt
  | j + 1 => cif (go = some (lo + j)) (twL th go lt r lo j) (va_up (twL th go lt r lo j) (r * 16 + th (lo + j)) (some (lo + j)))
def shc (ki va : Nat → Nat) (o : Option Nat) (f v : Nat) : Prop := ∃ u, o = some u ∧ f ≤ u ∧ dif ki va u v
noncomputable def twS (th ki va : Nat → Nat) (go : Option Nat) (lt : Nat → Option Nat) (sh : Nat → Nat) (r lo : Nat) : Nat → Nat → Nat
  | 0 => sh
  | j + 1 => cif (¬ go = some (lo + j) ∧ shc ki va (twL th go lt r lo j (r * 16 + th (lo + j))) lo (lo + j)) (va_up (twS th ki va go lt sh r lo j) r (twS th ki va go lt sh r lo j r ||| 2 ^ th (lo + j))) (twS th ki va go lt sh r lo j)
theorem or_lt16 {x t : Nat} (hx : x ≤ 65535) (ht : t ≤ 15) : x ||| 2 ^ t ≤ 65535 := by
  have h2 : 2 ^ t < 2 ^ 16 := Nat.pow_lt_pow_right (by decide) (by omega)
  have := Nat.or_lt_two_pow (n := 16) (x := x) (y := 2 ^ t) (by omega) h2
  omega
theorem twS_le {th ki va : Nat → Nat} (hth : ∀ j, th j ≤ 15) {go : Option Nat} {lt : Nat → Option Nat} {sh : Nat → Nat} (hsh : ∀ j, sh j ≤ 65535) (r lo d : Nat) : ∀ j, twS th ki va go lt sh r lo d j ≤ 65535 := by
  induction d with
  | zero => exact hsh
  | succ d ih =>
    intro j
    simp only [twS]
    by_cases h : ¬ go = some (lo + d) ∧ shc ki va (twL th go lt r lo d (r * 16 + th (lo + d))) lo (lo + d)
    · rw [cif_t h]; exact up_le ih (or_lt16 (ih r) (hth _)) j
    · rw [cif_f h]; exact ih j
theorem twL_lt {th : Nat → Nat} {go : Option Nat} {lt : Nat → Option Nat} {z : Nat} (hlt : ∀ j v, lt j = some v → v < z) (r lo d : Nat) (h : lo + d ≤ z) : ∀ j v, twL th go lt r lo d j = some v → v < z := by
  induction d with
  | zero => exact hlt
  | succ d ih =>
    intro j v
    simp only [twL]
    by_cases hg : go = some (lo + d)
    · rw [cif_t hg]; exact ih (by omega) j v
    · rw [cif_f hg]
      by_cases e : j = r * 16 + th (lo + d)
      · subst e; rw [va_up_self]; intro q; cases q; omega
      · rw [va_up_ne _ _ e]; exact ih (by omega) j v
theorem srL_lt {lt : Nat → Option Nat} {z : Nat} (hlt : ∀ j v, lt j = some v → v < z) (r : Nat) : ∀ j v, srL lt r j = some v → v < z := by
  intro j v
  unfold srL
  by_cases h : r = 0
  · rw [if_pos h, stG_at]
    split
    · intro q; cases q
    · exact hlt j v
  · rw [if_neg h]
    unfold va_cpy
    split
    · exact hlt _ v
    · exact hlt j v
def othO (ki va : Nat → Nat) (a b : Option Nat) : Prop := ¬ (a.map ki = b.map ki ∧ (a = none ∨ vO va a = vO va b))
theorem kOr_5 {ki : Nat → Nat} {o : Option Nat} : kOr ki o ≠ 5 ↔ nonG ki o ≠ none := by
  cases o with
  | none => simp [kOr, nonG]
  | some v => simp only [kOr, nonG]; split <;> simp_all
theorem nonG_s {ki : Nat → Nat} {o : Option Nat} {v : Nat} (h : o = some v) (hk : kOr ki o ≠ 5) : nonG ki o = some v := by
  subst h
  simp only [kOr] at hk
  simp only [nonG, if_neg hk]
noncomputable def ncR {α : Type} (q : Nat → Prop) (g : Nat → α) (cr : Nat → α) (ch : Nat) : Nat → Nat → α
  | 0 => cr
  | t + 1 => cif (q t) (va_up (ncR q g cr ch t) (ch + cntP q t) (g t)) (ncR q g cr ch t)
noncomputable def srC (ki va : Nat → Nat) (shb thb : Prop) (trs : Nat) (x y : Option Nat) : Nat :=
  cif shb 3 (cif ((kOr ki x = 1 ∧ kOr ki y = 1) ∨ (kOr ki x = 5 ∧ kOr ki y = 4)) 1 (cif (((kOr ki x = 2 ∨ kOr ki x = 5) ∧ (kOr ki y = 2 ∨ kOr ki y = 5)) ∧ ¬ thb) 2 (cif ((kOr ki x = 3 ∧ kOr ki y = 3) ∧ (vO va x ^^^ vO va y) &&& trs = 0) 2 3)))
theorem srC_le (ki va : Nat → Nat) (shb thb : Prop) (trs : Nat) (x y : Option Nat) : srC ki va shb thb trs x y ≤ 3 := by
  unfold srC
  exact cif_le (by omega) (cif_le (by omega) (cif_le (by omega) (cif_le (by omega) (by omega))))
def IHd (lt : Nat → Option Nat) (tr sh cr ct cu ve ta : Nat → Nat) (ch : Nat) : Prop := (∀ j v, lt j = some v → v < 40) ∧ (∀ j, tr j ≤ 65535) ∧ (∀ j, sh j ≤ 65535) ∧ (∀ j, cr j ≤ 7) ∧ (∀ j, ct j ≤ 15) ∧ (∀ j, cu j ≤ 128) ∧ (∀ j, ve j ≤ 3) ∧ (∀ j, ta j ≤ 128) ∧ ch ≤ 128
theorem oI_lt {o : Option Nat} {f : Nat} (hf : f < 2 ^ 31) (ho : ∀ w, o = some w → w < 2 ^ 31) : oI o < nI f ↔ ¬ ∃ v, o = some v ∧ f ≤ v := by
  cases o with
  | none =>
    constructor
    · rintro _ ⟨v, h, _⟩; cases h
    · intro _
      show (-1 : Int32) < nI f
      rw [Int32.lt_iff_toInt_lt, nI_toInt hf]
      have : (-1 : Int32).toInt = -1 := by decide
      omega
  | some w =>
    rw [oI_some, nI_ltI (ho w rfl) hf]
    constructor
    · rintro h ⟨v, e, h2⟩; cases e; omega
    · intro h; exact Nat.not_le.mp fun q => h ⟨w, rfl, q⟩
theorem bI_inj {q q' : Prop} : bI q = bI q' ↔ (q ↔ q') := by
  constructor
  · intro h
    by_cases a : q
    · rw [bI_t a] at h
      by_cases b : q'
      · exact ⟨fun _ => b, fun _ => a⟩
      · rw [bI_f b] at h; exact absurd h (by decide)
    · rw [bI_f a] at h
      by_cases b : q'
      · rw [bI_t b] at h; exact absurd h (by decide)
      · exact ⟨fun x => absurd x a, fun x => absurd x b⟩
  · exact bI_iff
def CPv (l : Launch) (D : va_G) (T : List (ClassId × FieldType)) (y : MethodName) (b : ByteArray) (mL : Nat) (k : Nat) (vs : List Value) : Prop :=
  Met l y (.code y b mL none :: TB) (RM k) (va_Pc vs (PP D T [])) (fun _ st oc t => oc = .returned none ∧ t.heap = st.heap) 0 0 (fun _ => False)
section MyRows5
variable {p : Program} {l : Launch} {e : Env} {R : Room} {s : State} {m : MethodId} {args : Array Value} {below : List Frame} {meth : Method} {c : Code} {H : Heap} {locs : List Loc} {cells slots : Nat} {Q : State → Prop}
variable {cc b : ByteArray} {pc k kR n index mL : Nat} {ls : Array Slot} {rest : List Value} {nL : Nat} {own : String} {D : va_G} {T : List (ClassId × FieldType)} {y : MethodName} {A : Nat → Prop} {H0 : Heap}
theorem on_lt (G : CallFix p m c cc nL s args TB own) {f : Nat} {o : Option Nat} {off : Int} {tgt : Nat} (hf : f < 2 ^ 31) (ho : ∀ w, o = some w → w < 2 ^ 31) (hdg : decode cc pc = .ok (.if_icmp .lt off, 3)) (ht : (pc : Int) + off = (tgt : Int)) (kt : (¬ ∃ v, o = some v ∧ f ≤ v) → W p l e R s m args below meth c H locs cells slots Q (F0 m tgt ls rest)) (kf : (∃ v, o = some v ∧ f ≤ v) → W p l e R s m args below meth c H locs cells slots Q (F0 m (pc + 3) ls rest)) : W p l e R s m args below meth c H locs cells slots Q (F0 m pc ls (.int (nI f) :: .int (oI o) :: rest)) := lv_icmp_lt G.1 G.2.1 hdg ht (fun h => kt ((oI_lt hf ho).mp h)) (fun h => kf (Classical.not_not.mp fun q => h ((oI_lt hf ho).mpr q)))
theorem bb_ne (G : CallFix p m c cc nL s args TB own) {q q' : Prop} {off : Int} {tgt : Nat} (hdg : decode cc pc = .ok (.if_icmp .ne off, 3)) (ht : (pc : Int) + off = (tgt : Int)) (kt : ¬ (q ↔ q') → W p l e R s m args below meth c H locs cells slots Q (F0 m tgt ls rest)) (kf : (q ↔ q') → W p l e R s m args below meth c H locs cells slots Q (F0 m (pc + 3) ls rest)) : W p l e R s m args below meth c H locs cells slots Q (F0 m pc ls (.int (bI q') :: .int (bI q) :: rest)) := lv_icmp_ne G.1 G.2.1 hdg ht (fun h => kt (fun z => h (bI_inj.mpr z))) (fun h => kf (bI_inj.mp h))
theorem callPSv {vs : List Value} (G : CallFix p m c cc nL s args TB own) (K : va_K D vwCl T s) (F : MS y b mL none n) (C : CPv l D T y b mL k vs) (hlink : Cond.methodLink own index y ∈ TB)
    (hk : k + 1 ≤ kR) (hm : mL ≤ 20) (hn : vs.length = n) (hls : ls.size = nL) (hrest : (rest.map fun v => v.category).sum ≤ 8) (hdg : decode cc pc = .ok (.invokestatic index, 3))
    (kk : W p l e (RM kR) s m args below meth c H locs 0 0 Q (F0 m (pc + 3) ls rest)) : W p l e (RM kR) s m args below meth c H locs 0 0 Q (F0 m pc ls (vs.reverse ++ rest)) := by
  obtain ⟨hx, hb, hml, hown, hts⟩ := G
  obtain ⟨f1, f3, f4, f5, f6, f7⟩ := F
  have cw : CallB (RM kR) s args own index y b mL none (Cond.code y b mL none :: TB) (RM k) 0 0 n ∧ (Cond.static y).before args s = true := ⟨callB_of n hts (TB_c f4) rfl rfl rfl (hts _ f3) (hts _ hlink) ⟨f5, f6, f7⟩ ⟨hk, by show 8 + (mL + 11) + 40 * k ≤ 40 * kR; omega⟩, hts _ f1⟩
  have hr := va_runS (H := H) (locs := locs) (cells := 0) (slots := 0) (l := l) (below := below) (meth := meth) (e := e) (g := F0 m pc ls (vs.reverse ++ rest)) (As := vs) (rest := rest) ⟨hx, hb, hml, hown, hts⟩ C cw ⟨fun a U g mk q => ⟨q.1, Pin q.2⟩, fun U hU hW => ⟨rfl, va_P_nil D U.heap, va_K.moved hW.alike K⟩⟩ rfl hn hls rfl (lv_room hrest) hdg ⟨Nat.le_refl 0, Nat.le_refl 0⟩
  intro T hT X
  obtain ⟨v, st₀, t, T', L, h0, X', hL, e1, e2, ⟨hv, hh⟩, st⟩ := hr T hT X
  cases hv
  have hL0 : L = [] := by
    cases L with
    | nil => rfl
    | cons q L => exact absurd (hL q List.mem_cons_self) id
  subst hL0
  rw [List.append_nil] at X'
  obtain ⟨t2, a1, b1⟩ := kk T' (by rw [e1, hh, h0]) X'
  exact ⟨t2, st t2 a1, b1⟩
theorem CPv.of {vs : List Value} (hy : plainName y.cls = true) (hn : (lg_sl vs).length ≤ mL)
    (body : ∀ (p : Program) (e : Env) (s : State) (m : MethodId) (args : Array Value) (below : List Frame) (meth : Method) (c : Code) (Q : State → Prop), CallFix p m c b mL s args TB y.cls → va_K D vwCl T s →
      (∀ (pc : Nat) (ls : Array Slot), decode b pc = .ok (.return_, 1) → W p l e (RM k) s m args below meth c s.heap [] 0 0 Q (F0 m pc ls [])) →
      ∀ ls : Array Slot, lv_has ls mL (lv_args 0 vs) → W p l e (RM k) s m args below meth c s.heap [] 0 0 Q (F0 m 0 ls [])) : CPv l D T y b mL k vs := by
  refine Met.ofW (cc := b) (maxL := mL) (ret := none) hy rfl ?_
  intro p e s m args below meth c s₁ B hml hv
  obtain ⟨rfl, hP, hK⟩ := hv
  have hts := hts_TB (atoms_spec (ws := Cond.code y b mL none :: TB) B.pre)
  have hown : s.vm.findClass y.cls = some m.cls := findClass_of_methodNamed B.named
  have hlocks := B.notSynchronized
  have hl := lv_entry vs (n := mL) hn
  rw [lg_entry_eq]
  generalize (lg_sl vs ++ List.replicate (mL - (lg_sl vs).length) Slot.unset).toArray = ls at hl ⊢
  refine body p e s m _ below meth c _ ⟨B.exec, B.bytes, hml, hown, hts⟩ hK (fun pc ls hdg => ?_) ls hl
  exact W.vret B.exec B.bytes B.returns (fun t ht _ => ⟨rfl, ht⟩) (fun q hq => by cases hq) hdg
/-- a static call that writes -/
theorem callMS {ret : Option FieldType} {vs : List Value} {ws wc wc' : va_W} {r : Option Value} (G : CallFix p m c cc nL s args TB own) (K : va_K D vwCl T s) (hA : ∀ q : Nat, H0.size ≤ q → A q) (w : WW D A H0 ws H locs) (F : MS y b mL ret n) (C : CM l D T y b mL ret k vs wc r wc') (hlink : Cond.methodLink own index y ∈ TB)
    (isC isR perm : List Nat) {wr ws2 : va_W} (hC : isC.map (fun i => ws[i]?) = wc.map some) (hR : isR.map (fun i => ws[i]?) = wr.map some) (hnC : va_nd isC = true) (hnR : va_nd isR = true) (hdis : isR.all (fun i => !isC.contains i) = true) (hnp : va_nd perm = true) (hp : perm.map (fun i => (wr ++ wc')[i]?) = ws2.map some)
    (hk : k + 1 ≤ kR) (hm : mL ≤ 20) (hn : vs.length = n) (hls : ls.size = nL) (hrest : (rest.map fun v => v.category).sum ≤ 8) (hdg : decode cc pc = .ok (.invokestatic index, 3))
    (kk : ∀ (H1 : Heap) (locs1 : List Loc), WW D A H0 ws2 H1 locs1 → W p l e (RM kR) s m args below meth c H1 locs1 0 0 Q (F0 m (pc + 3) ls (r.toList ++ rest))) : W p l e (RM kR) s m args below meth c H locs 0 0 Q (F0 m pc ls (vs.reverse ++ rest)) := by
  obtain ⟨hx, hb, hml, hown, hts⟩ := G
  obtain ⟨f1, f3, f4, f5, f6, f7⟩ := F
  obtain ⟨wP, wD, wS⟩ := w
  have cw : CallB (RM kR) s args own index y b mL ret (Cond.code y b mL ret :: TB) (RM k) 0 0 n ∧ (Cond.static y).before args s = true := ⟨callB_of n hts (TB_c f4) rfl rfl rfl (hts _ f3) (hts _ hlink) ⟨f5, f6, f7⟩ ⟨hk, by show 8 + (mL + 11) + 40 * k ≤ 40 * kR; omega⟩, hts _ f1⟩
  have hF := va_free (wc := wc) wD wS hA isC hC
  have hPc : va_P D vwCl wc H := by
    intro j q hj
    have h1 : (isC.map (fun i => ws[i]?))[j]? = some (some q) := by rw [hC, List.getElem?_map, hj]; rfl
    rw [List.getElem?_map] at h1
    cases hi : isC[j]? with
    | none => rw [hi] at h1; cases h1
    | some i => rw [hi] at h1; exact wP i q (by simpa using h1)
  have hDc := wD.sub (ws' := wc) isC hnC hC
  refine after_M (va_runS (As := vs) (rest := rest) ⟨hx, hb, hml, hown, hts⟩ (C H.size) cw ⟨fun a U g mk q => ⟨q.1, q.2.1, q.2.2.1, va_K.moved (u := U) (U := U.calling g mk a) (Vm.Alike.refl U.vm) q.2.2.2.1, q.2.2.2.2⟩, fun U hU hW => ⟨rfl, by rw [hU], by rw [hU]; exact hPc, va_K.moved hW.alike K, hDc.weaken (fun _ _ _ _ => trivial)⟩⟩ rfl hn hls rfl (lv_room hrest) hdg ⟨Nat.le_refl 0, Nat.le_refl 0⟩) wS hF (fun H1 locs1 hP1 hD1 hk1 hS1 => ?_)
  obtain ⟨jP, jD⟩ := va_join (wr := wr) (w1 := wc') wP wD isC isR hC hR hnR (fun i hi hc => by
    have := List.all_eq_true.mp hdis i hi
    simp at this
    exact this hc) hk1 hF hP1 hD1
  refine kk H1 locs1 ⟨?_, jD.sub (ws' := ws2) perm hnp hp, hS1⟩
  intro j q hj
  have h1 : (perm.map (fun i => (wr ++ wc')[i]?))[j]? = some (some q) := by rw [hp, List.getElem?_map, hj]; rfl
  rw [List.getElem?_map] at h1
  cases hi : perm[j]? with
  | none => rw [hi] at h1; cases h1
  | some i => rw [hi] at h1; exact jP i q (by simpa using h1)
end MyRows5
/-- one row of ints alone -/
def wA (cI : ClassId) (x len : Nat) (f : Nat → Int32) : va_W := [(x, .inl (cI, len, .inl f))]
def wAo (cI : ClassId) (x len : Nat) (f : Nat → Option Nat) : va_W := [(x, .inl (cI, len, .inl (fun j => oI (f j))))]
def bc1 (x : Int32) : Int32 := x - ((x.toUInt32 >>> ((nI 1).toUInt32 &&& Int32.toUInt32 31)).toInt32 &&& nI 1431655765)
def bc2 (x : Int32) : Int32 := (x &&& nI 858993459) + ((x.toUInt32 >>> ((nI 2).toUInt32 &&& Int32.toUInt32 31)).toInt32 &&& nI 858993459)
def bc3 (x : Int32) : Int32 := (x + (x.toUInt32 >>> ((nI 4).toUInt32 &&& Int32.toUInt32 31)).toInt32) &&& nI 252645135
def bc4 (x : Int32) : Int32 := x + (x.toUInt32 >>> ((nI 8).toUInt32 &&& Int32.toUInt32 31)).toInt32
def bc5 (x : Int32) : Int32 := x + (x.toUInt32 >>> ((nI 16).toUInt32 &&& Int32.toUInt32 31)).toInt32
def bcR (x : Int32) : Int32 := bc5 (bc4 (bc3 (bc2 (bc1 x)))) &&& nI 63
theorem nI_and {x y : Nat} (hx : x < 2 ^ 31) (hy : y < 2 ^ 31) : nI x &&& nI y = nI (x &&& y) := by
  have h : x &&& y ≤ x := Nat.and_le_left
  rw [← Int32.toBitVec_inj]
  apply BitVec.eq_of_toNat_eq
  rw [Int32.toBitVec_and, BitVec.toNat_and, pk_tn (by omega), pk_tn (by omega), pk_tn (by omega)]
theorem bsm_g {q : Nat → Prop} {t : Nat} (h : ¬ q t) : nI (bsm q t) = nI (bsm q (t + 1)) := by simp only [bsm, cif_f h, Nat.add_zero]
theorem oth_a {ki va : Nat → Nat} {x y : Option Nat} (h : ¬ (kOr ki x ≠ 5 ↔ kOr ki y ≠ 5)) : othO ki va (nonG ki x) (nonG ki y) := by
  intro q
  apply h
  rw [kOr_5, kOr_5]
  have e := q.1
  constructor
  · intro hx hy; rw [hy] at e; exact hx (map_none.mp e)
  · intro hy hx; rw [hx] at e; exact hy (map_none.mp e.symm)
theorem oth_b {ki va : Nat → Nat} {x y : Option Nat} (h2 : ¬ kOr ki y ≠ 5) (h1 : ¬ kOr ki x ≠ 5) : ¬ othO ki va (nonG ki x) (nonG ki y) := by
  rw [kOr_5] at h1 h2
  have e1 := Classical.not_not.mp h1
  have e2 := Classical.not_not.mp h2
  rw [e1, e2]
  intro q
  exact q ⟨rfl, Or.inl rfl⟩
theorem oth_c {ki va : Nat → Nat} {x y : Option Nat} {u v : Nat} (hu : x = some u) (hv : y = some v) (h1 : kOr ki x ≠ 5) (h2 : kOr ki y ≠ 5) (hd : dif ki va u v) : othO ki va (nonG ki x) (nonG ki y) := by
  rw [nonG_s hu h1, nonG_s hv h2]
  rintro ⟨e, h⟩
  rcases h with h | h
  · cases h
  · rcases hd with d | d
    · exact d (Option.some.inj e)
    · exact d h
theorem oth_d {ki va : Nat → Nat} {x y : Option Nat} {u v : Nat} (hu : x = some u) (hv : y = some v) (h1 : kOr ki x ≠ 5) (h2 : kOr ki y ≠ 5) (hd : ¬ dif ki va u v) : ¬ othO ki va (nonG ki x) (nonG ki y) := by
  rw [nonG_s hu h1, nonG_s hv h2]
  intro q
  have k : ki u = ki v := Classical.not_not.mp fun e => hd (Or.inl e)
  have k2 : va u = va v := Classical.not_not.mp fun e => hd (Or.inr e)
  exact q ⟨by simp [k], Or.inr k2⟩
theorem ncR_le {q : Nat → Prop} {g cr : Nat → Nat} {ch z : Nat} (hc : ∀ j, cr j ≤ z) (hg : ∀ t, t < 16 → g t ≤ z) (t : Nat) (ht : t ≤ 16) : ∀ j, ncR q g cr ch t j ≤ z := by
  induction t with
  | zero => exact hc
  | succ t ih =>
    intro j
    simp only [ncR]
    by_cases h : q t
    · rw [cif_t h]; exact up_le (ih (by omega)) (hg t (by omega)) j
    · rw [cif_f h]; exact ih (by omega) j
section MyRows6
variable {p : Program} {l : Launch} {e : Env} {s : State} {m : MethodId} {args : Array Value} {below : List Frame} {meth : Method} {c : Code} {H : Heap} {locs : List Loc} {cells slots : Nat} {Q : State → Prop} {R : Room}
variable {cc : ByteArray} {pc index : Nat} {ls : Array Slot} {rest : List Value} {nL : Nat} {own : String} {D : va_G} {cI cZ cS : ClassId} {A : Nat → Prop} {H0 : Heap} {ws : va_W}
/-- System.arraycopy over rows of ints -/
theorem acp (G : CallFix p m c cc nL s args TB own) (K : va_K D vwCl (TY cI cZ cS) s) (w : WW D A H0 ws H locs) (hml : c.maxLocals = ls.size) (hlink : Cond.methodLink own index arraycopyName ∈ TB) (q0 q1 : Nat) {a0 a1 n0 n1 : Nat} {f g : Nat → Int32} (ha0 : ws[q0]? = some (a0, .inl (cI, n0, .inl f))) (ha1 : ws[q1]? = some (a1, .inl (cI, n1, .inl g))) {sp dp k : Nat} (h4 : sp + k ≤ n0) (h5 : dp + k ≤ n1) (hn : n0 < 2 ^ 31 ∧ n1 < 2 ^ 31) (hframes : 1 ≤ R.frames) (hlocals : (rest.map fun v => v.category).sum + (nativeFrameWords "java/lang/System" "arraycopy" 5 + 11) ≤ R.locals) (hdg : decode cc pc = .ok (.invokestatic index, 3)) {w2 : va_W} (hw : ws.set q1 (a1, .inl (cI, n1, .inl (va_cpy f g sp dp k))) = w2)
    (kk : ∀ (H1 : Heap) (locs1 : List Loc), WW D A H0 w2 H1 locs1 → W p l e R s m args below meth c H1 locs1 cells slots Q (F0 m (pc + 3) ls rest)) : W p l e R s m args below meth c H locs cells slots Q (F0 m pc ls (.int (nI k) :: .int (nI dp) :: .ref a1 :: .int (nI sp) :: .ref a0 :: rest)) := by
  have e1 : (nI sp).toNatClampNeg = sp := nI_clamp (by omega)
  have e2 : (nI dp).toNatClampNeg = dp := nI_clamp (by omega)
  have e3 : (nI k).toNatClampNeg = k := nI_clamp (by omega)
  refine va_copyi G.1 G.2.1 hml G.2.2.2.1 (G.2.2.2.2 _ hlink) (G.2.2.2.2 _ na_arraycopy) (G.2.2.2.2 _ st_arraycopy) (G.2.2.2.2 _ in_J10) K w.1 w.2.1 w.2.2 q0 q1 0 0 ha0 ha1 rfl rfl rfl (nI_pos (by omega)) (nI_pos (by omega)) (nI_pos (by omega)) (by rw [e1, e3]; exact h4) (by rw [e2, e3]; exact h5) (fun _ _ => rfl) hframes hlocals hdg (fun H1 locs1 hP hD hS => ?_)
  rw [e1, e2, e3] at hP hD
  exact kk H1 locs1 ⟨hw ▸ hP, hw ▸ hD, hS⟩
theorem acpO (G : CallFix p m c cc nL s args TB own) (K : va_K D vwCl (TY cI cZ cS) s) (w : WW D A H0 ws H locs) (hml : c.maxLocals = ls.size) (hlink : Cond.methodLink own index arraycopyName ∈ TB) (q0 q1 : Nat) {a0 a1 n0 n1 : Nat} {f g : Nat → Option Nat} (ha0 : ws[q0]? = some (a0, .inl (cI, n0, .inl (fun j => oI (f j))))) (ha1 : ws[q1]? = some (a1, .inl (cI, n1, .inl (fun j => oI (g j))))) {sp dp k : Nat} (h4 : sp + k ≤ n0) (h5 : dp + k ≤ n1) (hn : n0 < 2 ^ 31 ∧ n1 < 2 ^ 31) (hframes : 1 ≤ R.frames) (hlocals : (rest.map fun v => v.category).sum + (nativeFrameWords "java/lang/System" "arraycopy" 5 + 11) ≤ R.locals) (hdg : decode cc pc = .ok (.invokestatic index, 3)) {w2 : va_W} (hw : ws.set q1 (a1, .inl (cI, n1, .inl (fun j => oI (va_cpy f g sp dp k j)))) = w2)
    (kk : ∀ (H1 : Heap) (locs1 : List Loc), WW D A H0 w2 H1 locs1 → W p l e R s m args below meth c H1 locs1 cells slots Q (F0 m (pc + 3) ls rest)) : W p l e R s m args below meth c H locs cells slots Q (F0 m pc ls (.int (nI k) :: .int (nI dp) :: .ref a1 :: .int (nI sp) :: .ref a0 :: rest)) := acp G K w hml hlink q0 q1 ha0 ha1 h4 h5 hn hframes hlocals hdg (by rw [cpy_oI]; exact hw) kk
end MyRows6
theorem m_max {x y : Nat} (hx : x < 2 ^ 31) (hy : y < 2 ^ 31) : (if nI x < nI y then nI y else nI x) = nI (max x y) := by
  by_cases h : x < y
  · rw [if_pos ((nI_ltI hx hy).mpr h), Nat.max_eq_right (Nat.le_of_lt h)]
  · rw [if_neg (fun e => h ((nI_ltI hx hy).mp e)), Nat.max_eq_left (Nat.not_lt.mp h)]
