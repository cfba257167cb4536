/-! the reference's constructor, and the whole object's -/
theorem arrV_cg {cA : ClassId} {N : Nat} {f g : Nat → Value} (h : ∀ j, j < N → f j = g j) : arrV cA N f = arrV cA N g := by
  unfold arrV
  congr 2
  funext j
  exact h j.1 j.2
theorem WW_q {D : va_G} {A : Nat → Prop} {H0 : Heap} {ws w2 : va_W} {H : Heap} {locs : List Loc} (w : WW D A H0 ws H locs) (q0 : Nat) {a N : Nat} {cA : ClassId} {f : Nat → Option Nat} (g : Nat → Option Nat) (ha : ws[q0]? = some (a, .inl (cA, N, .inr (.inr (.inr (.inr f)))))) (hfg : ∀ j, j < N → f j = g j) (hw : ws.set q0 (a, .inl (cA, N, .inr (.inr (.inr (.inr g))))) = w2) : WW D A H0 w2 H locs := by
  subst hw
  refine ⟨w.1.set w.2.1 ha ?_ (fun _ _ => rfl), w.2.1.set ha, w.2.2⟩
  show H[a]? = some (vp_cell _ _)
  have h1 : H[a]? = some (vp_cell _ _) := w.1 q0 _ ha
  rw [h1, vp_cell_q, vp_cell_q, arrV_cg (fun j hj => by rw [hfg j hj])]
section MyCallsG
variable {p : Program} {l : Launch} {e : Env} {R : Room} {s : State} {m : MethodId} {args : Array Value} {below : List Frame} {meth : Method} {c : Code} {H : Heap} {locs : List Loc} {cells slots : Nat} {Q : State → Prop}
variable {pc : Nat} {ls : Array Slot} {rest : List Value} {D : va_G} {T : List (ClassId × FieldType)} {y : MethodName} {b cc : ByteArray} {mL nL n k index : Nat} {own : String} {A : Nat → Prop} {H0 : Heap}
theorem callPVg {ret : FieldType} {vs As : List Value} {b0 : Nat} {wc : va_W} {r : Value} {ci q0 : Nat} {fs : List Value} {TC : u_T} {NC : Nat} (G : CallFix p m c cc nL s args TB own) (K : va_K D vwCl T s) (F : MV y b mL (some ret) n) (C : CP l D T y b mL ret k vs wc r) (hP : va_P D vwCl wc H) (hlink : Cond.methodLink own index y ∈ TB)
    (hvs : vs = .ref b0 :: As) (hrec : wc[q0]? = some (b0, .inr (ci, fs))) (hci : vwCl[ci]? = some (y.cls, TC, NC)) (hk : k + 1 ≤ R.frames) (hk2 : 40 * k + 40 ≤ R.locals) (hm : mL ≤ 20) (hn : As.length = n) (hls : ls.size = nL) (hrest : (rest.map fun v => v.category).sum ≤ 8) (hdg : decode cc pc = .ok (.invokevirtual index, 3)) (hc9 : cells ≤ R.cells) (hs9 : slots ≤ R.slots)
    (kk : W p l e R s m args below meth c H locs cells slots Q (F0 m (pc + 3) ls (r :: rest))) : W p l e R s m args below meth c H locs cells slots Q (F0 m pc ls (As.reverse ++ .ref b0 :: rest)) := by
  subst hvs
  obtain ⟨hx, hb, hml, hown, hts⟩ := G
  obtain ⟨f1, f2, f3, f4, f5, f6, f7⟩ := F
  have cw : CallW R s args own y.cls index y b mL (some ret) (Cond.code y b mL (some ret) :: TB) (RM k) 0 0 n := ⟨callB_of n hts (TB_c f4) rfl rfl rfl (hts _ f3) (hts _ hlink) ⟨f5, f6, f7⟩ ⟨hk, by show 8 + (mL + 11) + 40 * k ≤ R.locals; omega⟩, hts _ f1, hts _ f2⟩
  refine after_P (va_runV (As := As) (rest := rest) ⟨hx, hb, hml, hown, hts⟩ C cw ⟨fun a U g mk q => ⟨q.1, Pin q.2⟩, va_recv K hP (ci := ci) hci hrec, fun U hU hW => ⟨rfl, by rw [hU]; exact hP, va_K.moved hW.alike K⟩⟩ rfl hn hls rfl (lv_room hrest) hdg ⟨hc9, hs9⟩) kk
theorem callMVg {ret : Option FieldType} {vs As : List Value} {b0 : Nat} {ws wc wc' : va_W} {r : Option Value} {ci q0 : Nat} {fs : List Value} {TC : u_T} {NC : Nat} (G : CallFix p m c cc nL s args TB own) (K : va_K D vwCl T s) (hA : ∀ q : Nat, H0.size ≤ q → A q) (w : WW D A H0 ws H locs) (F : MV y b mL ret n) (C : CM l D T y b mL ret k vs wc r wc') (hlink : Cond.methodLink own index y ∈ TB)
    (isC isR perm : List Nat) {wr ws2 : va_W} (hC : isC.map (fun i => ws[i]?) = wc.map some) (hR : isR.map (fun i => ws[i]?) = wr.map some) (hnC : va_nd isC = true) (hnR : va_nd isR = true) (hdis : isR.all (fun i => !isC.contains i) = true) (hnp : va_nd perm = true) (hp : perm.map (fun i => (wr ++ wc')[i]?) = ws2.map some)
    (hvs : vs = .ref b0 :: As) (hrec : wc[q0]? = some (b0, .inr (ci, fs))) (hci : vwCl[ci]? = some (y.cls, TC, NC)) (hk : k + 1 ≤ R.frames) (hk2 : 40 * k + 40 ≤ R.locals) (hm : mL ≤ 20) (hn : As.length = n) (hls : ls.size = nL) (hrest : (rest.map fun v => v.category).sum ≤ 8) (hdg : decode cc pc = .ok (.invokevirtual index, 3)) (hc9 : cells ≤ R.cells) (hs9 : slots ≤ R.slots)
    (kk : ∀ (H1 : Heap) (locs1 : List Loc), WW D A H0 ws2 H1 locs1 → W p l e R s m args below meth c H1 locs1 cells slots Q (F0 m (pc + 3) ls (r.toList ++ rest))) : W p l e R s m args below meth c H locs cells slots Q (F0 m pc ls (As.reverse ++ .ref b0 :: rest)) := by
  subst hvs
  obtain ⟨hx, hb, hml, hown, hts⟩ := G
  obtain ⟨f1, f2, f3, f4, f5, f6, f7⟩ := F
  obtain ⟨wP, wD, wS⟩ := w
  have cw : CallW R s args own y.cls index y b mL ret (Cond.code y b mL ret :: TB) (RM k) 0 0 n := ⟨callB_of n hts (TB_c f4) rfl rfl rfl (hts _ f3) (hts _ hlink) ⟨f5, f6, f7⟩ ⟨hk, by show 8 + (mL + 11) + 40 * k ≤ R.locals; omega⟩, hts _ f1, hts _ f2⟩
  have hF := va_free (wc := wc) wD wS hA isC hC
  have hPc : va_P D vwCl wc H := by
    intro j q hj
    have h1 : (isC.map (fun i => ws[i]?))[j]? = some (some q) := by rw [hC, List.getElem?_map, hj]; rfl
    rw [List.getElem?_map] at h1
    cases hi : isC[j]? with
    | none => rw [hi] at h1; cases h1
    | some i => rw [hi] at h1; exact wP i q (by simpa using h1)
  have hDc := wD.sub (ws' := wc) isC hnC hC
  refine after_M (va_runV (As := As) (rest := rest) ⟨hx, hb, hml, hown, hts⟩ (C H.size) cw ⟨fun a U g mk q => ⟨q.1, q.2.1, q.2.2.1, va_K.moved (u := U) (U := U.calling g mk a) (Vm.Alike.refl U.vm) q.2.2.2.1, q.2.2.2.2⟩, va_recv K hPc (ci := ci) hci hrec, fun U hU hW => ⟨rfl, by rw [hU], by rw [hU]; exact hPc, va_K.moved hW.alike K, hDc.weaken (fun _ _ _ _ => trivial)⟩⟩ rfl hn hls rfl (lv_room hrest) hdg ⟨hc9, hs9⟩) wS hF (fun H1 locs1 hP1 hD1 hk1 hS1 => ?_)
  obtain ⟨jP, jD⟩ := va_join (wr := wr) (w1 := wc') wP wD isC isR hC hR hnR (fun i hi hc => by
    have := List.all_eq_true.mp hdis i hi
    simp at this
    exact this hc) hk1 hF hP1 hD1
  exact kk H1 locs1 (WW_sub ⟨jP, jD, hS1⟩ perm hnp hp)
theorem n_as (G : CallFix p m c cc nL s args TB own) (K : va_K D vwCl T s) (hA : ∀ q : Nat, H0.size ≤ q → A q) {ws : va_W} (w : WW D A H0 ws H locs) {C : String} {cS : ClassId} (t0 : Nat) (ht : T[t0]? = some (cS, .object C)) (hcl : Cond.classLink own index C ∈ TB) (ho : va_AO C s) {n : Int32} (N : Nat) (hn : ¬ n < 0) (hN : n.toNatClampNeg = N) (hb9 : N * 4 ≤ 536870912) (hc9 : cells + 1 ≤ R.cells) (hs9 : slots + N ≤ R.slots) (hdg : decode cc pc = .ok (.anewarray index, 3))
    (kk : ∀ (q : Nat) (H1 : Heap), WW D A H0 (ws ++ [(q, .inl (cS, N, .inr (.inr (.inr (.inr (fun _ => none))))))]) H1 locs → W p l e R s m args below meth c H1 locs (cells + 1) (slots + N) Q (F0 m (pc + 3) ls (.ref q :: rest))) : W p l e R s m args below meth c H locs cells slots Q (F0 m pc ls (.int n :: rest)) := by
  refine va_newq G.1 G.2.1 G.2.2.2.1 (G.2.2.2.2 _ hcl) ho K w.1 w.2.1 w.2.2 hA hn hN hb9 hc9 hs9 hdg (fun q cA H1 hK hP hD hS => ?_)
  obtain ⟨_, _, _, _, _, h1⟩ := (hK.2 T.length (cA, .object C) (by simp)).2
  obtain ⟨_, _, _, _, _, h2⟩ := (K.2 t0 _ ht).2
  cases Option.some.inj (h1.symm.trans h2)
  exact kk q H1 ⟨hP, hD, hS⟩
theorem a_stR (G : CallFix p m c cc nL s args TB own) (K : va_K D vwCl T s) {ws : va_W} (w : WW D A H0 ws H locs) {a : Nat} (q0 t0 qk ci : Nat) {cA : ClassId} {r : vw_C} {n v : Nat} {vs : List Value} {f : Nat → Option Nat} (ha : ws[q0]? = some (a, .inl (cA, n, .inr (.inr (.inr (.inr f)))))) (ht : T[t0]? = some (cA, .object r.1)) (hv : ws[qk]? = some (v, .inr (ci, vs))) (hc : vwCl[ci]? = some r) {k : Nat} (hk : k < n) (hn : n < 2 ^ 31) (hdg : decode cc pc = .ok (.aastore, 1)) {w2 : va_W} (hw : ws.set q0 (a, .inl (cA, n, .inr (.inr (.inr (.inr (va_up f k (some v))))))) = w2)
    (kk : ∀ (H1 : Heap) (locs1 : List Loc), WW D A H0 w2 H1 locs1 → W p l e R s m args below meth c H1 locs1 cells slots Q (F0 m (pc + 1) ls rest)) : W p l e R s m args below meth c H locs cells slots Q (F0 m pc ls (.ref v :: .int (nI k) :: .ref a :: rest)) := by
  refine va_astq G.1 G.2.1 K w.1 w.2.1 w.2.2 q0 t0 qk ci ha ht hv hc (vp_in_nI hk hn) hdg (fun H1 locs1 hP hD hS => ?_)
  rw [nI_clamp (Nat.lt_trans hk hn)] at hP hD
  exact kk H1 locs1 ⟨hw ▸ hP, hw ▸ hD, hS⟩
end MyCallsG
section Ctors2
variable {l : Launch} {D : va_G} {cI cZ cS : ClassId}
set_option maxHeartbeats 4000000 in
set_option maxRecDepth 100000 in
theorem c_X6_init (h : Nat) : CN l D (TY cI cZ cS) yX6_init cX6_init 2 1 12 748 h [] [(h, .inr (6, [.null, .null, .null, .null, .int 0, .int 0, .null, .null, .null, .null, .null, .null, .null, .int 0, .int 0, .null]))] (fun _ => True) (fun q => wM cI cZ (q 0) 0 0 0 none (va_up (va_up (va_up (va_up (fun _ => 0) 0 (-1)) 1 (-1)) 2 (-1)) 3 (-1)) (fun _ => 0) (fun _ => 0) (fun _ => 0) (fun _ => 0) (fun _ => 0) (fun _ => 0) (fun _ => 0) (fun _ => False) (fun _ => 0) (fun _ => 0) (fun _ => 0)) := by
  refine CN.of (by decide +kernel) rfl (Nat.le_of_ble_eq_true rfl) ?_
  intro p e s m args below meth c Q A G hini K _ hA w hret ls hl
  obtain ⟨hx, hb, hml, hown, hts⟩ := id G
  have hl : lv_has ls 2 [(0, .ref h)] := hl
  refine lv_aload_n hx hb dX6_init_0 rfl (lv_at hl 0 rfl) ?_
  refine o_init G ml_X6_1 hl.1 dX6_init_1 (Nat.le_of_ble_eq_true rfl) (Nat.le_of_ble_eq_true rfl) ?_
  refine lv_aload_n hx hb dX6_init_4 rfl (lv_at hl 0 rfl) ?_
  refine lv_iconst (v := (nI 4)) hx hb dX6_init_5 (by decide) ?_
  refine n_ai G K hA w 0 rfl 4 (f := fun _ => 0) rfl (by decide) rfl (Nat.le_of_ble_eq_true rfl) (Nat.le_of_ble_eq_true rfl) (Nat.le_of_ble_eq_true rfl) dX6_init_6 (fun a1 Hh6 w => ?_)
  refine f_putF G K hini w inX6 tyX6 tyX6_ok nmX6 0 (ci := 6) rfl rfl 0 rfl fl_X6_7 rfl rfl rfl rfl rfl dX6_init_8 (w2 := [(h, .inr (6, [.ref a1, .null, .null, .null, .int 0, .int 0, .null, .null, .null, .null, .null, .null, .null, .int 0, .int 0, .null])), (a1, .inl (cI, 4, .inl (fun _ => 0)))]) rfl (fun Hh8 lo8 w => ?_)
  refine lv_aload_n hx hb dX6_init_11 rfl (lv_at hl 0 rfl) ?_
  refine lv_iconst (v := (nI 4)) hx hb dX6_init_12 (by decide) ?_
  refine n_ai G K hA w 0 rfl 4 (f := fun _ => nI 0) (funext fun _ => nI_0) (by decide) rfl (Nat.le_of_ble_eq_true rfl) (Nat.le_of_ble_eq_true rfl) (Nat.le_of_ble_eq_true rfl) dX6_init_13 (fun a2 Hh13 w => ?_)
  refine f_putF G K hini w inX6 tyX6 tyX6_ok nmX6 0 (ci := 6) rfl rfl 1 rfl fl_X6_13 rfl rfl rfl rfl rfl dX6_init_15 (w2 := [(h, .inr (6, [.ref a1, .ref a2, .null, .null, .int 0, .int 0, .null, .null, .null, .null, .null, .null, .null, .int 0, .int 0, .null])), (a1, .inl (cI, 4, .inl (fun _ => 0))), (a2, .inl (cI, 4, .inl (fun _ => nI 0)))]) rfl (fun Hh15 lo15 w => ?_)
  refine lv_aload_n hx hb dX6_init_18 rfl (lv_at hl 0 rfl) ?_
  refine lv_sipush (v := (nI 240)) hx hb dX6_init_19 (by decide) ?_
  refine n_ai G K hA w 0 rfl 240 (f := fun _ => 0) rfl (by decide) rfl (Nat.le_of_ble_eq_true rfl) (Nat.le_of_ble_eq_true rfl) (Nat.le_of_ble_eq_true rfl) dX6_init_22 (fun a3 Hh22 w => ?_)
  refine f_putF G K hini w inX6 tyX6 tyX6_ok nmX6 0 (ci := 6) rfl rfl 2 rfl fl_X6_16 rfl rfl rfl rfl rfl dX6_init_24 (w2 := [(h, .inr (6, [.ref a1, .ref a2, .ref a3, .null, .int 0, .int 0, .null, .null, .null, .null, .null, .null, .null, .int 0, .int 0, .null])), (a1, .inl (cI, 4, .inl (fun _ => 0))), (a2, .inl (cI, 4, .inl (fun _ => nI 0))), (a3, .inl (cI, 240, .inl (fun _ => 0)))]) rfl (fun Hh24 lo24 w => ?_)
  refine lv_aload_n hx hb dX6_init_27 rfl (lv_at hl 0 rfl) ?_
  refine lv_bipush (v := (nI 60)) hx hb dX6_init_28 (by decide) ?_
  refine n_ai G K hA w 0 rfl 60 (f := fun _ => 0) rfl (by decide) rfl (Nat.le_of_ble_eq_true rfl) (Nat.le_of_ble_eq_true rfl) (Nat.le_of_ble_eq_true rfl) dX6_init_30 (fun a4 Hh30 w => ?_)
  refine f_putF G K hini w inX6 tyX6 tyX6_ok nmX6 0 (ci := 6) rfl rfl 3 rfl fl_X6_19 rfl rfl rfl rfl rfl dX6_init_32 (w2 := [(h, .inr (6, [.ref a1, .ref a2, .ref a3, .ref a4, .int 0, .int 0, .null, .null, .null, .null, .null, .null, .null, .int 0, .int 0, .null])), (a1, .inl (cI, 4, .inl (fun _ => 0))), (a2, .inl (cI, 4, .inl (fun _ => nI 0))), (a3, .inl (cI, 240, .inl (fun _ => 0))), (a4, .inl (cI, 60, .inl (fun _ => 0)))]) rfl (fun Hh32 lo32 w => ?_)
  refine lv_aload_n hx hb dX6_init_35 rfl (lv_at hl 0 rfl) ?_
  refine lv_bipush (v := (nI 40)) hx hb dX6_init_36 (by decide) ?_
  refine n_ai G K hA w 0 rfl 40 (f := fun _ => nI 0) (funext fun _ => nI_0) (by decide) rfl (Nat.le_of_ble_eq_true rfl) (Nat.le_of_ble_eq_true rfl) (Nat.le_of_ble_eq_true rfl) dX6_init_38 (fun a5 Hh38 w => ?_)
  refine f_putF G K hini w inX6 tyX6 tyX6_ok nmX6 0 (ci := 6) rfl rfl 6 rfl fl_X6_22 rfl rfl rfl rfl rfl dX6_init_40 (w2 := [(h, .inr (6, [.ref a1, .ref a2, .ref a3, .ref a4, .int 0, .int 0, .ref a5, .null, .null, .null, .null, .null, .null, .int 0, .int 0, .null])), (a1, .inl (cI, 4, .inl (fun _ => 0))), (a2, .inl (cI, 4, .inl (fun _ => nI 0))), (a3, .inl (cI, 240, .inl (fun _ => 0))), (a4, .inl (cI, 60, .inl (fun _ => 0))), (a5, .inl (cI, 40, .inl (fun _ => nI 0)))]) rfl (fun Hh40 lo40 w => ?_)
  refine lv_aload_n hx hb dX6_init_43 rfl (lv_at hl 0 rfl) ?_
  refine lv_bipush (v := (nI 40)) hx hb dX6_init_44 (by decide) ?_
  refine n_ai G K hA w 0 rfl 40 (f := fun _ => nI 0) (funext fun _ => nI_0) (by decide) rfl (Nat.le_of_ble_eq_true rfl) (Nat.le_of_ble_eq_true rfl) (Nat.le_of_ble_eq_true rfl) dX6_init_46 (fun a6 Hh46 w => ?_)
  refine f_putF G K hini w inX6 tyX6 tyX6_ok nmX6 0 (ci := 6) rfl rfl 7 rfl fl_X6_25 rfl rfl rfl rfl rfl dX6_init_48 (w2 := [(h, .inr (6, [.ref a1, .ref a2, .ref a3, .ref a4, .int 0, .int 0, .ref a5, .ref a6, .null, .null, .null, .null, .null, .int 0, .int 0, .null])), (a1, .inl (cI, 4, .inl (fun _ => 0))), (a2, .inl (cI, 4, .inl (fun _ => nI 0))), (a3, .inl (cI, 240, .inl (fun _ => 0))), (a4, .inl (cI, 60, .inl (fun _ => 0))), (a5, .inl (cI, 40, .inl (fun _ => nI 0))), (a6, .inl (cI, 40, .inl (fun _ => nI 0)))]) rfl (fun Hh48 lo48 w => ?_)
  refine lv_aload_n hx hb dX6_init_51 rfl (lv_at hl 0 rfl) ?_
  refine lv_bipush (v := (nI 40)) hx hb dX6_init_52 (by decide) ?_
  refine n_ai G K hA w 0 rfl 40 (f := fun _ => nI 0) (funext fun _ => nI_0) (by decide) rfl (Nat.le_of_ble_eq_true rfl) (Nat.le_of_ble_eq_true rfl) (Nat.le_of_ble_eq_true rfl) dX6_init_54 (fun a7 Hh54 w => ?_)
  refine f_putF G K hini w inX6 tyX6 tyX6_ok nmX6 0 (ci := 6) rfl rfl 8 rfl fl_X6_28 rfl rfl rfl rfl rfl dX6_init_56 (w2 := [(h, .inr (6, [.ref a1, .ref a2, .ref a3, .ref a4, .int 0, .int 0, .ref a5, .ref a6, .ref a7, .null, .null, .null, .null, .int 0, .int 0, .null])), (a1, .inl (cI, 4, .inl (fun _ => 0))), (a2, .inl (cI, 4, .inl (fun _ => nI 0))), (a3, .inl (cI, 240, .inl (fun _ => 0))), (a4, .inl (cI, 60, .inl (fun _ => 0))), (a5, .inl (cI, 40, .inl (fun _ => nI 0))), (a6, .inl (cI, 40, .inl (fun _ => nI 0))), (a7, .inl (cI, 40, .inl (fun _ => nI 0)))]) rfl (fun Hh56 lo56 w => ?_)
  refine lv_aload_n hx hb dX6_init_59 rfl (lv_at hl 0 rfl) ?_
  refine lv_bipush (v := (nI 40)) hx hb dX6_init_60 (by decide) ?_
  refine n_ai G K hA w 0 rfl 40 (f := fun _ => nI 0) (funext fun _ => nI_0) (by decide) rfl (Nat.le_of_ble_eq_true rfl) (Nat.le_of_ble_eq_true rfl) (Nat.le_of_ble_eq_true rfl) dX6_init_62 (fun a8 Hh62 w => ?_)
  refine f_putF G K hini w inX6 tyX6 tyX6_ok nmX6 0 (ci := 6) rfl rfl 9 rfl fl_X6_31 rfl rfl rfl rfl rfl dX6_init_64 (w2 := [(h, .inr (6, [.ref a1, .ref a2, .ref a3, .ref a4, .int 0, .int 0, .ref a5, .ref a6, .ref a7, .ref a8, .null, .null, .null, .int 0, .int 0, .null])), (a1, .inl (cI, 4, .inl (fun _ => 0))), (a2, .inl (cI, 4, .inl (fun _ => nI 0))), (a3, .inl (cI, 240, .inl (fun _ => 0))), (a4, .inl (cI, 60, .inl (fun _ => 0))), (a5, .inl (cI, 40, .inl (fun _ => nI 0))), (a6, .inl (cI, 40, .inl (fun _ => nI 0))), (a7, .inl (cI, 40, .inl (fun _ => nI 0))), (a8, .inl (cI, 40, .inl (fun _ => nI 0)))]) rfl (fun Hh64 lo64 w => ?_)
  refine lv_aload_n hx hb dX6_init_67 rfl (lv_at hl 0 rfl) ?_
  refine lv_bipush (v := (nI 40)) hx hb dX6_init_68 (by decide) ?_
  refine n_az G K hA w 1 rfl 40 (f := fun _ => bI False) (funext fun _ => bI_f id) (by decide) rfl (Nat.le_of_ble_eq_true rfl) (Nat.le_of_ble_eq_true rfl) (Nat.le_of_ble_eq_true rfl) dX6_init_70 (fun a9 Hh70 w => ?_)
  refine f_putF G K hini w inX6 tyX6 tyX6_ok nmX6 0 (ci := 6) rfl rfl 10 rfl fl_X6_34 rfl rfl rfl rfl rfl dX6_init_72 (w2 := [(h, .inr (6, [.ref a1, .ref a2, .ref a3, .ref a4, .int 0, .int 0, .ref a5, .ref a6, .ref a7, .ref a8, .ref a9, .null, .null, .int 0, .int 0, .null])), (a1, .inl (cI, 4, .inl (fun _ => 0))), (a2, .inl (cI, 4, .inl (fun _ => nI 0))), (a3, .inl (cI, 240, .inl (fun _ => 0))), (a4, .inl (cI, 60, .inl (fun _ => 0))), (a5, .inl (cI, 40, .inl (fun _ => nI 0))), (a6, .inl (cI, 40, .inl (fun _ => nI 0))), (a7, .inl (cI, 40, .inl (fun _ => nI 0))), (a8, .inl (cI, 40, .inl (fun _ => nI 0))), (a9, .inl (cZ, 40, .inl (fun _ => bI False)))]) rfl (fun Hh72 lo72 w => ?_)
  refine lv_aload_n hx hb dX6_init_75 rfl (lv_at hl 0 rfl) ?_
  refine lv_sipush (v := (nI 160)) hx hb dX6_init_76 (by decide) ?_
  refine n_ai G K hA w 0 rfl 160 (f := fun _ => nI 0) (funext fun _ => nI_0) (by decide) rfl (Nat.le_of_ble_eq_true rfl) (Nat.le_of_ble_eq_true rfl) (Nat.le_of_ble_eq_true rfl) dX6_init_79 (fun a10 Hh79 w => ?_)
  refine f_putF G K hini w inX6 tyX6 tyX6_ok nmX6 0 (ci := 6) rfl rfl 11 rfl fl_X6_38 rfl rfl rfl rfl rfl dX6_init_81 (w2 := [(h, .inr (6, [.ref a1, .ref a2, .ref a3, .ref a4, .int 0, .int 0, .ref a5, .ref a6, .ref a7, .ref a8, .ref a9, .ref a10, .null, .int 0, .int 0, .null])), (a1, .inl (cI, 4, .inl (fun _ => 0))), (a2, .inl (cI, 4, .inl (fun _ => nI 0))), (a3, .inl (cI, 240, .inl (fun _ => 0))), (a4, .inl (cI, 60, .inl (fun _ => 0))), (a5, .inl (cI, 40, .inl (fun _ => nI 0))), (a6, .inl (cI, 40, .inl (fun _ => nI 0))), (a7, .inl (cI, 40, .inl (fun _ => nI 0))), (a8, .inl (cI, 40, .inl (fun _ => nI 0))), (a9, .inl (cZ, 40, .inl (fun _ => bI False))), (a10, .inl (cI, 160, .inl (fun _ => nI 0)))]) rfl (fun Hh81 lo81 w => ?_)
  refine lv_aload_n hx hb dX6_init_84 rfl (lv_at hl 0 rfl) ?_
  refine lv_bipush (v := (nI 40)) hx hb dX6_init_85 (by decide) ?_
  refine n_ai G K hA w 0 rfl 40 (f := fun _ => 0) rfl (by decide) rfl (Nat.le_of_ble_eq_true rfl) (Nat.le_of_ble_eq_true rfl) (Nat.le_of_ble_eq_true rfl) dX6_init_87 (fun a11 Hh87 w => ?_)
  refine f_putF G K hini w inX6 tyX6 tyX6_ok nmX6 0 (ci := 6) rfl rfl 12 rfl fl_X6_41 rfl rfl rfl rfl rfl dX6_init_89 (w2 := [(h, .inr (6, [.ref a1, .ref a2, .ref a3, .ref a4, .int 0, .int 0, .ref a5, .ref a6, .ref a7, .ref a8, .ref a9, .ref a10, .ref a11, .int 0, .int 0, .null])), (a1, .inl (cI, 4, .inl (fun _ => 0))), (a2, .inl (cI, 4, .inl (fun _ => nI 0))), (a3, .inl (cI, 240, .inl (fun _ => 0))), (a4, .inl (cI, 60, .inl (fun _ => 0))), (a5, .inl (cI, 40, .inl (fun _ => nI 0))), (a6, .inl (cI, 40, .inl (fun _ => nI 0))), (a7, .inl (cI, 40, .inl (fun _ => nI 0))), (a8, .inl (cI, 40, .inl (fun _ => nI 0))), (a9, .inl (cZ, 40, .inl (fun _ => bI False))), (a10, .inl (cI, 160, .inl (fun _ => nI 0))), (a11, .inl (cI, 40, .inl (fun _ => 0)))]) rfl (fun Hh89 lo89 w => ?_)
  refine lv_aload_n hx hb dX6_init_92 rfl (lv_at hl 0 rfl) ?_
  refine lv_iconst (v := (-1)) hx hb dX6_init_93 (by decide) ?_
  refine f_put G K w inX6 tyX6 tyX6_ok nmX6 0 (ci := 6) rfl rfl 14 rfl fl_X6_44 rfl rfl rfl rfl dX6_init_94 (w2 := [(h, .inr (6, [.ref a1, .ref a2, .ref a3, .ref a4, .int 0, .int 0, .ref a5, .ref a6, .ref a7, .ref a8, .ref a9, .ref a10, .ref a11, .int 0, .int (-1), .null])), (a1, .inl (cI, 4, .inl (fun _ => 0))), (a2, .inl (cI, 4, .inl (fun _ => nI 0))), (a3, .inl (cI, 240, .inl (fun _ => 0))), (a4, .inl (cI, 60, .inl (fun _ => 0))), (a5, .inl (cI, 40, .inl (fun _ => nI 0))), (a6, .inl (cI, 40, .inl (fun _ => nI 0))), (a7, .inl (cI, 40, .inl (fun _ => nI 0))), (a8, .inl (cI, 40, .inl (fun _ => nI 0))), (a9, .inl (cZ, 40, .inl (fun _ => bI False))), (a10, .inl (cI, 160, .inl (fun _ => nI 0))), (a11, .inl (cI, 40, .inl (fun _ => 0)))]) rfl (fun Hh94 lo94 w => ?_)
  refine lv_aload_n hx hb dX6_init_97 rfl (lv_at hl 0 rfl) ?_
  refine lv_bipush (v := (nI 40)) hx hb dX6_init_98 (by decide) ?_
  refine n_ai G K hA w 0 rfl 40 (f := fun _ => nI 0) (funext fun _ => nI_0) (by decide) rfl (Nat.le_of_ble_eq_true rfl) (Nat.le_of_ble_eq_true rfl) (Nat.le_of_ble_eq_true rfl) dX6_init_100 (fun a12 Hh100 w => ?_)
  refine f_putF G K hini w inX6 tyX6 tyX6_ok nmX6 0 (ci := 6) rfl rfl 15 rfl fl_X6_48 rfl rfl rfl rfl rfl dX6_init_102 (w2 := [(h, .inr (6, [.ref a1, .ref a2, .ref a3, .ref a4, .int 0, .int 0, .ref a5, .ref a6, .ref a7, .ref a8, .ref a9, .ref a10, .ref a11, .int 0, .int (-1), .ref a12])), (a1, .inl (cI, 4, .inl (fun _ => 0))), (a2, .inl (cI, 4, .inl (fun _ => nI 0))), (a3, .inl (cI, 240, .inl (fun _ => 0))), (a4, .inl (cI, 60, .inl (fun _ => 0))), (a5, .inl (cI, 40, .inl (fun _ => nI 0))), (a6, .inl (cI, 40, .inl (fun _ => nI 0))), (a7, .inl (cI, 40, .inl (fun _ => nI 0))), (a8, .inl (cI, 40, .inl (fun _ => nI 0))), (a9, .inl (cZ, 40, .inl (fun _ => bI False))), (a10, .inl (cI, 160, .inl (fun _ => nI 0))), (a11, .inl (cI, 40, .inl (fun _ => 0))), (a12, .inl (cI, 40, .inl (fun _ => nI 0)))]) rfl (fun Hh102 lo102 w => ?_)
  refine lv_iconst (v := (nI 0)) hx hb dX6_init_105 (by decide) ?_
  refine lv_istore_n (lv' := [(1, .int (nI 0)), (0, .ref h)]) hx hb dX6_init_106 rfl hl (by decide) rfl (fun ls hl => ?_)
  refine lv_iload_n hx hb dX6_init_107 rfl (lv_at hl 0 rfl) ?_
  refine lv_iconst (v := (nI 4)) hx hb dX6_init_108 (by decide) ?_
  refine lv_icmp_ge (tgt := 125) hx hb dX6_init_109 (by decide) (fun cc => ?_) (fun cc => ?_)
  · exact absurd cc (by decide)
  refine lv_aload_n hx hb dX6_init_112 rfl (lv_at hl 1 rfl) ?_
  refine f_get G K w.1 inX6 0 (ci := 6) rfl rfl 0 rfl fl_X6_7 (v := .ref a1) rfl dX6_init_113 ?_
  refine lv_iload_n hx hb dX6_init_116 rfl (lv_at hl 0 rfl) ?_
  refine lv_iconst (v := (-1)) hx hb dX6_init_117 (by decide) ?_
  refine a_st G K w 1 0 (a := a1) rfl rfl (k := 0) (by decide) (by decide) dX6_init_118 (w2 := [(h, .inr (6, [.ref a1, .ref a2, .ref a3, .ref a4, .int 0, .int 0, .ref a5, .ref a6, .ref a7, .ref a8, .ref a9, .ref a10, .ref a11, .int 0, .int (-1), .ref a12])), (a1, .inl (cI, 4, .inl (va_up (fun _ => 0) 0 (-1)))), (a2, .inl (cI, 4, .inl (fun _ => nI 0))), (a3, .inl (cI, 240, .inl (fun _ => 0))), (a4, .inl (cI, 60, .inl (fun _ => 0))), (a5, .inl (cI, 40, .inl (fun _ => nI 0))), (a6, .inl (cI, 40, .inl (fun _ => nI 0))), (a7, .inl (cI, 40, .inl (fun _ => nI 0))), (a8, .inl (cI, 40, .inl (fun _ => nI 0))), (a9, .inl (cZ, 40, .inl (fun _ => bI False))), (a10, .inl (cI, 160, .inl (fun _ => nI 0))), (a11, .inl (cI, 40, .inl (fun _ => 0))), (a12, .inl (cI, 40, .inl (fun _ => nI 0)))]) rfl (fun Hs0 los0 w => ?_)
  refine lv_iinc (v := nI 1) (lv' := [(1, .int (nI 1)), (0, .ref h)]) hx hb dX6_init_119 hl (k := 0) rfl (nI_inc _ _) (by decide) rfl (fun ls hl => ?_)
  refine lv_goto (tgt := 107) hx hb dX6_init_122 (by decide) ?_
  refine lv_iload_n hx hb dX6_init_107 rfl (lv_at hl 0 rfl) ?_
  refine lv_iconst (v := (nI 4)) hx hb dX6_init_108 (by decide) ?_
  refine lv_icmp_ge (tgt := 125) hx hb dX6_init_109 (by decide) (fun cc => ?_) (fun cc => ?_)
  · exact absurd cc (by decide)
  refine lv_aload_n hx hb dX6_init_112 rfl (lv_at hl 1 rfl) ?_
  refine f_get G K w.1 inX6 0 (ci := 6) rfl rfl 0 rfl fl_X6_7 (v := .ref a1) rfl dX6_init_113 ?_
  refine lv_iload_n hx hb dX6_init_116 rfl (lv_at hl 0 rfl) ?_
  refine lv_iconst (v := (-1)) hx hb dX6_init_117 (by decide) ?_
  refine a_st G K w 1 0 (a := a1) rfl rfl (k := 1) (by decide) (by decide) dX6_init_118 (w2 := [(h, .inr (6, [.ref a1, .ref a2, .ref a3, .ref a4, .int 0, .int 0, .ref a5, .ref a6, .ref a7, .ref a8, .ref a9, .ref a10, .ref a11, .int 0, .int (-1), .ref a12])), (a1, .inl (cI, 4, .inl (va_up (va_up (fun _ => 0) 0 (-1)) 1 (-1)))), (a2, .inl (cI, 4, .inl (fun _ => nI 0))), (a3, .inl (cI, 240, .inl (fun _ => 0))), (a4, .inl (cI, 60, .inl (fun _ => 0))), (a5, .inl (cI, 40, .inl (fun _ => nI 0))), (a6, .inl (cI, 40, .inl (fun _ => nI 0))), (a7, .inl (cI, 40, .inl (fun _ => nI 0))), (a8, .inl (cI, 40, .inl (fun _ => nI 0))), (a9, .inl (cZ, 40, .inl (fun _ => bI False))), (a10, .inl (cI, 160, .inl (fun _ => nI 0))), (a11, .inl (cI, 40, .inl (fun _ => 0))), (a12, .inl (cI, 40, .inl (fun _ => nI 0)))]) rfl (fun Hs1 los1 w => ?_)
  refine lv_iinc (v := nI 2) (lv' := [(1, .int (nI 2)), (0, .ref h)]) hx hb dX6_init_119 hl (k := 0) rfl (nI_inc _ _) (by decide) rfl (fun ls hl => ?_)
  refine lv_goto (tgt := 107) hx hb dX6_init_122 (by decide) ?_
  refine lv_iload_n hx hb dX6_init_107 rfl (lv_at hl 0 rfl) ?_
  refine lv_iconst (v := (nI 4)) hx hb dX6_init_108 (by decide) ?_
  refine lv_icmp_ge (tgt := 125) hx hb dX6_init_109 (by decide) (fun cc => ?_) (fun cc => ?_)
  · exact absurd cc (by decide)
  refine lv_aload_n hx hb dX6_init_112 rfl (lv_at hl 1 rfl) ?_
  refine f_get G K w.1 inX6 0 (ci := 6) rfl rfl 0 rfl fl_X6_7 (v := .ref a1) rfl dX6_init_113 ?_
  refine lv_iload_n hx hb dX6_init_116 rfl (lv_at hl 0 rfl) ?_
  refine lv_iconst (v := (-1)) hx hb dX6_init_117 (by decide) ?_
  refine a_st G K w 1 0 (a := a1) rfl rfl (k := 2) (by decide) (by decide) dX6_init_118 (w2 := [(h, .inr (6, [.ref a1, .ref a2, .ref a3, .ref a4, .int 0, .int 0, .ref a5, .ref a6, .ref a7, .ref a8, .ref a9, .ref a10, .ref a11, .int 0, .int (-1), .ref a12])), (a1, .inl (cI, 4, .inl (va_up (va_up (va_up (fun _ => 0) 0 (-1)) 1 (-1)) 2 (-1)))), (a2, .inl (cI, 4, .inl (fun _ => nI 0))), (a3, .inl (cI, 240, .inl (fun _ => 0))), (a4, .inl (cI, 60, .inl (fun _ => 0))), (a5, .inl (cI, 40, .inl (fun _ => nI 0))), (a6, .inl (cI, 40, .inl (fun _ => nI 0))), (a7, .inl (cI, 40, .inl (fun _ => nI 0))), (a8, .inl (cI, 40, .inl (fun _ => nI 0))), (a9, .inl (cZ, 40, .inl (fun _ => bI False))), (a10, .inl (cI, 160, .inl (fun _ => nI 0))), (a11, .inl (cI, 40, .inl (fun _ => 0))), (a12, .inl (cI, 40, .inl (fun _ => nI 0)))]) rfl (fun Hs2 los2 w => ?_)
  refine lv_iinc (v := nI 3) (lv' := [(1, .int (nI 3)), (0, .ref h)]) hx hb dX6_init_119 hl (k := 0) rfl (nI_inc _ _) (by decide) rfl (fun ls hl => ?_)
  refine lv_goto (tgt := 107) hx hb dX6_init_122 (by decide) ?_
  refine lv_iload_n hx hb dX6_init_107 rfl (lv_at hl 0 rfl) ?_
  refine lv_iconst (v := (nI 4)) hx hb dX6_init_108 (by decide) ?_
  refine lv_icmp_ge (tgt := 125) hx hb dX6_init_109 (by decide) (fun cc => ?_) (fun cc => ?_)
  · exact absurd cc (by decide)
  refine lv_aload_n hx hb dX6_init_112 rfl (lv_at hl 1 rfl) ?_
  refine f_get G K w.1 inX6 0 (ci := 6) rfl rfl 0 rfl fl_X6_7 (v := .ref a1) rfl dX6_init_113 ?_
  refine lv_iload_n hx hb dX6_init_116 rfl (lv_at hl 0 rfl) ?_
  refine lv_iconst (v := (-1)) hx hb dX6_init_117 (by decide) ?_
  refine a_st G K w 1 0 (a := a1) rfl rfl (k := 3) (by decide) (by decide) dX6_init_118 (w2 := [(h, .inr (6, [.ref a1, .ref a2, .ref a3, .ref a4, .int 0, .int 0, .ref a5, .ref a6, .ref a7, .ref a8, .ref a9, .ref a10, .ref a11, .int 0, .int (-1), .ref a12])), (a1, .inl (cI, 4, .inl (va_up (va_up (va_up (va_up (fun _ => 0) 0 (-1)) 1 (-1)) 2 (-1)) 3 (-1)))), (a2, .inl (cI, 4, .inl (fun _ => nI 0))), (a3, .inl (cI, 240, .inl (fun _ => 0))), (a4, .inl (cI, 60, .inl (fun _ => 0))), (a5, .inl (cI, 40, .inl (fun _ => nI 0))), (a6, .inl (cI, 40, .inl (fun _ => nI 0))), (a7, .inl (cI, 40, .inl (fun _ => nI 0))), (a8, .inl (cI, 40, .inl (fun _ => nI 0))), (a9, .inl (cZ, 40, .inl (fun _ => bI False))), (a10, .inl (cI, 160, .inl (fun _ => nI 0))), (a11, .inl (cI, 40, .inl (fun _ => 0))), (a12, .inl (cI, 40, .inl (fun _ => nI 0)))]) rfl (fun Hs3 los3 w => ?_)
  refine lv_iinc (v := nI 4) (lv' := [(1, .int (nI 4)), (0, .ref h)]) hx hb dX6_init_119 hl (k := 0) rfl (nI_inc _ _) (by decide) rfl (fun ls hl => ?_)
  refine lv_goto (tgt := 107) hx hb dX6_init_122 (by decide) ?_
  refine lv_iload_n hx hb dX6_init_107 rfl (lv_at hl 0 rfl) ?_
  refine lv_iconst (v := (nI 4)) hx hb dX6_init_108 (by decide) ?_
  refine lv_icmp_ge (tgt := 125) hx hb dX6_init_109 (by decide) (fun cc => ?_) (fun cc => ?_)
  rotate_left
  · exact absurd (by decide) cc
  have w9 := WW_sub w [0, 1, 2, 3, 4, 5, 6, 7, 8, 9, 10, 11, 12] (by decide) (ws2 := wM cI cZ ((fun _ k => [h, a1, a2, a3, a4, a5, a6, a7, a8, a9, a10, a11, a12].getD k 0) 0) 0 0 0 none (va_up (va_up (va_up (va_up (fun _ => 0) 0 (-1)) 1 (-1)) 2 (-1)) 3 (-1)) (fun _ => 0) (fun _ => 0) (fun _ => 0) (fun _ => 0) (fun _ => 0) (fun _ => 0) (fun _ => 0) (fun _ => False) (fun _ => 0) (fun _ => 0) (fun _ => 0)) rfl
  exact hret _ _ (fun _ k => [h, a1, a2, a3, a4, a5, a6, a7, a8, a9, a10, a11, a12].getD k 0) _ _ _ rfl rfl w9 dX6_init_125
end Ctors2
