/-! the law, from its entry -/
theorem arr_K {s : State} {args : Array Value} {ty : FieldType} (h : (Cond.arrayClass ty).before args s = true) (hty : ∀ C, ty ≠ .object C) : ∃ cA : ClassId, ArrOfT s cA ty ∧ va_RA s cA ty := by
  obtain ⟨cA, kA, comp, h1, h2, h3⟩ := Cond.arrayClass_spec h
  refine ⟨cA, fun n z => ⟨fun k q => (by cases q), kA, h2, comp, h3⟩, ?_⟩
  cases ty with
  | object C => exact absurd rfl (hty C)
  | _ => exact h1
theorem arr_KS {s : State} {args : Array Value} {C : String} (h : (Cond.arrayOver (.object C)).before args s = true) : ∃ cA : ClassId, ArrOfT s cA (.object C) ∧ va_RA s cA (.object C) := by
  obtain ⟨comp, cA, kA, h1, -, h2, h3, h4⟩ := Cond.arrayOver_spec h
  exact ⟨cA, fun n z => ⟨fun k q => (by cases q), kA, h2, comp, h3⟩, kA, comp, h2, h3, h1, h4⟩
theorem Inv_0 : Inv (S9mk 0 0 0 (fun _ => 0) (fun _ => 0) (fun _ => 0) (fun _ => 0) (fun _ => False) (fun _ => 0) (fun _ => 0) (fun _ => 0) (fun _ => 0) 0 (fun _ => 0) (fun _ => 0) (cLT (fun _ => 0) (fun _ => 0) none 0 (fun _ => some 0) (0 + 1)) (cTR (fun _ => 0) (fun _ => 0) (fun _ => 0) none 0 (fun _ => 0) (0 + 1)) (cSH (fun _ => 0) (fun _ => 0) (fun _ => 0) (fun _ => 0) none 0 (fun _ => 0) (0 + 1)) (cCR (fun _ => 0) (fun _ => 0) (fun _ => 0) (fun _ => 0) none 0 (fun _ => 0) (0 + 1)) (cCT (fun _ => 0) (fun _ => 0) (fun _ => 0) (fun _ => 0) none 0 (fun _ => 0) (0 + 1)) (cCU (fun _ => 0) (fun _ => 0) (fun _ => 0) (fun _ => 0) none 0 (fun _ => 0) (0 + 1)) (cVE (fun _ => 0) (fun _ => 0) (fun _ => 0) (fun _ => 0) none 0 0 (fun _ => 0) 0) (cTA (fun _ => 0) (fun _ => 0) (fun _ => 0) (fun _ => 0) none 0 0 (fun _ => 0) 0) (cCH (fun _ => 0) (fun _ => 0) (fun _ => 0) (fun _ => 0) none 0 (0 + 1)) (fun _ => some 0) (fun _ => 0) (fun _ => 0) (fun _ => 0) (fun _ => 0) (fun _ => 0) (fun _ => 0) (fun _ => 0) 0 (fun _ => True) (fun _ => 0) (fun _ => 0) (fun _ _ => 0) (va_up (va_up (va_up (va_up (fun _ => 0) 0 (-1)) 1 (-1)) 2 (-1)) 3 (-1)) (fun _ => 0) (fun _ => 0) (fun _ => 0)) := by
  have z0 : ∀ j : Nat, (fun _ => 0 : Nat → Nat) j ≤ 0 := fun _ => Nat.le_refl 0
  have hB : SKb (fun _ => 0) (fun _ => 0) (fun _ => 0) (fun _ => 0) 0 0 (fun _ => 0) 0 := ⟨rfl, fun i hi => absurd hi (by omega)⟩
  refine Inv_mk ⟨by decide, by decide, (fun w q => by cases q), fun _ => Nat.zero_le _, fun _ => Nat.zero_le _, fun _ => Nat.zero_le _, fun _ => Nat.zero_le _, fun _ => Nat.zero_le _, fun _ => Nat.zero_le _, fun _ => Nat.zero_le _⟩ IW_0 SW_0 ⟨fun _ => Nat.zero_le _, by decide⟩ ⟨fun _ => Nat.zero_le _, fun _ => Nat.zero_le _⟩ (IHd_c IHd_0 (by decide) (by decide) (by decide)) IHd_0 ⟨fun _ => Nat.zero_le _, fun _ => Nat.zero_le _⟩ hB (fun v hv => absurd hv (Nat.not_lt_zero v)) (fun v hv => absurd hv (Nat.not_lt_zero v)) HOK_c ?_
  intro s hs
  refine Or.inl ⟨trivial, ?_⟩
  obtain rfl | rfl | rfl | rfl : s = 0 ∨ s = 1 ∨ s = 2 ∨ s = 3 := by omega
  · decide
  · decide
  · decide
  · decide
theorem lw_end {p : Program} {l : Launch} {e : Env} {s : State} {m : MethodId} {below : List Frame} {meth : Method} {c : Code} {b : Nat} {H : Heap} {locs : List Loc} {ls : Array Slot} (hx : p.tables.exec = Jvm.exec) (hb : c.code = code) (hr : meth.sig.returnType = ret) (hlocks : meth.locks = false) (hS : va_S (LA s) s.heap H locs) : W p l e room_1 s m #[Value.ref b] below meth c H locs 55 2619 (lw_Z below #[Value.ref b] s) (F0 m 1088 ls []) := by
  refine lv_iconst (v := 1) hx hb dL_law_1088 (by decide) ?_
  refine va_forget hS.2.2 ?_
  exact W.widen (k := 600000) (n := 7302250) (Nat.le_of_ble_eq_true rfl) (Nat.le_of_ble_eq_true rfl) (lw_ret hx hb hr hlocks dL_law_1089)
set_option maxHeartbeats 4000000 in
theorem whole_start {p : Program} {e : Env} {s : State} {m : MethodId} {below : List Frame} {meth : Method} {c : Code} (l : Launch) (hflags : l.flags = flags0) {b L : Nat} {xs : Nat → Int32} (hL : L ≤ 3072) (C0 : lw_At p s m meth c b L xs) : W p l e room_1 s m #[Value.ref b] below meth c s.heap [] 0 0 (lw_Z below #[Value.ref b] s) (entryFrame m ([Value.ref b] : List Value).toArray 4) := by
  obtain ⟨hx, hb, hr, hml, hown, hts, hX, hbl, hlocks, hgv⟩ := id C0
  have htb : ∀ w ∈ TB, w.before #[Value.ref b] s = true := fun w hw => hts w (TB_in w hw)
  have G : CallFix p m c cL_law 4 s #[Value.ref b] TB RL := ⟨hx, hb, hml, hown, htb⟩
  obtain ⟨c0, i0, hK0⟩ := u_known (C := RX0) (T := TX0) (N := 2) (n := 2) htb inX0 (htb _ is_X0)
  obtain ⟨c1, i1, hK1⟩ := u_known (C := RX1) (T := TX1) (N := 7) (n := 7) htb inX1 (htb _ is_X1)
  obtain ⟨c2, i2, hK2⟩ := u_known (C := RX2) (T := TX2) (N := 10) (n := 10) htb inX2 (htb _ is_X2)
  obtain ⟨c3, i3, hK3⟩ := u_known (C := RX3) (T := TX3) (N := 4) (n := 4) htb inX3 (htb _ is_X3)
  obtain ⟨c4, i4, hK4⟩ := u_known (C := RX4) (T := TX4) (N := 7) (n := 7) htb inX4 (htb _ is_X4)
  obtain ⟨c5, i5, hK5⟩ := u_known (C := RX5) (T := TX5) (N := 7) (n := 7) htb inX5 (htb _ is_X5)
  obtain ⟨c6, i6, hK6⟩ := u_known (C := RX6) (T := TX6) (N := 16) (n := 16) htb inX6 (htb _ is_X6)
  obtain ⟨dC, dI, hKc⟩ : ∃ (dC : Nat → ClassId) (dI : Nat → Nat → Nat), ∀ (k : Nat) (q : vw_C), vwCl[k]? = some q → u_Kn s q.1 q.2.1 q.2.2 (dC k) (dI k) := by
    refine ⟨fun k => if k = 0 then c0 else if k = 1 then c1 else if k = 2 then c2 else if k = 3 then c3 else if k = 4 then c4 else if k = 5 then c5 else c6, fun k => if k = 0 then i0 else if k = 1 then i1 else if k = 2 then i2 else if k = 3 then i3 else if k = 4 then i4 else if k = 5 then i5 else i6, ?_⟩
    intro k q hq
    match k, hq with
    | 0, hq => cases hq; exact hK0
    | 1, hq => cases hq; exact hK1
    | 2, hq => cases hq; exact hK2
    | 3, hq => cases hq; exact hK3
    | 4, hq => cases hq; exact hK4
    | 5, hq => cases hq; exact hK5
    | 6, hq => cases hq; exact hK6
    | k + 7, hq => simp [vwCl] at hq
  obtain ⟨cI, hI1, hI2⟩ := arr_K (htb _ ac_62) (fun C q => by cases q)
  obtain ⟨cZ, hZ1, hZ2⟩ := arr_K (htb _ ac_109) (fun C q => by cases q)
  have hover : (Cond.arrayOver (.object "SealedFile$Sheet")).before #[Value.ref b] s = true := hts _ (List.mem_append_right _ (List.mem_of_getElem? (i := 156) (by decide +kernel)))
  obtain ⟨cS, hS1, hS2⟩ := arr_KS hover
  have K : va_K (dC, dI) vwCl (TY cI cZ cS) s := ⟨hKc, fun k q hq => by
    match k, hq with
    | 0, hq => cases hq; exact ⟨hI1, hI2⟩
    | 1, hq => cases hq; exact ⟨hZ1, hZ2⟩
    | 2, hq => cases hq; exact ⟨hS1, hS2⟩
    | k + 3, hq => simp [TY] at hq⟩
  have hN : NX s := ⟨va_Nw.of rfl (hts _ (List.mem_append_right _ (List.mem_of_getElem? (i := 22) (by decide +kernel)))), va_Nw.of rfl (hts _ (List.mem_append_right _ (List.mem_of_getElem? (i := 65) (by decide +kernel)))), va_Nw.of rfl (hts _ (List.mem_append_right _ (List.mem_of_getElem? (i := 158) (by decide +kernel)))), va_AO.of hover⟩
  have w : WW (dC, dI) (LA s) s.heap [] s.heap [] := ⟨fun k q h => by simp at h, ⟨fun i j p q h => by simp at h, fun k q h => by simp at h⟩, va_S.rf⟩
  have hA : ∀ q : Nat, s.heap.size ≤ q → LA s q := fun _ h => h
  have hl := lv_entry ([.ref b]) (n := 4) (Nat.le_of_ble_eq_true rfl)
  rw [lg_entry_eq]
  generalize (lg_sl ([.ref b]) ++ List.replicate (4 - (lg_sl ([.ref b])).length) Slot.unset).toArray = ls at hl ⊢
  have hl : lv_has ls 4 [(0, .ref b)] := hl
  refine n_o G K hA w inX5 tyX5 tyX5_ok cl_L_7 is_X5 in_X5 (ci := 5) rfl [.null, .null, .null, .null, .null, .null, .int 0] (by decide) (Nat.le_of_ble_eq_true rfl) (Nat.le_of_ble_eq_true rfl) dL_law_0 (fun h5 H5 w => ?_)
  refine lv_dup hx hb dL_law_3 rfl ?_
  refine mkI (n := 0) (ws0 := []) (As := []) (rest := [.ref h5]) G K hA w (c_X5_init h5) (fun U g mk aa q => ⟨va_Nw.same rfl rfl q.1, va_Nw.same rfl rfl q.2.1, va_Nw.same rfl rfl q.2.2.1, va_AO.moved (Vm.Alike.refl U.vm) q.2.2.2⟩) (fun U hW => ⟨va_Nw.warmM hW hN.1, va_Nw.warmM hW hN.2.1, va_Nw.warmM hW hN.2.2.1, va_AO.moved hW.alike hN.2.2.2⟩) in_X5 cd_X5_init im_X5_init ml_L_9 rfl ⟨by decide +kernel, by decide +kernel, by decide +kernel⟩ rfl (Nat.le_of_ble_eq_true rfl) (Nat.le_of_ble_eq_true rfl) (Nat.le_of_ble_eq_true rfl) rfl hl.1 (Nat.le_of_ble_eq_true rfl) dL_law_4 (Nat.le_of_ble_eq_true rfl) (Nat.le_of_ble_eq_true rfl) (fun q5 H6 l6 hq5 w5 => ?_)
  clear w
  subst hq5
  refine lv_astore_n (lv' := [(1, .ref (q5 0 0)), (0, .ref b)]) hx hb dL_law_7 rfl hl (by decide) rfl (fun ls hl => ?_)
  refine n_o G K hA w5 inX6 tyX6 tyX6_ok cl_L_10 is_X6 in_X6 (ci := 6) rfl [.null, .null, .null, .null, .int 0, .int 0, .null, .null, .null, .null, .null, .null, .null, .int 0, .int 0, .null] (by decide) (Nat.le_of_ble_eq_true rfl) (Nat.le_of_ble_eq_true rfl) dL_law_8 (fun h6 H7 w => ?_)
  refine lv_dup hx hb dL_law_11 rfl ?_
  refine mkI (n := 0) (As := []) (rest := [.ref h6]) G K hA w (c_X6_init h6) (fun _ _ _ _ _ => trivial) (fun _ _ => trivial) in_X6 cd_X6_init im_X6_init ml_L_12 rfl ⟨by decide +kernel, by decide +kernel, by decide +kernel⟩ (by rfl) (Nat.le_of_ble_eq_true rfl) (Nat.le_of_ble_eq_true rfl) (Nat.le_of_ble_eq_true rfl) rfl hl.1 (Nat.le_of_ble_eq_true rfl) dL_law_12 (Nat.le_of_ble_eq_true rfl) (Nat.le_of_ble_eq_true rfl) (fun q6 H8 l8 hq6 w6 => ?_)
  clear w w5
  subst hq6
  refine lv_astore_n (lv' := [(2, .ref (q6 0 0)), (1, .ref (q5 0 0)), (0, .ref b)]) hx hb dL_law_15 rfl hl (by decide) rfl (fun ls hl => ?_)
  refine lv_iconst (v := nI 0) hx hb dL_law_16 (by decide) ?_
  refine lv_istore_n (lv' := [(3, .int (nI 0)), (2, .ref (q6 0 0)), (1, .ref (q5 0 0)), (0, .ref b)]) hx hb dL_law_17 rfl hl (by decide) rfl (fun ls hl => ?_)
  have hInv : Inv (S9mk 0 0 0 (fun _ => 0) (fun _ => 0) (fun _ => 0) (fun _ => 0) (fun _ => False) (fun _ => 0) (fun _ => 0) (fun _ => 0) (fun _ => 0) 0 (fun _ => 0) (fun _ => 0) (cLT (fun _ => 0) (fun _ => 0) none 0 (fun _ => some 0) (0 + 1)) (cTR (fun _ => 0) (fun _ => 0) (fun _ => 0) none 0 (fun _ => 0) (0 + 1)) (cSH (fun _ => 0) (fun _ => 0) (fun _ => 0) (fun _ => 0) none 0 (fun _ => 0) (0 + 1)) (cCR (fun _ => 0) (fun _ => 0) (fun _ => 0) (fun _ => 0) none 0 (fun _ => 0) (0 + 1)) (cCT (fun _ => 0) (fun _ => 0) (fun _ => 0) (fun _ => 0) none 0 (fun _ => 0) (0 + 1)) (cCU (fun _ => 0) (fun _ => 0) (fun _ => 0) (fun _ => 0) none 0 (fun _ => 0) (0 + 1)) (cVE (fun _ => 0) (fun _ => 0) (fun _ => 0) (fun _ => 0) none 0 0 (fun _ => 0) 0) (cTA (fun _ => 0) (fun _ => 0) (fun _ => 0) (fun _ => 0) none 0 0 (fun _ => 0) 0) (cCH (fun _ => 0) (fun _ => 0) (fun _ => 0) (fun _ => 0) none 0 (0 + 1)) (fun _ => some 0) (fun _ => 0) (fun _ => 0) (fun _ => 0) (fun _ => 0) (fun _ => 0) (fun _ => 0) (fun _ => 0) 0 (fun _ => True) (fun _ => 0) (fun _ => 0) (fun _ _ => 0) (va_up (va_up (va_up (va_up (fun _ => 0) 0 (-1)) 1 (-1)) 2 (-1)) 3 (-1)) (fun _ => 0) (fun _ => 0) (fun _ => 0)) := Inv_0
  exact lw_loop (d := fun k => if k = 7 then q6 0 else q5 k) ⟨G, K, hX, hbl, hL⟩ (Nat.le_of_ble_eq_true rfl) (Nat.le_of_ble_eq_true rfl) (fun H locs ls hS => lw_end hx hb hr hlocks hS) L 0 (S9mk 0 0 0 (fun _ => 0) (fun _ => 0) (fun _ => 0) (fun _ => 0) (fun _ => False) (fun _ => 0) (fun _ => 0) (fun _ => 0) (fun _ => 0) 0 (fun _ => 0) (fun _ => 0) (cLT (fun _ => 0) (fun _ => 0) none 0 (fun _ => some 0) (0 + 1)) (cTR (fun _ => 0) (fun _ => 0) (fun _ => 0) none 0 (fun _ => 0) (0 + 1)) (cSH (fun _ => 0) (fun _ => 0) (fun _ => 0) (fun _ => 0) none 0 (fun _ => 0) (0 + 1)) (cCR (fun _ => 0) (fun _ => 0) (fun _ => 0) (fun _ => 0) none 0 (fun _ => 0) (0 + 1)) (cCT (fun _ => 0) (fun _ => 0) (fun _ => 0) (fun _ => 0) none 0 (fun _ => 0) (0 + 1)) (cCU (fun _ => 0) (fun _ => 0) (fun _ => 0) (fun _ => 0) none 0 (fun _ => 0) (0 + 1)) (cVE (fun _ => 0) (fun _ => 0) (fun _ => 0) (fun _ => 0) none 0 0 (fun _ => 0) 0) (cTA (fun _ => 0) (fun _ => 0) (fun _ => 0) (fun _ => 0) none 0 0 (fun _ => 0) 0) (cCH (fun _ => 0) (fun _ => 0) (fun _ => 0) (fun _ => 0) none 0 (0 + 1)) (fun _ => some 0) (fun _ => 0) (fun _ => 0) (fun _ => 0) (fun _ => 0) (fun _ => 0) (fun _ => 0) (fun _ => 0) 0 (fun _ => True) (fun _ => 0) (fun _ => 0) (fun _ _ => 0) (va_up (va_up (va_up (va_up (fun _ => 0) 0 (-1)) 1 (-1)) 2 (-1)) 3 (-1)) (fun _ => 0) (fun _ => 0) (fun _ => 0)) _ _ _ (by omega) (by omega) hInv w6 hl
