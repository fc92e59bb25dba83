set_option maxHeartbeats 4000000 in
set_option maxRecDepth 100000 in
/-- setLength, not refused -/
theorem kX3_setLength (l : Launch) (dC : Nat → ClassId) (dI : Nat → Nat → Nat) (sz : Nat) (hM tx : Nat) (th kn rf sp : Int32) (cT cI : ClassId) (fT : Nat → Option Nat) (j r k : Nat) (f : Nat → Int32) (L : Nat) (hj : j < 4) (hT : fT j = some r) (hk : k ≤ 240) (hL : L ≤ 240) : Met l yX3_setLength wsX3_setLength ({ frames := 2, cells := 4, slots := 1000, locals := 54 }) (va_Pc [.ref hM, .int (nI j), .int (nI L)] (fun U => U.heap.size = sz ∧ va_P (dC, dI) vwCl [(hM, .inr (7, [.int th, .ref tx, .int kn, .int rf, .int sp])), (tx, .inl (cT, 4, .inr (.inr (.inr (.inr fT))))), (r, .inl (cI, k, .inl f))] U.heap ∧ va_K (dC, dI) vwCl [(cT, .array .int), (cI, .int)] U ∧ va_D (fun _ => True) [(hM, .inr (7, [.int th, .ref tx, .int kn, .int rf, .int sp])), (tx, .inl (cT, 4, .inr (.inr (.inr (.inr fT))))), (r, .inl (cI, k, .inl f))] ∧ ja U)) (va_Qi (fun (r : Int32) (u : Nat × ClassId × (Nat → Int32)) => match u with | (rn, cA, g) => r = nI k ∧ ∀ i, i < L → g i = if i < k then f i else 0) (fun (u : Nat × ClassId × (Nat → Int32)) (t : State) => match u with | (rn, cA, g) => sz ≤ rn ∧ va_P (dC, dI) vwCl [(hM, .inr (7, [.int 0, .ref tx, .int kn, .int rf, .int (sp + 1)])), (tx, .inl (cT, 4, .inr (.inr (.inr (.inr (va_up fT j (some rn))))))), (rn, .inl (cA, L, .inl g))] t.heap ∧ va_K (dC, dI) vwCl [(cT, .array .int), (cA, .int)] t ∧ va_D (va_A [(hM, .inr (7, [.int th, .ref tx, .int kn, .int rf, .int sp])), (tx, .inl (cT, 4, .inr (.inr (.inr (.inr fT))))), (r, .inl (cI, k, .inl f))] sz) [(hM, .inr (7, [.int 0, .ref tx, .int kn, .int rf, .int (sp + 1)])), (tx, .inl (cT, 4, .inr (.inr (.inr (.inr (va_up fT j (some rn))))))), (rn, .inl (cA, L, .inl g))]) (va_A [(hM, .inr (7, [.int th, .ref tx, .int kn, .int rf, .int sp])), (tx, .inl (cT, 4, .inr (.inr (.inr (.inr fT))))), (r, .inl (cI, k, .inl f))] sz)) 4 1000 (va_A [(hM, .inr (7, [.int th, .ref tx, .int kn, .int rf, .int sp])), (tx, .inl (cT, 4, .inr (.inr (.inr (.inr fT))))), (r, .inl (cI, k, .inl f))] sz) := by
  refine Met.ofW (cc := cX3_setLength) (maxL := 5) (ret := (some .int)) (by decide) rfl ?_
  intro p e s m args below meth c s₁ B hml hv
  obtain ⟨rfl, hsz, hP, hK, hD0, hJ⟩ := hv
  have hx := B.exec
  have hb := B.bytes
  have hr := B.returns
  have hts := atoms_spec (ws := wsX3_setLength) B.pre
  have hown : s.vm.findClass RX3 = some m.cls := findClass_of_methodNamed B.named
  have hlocks := B.notSynchronized
  subst hsz
  have hD := hD0.self (sz := s.heap.size)
  generalize hAe : va_A [(hM, .inr (7, [.int th, .ref tx, .int kn, .int rf, .int sp])), (tx, .inl (cT, 4, .inr (.inr (.inr (.inr fT))))), (r, .inl (cI, k, .inl f))] s.heap.size = A at hD ⊢
  have hA : ∀ q : Nat, s.heap.size ≤ q → A q := fun q h => by rw [← hAe]; exact Or.inr h
  have hS : va_S A s.heap s.heap [] := va_S.rf
  have hP : va_P (dC, dI) vwCl [(hM, .inr (7, [.int th, .ref tx, .int kn, .int rf, .int sp])), (tx, .inl (cT, 4, .inr (.inr (.inr (.inr fT))))), (r, .inl (cI, k, .inl f))] s.heap := hP
  have hl := lv_entry ([.ref hM, .int (nI j), .int (nI L)]) (n := 5) (Nat.le_of_ble_eq_true rfl)
  rw [lg_entry_eq]
  generalize (lg_sl ([.ref hM, .int (nI j), .int (nI L)]) ++ List.replicate (5 - (lg_sl ([.ref hM, .int (nI j), .int (nI L)])).length) Slot.unset).toArray = ls at hl ⊢
  have hl : lv_has ls 5 [(0, .ref hM), (1, .int (nI j)), (2, .int (nI L))] := hl
  refine lv_aload_n hx hb dX3_setLength_0 rfl (lv_at hl 0 rfl) ?_
  refine lv_iload_n hx hb dX3_setLength_1 rfl (lv_at hl 1 rfl) ?_
  have hPc := hP.sub (ws' := []) [] rfl
  have hDc := hD.sub (ws' := []) [] (by decide) rfl
  have hKc := hK.sub (tys' := []) [] rfl
  have hFc := va_free (wc := []) hD hS hA [] rfl
  refine va_calli (va_runS (As := [.int (nI j)]) (rest := [.ref hM]) ⟨hx, hb, hml, hown, hts⟩ (kX3_isNone l dC dI s.heap.size (nI j)) (va_cwS 1 hts gX3_setLength_X3_isNone rfl rfl rfl (by decide +kernel) ⟨Nat.le_of_ble_eq_true rfl, Nat.le_of_ble_eq_true rfl⟩) ⟨fun a U g mk q => by obtain ⟨q0, q1, qP, qK, qD⟩ := q; exact ⟨q0, q1, qP, va_K.moved (u := U) (U := U.calling g mk a) (Vm.Alike.refl U.vm) qK, qD⟩, fun U hU hW => ⟨rfl, by rw [hU], by rw [hU]; exact hPc, va_K.moved hW.alike hKc, hDc.weaken (fun _ _ _ _ => trivial)⟩⟩ rfl rfl hl.1 rfl (lv_room (Nat.le_of_ble_eq_true rfl)) dX3_setLength_2 ⟨(by show 0 + 0 ≤ 4; omega), (by show 0 + 0 ≤ 1000; omega)⟩) hS (fun q _ h => hFc q h) hFc (fun r_177 u t H1 locs ht hvm hno hB hz1 hk1 hS => ?_)
  try dsimp only at hB
  try dsimp only at hno
  obtain ⟨hP1, hK1, hD1⟩ := hB
  rw [ht] at hP1
  have hK1 := va_K.moved hvm.symm hK1
  obtain ⟨hP, hD⟩ := va_join (wr := [(hM, .inr (7, [.int th, .ref tx, .int kn, .int rf, .int sp])), (tx, .inl (cT, 4, .inr (.inr (.inr (.inr fT))))), (r, .inl (cI, k, .inl f))]) (w1 := []) hP hD [] [0, 1, 2] rfl rfl (by decide) (by decide) hk1 hFc hP1 hD1
  have hK := (hK.sub (tys' := [(cT, .array .int), (cI, .int)]) [0, 1] rfl).app hK1
  generalize H1 = H at hP hS ⊢
  have hP : va_P (dC, dI) vwCl [(hM, .inr (7, [.int th, .ref tx, .int kn, .int rf, .int sp])), (tx, .inl (cT, 4, .inr (.inr (.inr (.inr fT))))), (r, .inl (cI, k, .inl f))] H := hP
  have hD : va_D A [(hM, .inr (7, [.int th, .ref tx, .int kn, .int rf, .int sp])), (tx, .inl (cT, 4, .inr (.inr (.inr (.inr fT))))), (r, .inl (cI, k, .inl f))] := hD
  have hK : va_K (dC, dI) vwCl [(cT, .array .int), (cI, .int)] s := hK
  have e0 : r_177 = 0 := by
    rcases hno with q | q
    · exact q.1
    · exact absurd ⟨nI_pos' (by omega), (show nI j ≤ nI 3 from nI_le (by omega) (by omega))⟩ q.2
  subst e0
  refine lv_iconst (v := 1) hx hb dX3_setLength_5 (by decide) ?_
  have hPc := hP.sub (ws' := [(hM, .inr (7, [.int th, .ref tx, .int kn, .int rf, .int sp]))]) [0] rfl
  have hDc := hD.sub (ws' := [(hM, .inr (7, [.int th, .ref tx, .int kn, .int rf, .int sp]))]) [0] (by decide) rfl
  have hKc := hK.sub (tys' := []) [] rfl
  have hFc := va_free (wc := [(hM, .inr (7, [.int th, .ref tx, .int kn, .int rf, .int sp]))]) hD hS hA [0] rfl
  refine va_calli (va_runV (As := [.int 0, .int 1]) (rest := []) ⟨hx, hb, hml, hown, hts⟩ (kX3_start l dC dI H.size hM tx th kn rf sp 0 1) (cwV 2 hts gX3_setLength_X3_start rfl rfl rfl (by decide +kernel) ⟨Nat.le_of_ble_eq_true rfl, Nat.le_of_ble_eq_true rfl⟩) ⟨fun a U g mk q => by obtain ⟨q0, q1, qP, qK, qD⟩ := q; exact ⟨q0, q1, qP, va_K.moved (u := U) (U := U.calling g mk a) (Vm.Alike.refl U.vm) qK, qD⟩, va_recv hKc hPc (ci := 7) (q0 := 0) rfl rfl, fun U hU hW => ⟨rfl, by rw [hU], by rw [hU]; exact hPc, va_K.moved hW.alike hKc, hDc.weaken (fun _ _ _ _ => trivial)⟩⟩ rfl rfl hl.1 rfl (lv_room (Nat.le_of_ble_eq_true rfl)) dX3_setLength_6 ⟨(by show 0 + 0 + 0 ≤ 4; omega), (by show 0 + 0 + 0 ≤ 1000; omega)⟩) hS (fun q _ h => hFc q h) hFc (fun r_178 t2 t H1 locs ht hvm hst hB hz1 hk1 hS => ?_)
  try dsimp only at hB
  try dsimp only at hst
  obtain ⟨hP1, hK1, hD1⟩ := hB
  rw [ht] at hP1
  have hK1 := va_K.moved hvm.symm hK1
  obtain ⟨hP, hD⟩ := va_join (wr := [(tx, .inl (cT, 4, .inr (.inr (.inr (.inr fT))))), (r, .inl (cI, k, .inl f))]) (w1 := [(hM, .inr (7, [.int t2, .ref tx, .int kn, .int rf, .int sp]))]) hP hD [0] [1, 2] rfl rfl (by decide) (by decide) hk1 hFc hP1 hD1
  have hK := (hK.sub (tys' := [(cT, .array .int), (cI, .int)]) [0, 1] rfl).app hK1
  generalize H1 = H at hP hS ⊢
  have hP : va_P (dC, dI) vwCl [(tx, .inl (cT, 4, .inr (.inr (.inr (.inr fT))))), (r, .inl (cI, k, .inl f)), (hM, .inr (7, [.int t2, .ref tx, .int kn, .int rf, .int sp]))] H := hP
  have hD : va_D A [(tx, .inl (cT, 4, .inr (.inr (.inr (.inr fT))))), (r, .inl (cI, k, .inl f)), (hM, .inr (7, [.int t2, .ref tx, .int kn, .int rf, .int sp]))] := hD
  have hK : va_K (dC, dI) vwCl [(cT, .array .int), (cI, .int)] s := hK
  obtain ⟨et2, er⟩ := hst
  have et3 : t2 = 0 := et2
  subst et3
  refine lv_if_ne (tgt := 36) hx hb dX3_setLength_9 (by decide) (fun c_179 => absurd c_179 (by rw [er]; exact fun h => h (by decide))) (fun c_179 => ?_)
  refine lv_aload_n hx hb dX3_setLength_12 rfl (lv_at hl 0 rfl) ?_
  refine lv_iload_n hx hb dX3_setLength_13 rfl (lv_at hl 2 rfl) ?_
  refine lv_iconst (v := 0) hx hb dX3_setLength_14 (by decide) ?_
  refine lv_sipush (v := 240) hx hb dX3_setLength_15 (by decide) ?_
  have hPc := hP.sub (ws' := []) [] rfl
  have hDc := hD.sub (ws' := []) [] (by decide) rfl
  have hKc := hK.sub (tys' := []) [] rfl
  have hFc := va_free (wc := []) hD hS hA [] rfl
  refine va_calli (va_runS (As := [.int (nI L), .int 0, .int 240]) (rest := [.ref hM]) ⟨hx, hb, hml, hown, hts⟩ (kX3_isIn l dC dI H.size (nI L) 0 240) (va_cwS 3 hts gX3_setLength_X3_isIn rfl rfl rfl (by decide +kernel) ⟨Nat.le_of_ble_eq_true rfl, Nat.le_of_ble_eq_true rfl⟩) ⟨fun a U g mk q => by obtain ⟨q0, q1, qP, qK, qD⟩ := q; exact ⟨q0, q1, qP, va_K.moved (u := U) (U := U.calling g mk a) (Vm.Alike.refl U.vm) qK, qD⟩, fun U hU hW => ⟨rfl, by rw [hU], by rw [hU]; exact hPc, va_K.moved hW.alike hKc, hDc.weaken (fun _ _ _ _ => trivial)⟩⟩ rfl rfl hl.1 rfl (lv_room (Nat.le_of_ble_eq_true rfl)) dX3_setLength_18 ⟨(by show 0 + 0 + 0 + 0 ≤ 4; omega), (by show 0 + 0 + 0 + 0 ≤ 1000; omega)⟩) hS (fun q _ h => hFc q h) hFc (fun r_180 u t H1 locs ht hvm hin hB hz1 hk1 hS => ?_)
  try dsimp only at hB
  try dsimp only at hin
  obtain ⟨hP1, hK1, hD1⟩ := hB
  rw [ht] at hP1
  have hK1 := va_K.moved hvm.symm hK1
  obtain ⟨hP, hD⟩ := va_join (wr := [(tx, .inl (cT, 4, .inr (.inr (.inr (.inr fT))))), (r, .inl (cI, k, .inl f)), (hM, .inr (7, [.int 0, .ref tx, .int kn, .int rf, .int sp]))]) (w1 := []) hP hD [] [0, 1, 2] rfl rfl (by decide) (by decide) hk1 hFc hP1 hD1
  have hK := (hK.sub (tys' := [(cT, .array .int), (cI, .int)]) [0, 1] rfl).app hK1
  generalize H1 = H at hP hS ⊢
  have hP : va_P (dC, dI) vwCl [(tx, .inl (cT, 4, .inr (.inr (.inr (.inr fT))))), (r, .inl (cI, k, .inl f)), (hM, .inr (7, [.int 0, .ref tx, .int kn, .int rf, .int sp]))] H := hP
  have hD : va_D A [(tx, .inl (cT, 4, .inr (.inr (.inr (.inr fT))))), (r, .inl (cI, k, .inl f)), (hM, .inr (7, [.int 0, .ref tx, .int kn, .int rf, .int sp]))] := hD
  have hK : va_K (dC, dI) vwCl [(cT, .array .int), (cI, .int)] s := hK
  have e1 : r_180 = 1 := by
    rcases hin with q | q
    · exact q.1
    · exact absurd ⟨nI_pos' (by omega), (show nI L ≤ nI 240 from nI_le (by omega) (by omega))⟩ q.2
  subst e1
  refine lv_if_ne (tgt := 28) hx hb dX3_setLength_21 (by decide) (fun c_181 => ?_) (fun c_181 => absurd c_181 (by decide))
  refine lv_iconst (v := 0) hx hb dX3_setLength_28 (by decide) ?_
  refine lv_iconst (v := 2) hx hb dX3_setLength_29 (by decide) ?_
  have hPc := hP.sub (ws' := [(hM, .inr (7, [.int 0, .ref tx, .int kn, .int rf, .int sp]))]) [2] rfl
  have hDc := hD.sub (ws' := [(hM, .inr (7, [.int 0, .ref tx, .int kn, .int rf, .int sp]))]) [2] (by decide) rfl
  have hKc := hK.sub (tys' := []) [] rfl
  have hFc := va_free (wc := [(hM, .inr (7, [.int 0, .ref tx, .int kn, .int rf, .int sp]))]) hD hS hA [2] rfl
  refine va_calli (va_runV (As := [.int 0, .int 2]) (rest := []) ⟨hx, hb, hml, hown, hts⟩ (kX3_refuse l dC dI H.size hM tx 0 kn rf sp 0 2) (cwV 2 hts gX3_setLength_X3_refuse rfl rfl rfl (by decide +kernel) ⟨Nat.le_of_ble_eq_true rfl, Nat.le_of_ble_eq_true rfl⟩) ⟨fun a U g mk q => by obtain ⟨q0, q1, qP, qK, qD⟩ := q; exact ⟨q0, q1, qP, va_K.moved (u := U) (U := U.calling g mk a) (Vm.Alike.refl U.vm) qK, qD⟩, va_recv hKc hPc (ci := 7) (q0 := 0) rfl rfl, fun U hU hW => ⟨rfl, by rw [hU], by rw [hU]; exact hPc, va_K.moved hW.alike hKc, hDc.weaken (fun _ _ _ _ => trivial)⟩⟩ rfl rfl hl.1 rfl (lv_room (Nat.le_of_ble_eq_true rfl)) dX3_setLength_30 ⟨(by show 0 + 0 + 0 + 0 + 0 ≤ 4; omega), (by show 0 + 0 + 0 + 0 + 0 ≤ 1000; omega)⟩) hS (fun q _ h => hFc q h) hFc (fun r_182 t2 t H1 locs ht hvm hr1 hB hz1 hk1 hS => ?_)
  try dsimp only at hB
  try dsimp only at hr1
  obtain ⟨hP1, hK1, hD1⟩ := hB
  rw [ht] at hP1
  have hK1 := va_K.moved hvm.symm hK1
  obtain ⟨hP, hD⟩ := va_join (wr := [(tx, .inl (cT, 4, .inr (.inr (.inr (.inr fT))))), (r, .inl (cI, k, .inl f))]) (w1 := [(hM, .inr (7, [.int t2, .ref tx, .int kn, .int rf, .int sp]))]) hP hD [2] [0, 1] rfl rfl (by decide) (by decide) hk1 hFc hP1 hD1
  have hK := (hK.sub (tys' := [(cT, .array .int), (cI, .int)]) [0, 1] rfl).app hK1
  generalize H1 = H at hP hS ⊢
  have hP : va_P (dC, dI) vwCl [(tx, .inl (cT, 4, .inr (.inr (.inr (.inr fT))))), (r, .inl (cI, k, .inl f)), (hM, .inr (7, [.int t2, .ref tx, .int kn, .int rf, .int sp]))] H := hP
  have hD : va_D A [(tx, .inl (cT, 4, .inr (.inr (.inr (.inr fT))))), (r, .inl (cI, k, .inl f)), (hM, .inr (7, [.int t2, .ref tx, .int kn, .int rf, .int sp]))] := hD
  have hK : va_K (dC, dI) vwCl [(cT, .array .int), (cI, .int)] s := hK
  obtain ⟨et2, er⟩ := hr1
  have et3 : t2 = 0 := et2
  subst et3
  refine lv_if_eq (tgt := 38) hx hb dX3_setLength_33 (by decide) (fun c_183 => ?_) (fun c_183 => absurd (by rw [er]; decide) c_183)
  refine lv_aload_n hx hb dX3_setLength_38 rfl (lv_at hl 0 rfl) ?_
  refine lv_iload_n hx hb dX3_setLength_39 rfl (lv_at hl 1 rfl) ?_
  have hPc := hP.sub (ws' := [(hM, .inr (7, [.int 0, .ref tx, .int kn, .int rf, .int sp])), (tx, .inl (cT, 4, .inr (.inr (.inr (.inr fT))))), (r, .inl (cI, k, .inl f))]) [2, 0, 1] rfl
  have hDc := hD.sub (ws' := [(hM, .inr (7, [.int 0, .ref tx, .int kn, .int rf, .int sp])), (tx, .inl (cT, 4, .inr (.inr (.inr (.inr fT))))), (r, .inl (cI, k, .inl f))]) [2, 0, 1] (by decide) rfl
  have hKc := hK.sub (tys' := [(cT, .array .int), (cI, .int)]) [0, 1] rfl
  have hFc := va_free (wc := [(hM, .inr (7, [.int 0, .ref tx, .int kn, .int rf, .int sp])), (tx, .inl (cT, 4, .inr (.inr (.inr (.inr fT))))), (r, .inl (cI, k, .inl f))]) hD hS hA [2, 0, 1] rfl
  refine va_calli (va_runV (As := [.int (nI j)]) (rest := []) ⟨hx, hb, hml, hown, hts⟩ (kX3_many l dC dI H.size hM tx 0 kn rf sp cT cI fT j r k f hj hT) (cwV 1 hts gX3_setLength_X3_many rfl rfl rfl (by decide +kernel) ⟨Nat.le_of_ble_eq_true rfl, Nat.le_of_ble_eq_true rfl⟩) ⟨fun a U g mk q => by obtain ⟨q0, q1, qP, qK, qD⟩ := q; exact ⟨q0, q1, qP, va_K.moved (u := U) (U := U.calling g mk a) (Vm.Alike.refl U.vm) qK, qD⟩, va_recv hKc hPc (ci := 7) (q0 := 0) rfl rfl, fun U hU hW => ⟨rfl, by rw [hU], by rw [hU]; exact hPc, va_K.moved hW.alike hKc, hDc.weaken (fun _ _ _ _ => trivial)⟩⟩ rfl rfl hl.1 rfl (lv_room (Nat.le_of_ble_eq_true rfl)) dX3_setLength_40 ⟨(by show 0 + 0 + 0 + 0 + 0 + 0 ≤ 4; omega), (by show 0 + 0 + 0 + 0 + 0 + 0 ≤ 1000; omega)⟩) hS (fun q _ h => hFc q h) hFc (fun r_184 u t H1 locs ht hvm hmany hB hz1 hk1 hS => ?_)
  try dsimp only at hB
  try dsimp only at hmany
  obtain ⟨hP1, hK1, hD1⟩ := hB
  rw [ht] at hP1
  have hK1 := va_K.moved hvm.symm hK1
  obtain ⟨hP, hD⟩ := va_join (wr := []) (w1 := [(hM, .inr (7, [.int 0, .ref tx, .int kn, .int rf, .int sp])), (tx, .inl (cT, 4, .inr (.inr (.inr (.inr fT))))), (r, .inl (cI, k, .inl f))]) hP hD [2, 0, 1] [] rfl rfl (by decide) (by decide) hk1 hFc hP1 hD1
  have hK := (hK.sub (tys' := []) [] rfl).app hK1
  generalize H1 = H at hP hS ⊢
  have hP : va_P (dC, dI) vwCl [(hM, .inr (7, [.int 0, .ref tx, .int kn, .int rf, .int sp])), (tx, .inl (cT, 4, .inr (.inr (.inr (.inr fT))))), (r, .inl (cI, k, .inl f))] H := hP
  have hD : va_D A [(hM, .inr (7, [.int 0, .ref tx, .int kn, .int rf, .int sp])), (tx, .inl (cT, 4, .inr (.inr (.inr (.inr fT))))), (r, .inl (cI, k, .inl f))] := hD
  have hK : va_K (dC, dI) vwCl [(cT, .array .int), (cI, .int)] s := hK
  subst hmany
  refine lv_istore_n (lv' := [(3, .int (nI k)), (0, .ref hM), (1, .int (nI j)), (2, .int (nI L))]) hx hb dX3_setLength_43 rfl hl (by decide) rfl (fun ls hl => ?_)
  refine lv_iconst (v := 0) hx hb dX3_setLength_44 (by decide) ?_
  refine lv_iload_n hx hb dX3_setLength_45 rfl (lv_at hl 3 rfl) ?_
  refine lv_iload_n hx hb dX3_setLength_46 rfl (lv_at hl 0 rfl) ?_
  refine lv_isub hx hb dX3_setLength_47 ?_
  refine lv_topi (fun x_185 ex_185 => ?_)
  refine va_mmax hx hb (by rw [hml]; exact hl.1.symm) hown (hts (.methodLink RX3 184 Lib.Math.max.name) (by decide +kernel)) (hts (.static Lib.Math.max.name) (by decide +kernel)) (hts (.initialized "java/lang/Math") (by decide +kernel)) (hts (.code Lib.Math.max.name Lib.Math.max.code 2 (some .int)) (by decide +kernel)) (Nat.le_of_ble_eq_true rfl) (Nat.le_of_ble_eq_true rfl) (by show 0 + 0 + 0 + 0 + 0 + 0 ≤ 4; omega) (by show 0 + 0 + 0 + 0 + 0 + 0 ≤ 1000; omega) dX3_setLength_48 ?_
  refine lv_topi (fun x_186 ex_186 => ?_)
  have em : x_186 = nI (L - k) := by
    rw [ex_186, ex_185]
    by_cases q : k ≤ L
    · rw [show nI L - nI k = nI (L - k) from pk_sub q]
      by_cases q2 : 0 < L - k
      · exact if_pos (show nI 0 < nI (L - k) from nI_lt q2 (by omega))
      · rw [show L - k = 0 by omega]; rfl
    · rw [if_neg (fun h => absurd (pk_sneg (a := L) (b := k) (by omega) (by omega)) (Int32.not_lt.mpr (Int32.le_of_lt h))), show L - k = 0 by omega]; rfl
  rw [em]
  refine va_newa (atype := .int) (ty := .int) (N' := (L - k)) (a0 := ((L - k), .inl (fun _ => 0))) hx hb (hts (.arrayClass .int) (by decide +kernel)) rfl hK hP hD hS hA (fun _ => rfl) (nI_pos (by omega)) (nI_clamp (by omega)) (by show (L - k) * 4 ≤ 536870912; omega) (by show 0 + 0 + 0 + 0 + 0 + 0 + 1 ≤ 4; omega) (by show 0 + 0 + 0 + 0 + 0 + 0 + (L - k) ≤ 1000; omega) dX3_setLength_51 (fun q_187 cA_188 H hK hP hD hS => ?_)
  have hP : va_P (dC, dI) vwCl [(hM, .inr (7, [.int 0, .ref tx, .int kn, .int rf, .int sp])), (tx, .inl (cT, 4, .inr (.inr (.inr (.inr fT))))), (r, .inl (cI, k, .inl f)), (q_187, .inl (cA_188, (L - k), .inl (fun _ => 0)))] H := hP
  have hD : va_D A [(hM, .inr (7, [.int 0, .ref tx, .int kn, .int rf, .int sp])), (tx, .inl (cT, 4, .inr (.inr (.inr (.inr fT))))), (r, .inl (cI, k, .inl f)), (q_187, .inl (cA_188, (L - k), .inl (fun _ => 0)))] := hD
  have hK : va_K (dC, dI) vwCl [(cT, .array .int), (cI, .int), (cA_188, .int)] s := hK
  refine lv_astore (lv' := [(4, .ref q_187), (3, .int (nI k)), (0, .ref hM), (1, .int (nI j)), (2, .int (nI L))]) hx hb dX3_setLength_53 hl (by decide) rfl (fun ls hl => ?_)
  refine lv_aload_n hx hb dX3_setLength_55 rfl (lv_at hl 2 rfl) ?_
  refine lv_iload_n hx hb dX3_setLength_56 rfl (lv_at hl 3 rfl) ?_
  refine lv_iload_n hx hb dX3_setLength_57 rfl (lv_at hl 1 rfl) ?_
  refine lv_iload_n hx hb dX3_setLength_58 rfl (lv_at hl 4 rfl) ?_
  refine va_mmin hx hb (by rw [hml]; exact hl.1.symm) hown (hts (.methodLink RX3 166 Lib.Math.min.name) (by decide +kernel)) (hts (.static Lib.Math.min.name) (by decide +kernel)) (hts (.initialized "java/lang/Math") (by decide +kernel)) (hts (.code Lib.Math.min.name Lib.Math.min.code 2 (some .int)) (by decide +kernel)) (Nat.le_of_ble_eq_true rfl) (Nat.le_of_ble_eq_true rfl) (by show 0 + 0 + 0 + 0 + 0 + 0 + 1 ≤ 4; omega) (by show 0 + 0 + 0 + 0 + 0 + 0 + (L - k) ≤ 1000; omega) dX3_setLength_59 ?_
  refine lv_topi (fun x_189 ex_189 => ?_)
  have em2 : x_189 = nI (if k < L then k else L) := by
    rw [ex_189]
    by_cases q : k < L
    · rw [if_pos q, if_neg (nI_nlt (by omega) (by omega))]
    · rw [if_neg q]
      by_cases q2 : L < k
      · exact if_pos (nI_lt q2 (by omega))
      · rw [show L = k by omega]; exact if_neg (nI_nlt (Nat.le_refl _) (by omega))
  rw [em2]
  obtain ⟨a, ha⟩ : ∃ a, a = if k < L then k else L := ⟨_, rfl⟩
  rw [← ha]
  have ha2 : a ≤ k ∧ k - (k - a) + (L - k) = L ∧ (k < L → a = k) ∧ (L ≤ k → a = L) := by rw [ha]; split <;> omega
  refine lv_iload_n hx hb dX3_setLength_62 rfl (lv_at hl 1 rfl) ?_
  refine lv_aload hx hb dX3_setLength_63 (lv_at hl 0 rfl) ?_
  refine lv_iconst (v := 3) hx hb dX3_setLength_65 (by decide) ?_
  have hS0 := hS
  have hPc := hP.sub (ws' := [(hM, .inr (7, [.int 0, .ref tx, .int kn, .int rf, .int sp])), (tx, .inl (cT, 4, .inr (.inr (.inr (.inr fT))))), (r, .inl (cI, k, .inl f)), (q_187, .inl (cA_188, (L - k), .inl (fun _ => 0)))]) [0, 1, 2, 3] rfl
  have hDc := hD.sub (ws' := [(hM, .inr (7, [.int 0, .ref tx, .int kn, .int rf, .int sp])), (tx, .inl (cT, 4, .inr (.inr (.inr (.inr fT))))), (r, .inl (cI, k, .inl f)), (q_187, .inl (cA_188, (L - k), .inl (fun _ => 0)))]) [0, 1, 2, 3] (by decide) rfl
  have hKc := hK.sub (tys' := [(cT, .array .int), (cI, .int), (cA_188, .int)]) [0, 1, 2] rfl
  have hFc := va_free (wc := [(hM, .inr (7, [.int 0, .ref tx, .int kn, .int rf, .int sp])), (tx, .inl (cT, 4, .inr (.inr (.inr (.inr fT))))), (r, .inl (cI, k, .inl f)), (q_187, .inl (cA_188, (L - k), .inl (fun _ => 0)))]) hD hS hA [0, 1, 2, 3] rfl
  refine va_calli (va_runV (As := [.int (nI j), .int (nI a), .int (nI k), .ref q_187, .int 3]) (rest := []) ⟨hx, hb, hml, hown, hts⟩ (kX3_splice l dC dI H.size hM tx kn rf sp cT cI cA_188 fT j r k f a k q_187 (L - k) (fun _ => 0) 3 hj hT ha2.1 (Nat.le_refl _) hk (by omega) (by omega)) (cwV 5 hts gX3_setLength_X3_splice rfl rfl rfl (by decide +kernel) ⟨Nat.le_of_ble_eq_true rfl, Nat.le_of_ble_eq_true rfl⟩) ⟨fun a U g mk q => by obtain ⟨q0, q1, qP, qK, qD, qE0⟩ := q; exact ⟨q0, q1, qP, va_K.moved (u := U) (U := U.calling g mk a) (Vm.Alike.refl U.vm) qK, qD, ja.call qE0⟩, va_recv hKc hPc (ci := 7) (q0 := 0) rfl rfl, fun U hU hW => ⟨rfl, by rw [hU], by rw [hU]; exact hPc, va_K.moved hW.alike hKc, hDc.weaken (fun _ _ _ _ => trivial), ja.pass hJ hW⟩⟩ rfl rfl hl.1 rfl (lv_room (Nat.le_of_ble_eq_true rfl)) dX3_setLength_66 ⟨(by show 0 + 0 + 0 + 0 + 0 + 0 + 1 + 3 ≤ 4; omega), (by show 0 + 0 + 0 + 0 + 0 + 0 + (L - k) + (a + (k - k) + (k - (k - a) + (L - k))) ≤ 1000; omega)⟩) hS (fun q _ h => hFc q h) hFc (fun r_190 u t H1 locs ht hvm hsp hB hz1 hk1 hS => ?_)
  obtain ⟨rn, cA, g⟩ := u
  try dsimp only at hB
  try dsimp only at hsp
  obtain ⟨hfr, hP1, hK1, hD1⟩ := hB
  rw [ht] at hP1
  have hK1 := va_K.moved hvm.symm hK1
  obtain ⟨hP, hD⟩ := va_join (wr := []) (w1 := [(hM, .inr (7, [.int 0, .ref tx, .int kn, .int rf, .int (sp + 1)])), (tx, .inl (cT, 4, .inr (.inr (.inr (.inr (va_up fT j (some rn))))))), (rn, .inl (cA, k - (k - a) + (L - k), .inl g)), (r, .inl (cI, k, .inl f)), (q_187, .inl (cA_188, L - k, .inl (fun _ => 0)))]) hP hD [0, 1, 2, 3] [] rfl rfl (by decide) (by decide) hk1 hFc hP1 hD1
  have hK := (hK.sub (tys' := []) [] rfl).app hK1
  generalize H1 = H at hP hS ⊢
  have hP : va_P (dC, dI) vwCl [(hM, .inr (7, [.int 0, .ref tx, .int kn, .int rf, .int (sp + 1)])), (tx, .inl (cT, 4, .inr (.inr (.inr (.inr (va_up fT j (some rn))))))), (rn, .inl (cA, k - (k - a) + (L - k), .inl g)), (r, .inl (cI, k, .inl f)), (q_187, .inl (cA_188, L - k, .inl (fun _ => 0)))] H := hP
  have hD : va_D A [(hM, .inr (7, [.int 0, .ref tx, .int kn, .int rf, .int (sp + 1)])), (tx, .inl (cT, 4, .inr (.inr (.inr (.inr (va_up fT j (some rn))))))), (rn, .inl (cA, k - (k - a) + (L - k), .inl g)), (r, .inl (cI, k, .inl f)), (q_187, .inl (cA_188, L - k, .inl (fun _ => 0)))] := hD
  have hK : va_K (dC, dI) vwCl [(cT, .array .int), (cA, .int), (cI, .int), (cA_188, .int)] s := hK
  have hfr := Nat.le_trans hS0.1 hfr
  rw [ha2.2.1] at hP hD
  refine lv_pop hx hb dX3_setLength_69 rfl ?_
  refine lv_iload_n hx hb dX3_setLength_70 rfl (lv_at hl 1 rfl) ?_
  have hgc : ∀ i, i < L → g i = if i < k then f i else 0 := by
    intro i hi
    rw [hsp.2 i (by omega)]
    unfold cat3
    by_cases q1 : i < a
    · rw [if_pos q1, if_pos (by omega)]
    · have q2 : ¬ i < k := by omega
      rw [if_neg q1, if_neg q2, if_pos (by omega)]
  have hP9 := hP.sub (ws' := [(hM, .inr (7, [.int 0, .ref tx, .int kn, .int rf, .int (sp + 1)])), (tx, .inl (cT, 4, .inr (.inr (.inr (.inr (va_up fT j (some rn))))))), (rn, .inl (cA, L, .inl g))]) [0, 1, 2] rfl
  have hD9 := hD.sub (ws' := [(hM, .inr (7, [.int 0, .ref tx, .int kn, .int rf, .int (sp + 1)])), (tx, .inl (cT, 4, .inr (.inr (.inr (.inr (va_up fT j (some rn))))))), (rn, .inl (cA, L, .inl g))]) [0, 1, 2] (by decide) rfl
  have hK9 := hK.sub (tys' := [(cT, .array .int), (cA, .int)]) [0, 1] rfl
  refine W.widen (k := 4) (n := 1000) (by omega) (by omega) ?_
  exact W.iret (v := nI k) hx hb hr (fun t ht hW => ⟨⟨nI k, (rn, cA, g), rfl, ⟨rfl, hgc⟩, hfr, by rw [ht]; exact hP9, va_K.moved hW.alike hK9, hD9⟩, hS.F ht⟩) hS.2.2 dX3_setLength_71
set_option maxHeartbeats 4000000 in
set_option maxRecDepth 100000 in
/-- text, nothing refused -/
theorem kX3_text (l : Launch) (dC : Nat → ClassId) (dI : Nat → Nat → Nat) (sz : Nat) (hM tx : Nat) (th kn rf sp : Int32) (cT cI : ClassId) (fT : Nat → Option Nat) (j r k : Nat) (f : Nat → Int32) (tc : Nat → Nat) (q0 v0 : Nat) (b0 : Nat → Int32) (hj : j < 4) (hT : fT j = some r) (hk : k ≤ 240) (hf : ∀ j, j < k → f j = nI (tc j) ∧ tc j < 256) (hb00 : sb_Fit b0) : Met l yX3_text wsX3_text ({ frames := 7, cells := 6 * k, slots := k * (140 + 4 * k), locals := 196 }) (va_Pc [.ref hM, .int (nI j)] (fun U => U.heap.size = sz ∧ va_P (dC, dI) vwCl [(hM, .inr (7, [.int th, .ref tx, .int kn, .int rf, .int sp])), (tx, .inl (cT, 4, .inr (.inr (.inr (.inr fT))))), (r, .inl (cI, k, .inl f))] U.heap ∧ va_K (dC, dI) vwCl [(cT, .array .int), (cI, .int)] U ∧ va_D (fun _ => True) [(hM, .inr (7, [.int th, .ref tx, .int kn, .int rf, .int sp])), (tx, .inl (cT, 4, .inr (.inr (.inr (.inr fT))))), (r, .inl (cI, k, .inl f))] ∧ jz (va_A [(hM, .inr (7, [.int th, .ref tx, .int kn, .int rf, .int sp])), (tx, .inl (cT, 4, .inr (.inr (.inr (.inr fT))))), (r, .inl (cI, k, .inl f))] sz) U U.heap ∧ kc q0 U ∧ rs q0 v0 0 b0 (va_A [(hM, .inr (7, [.int th, .ref tx, .int kn, .int rf, .int sp])), (tx, .inl (cT, 4, .inr (.inr (.inr (.inr fT))))), (r, .inl (cI, k, .inl f))] sz) U U.heap)) (va_Qr (fun (u : Nat × (Nat → Int32)) => match u with | (v2, g) => sb_Fit g ∧ ∀ j, j < k → g j = sb_b (tc j)) (fun (u : Nat × (Nat → Int32)) (ra : Nat) (t : State) => match u with | (v2, g) => (rs ra v2 k g (fun x => t.heap.size ≤ x) t t.heap ∧ mades sz k t.heap) ∧ va_P (dC, dI) vwCl [(hM, .inr (7, [.int 0, .ref tx, .int kn, .int rf, .int sp])), (tx, .inl (cT, 4, .inr (.inr (.inr (.inr fT))))), (r, .inl (cI, k, .inl f))] t.heap ∧ va_K (dC, dI) vwCl [(cT, .array .int), (cI, .int)] t ∧ va_D (va_A [(hM, .inr (7, [.int th, .ref tx, .int kn, .int rf, .int sp])), (tx, .inl (cT, 4, .inr (.inr (.inr (.inr fT))))), (r, .inl (cI, k, .inl f))] sz) [(hM, .inr (7, [.int 0, .ref tx, .int kn, .int rf, .int sp])), (tx, .inl (cT, 4, .inr (.inr (.inr (.inr fT))))), (r, .inl (cI, k, .inl f))]) (va_A [(hM, .inr (7, [.int th, .ref tx, .int kn, .int rf, .int sp])), (tx, .inl (cT, 4, .inr (.inr (.inr (.inr fT))))), (r, .inl (cI, k, .inl f))] sz)) (6 * k) (k * (140 + 4 * k)) (va_A [(hM, .inr (7, [.int th, .ref tx, .int kn, .int rf, .int sp])), (tx, .inl (cT, 4, .inr (.inr (.inr (.inr fT))))), (r, .inl (cI, k, .inl f))] sz) := by
  refine Met.ofW (cc := cX3_text) (maxL := 2) (ret := (some (.object "java/lang/String"))) (by decide) rfl ?_
  intro p e s m args below meth c s₁ B hml hv
  obtain ⟨rfl, hsz, hP, hK, hD0, hZ, hC, hQ⟩ := hv
  have hx := B.exec
  have hb := B.bytes
  have hr := B.returns
  have hts := atoms_spec (ws := wsX3_text) B.pre
  have hown : s.vm.findClass RX3 = some m.cls := findClass_of_methodNamed B.named
  have hlocks := B.notSynchronized
  subst hsz
  have hD := hD0.self (sz := s.heap.size)
  generalize hAe : va_A [(hM, .inr (7, [.int th, .ref tx, .int kn, .int rf, .int sp])), (tx, .inl (cT, 4, .inr (.inr (.inr (.inr fT))))), (r, .inl (cI, k, .inl f))] s.heap.size = A at hD hZ hQ ⊢
  have hA : ∀ q : Nat, s.heap.size ≤ q → A q := fun q h => by rw [← hAe]; exact Or.inr h
  have hS : va_S A s.heap s.heap [] := va_S.rf
  have hP : va_P (dC, dI) vwCl [(hM, .inr (7, [.int th, .ref tx, .int kn, .int rf, .int sp])), (tx, .inl (cT, 4, .inr (.inr (.inr (.inr fT))))), (r, .inl (cI, k, .inl f))] s.heap := hP
  have hl := lv_entry ([.ref hM, .int (nI j)]) (n := 2) (Nat.le_of_ble_eq_true rfl)
  rw [lg_entry_eq]
  generalize (lg_sl ([.ref hM, .int (nI j)]) ++ List.replicate (2 - (lg_sl ([.ref hM, .int (nI j)])).length) Slot.unset).toArray = ls at hl ⊢
  have hl : lv_has ls 2 [(0, .ref hM), (1, .int (nI j))] := hl
  refine lv_aload_n hx hb dX3_text_0 rfl (lv_at hl 0 rfl) ?_
  refine lv_iload_n hx hb dX3_text_1 rfl (lv_at hl 1 rfl) ?_
  have hPc := hP.sub (ws' := []) [] rfl
  have hDc := hD.sub (ws' := []) [] (by decide) rfl
  have hKc := hK.sub (tys' := []) [] rfl
  have hFc := va_free (wc := []) hD hS hA [] rfl
  refine va_calli (va_runS (As := [.int (nI j)]) (rest := [.ref hM]) ⟨hx, hb, hml, hown, hts⟩ (kX3_isNone l dC dI s.heap.size (nI j)) (va_cwS 1 hts gX3_text_X3_isNone rfl rfl rfl (by decide +kernel) ⟨Nat.le_of_ble_eq_true rfl, Nat.le_of_ble_eq_true rfl⟩) ⟨fun a U g mk q => by obtain ⟨q0, q1, qP, qK, qD⟩ := q; exact ⟨q0, q1, qP, va_K.moved (u := U) (U := U.calling g mk a) (Vm.Alike.refl U.vm) qK, qD⟩, fun U hU hW => ⟨rfl, by rw [hU], by rw [hU]; exact hPc, va_K.moved hW.alike hKc, hDc.weaken (fun _ _ _ _ => trivial)⟩⟩ rfl rfl hl.1 rfl (lv_room (Nat.le_of_ble_eq_true rfl)) dX3_text_2 ⟨(by show 0 + 0 ≤ (6 * k); omega), (by show 0 + 0 ≤ (k * (140 + 4 * k)); omega)⟩) hS (fun q _ h => hFc q h) hFc (fun r_191 u t H1 locs ht hvm hno hB hz1 hk1 hS => ?_)
  try dsimp only at hB
  try dsimp only at hno
  obtain ⟨hP1, hK1, hD1⟩ := hB
  rw [ht] at hP1
  have hK1 := va_K.moved hvm.symm hK1
  obtain ⟨hP, hD⟩ := va_join (wr := [(hM, .inr (7, [.int th, .ref tx, .int kn, .int rf, .int sp])), (tx, .inl (cT, 4, .inr (.inr (.inr (.inr fT))))), (r, .inl (cI, k, .inl f))]) (w1 := []) hP hD [] [0, 1, 2] rfl rfl (by decide) (by decide) hk1 hFc hP1 hD1
  have hK := (hK.sub (tys' := [(cT, .array .int), (cI, .int)]) [0, 1] rfl).app hK1
  generalize H1 = H at hP hS ⊢
  have hP : va_P (dC, dI) vwCl [(hM, .inr (7, [.int th, .ref tx, .int kn, .int rf, .int sp])), (tx, .inl (cT, 4, .inr (.inr (.inr (.inr fT))))), (r, .inl (cI, k, .inl f))] H := hP
  have hD : va_D A [(hM, .inr (7, [.int th, .ref tx, .int kn, .int rf, .int sp])), (tx, .inl (cT, 4, .inr (.inr (.inr (.inr fT))))), (r, .inl (cI, k, .inl f))] := hD
  have hK : va_K (dC, dI) vwCl [(cT, .array .int), (cI, .int)] s := hK
  have e0 : r_191 = 0 := by
    rcases hno with q | q
    · exact q.1
    · exact absurd ⟨nI_pos' (by omega), (show nI j ≤ nI 3 from nI_le (by omega) (by omega))⟩ q.2
  subst e0
  refine lv_iconst (v := 1) hx hb dX3_text_5 (by decide) ?_
  have hPc := hP.sub (ws' := [(hM, .inr (7, [.int th, .ref tx, .int kn, .int rf, .int sp]))]) [0] rfl
  have hDc := hD.sub (ws' := [(hM, .inr (7, [.int th, .ref tx, .int kn, .int rf, .int sp]))]) [0] (by decide) rfl
  have hKc := hK.sub (tys' := []) [] rfl
  have hFc := va_free (wc := [(hM, .inr (7, [.int th, .ref tx, .int kn, .int rf, .int sp]))]) hD hS hA [0] rfl
  refine va_calli (va_runV (As := [.int 0, .int 1]) (rest := []) ⟨hx, hb, hml, hown, hts⟩ (kX3_start l dC dI H.size hM tx th kn rf sp 0 1) (cwV 2 hts gX3_text_X3_start rfl rfl rfl (by decide +kernel) ⟨Nat.le_of_ble_eq_true rfl, Nat.le_of_ble_eq_true rfl⟩) ⟨fun a U g mk q => by obtain ⟨q0, q1, qP, qK, qD⟩ := q; exact ⟨q0, q1, qP, va_K.moved (u := U) (U := U.calling g mk a) (Vm.Alike.refl U.vm) qK, qD⟩, va_recv hKc hPc (ci := 7) (q0 := 0) rfl rfl, fun U hU hW => ⟨rfl, by rw [hU], by rw [hU]; exact hPc, va_K.moved hW.alike hKc, hDc.weaken (fun _ _ _ _ => trivial)⟩⟩ rfl rfl hl.1 rfl (lv_room (Nat.le_of_ble_eq_true rfl)) dX3_text_6 ⟨(by show 0 + 0 + 0 ≤ (6 * k); omega), (by show 0 + 0 + 0 ≤ (k * (140 + 4 * k)); omega)⟩) hS (fun q _ h => hFc q h) hFc (fun r_192 t2 t H1 locs ht hvm hst hB hz1 hk1 hS => ?_)
  try dsimp only at hB
  try dsimp only at hst
  obtain ⟨hP1, hK1, hD1⟩ := hB
  rw [ht] at hP1
  have hK1 := va_K.moved hvm.symm hK1
  obtain ⟨hP, hD⟩ := va_join (wr := [(tx, .inl (cT, 4, .inr (.inr (.inr (.inr fT))))), (r, .inl (cI, k, .inl f))]) (w1 := [(hM, .inr (7, [.int t2, .ref tx, .int kn, .int rf, .int sp]))]) hP hD [0] [1, 2] rfl rfl (by decide) (by decide) hk1 hFc hP1 hD1
  have hK := (hK.sub (tys' := [(cT, .array .int), (cI, .int)]) [0, 1] rfl).app hK1
  generalize H1 = H at hP hS ⊢
  have hP : va_P (dC, dI) vwCl [(tx, .inl (cT, 4, .inr (.inr (.inr (.inr fT))))), (r, .inl (cI, k, .inl f)), (hM, .inr (7, [.int t2, .ref tx, .int kn, .int rf, .int sp]))] H := hP
  have hD : va_D A [(tx, .inl (cT, 4, .inr (.inr (.inr (.inr fT))))), (r, .inl (cI, k, .inl f)), (hM, .inr (7, [.int t2, .ref tx, .int kn, .int rf, .int sp]))] := hD
  have hK : va_K (dC, dI) vwCl [(cT, .array .int), (cI, .int)] s := hK
  obtain ⟨et2, er⟩ := hst
  have et3 : t2 = 0 := et2
  subst et3
  refine lv_if_eq (tgt := 17) hx hb dX3_text_9 (by decide) (fun c_193 => ?_) (fun c_193 => absurd (by rw [er]; decide) c_193)
  refine lv_aload_n hx hb dX3_text_17 rfl (lv_at hl 0 rfl) ?_
  refine va_get (D := (dC, dI)) (ci := 7) (v := .ref tx) (C := RX3) (T := TX3) (N := 5) hx hb hts (by decide +kernel) hown hK hP 2 rfl rfl 1 (by decide) (hts (.fieldLink RX3 11 "SignropeModel" "texts" "[[I") (by decide +kernel)) (fun _ h9 => h9) rfl dX3_text_18 ?_
  refine lv_iload_n hx hb dX3_text_21 rfl (lv_at hl 1 rfl) ?_
  have hin_194 : vp_in (nI j) 4 := vp_in_nI hj (by omega)
  refine va_aldA hx hb hK hP 0 0 rfl rfl hin_194 dX3_text_22 ?_
  rw [show fT (nI j).toNatClampNeg = some r from (by rw [nI_clamp (by omega)]; exact hT)]
  have hS0 := hS
  have hPc := hP.sub (ws' := [(r, .inl (cI, k, .inl f))]) [1] rfl
  have hDc := hD.sub (ws' := [(r, .inl (cI, k, .inl f))]) [1] (by decide) rfl
  have hKc := hK.sub (tys' := [(cI, .int)]) [1] rfl
  have hFc := va_free (wc := [(r, .inl (cI, k, .inl f))]) hD hS hA [1] rfl
  refine va_callr (va_runS (As := [.ref r]) (rest := []) ⟨hx, hb, hml, hown, hts⟩ (kX3_told l dC dI H.size r cI k f tc q0 v0 b0 (by omega) hf hb00) (va_cwS 1 hts gX3_text_X3_told rfl rfl rfl (by decide +kernel) ⟨Nat.le_of_ble_eq_true rfl, Nat.le_of_ble_eq_true rfl⟩) ⟨fun a U g mk q => by obtain ⟨q0, q1, qP, qK, qD, qE0, qE1, qE2⟩ := q; exact ⟨q0, q1, qP, va_K.moved (u := U) (U := U.calling g mk a) (Vm.Alike.refl U.vm) qK, qD, jz.call qE0, kc.call qE1, rs.call qE2⟩, fun U hU hW => ⟨rfl, by rw [hU], by rw [hU]; exact hPc, va_K.moved hW.alike hKc, hDc.weaken (fun _ _ _ _ => trivial), jz.pass hZ hS hFc hW hU, kc.pass hC hW, rs.pass hQ hS hFc hW hU⟩⟩ rfl rfl hl.1 rfl (lv_room (Nat.le_of_ble_eq_true rfl)) dX3_text_23 ⟨(by show 0 + 0 + 0 + (6 * k) ≤ (6 * k); omega), (by show 0 + 0 + 0 + (k * (140 + 4 * k)) ≤ (k * (140 + 4 * k)); omega)⟩) hS (fun q _ h => hFc q h) hFc (fun u r_195 t H1 locs ht hvm hg hB hz1 hk1 hS => ?_)
  obtain ⟨v2, g⟩ := u
  try dsimp only at hB
  try dsimp only at hg
  obtain ⟨⟨hM9, hmd⟩, hP1, hK1, hD1⟩ := hB
  rw [ht] at hP1
  have hK1 := va_K.moved hvm.symm hK1
  obtain ⟨hP, hD⟩ := va_join (wr := [(tx, .inl (cT, 4, .inr (.inr (.inr (.inr fT))))), (hM, .inr (7, [.int 0, .ref tx, .int kn, .int rf, .int sp]))]) (w1 := [(r, .inl (cI, k, .inl f))]) hP hD [1] [0, 2] rfl rfl (by decide) (by decide) hk1 hFc hP1 hD1
  have hK := (hK.sub (tys' := [(cT, .array .int)]) [0] rfl).app hK1
  rw [ht] at hmd
  have hM8 := rs.at hM9 hvm ht
  have hmd := hmd.mono hS0.1
  generalize H1 = H at hP hS hM8 hmd ⊢
  have hP : va_P (dC, dI) vwCl [(tx, .inl (cT, 4, .inr (.inr (.inr (.inr fT))))), (hM, .inr (7, [.int 0, .ref tx, .int kn, .int rf, .int sp])), (r, .inl (cI, k, .inl f))] H := hP
  have hD : va_D A [(tx, .inl (cT, 4, .inr (.inr (.inr (.inr fT))))), (hM, .inr (7, [.int 0, .ref tx, .int kn, .int rf, .int sp])), (r, .inl (cI, k, .inl f))] := hD
  have hK : va_K (dC, dI) vwCl [(cT, .array .int), (cI, .int)] s := hK
  have hP9 := hP.sub (ws' := [(hM, .inr (7, [.int 0, .ref tx, .int kn, .int rf, .int sp])), (tx, .inl (cT, 4, .inr (.inr (.inr (.inr fT))))), (r, .inl (cI, k, .inl f))]) [1, 0, 2] rfl
  have hD9 := hD.sub (ws' := [(hM, .inr (7, [.int 0, .ref tx, .int kn, .int rf, .int sp])), (tx, .inl (cT, 4, .inr (.inr (.inr (.inr fT))))), (r, .inl (cI, k, .inl f))]) [1, 0, 2] (by decide) rfl
  have hK9 := hK.sub (tys' := [(cT, .array .int), (cI, .int)]) [0, 1] rfl
  refine W.widen (k := 6 * k) (n := k * (140 + 4 * k)) (by omega) (by omega) ?_
  exact W.aret (v := .ref r_195) hx hb hr (Or.inl ⟨_, rfl⟩) (Or.inr ⟨_, rfl⟩) (fun t ht hW => ⟨⟨(v2, g), r_195, rfl, hg, ⟨by rw [ht]; exact rs.moved hW.alike hM8, by rw [ht]; exact hmd⟩, by rw [ht]; exact hP9, va_K.moved hW.alike hK9, hD9⟩, hS.F ht⟩) hS.2.2 dX3_text_26
