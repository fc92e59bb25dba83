/-! String's members over a text that is only read (rs), and append(String) of such a text. -/
set_option maxHeartbeats 4000000 in
set_option maxRecDepth 100000 in
/-- String.coder() of a text that is only read -/
theorem rJ0_coder_7d493 (l : Launch) (dC : Nat → ClassId) (dI : Nat → Nat → Nat) (sz : Nat) (h2 v2 w : Nat) (b : Nat → Int32) : Met l yJ0_coder_7d493 wsJ0_coder_7d493 ({ frames := 0, cells := 0, slots := 0, locals := 0 }) (va_Pc [.ref h2] (fun U => U.heap.size = sz ∧ va_P (dC, dI) vwCl [] U.heap ∧ va_K (dC, dI) vwCl [] U ∧ va_D (fun _ => True) [] ∧ jz (va_A [] sz) U U.heap ∧ rs h2 v2 w b (va_A [] sz) U U.heap)) (va_Qi (fun (r : Int32) (u : Unit) => r = 0) (fun (u : Unit) (t : State) => va_P (dC, dI) vwCl [] t.heap ∧ va_K (dC, dI) vwCl [] t ∧ va_D (va_A [] sz) []) (va_A [] sz)) 0 0 (va_A [] sz) := by
  refine Met.ofW (cc := cJ0_coder_7d493) (maxL := 1) (ret := (some .byte)) (by decide) rfl ?_
  intro p e s m args below meth c s₁ B hml hv
  obtain ⟨rfl, hsz, hP, hK, hD0, hZ, hQ⟩ := hv
  have hx := B.exec
  have hb := B.bytes
  have hr := B.returns
  have hts := atoms_spec (ws := wsJ0_coder_7d493) B.pre
  have hown : s.vm.findClass RJ0 = some m.cls := findClass_of_methodNamed B.named
  have hlocks := B.notSynchronized
  subst hsz
  have hD := hD0.self (sz := s.heap.size)
  generalize hAe : va_A [] s.heap.size = A at hD hZ hQ ⊢
  have hA : ∀ q : Nat, s.heap.size ≤ q → A q := fun q h => by rw [← hAe]; exact Or.inr h
  have hS : va_S A s.heap s.heap [] := va_S.rf
  have hP : va_P (dC, dI) vwCl [] s.heap := hP
  have hl := lv_entry ([.ref h2]) (n := 1) (Nat.le_of_ble_eq_true rfl)
  rw [lg_entry_eq]
  generalize (lg_sl ([.ref h2]) ++ List.replicate (1 - (lg_sl ([.ref h2])).length) Slot.unset).toArray = ls at hl ⊢
  have hl : lv_has ls 1 [(0, .ref h2)] := hl
  refine va_gets (C := "java/lang/String") (n := "COMPACT_STRINGS") (d := "Z") (v := .int 1) hx hb hZ.1 hS hown (hts (.fieldLink RJ0 38 "java/lang/String" "COMPACT_STRINGS" "Z") (by decide +kernel)) (fun _ h9 => h9) dJ0_coder_7d493_0 ?_
  refine lv_if_eq (tgt := 13) hx hb dJ0_coder_7d493_3 (by decide) (fun c_81 => absurd c_81 (by decide)) (fun c_81 => ?_)
  refine lv_aload_n hx hb dJ0_coder_7d493_6 rfl (lv_at hl 0 rfl) ?_
  refine vk_getf hx hb hQ.2.1 hS hown (hts (.fieldLink RJ0 15 "java/lang/String" "coder" "B") (by decide +kernel)) (fun _ h9 => h9) dJ0_coder_7d493_7 ?_
  refine lv_goto (tgt := 14) hx hb dJ0_coder_7d493_10 (by decide) ?_
  have hP9 := hP.sub (ws' := []) [] rfl
  have hD9 := hD.sub (ws' := []) [] (by decide) rfl
  have hK9 := hK.sub (tys' := []) [] rfl
  exact W.zret (v := 0) hx hb hr rfl (fun t ht hW => ⟨⟨0, (), rfl, rfl, by rw [ht]; exact hP9, va_K.moved hW.alike hK9, hD9⟩, hS.F ht⟩) hS.2.2 dJ0_coder_7d493_14
set_option maxHeartbeats 4000000 in
set_option maxRecDepth 100000 in
/-- String.length() of a text that is only read -/
theorem rJ0_length_8abf5 (l : Launch) (dC : Nat → ClassId) (dI : Nat → Nat → Nat) (sz : Nat) (h2 v2 w : Nat) (b : Nat → Int32) (hw : w ≤ 65536) : Met l yJ0_length_8abf5 wsJ0_length_8abf5 ({ frames := 1, cells := 0, slots := 0, locals := 20 }) (va_Pc [.ref h2] (fun U => U.heap.size = sz ∧ va_P (dC, dI) vwCl [] U.heap ∧ va_K (dC, dI) vwCl [] U ∧ va_D (fun _ => True) [] ∧ jz (va_A [] sz) U U.heap ∧ rs h2 v2 w b (va_A [] sz) U U.heap)) (va_Qi (fun (r : Int32) (u : Unit) => r = nI w) (fun (u : Unit) (t : State) => va_P (dC, dI) vwCl [] t.heap ∧ va_K (dC, dI) vwCl [] t ∧ va_D (va_A [] sz) []) (va_A [] sz)) 0 0 (va_A [] sz) := by
  refine Met.ofW (cc := cJ0_length_8abf5) (maxL := 1) (ret := (some .int)) (by decide) rfl ?_
  intro p e s m args below meth c s₁ B hml hv
  obtain ⟨rfl, hsz, hP, hK, hD0, hZ, hQ⟩ := hv
  have hx := B.exec
  have hb := B.bytes
  have hr := B.returns
  have hts := atoms_spec (ws := wsJ0_length_8abf5) B.pre
  have hown : s.vm.findClass RJ0 = some m.cls := findClass_of_methodNamed B.named
  have hlocks := B.notSynchronized
  subst hsz
  have hD := hD0.self (sz := s.heap.size)
  generalize hAe : va_A [] s.heap.size = A at hD hZ hQ ⊢
  have hA : ∀ q : Nat, s.heap.size ≤ q → A q := fun q h => by rw [← hAe]; exact Or.inr h
  have hS : va_S A s.heap s.heap [] := va_S.rf
  have hP : va_P (dC, dI) vwCl [] s.heap := hP
  have hl := lv_entry ([.ref h2]) (n := 1) (Nat.le_of_ble_eq_true rfl)
  rw [lg_entry_eq]
  generalize (lg_sl ([.ref h2]) ++ List.replicate (1 - (lg_sl ([.ref h2])).length) Slot.unset).toArray = ls at hl ⊢
  have hl : lv_has ls 1 [(0, .ref h2)] := hl
  refine lv_aload_n hx hb dJ0_length_8abf5_0 rfl (lv_at hl 0 rfl) ?_
  refine vk_getf hx hb hQ.2.2.1 hS hown (hts (.fieldLink RJ0 9 "java/lang/String" "value" "[B") (by decide +kernel)) (fun _ h9 => h9) dJ0_length_8abf5_1 ?_
  refine va_tlen hx hb hQ.2.2.2 hS (v := nI w) rfl dJ0_length_8abf5_4 ?_
  refine lv_aload_n hx hb dJ0_length_8abf5_5 rfl (lv_at hl 0 rfl) ?_
  have hPc := hP.sub (ws' := []) [] rfl
  have hDc := hD.sub (ws' := []) [] (by decide) rfl
  have hKc := hK.sub (tys' := []) [] rfl
  have hFc := va_free (wc := []) hD hS hA [] rfl
  refine va_calli (va_runV (As := []) (rest := [.int (nI w)]) ⟨hx, hb, hml, hown, hts⟩ (rJ0_coder_7d493 l dC dI s.heap.size h2 v2 w b) (cwV 0 hts gJ0_length_8abf5_J0_coder_7d493 rfl rfl rfl (by decide +kernel) ⟨Nat.le_of_ble_eq_true rfl, Nat.le_of_ble_eq_true rfl⟩) ⟨fun a U g mk q => by obtain ⟨q0, q1, qP, qK, qD, qE0, qE1⟩ := q; exact ⟨q0, q1, qP, va_K.moved (u := U) (U := U.calling g mk a) (Vm.Alike.refl U.vm) qK, qD, jz.call qE0, rs.call qE1⟩, rs.recv hQ hS, fun U hU hW => ⟨rfl, by rw [hU], by rw [hU]; exact hPc, va_K.moved hW.alike hKc, hDc.weaken (fun _ _ _ _ => trivial), jz.pass hZ hS hFc hW hU, rs.pass hQ hS hFc hW hU⟩⟩ rfl rfl hl.1 rfl (lv_room (Nat.le_of_ble_eq_true rfl)) dJ0_length_8abf5_6 ⟨(by show 0 + 0 ≤ 0; omega), (by show 0 + 0 ≤ 0; omega)⟩) hS (fun q _ h => hFc q h) hFc (fun r_82 u t H1 locs ht hvm hc0 hB hz1 hk1 hS => ?_)
  try dsimp only at hB
  try dsimp only at hc0
  obtain ⟨hP1, hK1, hD1⟩ := hB
  rw [ht] at hP1
  have hK1 := va_K.moved hvm.symm hK1
  obtain ⟨hP, hD⟩ := va_join (wr := []) (w1 := []) hP hD [] [] rfl rfl (by decide) (by decide) hk1 hFc hP1 hD1
  have hK := (hK.sub (tys' := []) [] rfl).app hK1
  generalize H1 = H at hP hS ⊢
  have hP : va_P (dC, dI) vwCl [] H := hP
  have hD : va_D A [] := hD
  have hK : va_K (dC, dI) vwCl [] s := hK
  refine lv_ishr hx hb dJ0_length_8abf5_9 ?_
  refine lv_topi (fun x_83 ex_83 => ?_)
  have er : x_83 = nI w := by rw [ex_83, hc0]; exact sb_shr0 (nI w)
  have hP9 := hP.sub (ws' := []) [] rfl
  have hD9 := hD.sub (ws' := []) [] (by decide) rfl
  have hK9 := hK.sub (tys' := []) [] rfl
  refine W.widen (k := 0) (n := 0) (by omega) (by omega) ?_
  exact W.iret (v := x_83) hx hb hr (fun t ht hW => ⟨⟨x_83, (), rfl, er, by rw [ht]; exact hP9, va_K.moved hW.alike hK9, hD9⟩, hS.F ht⟩) hS.2.2 dJ0_length_8abf5_10
set_option maxHeartbeats 4000000 in
set_option maxRecDepth 100000 in
/-- AbstractStringBuilder.inflateIfNeededFor, both Latin-1 -/
theorem rJ5_inflateIfNeededFor_a7421 (l : Launch) (dC : Nat → ClassId) (dI : Nat → Nat → Nat) (sz : Nat) (h v : Nat) (ml x : Int32) (h2 v2 w : Nat) (b : Nat → Int32) : Met l yJ5_inflateIfNeededFor_a7421 wsJ5_inflateIfNeededFor_a7421 ({ frames := 1, cells := 0, slots := 0, locals := 20 }) (va_Pc [.ref h, .ref h2] (fun U => U.heap.size = sz ∧ va_P (dC, dI) vwCl [(h, .inr (1, [.ref v, .int 0, .int ml, .int x]))] U.heap ∧ va_K (dC, dI) vwCl [] U ∧ va_D (fun _ => True) [(h, .inr (1, [.ref v, .int 0, .int ml, .int x]))] ∧ jz (va_A [(h, .inr (1, [.ref v, .int 0, .int ml, .int x]))] sz) U U.heap ∧ rs h2 v2 w b (va_A [(h, .inr (1, [.ref v, .int 0, .int ml, .int x]))] sz) U U.heap)) (va_Qv (fun (u : Unit) => True) (fun (u : Unit) (t : State) => va_P (dC, dI) vwCl [(h, .inr (1, [.ref v, .int 0, .int ml, .int x]))] t.heap ∧ va_K (dC, dI) vwCl [] t ∧ va_D (va_A [(h, .inr (1, [.ref v, .int 0, .int ml, .int x]))] sz) [(h, .inr (1, [.ref v, .int 0, .int ml, .int x]))]) (va_A [(h, .inr (1, [.ref v, .int 0, .int ml, .int x]))] sz)) 0 0 (va_A [(h, .inr (1, [.ref v, .int 0, .int ml, .int x]))] sz) := by
  refine Met.ofW (cc := cJ5_inflateIfNeededFor_a7421) (maxL := 2) (ret := none) (by decide) rfl ?_
  intro p e s m args below meth c s₁ B hml hv
  obtain ⟨rfl, hsz, hP, hK, hD0, hZ, hQ⟩ := hv
  have hx := B.exec
  have hb := B.bytes
  have hr := B.returns
  have hts := atoms_spec (ws := wsJ5_inflateIfNeededFor_a7421) B.pre
  have hown : s.vm.findClass RJ5 = some m.cls := findClass_of_methodNamed B.named
  have hlocks := B.notSynchronized
  subst hsz
  have hD := hD0.self (sz := s.heap.size)
  generalize hAe : va_A [(h, .inr (1, [.ref v, .int 0, .int ml, .int x]))] s.heap.size = A at hD hZ hQ ⊢
  have hA : ∀ q : Nat, s.heap.size ≤ q → A q := fun q h => by rw [← hAe]; exact Or.inr h
  have hS : va_S A s.heap s.heap [] := va_S.rf
  have hP : va_P (dC, dI) vwCl [(h, .inr (1, [.ref v, .int 0, .int ml, .int x]))] s.heap := hP
  have hl := lv_entry ([.ref h, .ref h2]) (n := 2) (Nat.le_of_ble_eq_true rfl)
  rw [lg_entry_eq]
  generalize (lg_sl ([.ref h, .ref h2]) ++ List.replicate (2 - (lg_sl ([.ref h, .ref h2])).length) Slot.unset).toArray = ls at hl ⊢
  have hl : lv_has ls 2 [(0, .ref h), (1, .ref h2)] := hl
  refine va_gets (C := "java/lang/String") (n := "COMPACT_STRINGS") (d := "Z") (v := .int 1) hx hb hZ.1 hS hown (hts (.fieldLink RJ5 18 "java/lang/String" "COMPACT_STRINGS" "Z") (by decide +kernel)) (fun _ h9 => h9) dJ5_inflateIfNeededFor_a7421_0 ?_
  refine lv_if_eq (tgt := 21) hx hb dJ5_inflateIfNeededFor_a7421_3 (by decide) (fun c_84 => absurd c_84 (by decide)) (fun c_84 => ?_)
  refine lv_aload_n hx hb dJ5_inflateIfNeededFor_a7421_6 rfl (lv_at hl 0 rfl) ?_
  refine va_get (D := (dC, dI)) (ci := 1) (v := .int 0) (C := RJ4) (T := TJ4) (N := 4) hx hb hts (by decide +kernel) hown hK hP 0 rfl rfl 1 (by decide) (hts (.fieldLink RJ5 22 "java/lang/AbstractStringBuilder" "coder" "B") (by decide +kernel)) (fun _ h9 => h9) rfl dJ5_inflateIfNeededFor_a7421_7 ?_
  refine lv_aload_n hx hb dJ5_inflateIfNeededFor_a7421_10 rfl (lv_at hl 1 rfl) ?_
  have hPc := hP.sub (ws' := []) [] rfl
  have hDc := hD.sub (ws' := []) [] (by decide) rfl
  have hKc := hK.sub (tys' := []) [] rfl
  have hFc := va_free (wc := []) hD hS hA [] rfl
  refine va_calli (va_runV (As := []) (rest := [.int 0]) ⟨hx, hb, hml, hown, hts⟩ (rJ0_coder_7d493 l dC dI s.heap.size h2 v2 w b) (cwV 0 hts gJ5_inflateIfNeededFor_a7421_J0_coder_7d493 rfl rfl rfl (by decide +kernel) ⟨Nat.le_of_ble_eq_true rfl, Nat.le_of_ble_eq_true rfl⟩) ⟨fun a U g mk q => by obtain ⟨q0, q1, qP, qK, qD, qE0, qE1⟩ := q; exact ⟨q0, q1, qP, va_K.moved (u := U) (U := U.calling g mk a) (Vm.Alike.refl U.vm) qK, qD, jz.call qE0, rs.call qE1⟩, rs.recv hQ hS, fun U hU hW => ⟨rfl, by rw [hU], by rw [hU]; exact hPc, va_K.moved hW.alike hKc, hDc.weaken (fun _ _ _ _ => trivial), jz.pass hZ hS hFc hW hU, rs.pass hQ hS hFc hW hU⟩⟩ rfl rfl hl.1 rfl (lv_room (Nat.le_of_ble_eq_true rfl)) dJ5_inflateIfNeededFor_a7421_11 ⟨(by show 0 + 0 ≤ 0; omega), (by show 0 + 0 ≤ 0; omega)⟩) hS (fun q _ h => hFc q h) hFc (fun r_85 u t H1 locs ht hvm hcd hB hz1 hk1 hS => ?_)
  try dsimp only at hB
  try dsimp only at hcd
  obtain ⟨hP1, hK1, hD1⟩ := hB
  rw [ht] at hP1
  have hK1 := va_K.moved hvm.symm hK1
  obtain ⟨hP, hD⟩ := va_join (wr := [(h, .inr (1, [.ref v, .int 0, .int ml, .int x]))]) (w1 := []) hP hD [] [0] rfl rfl (by decide) (by decide) hk1 hFc hP1 hD1
  have hK := (hK.sub (tys' := []) [] rfl).app hK1
  generalize H1 = H at hP hS ⊢
  have hP : va_P (dC, dI) vwCl [(h, .inr (1, [.ref v, .int 0, .int ml, .int x]))] H := hP
  have hD : va_D A [(h, .inr (1, [.ref v, .int 0, .int ml, .int x]))] := hD
  have hK : va_K (dC, dI) vwCl [] s := hK
  refine lv_icmp_eq (tgt := 21) hx hb dJ5_inflateIfNeededFor_a7421_14 (by decide) (fun c_86 => ?_) (fun c_86 => absurd (hcd.symm) c_86)
  have hP9 := hP.sub (ws' := [(h, .inr (1, [.ref v, .int 0, .int ml, .int x]))]) [0] rfl
  have hD9 := hD.sub (ws' := [(h, .inr (1, [.ref v, .int 0, .int ml, .int x]))]) [0] (by decide) rfl
  have hK9 := hK.sub (tys' := []) [] rfl
  refine W.widen (k := 0) (n := 0) (by omega) (by omega) ?_
  exact W.vret hx hb hr (fun t ht hW => ⟨⟨(), rfl, trivial, by rw [ht]; exact hP9, va_K.moved hW.alike hK9, hD9⟩, hS.F ht⟩) hS.2.2 dJ5_inflateIfNeededFor_a7421_21
set_option maxHeartbeats 4000000 in
set_option maxRecDepth 100000 in
/-- String.getBytes(d, o, 0), a Latin-1 text -/
theorem rJ0_getBytes_840e7 (l : Launch) (dC : Nat → ClassId) (dI : Nat → Nat → Nat) (sz : Nat) (h2 v2 w : Nat) (b : Nat → Int32) (d : Nat) (cB : ClassId) (cp : Nat) (f : Nat → Int32) (o : Nat) (ho : o + w ≤ cp) (hm : cp ≤ 262144) (hb0 : sb_Fit b) (hf : sb_Fit f) : Met l yJ0_getBytes_840e7 wsJ0_getBytes_840e7 ({ frames := 1, cells := 0, slots := 0, locals := 60 }) (va_Pc [.ref h2, .ref d, .int (nI o), .int 0] (fun U => U.heap.size = sz ∧ va_P (dC, dI) vwCl [(d, .inl (cB, cp, .inl f))] U.heap ∧ va_K (dC, dI) vwCl [(cB, .byte)] U ∧ va_D (fun _ => True) [(d, .inl (cB, cp, .inl f))] ∧ jz (va_A [(d, .inl (cB, cp, .inl f))] sz) U U.heap ∧ rs h2 v2 w b (va_A [(d, .inl (cB, cp, .inl f))] sz) U U.heap)) (va_Qv (fun (u : Nat → Int32) => match u with | g => g = va_cpy b f 0 o w) (fun (u : Nat → Int32) (t : State) => match u with | g => va_P (dC, dI) vwCl [(d, .inl (cB, cp, .inl g))] t.heap ∧ va_K (dC, dI) vwCl [(cB, .byte)] t ∧ va_D (va_A [(d, .inl (cB, cp, .inl f))] sz) [(d, .inl (cB, cp, .inl g))]) (va_A [(d, .inl (cB, cp, .inl f))] sz)) 0 0 (va_A [(d, .inl (cB, cp, .inl f))] sz) := by
  refine Met.ofW (cc := cJ0_getBytes_840e7) (maxL := 4) (ret := none) (by decide) rfl ?_
  intro p e s m args below meth c s₁ B hml hv
  obtain ⟨rfl, hsz, hP, hK, hD0, hZ, hQ⟩ := hv
  have hx := B.exec
  have hb := B.bytes
  have hr := B.returns
  have hts := atoms_spec (ws := wsJ0_getBytes_840e7) B.pre
  have hown : s.vm.findClass RJ0 = some m.cls := findClass_of_methodNamed B.named
  have hlocks := B.notSynchronized
  subst hsz
  have hD := hD0.self (sz := s.heap.size)
  generalize hAe : va_A [(d, .inl (cB, cp, .inl f))] s.heap.size = A at hD hZ hQ ⊢
  have hA : ∀ q : Nat, s.heap.size ≤ q → A q := fun q h => by rw [← hAe]; exact Or.inr h
  have hS : va_S A s.heap s.heap [] := va_S.rf
  have hP : va_P (dC, dI) vwCl [(d, .inl (cB, cp, .inl f))] s.heap := hP
  have hl := lv_entry ([.ref h2, .ref d, .int (nI o), .int 0]) (n := 4) (Nat.le_of_ble_eq_true rfl)
  rw [lg_entry_eq]
  generalize (lg_sl ([.ref h2, .ref d, .int (nI o), .int 0]) ++ List.replicate (4 - (lg_sl ([.ref h2, .ref d, .int (nI o), .int 0])).length) Slot.unset).toArray = ls at hl ⊢
  have hl : lv_has ls 4 [(0, .ref h2), (1, .ref d), (2, .int (nI o)), (3, .int 0)] := hl
  refine lv_aload_n hx hb dJ0_getBytes_840e7_0 rfl (lv_at hl 0 rfl) ?_
  have hPc := hP.sub (ws' := []) [] rfl
  have hDc := hD.sub (ws' := []) [] (by decide) rfl
  have hKc := hK.sub (tys' := []) [] rfl
  have hFc := va_free (wc := []) hD hS hA [] rfl
  refine va_calli (va_runV (As := []) (rest := []) ⟨hx, hb, hml, hown, hts⟩ (rJ0_coder_7d493 l dC dI s.heap.size h2 v2 w b) (cwV 0 hts gJ0_getBytes_840e7_J0_coder_7d493 rfl rfl rfl (by decide +kernel) ⟨Nat.le_of_ble_eq_true rfl, Nat.le_of_ble_eq_true rfl⟩) ⟨fun a U g mk q => by obtain ⟨q0, q1, qP, qK, qD, qE0, qE1⟩ := q; exact ⟨q0, q1, qP, va_K.moved (u := U) (U := U.calling g mk a) (Vm.Alike.refl U.vm) qK, qD, jz.call qE0, rs.call qE1⟩, rs.recv hQ hS, fun U hU hW => ⟨rfl, by rw [hU], by rw [hU]; exact hPc, va_K.moved hW.alike hKc, hDc.weaken (fun _ _ _ _ => trivial), jz.pass hZ hS hFc hW hU, rs.pass hQ hS hFc hW hU⟩⟩ rfl rfl hl.1 rfl (lv_room (Nat.le_of_ble_eq_true rfl)) dJ0_getBytes_840e7_1 ⟨(by show 0 + 0 ≤ 0; omega), (by show 0 + 0 ≤ 0; omega)⟩) hS (fun q _ h => hFc q h) hFc (fun r_87 u t H1 locs ht hvm hcd hB hz1 hk1 hS => ?_)
  try dsimp only at hB
  try dsimp only at hcd
  obtain ⟨hP1, hK1, hD1⟩ := hB
  rw [ht] at hP1
  have hK1 := va_K.moved hvm.symm hK1
  obtain ⟨hP, hD⟩ := va_join (wr := [(d, .inl (cB, cp, .inl f))]) (w1 := []) hP hD [] [0] rfl rfl (by decide) (by decide) hk1 hFc hP1 hD1
  have hK := (hK.sub (tys' := [(cB, .byte)]) [0] rfl).app hK1
  generalize H1 = H at hP hS ⊢
  have hP : va_P (dC, dI) vwCl [(d, .inl (cB, cp, .inl f))] H := hP
  have hD : va_D A [(d, .inl (cB, cp, .inl f))] := hD
  have hK : va_K (dC, dI) vwCl [(cB, .byte)] s := hK
  refine lv_iload_n hx hb dJ0_getBytes_840e7_4 rfl (lv_at hl 3 rfl) ?_
  refine lv_icmp_ne (tgt := 28) hx hb dJ0_getBytes_840e7_5 (by decide) (fun c_88 => absurd c_88 (fun e => e hcd)) (fun c_88 => ?_)
  refine lv_aload_n hx hb dJ0_getBytes_840e7_8 rfl (lv_at hl 0 rfl) ?_
  refine vk_getf hx hb hQ.2.2.1 hS hown (hts (.fieldLink RJ0 9 "java/lang/String" "value" "[B") (by decide +kernel)) (fun _ h9 => h9) dJ0_getBytes_840e7_9 ?_
  refine lv_iconst (v := 0) hx hb dJ0_getBytes_840e7_12 (by decide) ?_
  refine lv_aload_n hx hb dJ0_getBytes_840e7_13 rfl (lv_at hl 1 rfl) ?_
  refine lv_iload_n hx hb dJ0_getBytes_840e7_14 rfl (lv_at hl 2 rfl) ?_
  refine lv_iload_n hx hb dJ0_getBytes_840e7_15 rfl (lv_at hl 3 rfl) ?_
  refine lv_ishl hx hb dJ0_getBytes_840e7_16 ?_
  refine lv_topi (fun x_89 ex_89 => ?_)
  refine lv_aload_n hx hb dJ0_getBytes_840e7_17 rfl (lv_at hl 0 rfl) ?_
  refine vk_getf hx hb hQ.2.2.1 hS hown (hts (.fieldLink RJ0 9 "java/lang/String" "value" "[B") (by decide +kernel)) (fun _ h9 => h9) dJ0_getBytes_840e7_18 ?_
  refine va_tlen hx hb hQ.2.2.2 hS (v := nI w) rfl dJ0_getBytes_840e7_21 ?_
  have eo : x_89 = nI o := by rw [ex_89]; exact sb_shl0 _
  rw [eo]
  refine vk_copyt (f := b) (sp := nI 0) (dp := nI o) (n := nI w) hx hb (by rw [hml]; exact hl.1.symm) hown (hts (.methodLink RJ0 212 arraycopyName) (by decide +kernel)) (hts (.native arraycopyName) (by decide +kernel)) (hts (.static arraycopyName) (by decide +kernel)) (hts (.initialized "java/lang/System") (by decide +kernel)) hK hP hD hS hQ.2.2.2 0 0 rfl rfl (nI_pos (by omega)) (nI_pos (by omega)) (nI_pos (by omega)) (cl_le (by omega) (by omega) (by omega)) (cl_le (by omega) (by omega) (by omega)) (fun i hi => hb0 _) (Nat.le_of_ble_eq_true rfl) (Nat.le_of_ble_eq_true rfl) dJ0_getBytes_840e7_22 (fun H locs hP hD hS => ?_)
  rw [cp_cl (a := 0) (b := o) (c := w) (by omega) (by omega) (by omega)] at hP hD
  obtain ⟨f_90, ef_90⟩ : ∃ z, z = va_cpy b f 0 o w := ⟨_, rfl⟩
  have hP : va_P (dC, dI) vwCl [(d, .inl (cB, cp, .inl f_90))] H := by rw [ef_90]; exact hP
  have hD : va_D A [(d, .inl (cB, cp, .inl f_90))] := by rw [ef_90]; exact hD
  refine lv_goto (tgt := 43) hx hb dJ0_getBytes_840e7_25 (by decide) ?_
  have hP9 := hP.sub (ws' := [(d, .inl (cB, cp, .inl f_90))]) [0] rfl
  have hD9 := hD.sub (ws' := [(d, .inl (cB, cp, .inl f_90))]) [0] (by decide) rfl
  have hK9 := hK.sub (tys' := [(cB, .byte)]) [0] rfl
  refine W.widen (k := 0) (n := 0) (by omega) (by omega) ?_
  exact W.vret hx hb hr (fun t ht hW => ⟨⟨f_90, rfl, ef_90, by rw [ht]; exact hP9, va_K.moved hW.alike hK9, hD9⟩, hS.F ht⟩) hS.2.2 dJ0_getBytes_840e7_43
set_option maxHeartbeats 4000000 in
set_option maxRecDepth 100000 in
/-- AbstractStringBuilder.putStringAt(o, a text) -/
theorem rJ5_putStringAt_47b60 (l : Launch) (dC : Nat → ClassId) (dI : Nat → Nat → Nat) (sz : Nat) (h v : Nat) (ml x : Int32) (h2 v2 w : Nat) (b : Nat → Int32) (cB : ClassId) (cp : Nat) (f : Nat → Int32) (o : Nat) (ho : o + w ≤ cp) (hm : cp ≤ 262144) (hb0 : sb_Fit b) (hf : sb_Fit f) : Met l yJ5_putStringAt_47b60 wsJ5_putStringAt_47b60 ({ frames := 2, cells := 0, slots := 0, locals := 83 }) (va_Pc [.ref h, .int (nI o), .ref h2] (fun U => U.heap.size = sz ∧ va_P (dC, dI) vwCl [(h, .inr (1, [.ref v, .int 0, .int ml, .int x])), (v, .inl (cB, cp, .inl f))] U.heap ∧ va_K (dC, dI) vwCl [(cB, .byte)] U ∧ va_D (fun _ => True) [(h, .inr (1, [.ref v, .int 0, .int ml, .int x])), (v, .inl (cB, cp, .inl f))] ∧ jz (va_A [(h, .inr (1, [.ref v, .int 0, .int ml, .int x])), (v, .inl (cB, cp, .inl f))] sz) U U.heap ∧ rs h2 v2 w b (va_A [(h, .inr (1, [.ref v, .int 0, .int ml, .int x])), (v, .inl (cB, cp, .inl f))] sz) U U.heap)) (va_Qv (fun (u : Nat → Int32) => match u with | g => g = va_cpy b f 0 o w) (fun (u : Nat → Int32) (t : State) => match u with | g => va_P (dC, dI) vwCl [(h, .inr (1, [.ref v, .int 0, .int ml, .int x])), (v, .inl (cB, cp, .inl g))] t.heap ∧ va_K (dC, dI) vwCl [(cB, .byte)] t ∧ va_D (va_A [(h, .inr (1, [.ref v, .int 0, .int ml, .int x])), (v, .inl (cB, cp, .inl f))] sz) [(h, .inr (1, [.ref v, .int 0, .int ml, .int x])), (v, .inl (cB, cp, .inl g))]) (va_A [(h, .inr (1, [.ref v, .int 0, .int ml, .int x])), (v, .inl (cB, cp, .inl f))] sz)) 0 0 (va_A [(h, .inr (1, [.ref v, .int 0, .int ml, .int x])), (v, .inl (cB, cp, .inl f))] sz) := by
  refine Met.ofW (cc := cJ5_putStringAt_47b60) (maxL := 3) (ret := none) (by decide) rfl ?_
  intro p e s m args below meth c s₁ B hml hv
  obtain ⟨rfl, hsz, hP, hK, hD0, hZ, hQ⟩ := hv
  have hx := B.exec
  have hb := B.bytes
  have hr := B.returns
  have hts := atoms_spec (ws := wsJ5_putStringAt_47b60) B.pre
  have hown : s.vm.findClass RJ5 = some m.cls := findClass_of_methodNamed B.named
  have hlocks := B.notSynchronized
  subst hsz
  have hD := hD0.self (sz := s.heap.size)
  generalize hAe : va_A [(h, .inr (1, [.ref v, .int 0, .int ml, .int x])), (v, .inl (cB, cp, .inl f))] s.heap.size = A at hD hZ hQ ⊢
  have hA : ∀ q : Nat, s.heap.size ≤ q → A q := fun q h => by rw [← hAe]; exact Or.inr h
  have hS : va_S A s.heap s.heap [] := va_S.rf
  have hP : va_P (dC, dI) vwCl [(h, .inr (1, [.ref v, .int 0, .int ml, .int x])), (v, .inl (cB, cp, .inl f))] s.heap := hP
  have hl := lv_entry ([.ref h, .int (nI o), .ref h2]) (n := 3) (Nat.le_of_ble_eq_true rfl)
  rw [lg_entry_eq]
  generalize (lg_sl ([.ref h, .int (nI o), .ref h2]) ++ List.replicate (3 - (lg_sl ([.ref h, .int (nI o), .ref h2])).length) Slot.unset).toArray = ls at hl ⊢
  have hl : lv_has ls 3 [(0, .ref h), (1, .int (nI o)), (2, .ref h2)] := hl
  refine lv_aload_n hx hb dJ5_putStringAt_47b60_0 rfl (lv_at hl 0 rfl) ?_
  refine lv_aload_n hx hb dJ5_putStringAt_47b60_1 rfl (lv_at hl 2 rfl) ?_
  have hPc := hP.sub (ws' := [(h, .inr (1, [.ref v, .int 0, .int ml, .int x]))]) [0] rfl
  have hDc := hD.sub (ws' := [(h, .inr (1, [.ref v, .int 0, .int ml, .int x]))]) [0] (by decide) rfl
  have hKc := hK.sub (tys' := []) [] rfl
  have hFc := va_free (wc := [(h, .inr (1, [.ref v, .int 0, .int ml, .int x]))]) hD hS hA [0] rfl
  refine va_callv (va_runU (As := [.ref h2]) (rest := []) ⟨hx, hb, hml, hown, hts⟩ (rJ5_inflateIfNeededFor_a7421 l dC dI s.heap.size h v ml x h2 v2 w b) (va_cwU 1 hts gJ5_putStringAt_47b60_J5_inflateIfNeededFor_a7421_u397J4 rfl rfl rfl rfl (by decide +kernel) ⟨Nat.le_of_ble_eq_true rfl, Nat.le_of_ble_eq_true rfl⟩) ⟨fun a U g mk q => by obtain ⟨q0, q1, qP, qK, qD, qE0, qE1⟩ := q; exact ⟨q0, q1, qP, va_K.moved (u := U) (U := U.calling g mk a) (Vm.Alike.refl U.vm) qK, qD, jz.call qE0, rs.call qE1⟩, va_recv hKc hPc (ci := 1) (q0 := 0) rfl rfl, fun U hU hW => ⟨rfl, by rw [hU], by rw [hU]; exact hPc, va_K.moved hW.alike hKc, hDc.weaken (fun _ _ _ _ => trivial), jz.pass hZ hS hFc hW hU, rs.pass hQ hS hFc hW hU⟩⟩ rfl rfl hl.1 rfl (lv_room (Nat.le_of_ble_eq_true rfl)) dJ5_putStringAt_47b60_2 ⟨(by show 0 + 0 ≤ 0; omega), (by show 0 + 0 ≤ 0; omega)⟩) hS (fun q _ h => hFc q h) hFc (fun u t H1 locs ht hvm hw_91 hB hz1 hk1 hS => ?_)
  try dsimp only at hB
  try dsimp only at hw_91
  obtain ⟨hP1, hK1, hD1⟩ := hB
  rw [ht] at hP1
  have hK1 := va_K.moved hvm.symm hK1
  obtain ⟨hP, hD⟩ := va_join (wr := [(v, .inl (cB, cp, .inl f))]) (w1 := [(h, .inr (1, [.ref v, .int 0, .int ml, .int x]))]) hP hD [0] [1] rfl rfl (by decide) (by decide) hk1 hFc hP1 hD1
  have hK := (hK.sub (tys' := [(cB, .byte)]) [0] rfl).app hK1
  generalize H1 = H at hP hS ⊢
  have hP : va_P (dC, dI) vwCl [(v, .inl (cB, cp, .inl f)), (h, .inr (1, [.ref v, .int 0, .int ml, .int x]))] H := hP
  have hD : va_D A [(v, .inl (cB, cp, .inl f)), (h, .inr (1, [.ref v, .int 0, .int ml, .int x]))] := hD
  have hK : va_K (dC, dI) vwCl [(cB, .byte)] s := hK
  refine lv_aload_n hx hb dJ5_putStringAt_47b60_5 rfl (lv_at hl 2 rfl) ?_
  refine lv_aload_n hx hb dJ5_putStringAt_47b60_6 rfl (lv_at hl 0 rfl) ?_
  refine va_get (D := (dC, dI)) (ci := 1) (v := .ref v) (C := RJ4) (T := TJ4) (N := 4) hx hb hts (by decide +kernel) hown hK hP 1 rfl rfl 0 (by decide) (hts (.fieldLink RJ5 15 "java/lang/AbstractStringBuilder" "value" "[B") (by decide +kernel)) (fun _ h9 => h9) rfl dJ5_putStringAt_47b60_7 ?_
  refine lv_iload_n hx hb dJ5_putStringAt_47b60_10 rfl (lv_at hl 1 rfl) ?_
  refine lv_aload_n hx hb dJ5_putStringAt_47b60_11 rfl (lv_at hl 0 rfl) ?_
  refine va_get (D := (dC, dI)) (ci := 1) (v := .int 0) (C := RJ4) (T := TJ4) (N := 4) hx hb hts (by decide +kernel) hown hK hP 1 rfl rfl 1 (by decide) (hts (.fieldLink RJ5 22 "java/lang/AbstractStringBuilder" "coder" "B") (by decide +kernel)) (fun _ h9 => h9) rfl dJ5_putStringAt_47b60_12 ?_
  have hPc := hP.sub (ws' := [(v, .inl (cB, cp, .inl f))]) [0] rfl
  have hDc := hD.sub (ws' := [(v, .inl (cB, cp, .inl f))]) [0] (by decide) rfl
  have hKc := hK.sub (tys' := [(cB, .byte)]) [0] rfl
  have hFc := va_free (wc := [(v, .inl (cB, cp, .inl f))]) hD hS hA [0] rfl
  refine va_callv (va_runV (As := [.ref v, .int (nI o), .int 0]) (rest := []) ⟨hx, hb, hml, hown, hts⟩ (rJ0_getBytes_840e7 l dC dI H.size h2 v2 w b v cB cp f o ho hm hb0 hf) (cwV 3 hts gJ5_putStringAt_47b60_J0_getBytes_840e7 rfl rfl rfl (by decide +kernel) ⟨Nat.le_of_ble_eq_true rfl, Nat.le_of_ble_eq_true rfl⟩) ⟨fun a U g mk q => by obtain ⟨q0, q1, qP, qK, qD, qE0, qE1⟩ := q; exact ⟨q0, q1, qP, va_K.moved (u := U) (U := U.calling g mk a) (Vm.Alike.refl U.vm) qK, qD, jz.call qE0, rs.call qE1⟩, rs.recv hQ hS, fun U hU hW => ⟨rfl, by rw [hU], by rw [hU]; exact hPc, va_K.moved hW.alike hKc, hDc.weaken (fun _ _ _ _ => trivial), jz.pass hZ hS hFc hW hU, rs.pass hQ hS hFc hW hU⟩⟩ rfl rfl hl.1 rfl (lv_room (Nat.le_of_ble_eq_true rfl)) dJ5_putStringAt_47b60_15 ⟨(by show 0 + 0 + 0 ≤ 0; omega), (by show 0 + 0 + 0 ≤ 0; omega)⟩) hS (fun q _ h => hFc q h) hFc (fun g t H1 locs ht hvm hg hB hz1 hk1 hS => ?_)
  try dsimp only at hB
  try dsimp only at hg
  obtain ⟨hP1, hK1, hD1⟩ := hB
  rw [ht] at hP1
  have hK1 := va_K.moved hvm.symm hK1
  obtain ⟨hP, hD⟩ := va_join (wr := [(h, .inr (1, [.ref v, .int 0, .int ml, .int x]))]) (w1 := [(v, .inl (cB, cp, .inl g))]) hP hD [0] [1] rfl rfl (by decide) (by decide) hk1 hFc hP1 hD1
  have hK := (hK.sub (tys' := []) [] rfl).app hK1
  generalize H1 = H at hP hS ⊢
  have hP : va_P (dC, dI) vwCl [(h, .inr (1, [.ref v, .int 0, .int ml, .int x])), (v, .inl (cB, cp, .inl g))] H := hP
  have hD : va_D A [(h, .inr (1, [.ref v, .int 0, .int ml, .int x])), (v, .inl (cB, cp, .inl g))] := hD
  have hK : va_K (dC, dI) vwCl [(cB, .byte)] s := hK
  have hP9 := hP.sub (ws' := [(h, .inr (1, [.ref v, .int 0, .int ml, .int x])), (v, .inl (cB, cp, .inl g))]) [0, 1] rfl
  have hD9 := hD.sub (ws' := [(h, .inr (1, [.ref v, .int 0, .int ml, .int x])), (v, .inl (cB, cp, .inl g))]) [0, 1] (by decide) rfl
  have hK9 := hK.sub (tys' := [(cB, .byte)]) [0] rfl
  refine W.widen (k := 0) (n := 0) (by omega) (by omega) ?_
  exact W.vret hx hb hr (fun t ht hW => ⟨⟨g, rfl, hg, by rw [ht]; exact hP9, va_K.moved hW.alike hK9, hD9⟩, hS.F ht⟩) hS.2.2 dJ5_putStringAt_47b60_18
set_option maxHeartbeats 4000000 in
set_option maxRecDepth 100000 in
/-- append(a text that is only read) -/
theorem rJ5_append_cf1ce (l : Launch) (dC : Nat → ClassId) (dI : Nat → Nat → Nat) (sz : Nat) (h v : Nat) (ml : Int32) (h2 v2 w : Nat) (b : Nat → Int32) (cB : ClassId) (n cp : Nat) (f : Nat → Int32) (hn : n ≤ cp) (hm : cp ≤ 262144) (hw0 : n + w ≤ 65536) (hb0 : sb_Fit b) (hf : sb_Fit f) : Met l yJ5_append_cf1ce wsJ5_append_cf1ce ({ frames := 4, cells := 1, slots := capn (n + w) cp, locals := 105 }) (va_Pc [.ref h, .ref h2] (fun U => U.heap.size = sz ∧ va_P (dC, dI) vwCl [(h, .inr (1, [.ref v, .int 0, .int ml, .int (nI n)])), (v, .inl (cB, cp, .inl f))] U.heap ∧ va_K (dC, dI) vwCl [(cB, .byte)] U ∧ va_D (fun _ => True) [(h, .inr (1, [.ref v, .int 0, .int ml, .int (nI n)])), (v, .inl (cB, cp, .inl f))] ∧ jz (va_A [(h, .inr (1, [.ref v, .int 0, .int ml, .int (nI n)])), (v, .inl (cB, cp, .inl f))] sz) U U.heap ∧ rs h2 v2 w b (va_A [(h, .inr (1, [.ref v, .int 0, .int ml, .int (nI n)])), (v, .inl (cB, cp, .inl f))] sz) U U.heap)) (va_Qr (fun (u : Nat × ClassId × Nat × (Nat → Int32)) => match u with | (v3, cA, m2, g) => (sb_Fit g ∧ (∀ j, j < n → g j = f j) ∧ ∀ j, j < w → g (n + j) = b j) ∧ n + w ≤ m2 ∧ m2 ≤ 262144 ∧ ((m2 = cp ∧ n + w ≤ cp) ∨ (m2 = capn (n + w) cp ∧ cp < n + w))) (fun (u : Nat × ClassId × Nat × (Nat → Int32)) (ra : Nat) (t : State) => match u with | (v3, cA, m2, g) => (ra = h ∧ (v3 = v ∨ sz ≤ v3)) ∧ va_P (dC, dI) vwCl [(h, .inr (1, [.ref v3, .int 0, .int ml, .int (nI (n + w))])), (v3, .inl (cA, m2, .inl g))] t.heap ∧ va_K (dC, dI) vwCl [(cA, .byte)] t ∧ va_D (va_A [(h, .inr (1, [.ref v, .int 0, .int ml, .int (nI n)])), (v, .inl (cB, cp, .inl f))] sz) [(h, .inr (1, [.ref v3, .int 0, .int ml, .int (nI (n + w))])), (v3, .inl (cA, m2, .inl g))]) (va_A [(h, .inr (1, [.ref v, .int 0, .int ml, .int (nI n)])), (v, .inl (cB, cp, .inl f))] sz)) 1 (capn (n + w) cp) (va_A [(h, .inr (1, [.ref v, .int 0, .int ml, .int (nI n)])), (v, .inl (cB, cp, .inl f))] sz) := by
  refine Met.ofW (cc := cJ5_append_cf1ce) (maxL := 3) (ret := (some (.object "java/lang/AbstractStringBuilder"))) (by decide) rfl ?_
  intro p e s m args below meth c s₁ B hml hv
  obtain ⟨rfl, hsz, hP, hK, hD0, hZ, hQ⟩ := hv
  have hx := B.exec
  have hb := B.bytes
  have hr := B.returns
  have hts := atoms_spec (ws := wsJ5_append_cf1ce) B.pre
  have hown : s.vm.findClass RJ5 = some m.cls := findClass_of_methodNamed B.named
  have hlocks := B.notSynchronized
  subst hsz
  have hD := hD0.self (sz := s.heap.size)
  generalize hAe : va_A [(h, .inr (1, [.ref v, .int 0, .int ml, .int (nI n)])), (v, .inl (cB, cp, .inl f))] s.heap.size = A at hD hZ hQ ⊢
  have hA : ∀ q : Nat, s.heap.size ≤ q → A q := fun q h => by rw [← hAe]; exact Or.inr h
  have hS : va_S A s.heap s.heap [] := va_S.rf
  have hP : va_P (dC, dI) vwCl [(h, .inr (1, [.ref v, .int 0, .int ml, .int (nI n)])), (v, .inl (cB, cp, .inl f))] s.heap := hP
  have hl := lv_entry ([.ref h, .ref h2]) (n := 3) (Nat.le_of_ble_eq_true rfl)
  rw [lg_entry_eq]
  generalize (lg_sl ([.ref h, .ref h2]) ++ List.replicate (3 - (lg_sl ([.ref h, .ref h2])).length) Slot.unset).toArray = ls at hl ⊢
  have hl : lv_has ls 3 [(0, .ref h), (1, .ref h2)] := hl
  refine lv_aload_n hx hb dJ5_append_cf1ce_0 rfl (lv_at hl 1 rfl) ?_
  refine lv_ifnonnull (tgt := 9) hx hb dJ5_append_cf1ce_1 (by decide) ?_
  refine lv_aload_n hx hb dJ5_append_cf1ce_9 rfl (lv_at hl 1 rfl) ?_
  have hPc := hP.sub (ws' := []) [] rfl
  have hDc := hD.sub (ws' := []) [] (by decide) rfl
  have hKc := hK.sub (tys' := []) [] rfl
  have hFc := va_free (wc := []) hD hS hA [] rfl
  refine va_calli (va_runV (As := []) (rest := []) ⟨hx, hb, hml, hown, hts⟩ (rJ0_length_8abf5 l dC dI s.heap.size h2 v2 w b (by omega)) (cwV 0 hts gJ5_append_cf1ce_J0_length_8abf5 rfl rfl rfl (by decide +kernel) ⟨Nat.le_of_ble_eq_true rfl, Nat.le_of_ble_eq_true rfl⟩) ⟨fun a U g mk q => by obtain ⟨q0, q1, qP, qK, qD, qE0, qE1⟩ := q; exact ⟨q0, q1, qP, va_K.moved (u := U) (U := U.calling g mk a) (Vm.Alike.refl U.vm) qK, qD, jz.call qE0, rs.call qE1⟩, rs.recv hQ hS, fun U hU hW => ⟨rfl, by rw [hU], by rw [hU]; exact hPc, va_K.moved hW.alike hKc, hDc.weaken (fun _ _ _ _ => trivial), jz.pass hZ hS hFc hW hU, rs.pass hQ hS hFc hW hU⟩⟩ rfl rfl hl.1 rfl (lv_room (Nat.le_of_ble_eq_true rfl)) dJ5_append_cf1ce_10 ⟨(by show 0 + 0 ≤ 1; omega), (by show 0 + 0 ≤ (capn (n + w) cp); omega)⟩) hS (fun q _ h => hFc q h) hFc (fun r_94 u t H1 locs ht hvm hlen hB hz1 hk1 hS => ?_)
  try dsimp only at hB
  try dsimp only at hlen
  obtain ⟨hP1, hK1, hD1⟩ := hB
  rw [ht] at hP1
  have hK1 := va_K.moved hvm.symm hK1
  obtain ⟨hP, hD⟩ := va_join (wr := [(h, .inr (1, [.ref v, .int 0, .int ml, .int (nI n)])), (v, .inl (cB, cp, .inl f))]) (w1 := []) hP hD [] [0, 1] rfl rfl (by decide) (by decide) hk1 hFc hP1 hD1
  have hK := (hK.sub (tys' := [(cB, .byte)]) [0] rfl).app hK1
  generalize H1 = H at hP hS ⊢
  have hP : va_P (dC, dI) vwCl [(h, .inr (1, [.ref v, .int 0, .int ml, .int (nI n)])), (v, .inl (cB, cp, .inl f))] H := hP
  have hD : va_D A [(h, .inr (1, [.ref v, .int 0, .int ml, .int (nI n)])), (v, .inl (cB, cp, .inl f))] := hD
  have hK : va_K (dC, dI) vwCl [(cB, .byte)] s := hK
  subst hlen
  refine lv_istore_n (lv' := [(2, .int (nI w)), (0, .ref h), (1, .ref h2)]) hx hb dJ5_append_cf1ce_13 rfl hl (by decide) rfl (fun ls hl => ?_)
  refine lv_aload_n hx hb dJ5_append_cf1ce_14 rfl (lv_at hl 1 rfl) ?_
  refine lv_aload_n hx hb dJ5_append_cf1ce_15 rfl (lv_at hl 1 rfl) ?_
  refine va_get (D := (dC, dI)) (ci := 1) (v := .int (nI n)) (C := RJ4) (T := TJ4) (N := 4) hx hb hts (by decide +kernel) hown hK hP 0 rfl rfl 3 (by decide) (hts (.fieldLink RJ5 79 "java/lang/AbstractStringBuilder" "count" "I") (by decide +kernel)) (fun _ h9 => h9) rfl dJ5_append_cf1ce_16 ?_
  refine lv_iload_n hx hb dJ5_append_cf1ce_19 rfl (lv_at hl 0 rfl) ?_
  refine lv_iadd hx hb dJ5_append_cf1ce_20 ?_
  refine lv_topi (fun x_95 ex_95 => ?_)
  have ek : x_95 = nI (n + w) := by rw [ex_95]; exact nI_add n w
  rw [ek]
  have hS0 := hS
  have hPc := hP.sub (ws' := [(h, .inr (1, [.ref v, .int 0, .int ml, .int (nI n)])), (v, .inl (cB, cp, .inl f))]) [0, 1] rfl
  have hDc := hD.sub (ws' := [(h, .inr (1, [.ref v, .int 0, .int ml, .int (nI n)])), (v, .inl (cB, cp, .inl f))]) [0, 1] (by decide) rfl
  have hKc := hK.sub (tys' := [(cB, .byte)]) [0] rfl
  have hFc := va_free (wc := [(h, .inr (1, [.ref v, .int 0, .int ml, .int (nI n)])), (v, .inl (cB, cp, .inl f))]) hD hS hA [0, 1] rfl
  refine va_callv (va_runU (As := [.int (nI (n + w))]) (rest := []) ⟨hx, hb, hml, hown, hts⟩ (kJ5_ensureCapacityInternal_d00df l dC dI H.size h v ml (nI n) cB cp f (n + w) hm hw0 hf) (va_cwU 1 hts gJ5_append_cf1ce_J5_ensureCapacityInternal_d00df_u100J4 rfl rfl rfl rfl (by decide +kernel) ⟨Nat.le_of_ble_eq_true rfl, Nat.le_of_ble_eq_true rfl⟩) ⟨fun a U g mk q => by obtain ⟨q0, q1, qP, qK, qD, qE0⟩ := q; exact ⟨q0, q1, qP, va_K.moved (u := U) (U := U.calling g mk a) (Vm.Alike.refl U.vm) qK, qD, jz.call qE0⟩, va_recv hKc hPc (ci := 1) (q0 := 0) rfl rfl, fun U hU hW => ⟨rfl, by rw [hU], by rw [hU]; exact hPc, va_K.moved hW.alike hKc, hDc.weaken (fun _ _ _ _ => trivial), jz.pass hZ hS hFc hW hU⟩⟩ rfl rfl hl.1 rfl (lv_room (Nat.le_of_ble_eq_true rfl)) dJ5_append_cf1ce_21 ⟨(by show 0 + 0 + 1 ≤ 1; omega), (by show 0 + 0 + (capn (n + w) cp) ≤ (capn (n + w) cp); omega)⟩) hS (fun q _ h => hFc q h) hFc (fun u t H1 locs ht hvm hen hB hz1 hk1 hS => ?_)
  obtain ⟨v3, cA, m2, g⟩ := u
  try dsimp only at hB
  try dsimp only at hen
  obtain ⟨hv3, hP1, hK1, hD1⟩ := hB
  rw [ht] at hP1
  have hK1 := va_K.moved hvm.symm hK1
  obtain ⟨hP, hD⟩ := va_join (wr := []) (w1 := [(h, .inr (1, [.ref v3, .int 0, .int ml, .int (nI n)])), (v3, .inl (cA, m2, .inl g))]) hP hD [0, 1] [] rfl rfl (by decide) (by decide) hk1 hFc hP1 hD1
  have hK := (hK.sub (tys' := []) [] rfl).app hK1
  generalize H1 = H at hP hS ⊢
  have hP : va_P (dC, dI) vwCl [(h, .inr (1, [.ref v3, .int 0, .int ml, .int (nI n)])), (v3, .inl (cA, m2, .inl g))] H := hP
  have hD : va_D A [(h, .inr (1, [.ref v3, .int 0, .int ml, .int (nI n)])), (v3, .inl (cA, m2, .inl g))] := hD
  have hK : va_K (dC, dI) vwCl [(cA, .byte)] s := hK
  have hv3 : v3 = v ∨ s.heap.size ≤ v3 := hv3.imp id (fun q => Nat.le_trans hS0.1 q)
  obtain ⟨⟨hgf, hgk⟩, hcap⟩ := hen
  have hm2 : n + w ≤ m2 ∧ m2 ≤ 262144 := by rcases hcap with ⟨e, q⟩ | ⟨e, q⟩ <;> subst e <;> (try unfold capn) <;> (try split) <;> omega
  refine lv_aload_n hx hb dJ5_append_cf1ce_24 rfl (lv_at hl 1 rfl) ?_
  refine lv_aload_n hx hb dJ5_append_cf1ce_25 rfl (lv_at hl 1 rfl) ?_
  refine va_get (D := (dC, dI)) (ci := 1) (v := .int (nI n)) (C := RJ4) (T := TJ4) (N := 4) hx hb hts (by decide +kernel) hown hK hP 0 rfl rfl 3 (by decide) (hts (.fieldLink RJ5 79 "java/lang/AbstractStringBuilder" "count" "I") (by decide +kernel)) (fun _ h9 => h9) rfl dJ5_append_cf1ce_26 ?_
  refine lv_aload_n hx hb dJ5_append_cf1ce_29 rfl (lv_at hl 2 rfl) ?_
  have hPc := hP.sub (ws' := [(h, .inr (1, [.ref v3, .int 0, .int ml, .int (nI n)])), (v3, .inl (cA, m2, .inl g))]) [0, 1] rfl
  have hDc := hD.sub (ws' := [(h, .inr (1, [.ref v3, .int 0, .int ml, .int (nI n)])), (v3, .inl (cA, m2, .inl g))]) [0, 1] (by decide) rfl
  have hKc := hK.sub (tys' := [(cA, .byte)]) [0] rfl
  have hFc := va_free (wc := [(h, .inr (1, [.ref v3, .int 0, .int ml, .int (nI n)])), (v3, .inl (cA, m2, .inl g))]) hD hS hA [0, 1] rfl
  refine va_callv (va_runU (As := [.int (nI n), .ref h2]) (rest := []) ⟨hx, hb, hml, hown, hts⟩ (rJ5_putStringAt_47b60 l dC dI H.size h v3 ml (nI n) h2 v2 w b cA m2 g n hm2.1 hm2.2 hb0 hgf) (va_cwU 2 hts gJ5_append_cf1ce_J5_putStringAt_47b60_u208J4 rfl rfl rfl rfl (by decide +kernel) ⟨Nat.le_of_ble_eq_true rfl, Nat.le_of_ble_eq_true rfl⟩) ⟨fun a U g mk q => by obtain ⟨q0, q1, qP, qK, qD, qE0, qE1⟩ := q; exact ⟨q0, q1, qP, va_K.moved (u := U) (U := U.calling g mk a) (Vm.Alike.refl U.vm) qK, qD, jz.call qE0, rs.call qE1⟩, va_recv hKc hPc (ci := 1) (q0 := 0) rfl rfl, fun U hU hW => ⟨rfl, by rw [hU], by rw [hU]; exact hPc, va_K.moved hW.alike hKc, hDc.weaken (fun _ _ _ _ => trivial), jz.pass hZ hS hFc hW hU, rs.pass hQ hS hFc hW hU⟩⟩ rfl rfl hl.1 rfl (lv_room (Nat.le_of_ble_eq_true rfl)) dJ5_append_cf1ce_30 ⟨(by show 0 + 0 + 1 + 0 ≤ 1; omega), (by show 0 + 0 + (capn (n + w) cp) + 0 ≤ (capn (n + w) cp); omega)⟩) hS (fun q _ h => hFc q h) hFc (fun g2 t H1 locs ht hvm hg2 hB hz1 hk1 hS => ?_)
  try dsimp only at hB
  try dsimp only at hg2
  obtain ⟨hP1, hK1, hD1⟩ := hB
  rw [ht] at hP1
  have hK1 := va_K.moved hvm.symm hK1
  obtain ⟨hP, hD⟩ := va_join (wr := []) (w1 := [(h, .inr (1, [.ref v3, .int 0, .int ml, .int (nI n)])), (v3, .inl (cA, m2, .inl g2))]) hP hD [0, 1] [] rfl rfl (by decide) (by decide) hk1 hFc hP1 hD1
  have hK := (hK.sub (tys' := []) [] rfl).app hK1
  generalize H1 = H at hP hS ⊢
  have hP : va_P (dC, dI) vwCl [(h, .inr (1, [.ref v3, .int 0, .int ml, .int (nI n)])), (v3, .inl (cA, m2, .inl g2))] H := hP
  have hD : va_D A [(h, .inr (1, [.ref v3, .int 0, .int ml, .int (nI n)])), (v3, .inl (cA, m2, .inl g2))] := hD
  have hK : va_K (dC, dI) vwCl [(cA, .byte)] s := hK
  have hg2 : sb_Fit g2 ∧ (∀ j, j < n → g2 j = f j) ∧ ∀ j, j < w → g2 (n + j) = b j := by
    refine ⟨by rw [hg2]; exact sb_fitC hb0 hgf, fun j hj => ?_, fun j hj => ?_⟩
    · rw [hg2, pk_cpy_out (by omega)]; exact hgk j (by omega)
    · rw [hg2, pk_cpy_in (by omega) (by omega)]; congr 1; omega
  refine lv_aload_n hx hb dJ5_append_cf1ce_33 rfl (lv_at hl 1 rfl) ?_
  refine lv_dup hx hb dJ5_append_cf1ce_34 rfl ?_
  refine va_get (D := (dC, dI)) (ci := 1) (v := .int (nI n)) (C := RJ4) (T := TJ4) (N := 4) hx hb hts (by decide +kernel) hown hK hP 0 rfl rfl 3 (by decide) (hts (.fieldLink RJ5 79 "java/lang/AbstractStringBuilder" "count" "I") (by decide +kernel)) (fun _ h9 => h9) rfl dJ5_append_cf1ce_35 ?_
  refine lv_iload_n hx hb dJ5_append_cf1ce_38 rfl (lv_at hl 0 rfl) ?_
  refine lv_iadd hx hb dJ5_append_cf1ce_39 ?_
  refine lv_topi (fun x_98 ex_98 => ?_)
  have ex : x_98 = nI (n + w) := by rw [ex_98]; exact nI_add n w
  rw [ex]
  refine va_put (D := (dC, dI)) (ci := 1) (v := .int (nI (n + w))) (ty := .int) (C := RJ4) (T := TJ4) (N := 4) hx hb hts (by decide +kernel) tyJ4 tyJ4_ok nmJ4 hown hK hP hD hS 0 rfl rfl 3 (by decide) (hts (.fieldLink RJ5 79 "java/lang/AbstractStringBuilder" "count" "I") (by decide +kernel)) (fun _ h9 => h9) rfl (by decide +kernel) rfl rfl (Nat.le_of_ble_eq_true rfl) dJ5_append_cf1ce_40 (fun H locs hP hD hS => ?_)
  have hP : va_P (dC, dI) vwCl [(h, .inr (1, [.ref v3, .int 0, .int ml, .int (nI (n + w))])), (v3, .inl (cA, m2, .inl g2))] H := hP
  have hD : va_D A [(h, .inr (1, [.ref v3, .int 0, .int ml, .int (nI (n + w))])), (v3, .inl (cA, m2, .inl g2))] := hD
  refine lv_aload_n hx hb dJ5_append_cf1ce_43 rfl (lv_at hl 1 rfl) ?_
  have hP9 := hP.sub (ws' := [(h, .inr (1, [.ref v3, .int 0, .int ml, .int (nI (n + w))])), (v3, .inl (cA, m2, .inl g2))]) [0, 1] rfl
  have hD9 := hD.sub (ws' := [(h, .inr (1, [.ref v3, .int 0, .int ml, .int (nI (n + w))])), (v3, .inl (cA, m2, .inl g2))]) [0, 1] (by decide) rfl
  have hK9 := hK.sub (tys' := [(cA, .byte)]) [0] rfl
  refine W.widen (k := 1) (n := capn (n + w) cp) (by omega) (by omega) ?_
  exact W.aret (v := .ref h) hx hb hr (Or.inl ⟨_, rfl⟩) (Or.inr ⟨_, rfl⟩) (fun t ht hW => ⟨⟨(v3, cA, m2, g2), h, rfl, ⟨hg2, hm2.1, hm2.2, hcap⟩, ⟨rfl, hv3⟩, by rw [ht]; exact hP9, va_K.moved hW.alike hK9, hD9⟩, hS.F ht⟩) hS.2.2 dJ5_append_cf1ce_44
set_option maxHeartbeats 4000000 in
set_option maxRecDepth 100000 in
/-- append(a text that is only read) -/
theorem rJ4_append_15ec4 (l : Launch) (dC : Nat → ClassId) (dI : Nat → Nat → Nat) (sz : Nat) (h v : Nat) (ml : Int32) (h2 v2 w : Nat) (b : Nat → Int32) (cB : ClassId) (n cp : Nat) (f : Nat → Int32) (hn : n ≤ cp) (hm : cp ≤ 262144) (hw0 : n + w ≤ 65536) (hb0 : sb_Fit b) (hf : sb_Fit f) : Met l yJ4_append_15ec4 wsJ4_append_15ec4 ({ frames := 5, cells := 1, slots := capn (n + w) cp, locals := 127 }) (va_Pc [.ref h, .ref h2] (fun U => U.heap.size = sz ∧ va_P (dC, dI) vwCl [(h, .inr (1, [.ref v, .int 0, .int ml, .int (nI n)])), (v, .inl (cB, cp, .inl f))] U.heap ∧ va_K (dC, dI) vwCl [(cB, .byte)] U ∧ va_D (fun _ => True) [(h, .inr (1, [.ref v, .int 0, .int ml, .int (nI n)])), (v, .inl (cB, cp, .inl f))] ∧ jz (va_A [(h, .inr (1, [.ref v, .int 0, .int ml, .int (nI n)])), (v, .inl (cB, cp, .inl f))] sz) U U.heap ∧ rs h2 v2 w b (va_A [(h, .inr (1, [.ref v, .int 0, .int ml, .int (nI n)])), (v, .inl (cB, cp, .inl f))] sz) U U.heap)) (va_Qr (fun (u : Nat × ClassId × Nat × (Nat → Int32)) => match u with | (v3, cA, m2, g) => (sb_Fit g ∧ (∀ j, j < n → g j = f j) ∧ ∀ j, j < w → g (n + j) = b j) ∧ n + w ≤ m2 ∧ m2 ≤ 262144 ∧ ((m2 = cp ∧ n + w ≤ cp) ∨ (m2 = capn (n + w) cp ∧ cp < n + w))) (fun (u : Nat × ClassId × Nat × (Nat → Int32)) (ra : Nat) (t : State) => match u with | (v3, cA, m2, g) => (ra = h ∧ (v3 = v ∨ sz ≤ v3)) ∧ va_P (dC, dI) vwCl [(h, .inr (1, [.ref v3, .int 0, .int ml, .int (nI (n + w))])), (v3, .inl (cA, m2, .inl g))] t.heap ∧ va_K (dC, dI) vwCl [(cA, .byte)] t ∧ va_D (va_A [(h, .inr (1, [.ref v, .int 0, .int ml, .int (nI n)])), (v, .inl (cB, cp, .inl f))] sz) [(h, .inr (1, [.ref v3, .int 0, .int ml, .int (nI (n + w))])), (v3, .inl (cA, m2, .inl g))]) (va_A [(h, .inr (1, [.ref v, .int 0, .int ml, .int (nI n)])), (v, .inl (cB, cp, .inl f))] sz)) 1 (capn (n + w) cp) (va_A [(h, .inr (1, [.ref v, .int 0, .int ml, .int (nI n)])), (v, .inl (cB, cp, .inl f))] sz) := by
  refine Met.ofW (cc := cJ4_append_15ec4) (maxL := 2) (ret := (some (.object "java/lang/StringBuilder"))) (by decide) rfl ?_
  intro p e s m args below meth c s₁ B hml hv
  obtain ⟨rfl, hsz, hP, hK, hD0, hZ, hQ⟩ := hv
  have hx := B.exec
  have hb := B.bytes
  have hr := B.returns
  have hts := atoms_spec (ws := wsJ4_append_15ec4) B.pre
  have hown : s.vm.findClass RJ4 = some m.cls := findClass_of_methodNamed B.named
  have hlocks := B.notSynchronized
  subst hsz
  have hD := hD0.self (sz := s.heap.size)
  generalize hAe : va_A [(h, .inr (1, [.ref v, .int 0, .int ml, .int (nI n)])), (v, .inl (cB, cp, .inl f))] s.heap.size = A at hD hZ hQ ⊢
  have hA : ∀ q : Nat, s.heap.size ≤ q → A q := fun q h => by rw [← hAe]; exact Or.inr h
  have hS : va_S A s.heap s.heap [] := va_S.rf
  have hP : va_P (dC, dI) vwCl [(h, .inr (1, [.ref v, .int 0, .int ml, .int (nI n)])), (v, .inl (cB, cp, .inl f))] s.heap := hP
  have hl := lv_entry ([.ref h, .ref h2]) (n := 2) (Nat.le_of_ble_eq_true rfl)
  rw [lg_entry_eq]
  generalize (lg_sl ([.ref h, .ref h2]) ++ List.replicate (2 - (lg_sl ([.ref h, .ref h2])).length) Slot.unset).toArray = ls at hl ⊢
  have hl : lv_has ls 2 [(0, .ref h), (1, .ref h2)] := hl
  refine lv_aload_n hx hb dJ4_append_15ec4_0 rfl (lv_at hl 0 rfl) ?_
  refine lv_aload_n hx hb dJ4_append_15ec4_1 rfl (lv_at hl 1 rfl) ?_
  have hS0 := hS
  have hPc := hP.sub (ws' := [(h, .inr (1, [.ref v, .int 0, .int ml, .int (nI n)])), (v, .inl (cB, cp, .inl f))]) [0, 1] rfl
  have hDc := hD.sub (ws' := [(h, .inr (1, [.ref v, .int 0, .int ml, .int (nI n)])), (v, .inl (cB, cp, .inl f))]) [0, 1] (by decide) rfl
  have hKc := hK.sub (tys' := [(cB, .byte)]) [0] rfl
  have hFc := va_free (wc := [(h, .inr (1, [.ref v, .int 0, .int ml, .int (nI n)])), (v, .inl (cB, cp, .inl f))]) hD hS hA [0, 1] rfl
  refine va_callr (va_runSU (As := [.ref h2]) (rest := []) (hK.1 1 _ rfl).2 ⟨hx, hb, hml, hown, hts⟩ (rJ5_append_cf1ce l dC dI s.heap.size h v ml h2 v2 w b cB n cp f hn hm hw0 hb0 hf) (va_cwSU 1 hts gJ4_append_15ec4_J5_append_cf1ce_s29 rfl rfl rfl (by decide +kernel) ⟨Nat.le_of_ble_eq_true rfl, Nat.le_of_ble_eq_true rfl⟩) ⟨fun a U g mk q => by obtain ⟨q0, q1, qP, qK, qD, qE0, qE1⟩ := q; exact ⟨q0, q1, qP, va_K.moved (u := U) (U := U.calling g mk a) (Vm.Alike.refl U.vm) qK, qD, jz.call qE0, rs.call qE1⟩, va_recv hKc hPc (ci := 1) (q0 := 0) rfl rfl, fun U hU hW => ⟨rfl, by rw [hU], by rw [hU]; exact hPc, va_K.moved hW.alike hKc, hDc.weaken (fun _ _ _ _ => trivial), jz.pass hZ hS hFc hW hU, rs.pass hQ hS hFc hW hU⟩⟩ rfl rfl hl.1 rfl (lv_room (Nat.le_of_ble_eq_true rfl)) dJ4_append_15ec4_2 ⟨(by show 0 + 1 ≤ 1; omega), (by show 0 + (capn (n + w) cp) ≤ (capn (n + w) cp); omega)⟩) hS (fun q _ h => hFc q h) hFc (fun u r_99 t H1 locs ht hvm hq hB hz1 hk1 hS => ?_)
  obtain ⟨v3, cA, m2, g2⟩ := u
  try dsimp only at hB
  try dsimp only at hq
  obtain ⟨⟨hra, hv3⟩, hP1, hK1, hD1⟩ := hB
  rw [ht] at hP1
  have hK1 := va_K.moved hvm.symm hK1
  obtain ⟨hP, hD⟩ := va_join (wr := []) (w1 := [(h, .inr (1, [.ref v3, .int 0, .int ml, .int (nI (n + w))])), (v3, .inl (cA, m2, .inl g2))]) hP hD [0, 1] [] rfl rfl (by decide) (by decide) hk1 hFc hP1 hD1
  have hK := (hK.sub (tys' := []) [] rfl).app hK1
  generalize H1 = H at hP hS ⊢
  have hP : va_P (dC, dI) vwCl [(h, .inr (1, [.ref v3, .int 0, .int ml, .int (nI (n + w))])), (v3, .inl (cA, m2, .inl g2))] H := hP
  have hD : va_D A [(h, .inr (1, [.ref v3, .int 0, .int ml, .int (nI (n + w))])), (v3, .inl (cA, m2, .inl g2))] := hD
  have hK : va_K (dC, dI) vwCl [(cA, .byte)] s := hK
  have hv3 : v3 = v ∨ s.heap.size ≤ v3 := hv3.imp id (fun q => Nat.le_trans hS0.1 q)
  refine lv_pop hx hb dJ4_append_15ec4_5 rfl ?_
  refine lv_aload_n hx hb dJ4_append_15ec4_6 rfl (lv_at hl 0 rfl) ?_
  obtain ⟨hg2, hq1, hq2, hcap⟩ := hq
  have hm2 : n + w ≤ m2 ∧ m2 ≤ 262144 := ⟨hq1, hq2⟩
  have hP9 := hP.sub (ws' := [(h, .inr (1, [.ref v3, .int 0, .int ml, .int (nI (n + w))])), (v3, .inl (cA, m2, .inl g2))]) [0, 1] rfl
  have hD9 := hD.sub (ws' := [(h, .inr (1, [.ref v3, .int 0, .int ml, .int (nI (n + w))])), (v3, .inl (cA, m2, .inl g2))]) [0, 1] (by decide) rfl
  have hK9 := hK.sub (tys' := [(cA, .byte)]) [0] rfl
  refine W.widen (k := 1) (n := capn (n + w) cp) (by omega) (by omega) ?_
  exact W.aret (v := .ref h) hx hb hr (Or.inl ⟨_, rfl⟩) (Or.inr ⟨_, rfl⟩) (fun t ht hW => ⟨⟨(v3, cA, m2, g2), h, rfl, ⟨hg2, hm2.1, hm2.2, hcap⟩, ⟨rfl, hv3⟩, by rw [ht]; exact hP9, va_K.moved hW.alike hK9, hD9⟩, hS.F ht⟩) hS.2.2 dJ4_append_15ec4_7
