/-! The JDK's own members, third part: StringBuilder.append(String), append(char). -/
set_option maxHeartbeats 4000000 in
set_option maxRecDepth 100000 in
/-- AbstractStringBuilder.ensureCapacityInternal(k) -/
theorem kJ5_ensureCapacityInternal_d00df (l : Launch) (dC : Nat → ClassId) (dI : Nat → Nat → Nat) (sz : Nat) (h v : Nat) (ml x : Int32) (cB : ClassId) (cp : Nat) (f : Nat → Int32) (k : Nat) (hm : cp ≤ 262144) (hk : k ≤ 65536) (hf : sb_Fit f) : Met l yJ5_ensureCapacityInternal_d00df wsJ5_ensureCapacityInternal_d00df ({ frames := 3, cells := 1, slots := capn k cp, locals := 82 }) (va_Pc [.ref h, .int (nI k)] (fun U => U.heap.size = sz ∧ va_P (dC, dI) vwCl [(h, .inr (1, [.ref v, .int 0, .int ml, .int x])), (v, .inl (cB, cp, .inl f))] U.heap ∧ va_K (dC, dI) vwCl [(cB, .byte)] U ∧ va_D (fun _ => True) [(h, .inr (1, [.ref v, .int 0, .int ml, .int x])), (v, .inl (cB, cp, .inl f))] ∧ jz (va_A [(h, .inr (1, [.ref v, .int 0, .int ml, .int x])), (v, .inl (cB, cp, .inl f))] sz) U U.heap)) (va_Qv (fun (u : Nat × ClassId × Nat × (Nat → Int32)) => match u with | (v2, cA, m2, g) => (sb_Fit g ∧ ∀ j, j < cp → g j = f j) ∧ ((m2 = cp ∧ k ≤ cp) ∨ (m2 = capn k cp ∧ cp < k))) (fun (u : Nat × ClassId × Nat × (Nat → Int32)) (t : State) => match u with | (v2, cA, m2, g) => (v2 = v ∨ sz ≤ v2) ∧ va_P (dC, dI) vwCl [(h, .inr (1, [.ref v2, .int 0, .int ml, .int x])), (v2, .inl (cA, m2, .inl g))] t.heap ∧ va_K (dC, dI) vwCl [(cA, .byte)] t ∧ va_D (va_A [(h, .inr (1, [.ref v, .int 0, .int ml, .int x])), (v, .inl (cB, cp, .inl f))] sz) [(h, .inr (1, [.ref v2, .int 0, .int ml, .int x])), (v2, .inl (cA, m2, .inl g))]) (va_A [(h, .inr (1, [.ref v, .int 0, .int ml, .int x])), (v, .inl (cB, cp, .inl f))] sz)) 1 (capn k cp) (va_A [(h, .inr (1, [.ref v, .int 0, .int ml, .int x])), (v, .inl (cB, cp, .inl f))] sz) := by
  refine Met.ofW (cc := cJ5_ensureCapacityInternal_d00df) (maxL := 3) (ret := none) (by decide) rfl ?_
  intro p e s m args below meth c s₁ B hml hv
  obtain ⟨rfl, hsz, hP, hK, hD0, hZ⟩ := hv
  have hx := B.exec
  have hb := B.bytes
  have hr := B.returns
  have hts := atoms_spec (ws := wsJ5_ensureCapacityInternal_d00df) B.pre
  have hown : s.vm.findClass RJ5 = some m.cls := findClass_of_methodNamed B.named
  have hlocks := B.notSynchronized
  subst hsz
  have hD := hD0.self (sz := s.heap.size)
  generalize hAe : va_A [(h, .inr (1, [.ref v, .int 0, .int ml, .int x])), (v, .inl (cB, cp, .inl f))] s.heap.size = A at hD hZ ⊢
  have hA : ∀ q : Nat, s.heap.size ≤ q → A q := fun q h => by rw [← hAe]; exact Or.inr h
  have hS : va_S A s.heap s.heap [] := va_S.rf
  have hP : va_P (dC, dI) vwCl [(h, .inr (1, [.ref v, .int 0, .int ml, .int x])), (v, .inl (cB, cp, .inl f))] s.heap := hP
  have hl := lv_entry ([.ref h, .int (nI k)]) (n := 3) (Nat.le_of_ble_eq_true rfl)
  rw [lg_entry_eq]
  generalize (lg_sl ([.ref h, .int (nI k)]) ++ List.replicate (3 - (lg_sl ([.ref h, .int (nI k)])).length) Slot.unset).toArray = ls at hl ⊢
  have hl : lv_has ls 3 [(0, .ref h), (1, .int (nI k))] := hl
  refine lv_aload_n hx hb dJ5_ensureCapacityInternal_d00df_0 rfl (lv_at hl 0 rfl) ?_
  refine va_get (D := (dC, dI)) (ci := 1) (v := .ref v) (C := RJ4) (T := TJ4) (N := 4) hx hb hts (by decide +kernel) hown hK hP 0 rfl rfl 0 (by decide) (hts (.fieldLink RJ5 15 "java/lang/AbstractStringBuilder" "value" "[B") (by decide +kernel)) (fun _ h9 => h9) rfl dJ5_ensureCapacityInternal_d00df_1 ?_
  refine va_alen hx hb hK hP 1 0 rfl rfl (v := nI cp) rfl dJ5_ensureCapacityInternal_d00df_4 ?_
  refine lv_aload_n hx hb dJ5_ensureCapacityInternal_d00df_5 rfl (lv_at hl 0 rfl) ?_
  refine va_get (D := (dC, dI)) (ci := 1) (v := .int 0) (C := RJ4) (T := TJ4) (N := 4) hx hb hts (by decide +kernel) hown hK hP 0 rfl rfl 1 (by decide) (hts (.fieldLink RJ5 22 "java/lang/AbstractStringBuilder" "coder" "B") (by decide +kernel)) (fun _ h9 => h9) rfl dJ5_ensureCapacityInternal_d00df_6 ?_
  refine lv_ishr hx hb dJ5_ensureCapacityInternal_d00df_9 ?_
  refine lv_topi (fun x_37 ex_37 => ?_)
  refine lv_istore_n (lv' := [(2, .int x_37), (0, .ref h), (1, .int (nI k))]) hx hb dJ5_ensureCapacityInternal_d00df_10 rfl hl (by decide) rfl (fun ls hl => ?_)
  refine lv_iload_n hx hb dJ5_ensureCapacityInternal_d00df_11 rfl (lv_at hl 2 rfl) ?_
  refine lv_iload_n hx hb dJ5_ensureCapacityInternal_d00df_12 rfl (lv_at hl 0 rfl) ?_
  refine lv_isub hx hb dJ5_ensureCapacityInternal_d00df_13 ?_
  refine lv_topi (fun x_38 ex_38 => ?_)
  have e2 : x_37 = nI cp := by rw [ex_37]; exact sb_shr0 (nI cp)
  have ed : x_38.toInt = (k : Int) - cp := by rw [ex_38, e2]; exact pk_sub_toInt (by omega) (by omega)
  refine lv_if_le (tgt := 38) hx hb dJ5_ensureCapacityInternal_d00df_14 (by decide) (fun c_39 => ?_) (fun c_39 => ?_)
  · have hle : k ≤ cp := by rw [Int32.le_iff_toInt_le, ed, Int32.toInt_zero] at c_39; omega
    have hP9 := hP.sub (ws' := [(h, .inr (1, [.ref v, .int 0, .int ml, .int x])), (v, .inl (cB, cp, .inl f))]) [0, 1] rfl
    have hD9 := hD.sub (ws' := [(h, .inr (1, [.ref v, .int 0, .int ml, .int x])), (v, .inl (cB, cp, .inl f))]) [0, 1] (by decide) rfl
    have hK9 := hK.sub (tys' := [(cB, .byte)]) [0] rfl
    refine W.widen (k := 1) (n := capn k cp) (by omega) (by omega) ?_
    exact W.vret hx hb hr (fun t ht hW => ⟨⟨(v, cB, cp, f), rfl, ⟨⟨hf, fun _ _ => rfl⟩, Or.inl ⟨rfl, hle⟩⟩, Or.inl rfl, by rw [ht]; exact hP9, va_K.moved hW.alike hK9, hD9⟩, hS.F ht⟩) hS.2.2 dJ5_ensureCapacityInternal_d00df_38
  · have hlt : cp < k := by rw [Int32.le_iff_toInt_le, ed, Int32.toInt_zero] at c_39; omega
    refine lv_aload_n hx hb dJ5_ensureCapacityInternal_d00df_17 rfl (lv_at hl 1 rfl) ?_
    refine lv_aload_n hx hb dJ5_ensureCapacityInternal_d00df_18 rfl (lv_at hl 1 rfl) ?_
    refine va_get (D := (dC, dI)) (ci := 1) (v := .ref v) (C := RJ4) (T := TJ4) (N := 4) hx hb hts (by decide +kernel) hown hK hP 0 rfl rfl 0 (by decide) (hts (.fieldLink RJ5 15 "java/lang/AbstractStringBuilder" "value" "[B") (by decide +kernel)) (fun _ h9 => h9) rfl dJ5_ensureCapacityInternal_d00df_19 ?_
    refine lv_aload_n hx hb dJ5_ensureCapacityInternal_d00df_22 rfl (lv_at hl 1 rfl) ?_
    refine lv_iload_n hx hb dJ5_ensureCapacityInternal_d00df_23 rfl (lv_at hl 2 rfl) ?_
    have hPc := hP.sub (ws' := [(h, .inr (1, [.ref v, .int 0, .int ml, .int x])), (v, .inl (cB, cp, .inl f))]) [0, 1] rfl
    have hDc := hD.sub (ws' := [(h, .inr (1, [.ref v, .int 0, .int ml, .int x])), (v, .inl (cB, cp, .inl f))]) [0, 1] (by decide) rfl
    have hKc := hK.sub (tys' := [(cB, .byte)]) [0] rfl
    have hFc := va_free (wc := [(h, .inr (1, [.ref v, .int 0, .int ml, .int x])), (v, .inl (cB, cp, .inl f))]) hD hS hA [0, 1] rfl
    refine va_calli (va_runU (As := [.int (nI k)]) (rest := [.ref v, .ref h]) ⟨hx, hb, hml, hown, hts⟩ (kJ5_newCapacity_0f7a4 l dC dI s.heap.size h v ml x cB cp f k hlt hk) (va_cwU 1 hts gJ5_ensureCapacityInternal_d00df_J5_newCapacity_0f7a4_u104J4 rfl rfl rfl rfl (by decide +kernel) ⟨Nat.le_of_ble_eq_true rfl, Nat.le_of_ble_eq_true rfl⟩) ⟨fun a U g mk q => by obtain ⟨q0, q1, qP, qK, qD⟩ := q; exact ⟨q0, q1, qP, va_K.moved (u := U) (U := U.calling g mk a) (Vm.Alike.refl U.vm) qK, qD⟩, va_recv hKc hPc (ci := 1) (q0 := 0) rfl rfl, fun U hU hW => ⟨rfl, by rw [hU], by rw [hU]; exact hPc, va_K.moved hW.alike hKc, hDc.weaken (fun _ _ _ _ => trivial)⟩⟩ rfl rfl hl.1 rfl (lv_room (Nat.le_of_ble_eq_true rfl)) dJ5_ensureCapacityInternal_d00df_24 ⟨(by show 0 + 0 ≤ 1; omega), (by show 0 + 0 ≤ (capn k cp); omega)⟩) hS (fun q _ h => hFc q h) hFc (fun r_40 u t H1 locs ht hvm hcn hB hz1 hk1 hS => ?_)
    try dsimp only at hB
    try dsimp only at hcn
    obtain ⟨hP1, hK1, hD1⟩ := hB
    rw [ht] at hP1
    have hK1 := va_K.moved hvm.symm hK1
    obtain ⟨hP, hD⟩ := va_join (wr := []) (w1 := [(h, .inr (1, [.ref v, .int 0, .int ml, .int x])), (v, .inl (cB, cp, .inl f))]) hP hD [0, 1] [] rfl rfl (by decide) (by decide) hk1 hFc hP1 hD1
    have hK := (hK.sub (tys' := []) [] rfl).app hK1
    generalize H1 = H at hP hS ⊢
    have hP : va_P (dC, dI) vwCl [(h, .inr (1, [.ref v, .int 0, .int ml, .int x])), (v, .inl (cB, cp, .inl f))] H := hP
    have hD : va_D A [(h, .inr (1, [.ref v, .int 0, .int ml, .int x])), (v, .inl (cB, cp, .inl f))] := hD
    have hK : va_K (dC, dI) vwCl [(cB, .byte)] s := hK
    refine lv_aload_n hx hb dJ5_ensureCapacityInternal_d00df_27 rfl (lv_at hl 1 rfl) ?_
    refine va_get (D := (dC, dI)) (ci := 1) (v := .int 0) (C := RJ4) (T := TJ4) (N := 4) hx hb hts (by decide +kernel) hown hK hP 0 rfl rfl 1 (by decide) (hts (.fieldLink RJ5 22 "java/lang/AbstractStringBuilder" "coder" "B") (by decide +kernel)) (fun _ h9 => h9) rfl dJ5_ensureCapacityInternal_d00df_28 ?_
    refine lv_ishl hx hb dJ5_ensureCapacityInternal_d00df_31 ?_
    refine lv_topi (fun x_41 ex_41 => ?_)
    have ec : x_41 = nI (capn k cp) := by rw [ex_41, hcn]; exact sb_shl0 _
    have hcap : capn k cp ≤ 262144 ∧ cp < capn k cp := by unfold capn; split <;> omega
    rw [ec]
    have hS0 := hS
    have hPc := hP.sub (ws' := [(v, .inl (cB, cp, .inl f))]) [1] rfl
    have hDc := hD.sub (ws' := [(v, .inl (cB, cp, .inl f))]) [1] (by decide) rfl
    have hKc := hK.sub (tys' := [(cB, .byte)]) [0] rfl
    have hFc := va_free (wc := [(v, .inl (cB, cp, .inl f))]) hD hS hA [1] rfl
    refine va_callr (va_runS (As := [.ref v, .int (nI (capn k cp))]) (rest := [.ref h]) ⟨hx, hb, hml, hown, hts⟩ (kJ7_copyOf_9075b l dC dI H.size v cB cp f (capn k cp) hcap.2 hcap.1 hf) (va_cwS 2 hts gJ5_ensureCapacityInternal_d00df_J7_copyOf_9075b rfl rfl rfl (by decide +kernel) ⟨Nat.le_of_ble_eq_true rfl, Nat.le_of_ble_eq_true rfl⟩) ⟨fun a U g mk q => by obtain ⟨q0, q1, qP, qK, qD⟩ := q; exact ⟨q0, q1, qP, va_K.moved (u := U) (U := U.calling g mk a) (Vm.Alike.refl U.vm) qK, qD⟩, fun U hU hW => ⟨rfl, by rw [hU], by rw [hU]; exact hPc, va_K.moved hW.alike hKc, hDc.weaken (fun _ _ _ _ => trivial)⟩⟩ rfl rfl hl.1 rfl (lv_room (Nat.le_of_ble_eq_true rfl)) dJ5_ensureCapacityInternal_d00df_32 ⟨(by show 0 + 0 + 1 ≤ 1; omega), (by show 0 + 0 + (capn k cp) ≤ (capn k cp); omega)⟩) hS (fun q _ h => hFc q h) hFc (fun u r_42 t H1 locs ht hvm hg hB hz1 hk1 hS => ?_)
    obtain ⟨cA, g⟩ := u
    try dsimp only at hB
    try dsimp only at hg
    obtain ⟨hfr, hP1, hK1, hD1⟩ := hB
    rw [ht] at hP1
    have hK1 := va_K.moved hvm.symm hK1
    obtain ⟨hP, hD⟩ := va_join (wr := [(h, .inr (1, [.ref v, .int 0, .int ml, .int x]))]) (w1 := [(v, .inl (cB, cp, .inl f)), (r_42, .inl (cA, capn k cp, .inl g))]) hP hD [1] [0] rfl rfl (by decide) (by decide) hk1 hFc hP1 hD1
    have hK := (hK.sub (tys' := []) [] rfl).app hK1
    generalize H1 = H at hP hS ⊢
    have hP : va_P (dC, dI) vwCl [(h, .inr (1, [.ref v, .int 0, .int ml, .int x])), (v, .inl (cB, cp, .inl f)), (r_42, .inl (cA, capn k cp, .inl g))] H := hP
    have hD : va_D A [(h, .inr (1, [.ref v, .int 0, .int ml, .int x])), (v, .inl (cB, cp, .inl f)), (r_42, .inl (cA, capn k cp, .inl g))] := hD
    have hK : va_K (dC, dI) vwCl [(cB, .byte), (cA, .byte)] s := hK
    refine va_put (D := (dC, dI)) (ci := 1) (v := .ref r_42) (ty := (.array .byte)) (C := RJ4) (T := TJ4) (N := 4) hx hb hts (by decide +kernel) tyJ4 tyJ4_ok nmJ4 hown hK hP hD hS 0 rfl rfl 0 (by decide) (hts (.fieldLink RJ5 15 "java/lang/AbstractStringBuilder" "value" "[B") (by decide +kernel)) (fun _ h9 => h9) rfl (by decide +kernel) rfl rfl (Nat.le_of_ble_eq_true rfl) dJ5_ensureCapacityInternal_d00df_35 (fun H locs hP hD hS => ?_)
    have hP : va_P (dC, dI) vwCl [(h, .inr (1, [.ref r_42, .int 0, .int ml, .int x])), (v, .inl (cB, cp, .inl f)), (r_42, .inl (cA, capn k cp, .inl g))] H := hP
    have hD : va_D A [(h, .inr (1, [.ref r_42, .int 0, .int ml, .int x])), (v, .inl (cB, cp, .inl f)), (r_42, .inl (cA, capn k cp, .inl g))] := hD
    have hP9 := hP.sub (ws' := [(h, .inr (1, [.ref r_42, .int 0, .int ml, .int x])), (r_42, .inl (cA, capn k cp, .inl g))]) [0, 2] rfl
    have hD9 := hD.sub (ws' := [(h, .inr (1, [.ref r_42, .int 0, .int ml, .int x])), (r_42, .inl (cA, capn k cp, .inl g))]) [0, 2] (by decide) rfl
    have hK9 := hK.sub (tys' := [(cA, .byte)]) [1] rfl
    refine W.widen (k := 1) (n := capn k cp) (by omega) (by omega) ?_
    exact W.vret hx hb hr (fun t ht hW => ⟨⟨(r_42, cA, capn k cp, g), rfl, ⟨hg, Or.inr ⟨rfl, hlt⟩⟩, Or.inr (Nat.le_trans hS0.1 hfr), by rw [ht]; exact hP9, va_K.moved hW.alike hK9, hD9⟩, hS.F ht⟩) hS.2.2 dJ5_ensureCapacityInternal_d00df_38
set_option maxHeartbeats 4000000 in
set_option maxRecDepth 100000 in
/-- AbstractStringBuilder.inflateIfNeededFor, both Latin-1 -/
theorem kJ5_inflateIfNeededFor_a7421 (l : Launch) (dC : Nat → ClassId) (dI : Nat → Nat → Nat) (sz : Nat) (h v : Nat) (ml x : Int32) (h2 v2 : Nat) (hh hz : Int32) : Met l yJ5_inflateIfNeededFor_a7421 wsJ5_inflateIfNeededFor_a7421 ({ frames := 1, cells := 0, slots := 0, locals := 20 }) (va_Pc [.ref h, .ref h2] (fun U => U.heap.size = sz ∧ va_P (dC, dI) vwCl [(h, .inr (1, [.ref v, .int 0, .int ml, .int x])), (h2, .inr (0, [.ref v2, .int 0, .int hh, .int hz]))] U.heap ∧ va_K (dC, dI) vwCl [] U ∧ va_D (fun _ => True) [(h, .inr (1, [.ref v, .int 0, .int ml, .int x])), (h2, .inr (0, [.ref v2, .int 0, .int hh, .int hz]))] ∧ jz (va_A [(h, .inr (1, [.ref v, .int 0, .int ml, .int x])), (h2, .inr (0, [.ref v2, .int 0, .int hh, .int hz]))] sz) U U.heap)) (va_Qv (fun (u : Unit) => True) (fun (u : Unit) (t : State) => va_P (dC, dI) vwCl [(h, .inr (1, [.ref v, .int 0, .int ml, .int x])), (h2, .inr (0, [.ref v2, .int 0, .int hh, .int hz]))] t.heap ∧ va_K (dC, dI) vwCl [] t ∧ va_D (va_A [(h, .inr (1, [.ref v, .int 0, .int ml, .int x])), (h2, .inr (0, [.ref v2, .int 0, .int hh, .int hz]))] sz) [(h, .inr (1, [.ref v, .int 0, .int ml, .int x])), (h2, .inr (0, [.ref v2, .int 0, .int hh, .int hz]))]) (va_A [(h, .inr (1, [.ref v, .int 0, .int ml, .int x])), (h2, .inr (0, [.ref v2, .int 0, .int hh, .int hz]))] sz)) 0 0 (va_A [(h, .inr (1, [.ref v, .int 0, .int ml, .int x])), (h2, .inr (0, [.ref v2, .int 0, .int hh, .int hz]))] sz) := by
  refine Met.ofW (cc := cJ5_inflateIfNeededFor_a7421) (maxL := 2) (ret := none) (by decide) rfl ?_
  intro p e s m args below meth c s₁ B hml hv
  obtain ⟨rfl, hsz, hP, hK, hD0, hZ⟩ := hv
  have hx := B.exec
  have hb := B.bytes
  have hr := B.returns
  have hts := atoms_spec (ws := wsJ5_inflateIfNeededFor_a7421) B.pre
  have hown : s.vm.findClass RJ5 = some m.cls := findClass_of_methodNamed B.named
  have hlocks := B.notSynchronized
  subst hsz
  have hD := hD0.self (sz := s.heap.size)
  generalize hAe : va_A [(h, .inr (1, [.ref v, .int 0, .int ml, .int x])), (h2, .inr (0, [.ref v2, .int 0, .int hh, .int hz]))] s.heap.size = A at hD hZ ⊢
  have hA : ∀ q : Nat, s.heap.size ≤ q → A q := fun q h => by rw [← hAe]; exact Or.inr h
  have hS : va_S A s.heap s.heap [] := va_S.rf
  have hP : va_P (dC, dI) vwCl [(h, .inr (1, [.ref v, .int 0, .int ml, .int x])), (h2, .inr (0, [.ref v2, .int 0, .int hh, .int hz]))] s.heap := hP
  have hl := lv_entry ([.ref h, .ref h2]) (n := 2) (Nat.le_of_ble_eq_true rfl)
  rw [lg_entry_eq]
  generalize (lg_sl ([.ref h, .ref h2]) ++ List.replicate (2 - (lg_sl ([.ref h, .ref h2])).length) Slot.unset).toArray = ls at hl ⊢
  have hl : lv_has ls 2 [(0, .ref h), (1, .ref h2)] := hl
  refine va_gets (C := "java/lang/String") (n := "COMPACT_STRINGS") (d := "Z") (v := .int 1) hx hb hZ.1 hS hown (hts (.fieldLink RJ5 18 "java/lang/String" "COMPACT_STRINGS" "Z") (by decide +kernel)) (fun _ h9 => h9) dJ5_inflateIfNeededFor_a7421_0 ?_
  refine lv_if_eq (tgt := 21) hx hb dJ5_inflateIfNeededFor_a7421_3 (by decide) (fun c_43 => absurd c_43 (by decide)) (fun c_43 => ?_)
  refine lv_aload_n hx hb dJ5_inflateIfNeededFor_a7421_6 rfl (lv_at hl 0 rfl) ?_
  refine va_get (D := (dC, dI)) (ci := 1) (v := .int 0) (C := RJ4) (T := TJ4) (N := 4) hx hb hts (by decide +kernel) hown hK hP 0 rfl rfl 1 (by decide) (hts (.fieldLink RJ5 22 "java/lang/AbstractStringBuilder" "coder" "B") (by decide +kernel)) (fun _ h9 => h9) rfl dJ5_inflateIfNeededFor_a7421_7 ?_
  refine lv_aload_n hx hb dJ5_inflateIfNeededFor_a7421_10 rfl (lv_at hl 1 rfl) ?_
  have hPc := hP.sub (ws' := [(h2, .inr (0, [.ref v2, .int 0, .int hh, .int hz]))]) [1] rfl
  have hDc := hD.sub (ws' := [(h2, .inr (0, [.ref v2, .int 0, .int hh, .int hz]))]) [1] (by decide) rfl
  have hKc := hK.sub (tys' := []) [] rfl
  have hFc := va_free (wc := [(h2, .inr (0, [.ref v2, .int 0, .int hh, .int hz]))]) hD hS hA [1] rfl
  refine va_calli (va_runV (As := []) (rest := [.int 0]) ⟨hx, hb, hml, hown, hts⟩ (kJ0_coder_7d493 l dC dI s.heap.size h2 v2 hh hz) (cwV 0 hts gJ5_inflateIfNeededFor_a7421_J0_coder_7d493 rfl rfl rfl (by decide +kernel) ⟨Nat.le_of_ble_eq_true rfl, Nat.le_of_ble_eq_true rfl⟩) ⟨fun a U g mk q => by obtain ⟨q0, q1, qP, qK, qD, qE0⟩ := q; exact ⟨q0, q1, qP, va_K.moved (u := U) (U := U.calling g mk a) (Vm.Alike.refl U.vm) qK, qD, jz.call qE0⟩, va_recv hKc hPc (ci := 0) (q0 := 0) rfl rfl, fun U hU hW => ⟨rfl, by rw [hU], by rw [hU]; exact hPc, va_K.moved hW.alike hKc, hDc.weaken (fun _ _ _ _ => trivial), jz.pass hZ hS hFc hW hU⟩⟩ rfl rfl hl.1 rfl (lv_room (Nat.le_of_ble_eq_true rfl)) dJ5_inflateIfNeededFor_a7421_11 ⟨(by show 0 + 0 ≤ 0; omega), (by show 0 + 0 ≤ 0; omega)⟩) hS (fun q _ h => hFc q h) hFc (fun r_44 u t H1 locs ht hvm hcd hB hz1 hk1 hS => ?_)
  try dsimp only at hB
  try dsimp only at hcd
  obtain ⟨hP1, hK1, hD1⟩ := hB
  rw [ht] at hP1
  have hK1 := va_K.moved hvm.symm hK1
  obtain ⟨hP, hD⟩ := va_join (wr := [(h, .inr (1, [.ref v, .int 0, .int ml, .int x]))]) (w1 := [(h2, .inr (0, [.ref v2, .int 0, .int hh, .int hz]))]) hP hD [1] [0] rfl rfl (by decide) (by decide) hk1 hFc hP1 hD1
  have hK := (hK.sub (tys' := []) [] rfl).app hK1
  generalize H1 = H at hP hS ⊢
  have hP : va_P (dC, dI) vwCl [(h, .inr (1, [.ref v, .int 0, .int ml, .int x])), (h2, .inr (0, [.ref v2, .int 0, .int hh, .int hz]))] H := hP
  have hD : va_D A [(h, .inr (1, [.ref v, .int 0, .int ml, .int x])), (h2, .inr (0, [.ref v2, .int 0, .int hh, .int hz]))] := hD
  have hK : va_K (dC, dI) vwCl [] s := hK
  refine lv_icmp_eq (tgt := 21) hx hb dJ5_inflateIfNeededFor_a7421_14 (by decide) (fun c_45 => ?_) (fun c_45 => absurd (hcd.symm) c_45)
  have hP9 := hP.sub (ws' := [(h, .inr (1, [.ref v, .int 0, .int ml, .int x])), (h2, .inr (0, [.ref v2, .int 0, .int hh, .int hz]))]) [0, 1] rfl
  have hD9 := hD.sub (ws' := [(h, .inr (1, [.ref v, .int 0, .int ml, .int x])), (h2, .inr (0, [.ref v2, .int 0, .int hh, .int hz]))]) [0, 1] (by decide) rfl
  have hK9 := hK.sub (tys' := []) [] rfl
  refine W.widen (k := 0) (n := 0) (by omega) (by omega) ?_
  exact W.vret hx hb hr (fun t ht hW => ⟨⟨(), rfl, trivial, by rw [ht]; exact hP9, va_K.moved hW.alike hK9, hD9⟩, hS.F ht⟩) hS.2.2 dJ5_inflateIfNeededFor_a7421_21
set_option maxHeartbeats 4000000 in
set_option maxRecDepth 100000 in
/-- String.getBytes(d, o, 0), a Latin-1 text -/
theorem kJ0_getBytes_840e7 (l : Launch) (dC : Nat → ClassId) (dI : Nat → Nat → Nat) (sz : Nat) (h2 v2 d : Nat) (hh hz : Int32) (c2 cB : ClassId) (w cp : Nat) (b f : Nat → Int32) (o : Nat) (ho : o + w ≤ cp) (hm : cp ≤ 262144) (hb0 : sb_Fit b) (hf : sb_Fit f) : Met l yJ0_getBytes_840e7 wsJ0_getBytes_840e7 ({ frames := 1, cells := 0, slots := 0, locals := 60 }) (va_Pc [.ref h2, .ref d, .int (nI o), .int 0] (fun U => U.heap.size = sz ∧ va_P (dC, dI) vwCl [(h2, .inr (0, [.ref v2, .int 0, .int hh, .int hz])), (v2, .inl (c2, w, .inl b)), (d, .inl (cB, cp, .inl f))] U.heap ∧ va_K (dC, dI) vwCl [(c2, .byte), (cB, .byte)] U ∧ va_D (fun _ => True) [(h2, .inr (0, [.ref v2, .int 0, .int hh, .int hz])), (v2, .inl (c2, w, .inl b)), (d, .inl (cB, cp, .inl f))] ∧ jz (va_A [(h2, .inr (0, [.ref v2, .int 0, .int hh, .int hz])), (v2, .inl (c2, w, .inl b)), (d, .inl (cB, cp, .inl f))] sz) U U.heap)) (va_Qv (fun (u : Nat → Int32) => match u with | g => sb_Fit g) (fun (u : Nat → Int32) (t : State) => match u with | g => va_P (dC, dI) vwCl [(h2, .inr (0, [.ref v2, .int 0, .int hh, .int hz])), (v2, .inl (c2, w, .inl b)), (d, .inl (cB, cp, .inl g))] t.heap ∧ va_K (dC, dI) vwCl [(c2, .byte), (cB, .byte)] t ∧ va_D (va_A [(h2, .inr (0, [.ref v2, .int 0, .int hh, .int hz])), (v2, .inl (c2, w, .inl b)), (d, .inl (cB, cp, .inl f))] sz) [(h2, .inr (0, [.ref v2, .int 0, .int hh, .int hz])), (v2, .inl (c2, w, .inl b)), (d, .inl (cB, cp, .inl g))]) (va_A [(h2, .inr (0, [.ref v2, .int 0, .int hh, .int hz])), (v2, .inl (c2, w, .inl b)), (d, .inl (cB, cp, .inl f))] sz)) 0 0 (va_A [(h2, .inr (0, [.ref v2, .int 0, .int hh, .int hz])), (v2, .inl (c2, w, .inl b)), (d, .inl (cB, cp, .inl f))] sz) := by
  refine Met.ofW (cc := cJ0_getBytes_840e7) (maxL := 4) (ret := none) (by decide) rfl ?_
  intro p e s m args below meth c s₁ B hml hv
  obtain ⟨rfl, hsz, hP, hK, hD0, hZ⟩ := hv
  have hx := B.exec
  have hb := B.bytes
  have hr := B.returns
  have hts := atoms_spec (ws := wsJ0_getBytes_840e7) B.pre
  have hown : s.vm.findClass RJ0 = some m.cls := findClass_of_methodNamed B.named
  have hlocks := B.notSynchronized
  subst hsz
  have hD := hD0.self (sz := s.heap.size)
  generalize hAe : va_A [(h2, .inr (0, [.ref v2, .int 0, .int hh, .int hz])), (v2, .inl (c2, w, .inl b)), (d, .inl (cB, cp, .inl f))] s.heap.size = A at hD hZ ⊢
  have hA : ∀ q : Nat, s.heap.size ≤ q → A q := fun q h => by rw [← hAe]; exact Or.inr h
  have hS : va_S A s.heap s.heap [] := va_S.rf
  have hP : va_P (dC, dI) vwCl [(h2, .inr (0, [.ref v2, .int 0, .int hh, .int hz])), (v2, .inl (c2, w, .inl b)), (d, .inl (cB, cp, .inl f))] s.heap := hP
  have hl := lv_entry ([.ref h2, .ref d, .int (nI o), .int 0]) (n := 4) (Nat.le_of_ble_eq_true rfl)
  rw [lg_entry_eq]
  generalize (lg_sl ([.ref h2, .ref d, .int (nI o), .int 0]) ++ List.replicate (4 - (lg_sl ([.ref h2, .ref d, .int (nI o), .int 0])).length) Slot.unset).toArray = ls at hl ⊢
  have hl : lv_has ls 4 [(0, .ref h2), (1, .ref d), (2, .int (nI o)), (3, .int 0)] := hl
  refine lv_aload_n hx hb dJ0_getBytes_840e7_0 rfl (lv_at hl 0 rfl) ?_
  have hPc := hP.sub (ws' := [(h2, .inr (0, [.ref v2, .int 0, .int hh, .int hz]))]) [0] rfl
  have hDc := hD.sub (ws' := [(h2, .inr (0, [.ref v2, .int 0, .int hh, .int hz]))]) [0] (by decide) rfl
  have hKc := hK.sub (tys' := []) [] rfl
  have hFc := va_free (wc := [(h2, .inr (0, [.ref v2, .int 0, .int hh, .int hz]))]) hD hS hA [0] rfl
  refine va_calli (va_runV (As := []) (rest := []) ⟨hx, hb, hml, hown, hts⟩ (kJ0_coder_7d493 l dC dI s.heap.size h2 v2 hh hz) (cwV 0 hts gJ0_getBytes_840e7_J0_coder_7d493 rfl rfl rfl (by decide +kernel) ⟨Nat.le_of_ble_eq_true rfl, Nat.le_of_ble_eq_true rfl⟩) ⟨fun a U g mk q => by obtain ⟨q0, q1, qP, qK, qD, qE0⟩ := q; exact ⟨q0, q1, qP, va_K.moved (u := U) (U := U.calling g mk a) (Vm.Alike.refl U.vm) qK, qD, jz.call qE0⟩, va_recv hKc hPc (ci := 0) (q0 := 0) rfl rfl, fun U hU hW => ⟨rfl, by rw [hU], by rw [hU]; exact hPc, va_K.moved hW.alike hKc, hDc.weaken (fun _ _ _ _ => trivial), jz.pass hZ hS hFc hW hU⟩⟩ rfl rfl hl.1 rfl (lv_room (Nat.le_of_ble_eq_true rfl)) dJ0_getBytes_840e7_1 ⟨(by show 0 + 0 ≤ 0; omega), (by show 0 + 0 ≤ 0; omega)⟩) hS (fun q _ h => hFc q h) hFc (fun r_46 u t H1 locs ht hvm hcd hB hz1 hk1 hS => ?_)
  try dsimp only at hB
  try dsimp only at hcd
  obtain ⟨hP1, hK1, hD1⟩ := hB
  rw [ht] at hP1
  have hK1 := va_K.moved hvm.symm hK1
  obtain ⟨hP, hD⟩ := va_join (wr := [(v2, .inl (c2, w, .inl b)), (d, .inl (cB, cp, .inl f))]) (w1 := [(h2, .inr (0, [.ref v2, .int 0, .int hh, .int hz]))]) hP hD [0] [1, 2] rfl rfl (by decide) (by decide) hk1 hFc hP1 hD1
  have hK := (hK.sub (tys' := [(c2, .byte), (cB, .byte)]) [0, 1] rfl).app hK1
  generalize H1 = H at hP hS ⊢
  have hP : va_P (dC, dI) vwCl [(v2, .inl (c2, w, .inl b)), (d, .inl (cB, cp, .inl f)), (h2, .inr (0, [.ref v2, .int 0, .int hh, .int hz]))] H := hP
  have hD : va_D A [(v2, .inl (c2, w, .inl b)), (d, .inl (cB, cp, .inl f)), (h2, .inr (0, [.ref v2, .int 0, .int hh, .int hz]))] := hD
  have hK : va_K (dC, dI) vwCl [(c2, .byte), (cB, .byte)] s := hK
  refine lv_iload_n hx hb dJ0_getBytes_840e7_4 rfl (lv_at hl 3 rfl) ?_
  refine lv_icmp_ne (tgt := 28) hx hb dJ0_getBytes_840e7_5 (by decide) (fun c_47 => absurd c_47 (fun e => e hcd)) (fun c_47 => ?_)
  refine lv_aload_n hx hb dJ0_getBytes_840e7_8 rfl (lv_at hl 0 rfl) ?_
  refine va_get (D := (dC, dI)) (ci := 0) (v := .ref v2) (C := RJ0) (T := TJ0) (N := 4) hx hb hts (by decide +kernel) hown hK hP 2 rfl rfl 0 (by decide) (hts (.fieldLink RJ0 9 "java/lang/String" "value" "[B") (by decide +kernel)) (fun _ h9 => h9) rfl dJ0_getBytes_840e7_9 ?_
  refine lv_iconst (v := 0) hx hb dJ0_getBytes_840e7_12 (by decide) ?_
  refine lv_aload_n hx hb dJ0_getBytes_840e7_13 rfl (lv_at hl 1 rfl) ?_
  refine lv_iload_n hx hb dJ0_getBytes_840e7_14 rfl (lv_at hl 2 rfl) ?_
  refine lv_iload_n hx hb dJ0_getBytes_840e7_15 rfl (lv_at hl 3 rfl) ?_
  refine lv_ishl hx hb dJ0_getBytes_840e7_16 ?_
  refine lv_topi (fun x_48 ex_48 => ?_)
  refine lv_aload_n hx hb dJ0_getBytes_840e7_17 rfl (lv_at hl 0 rfl) ?_
  refine va_get (D := (dC, dI)) (ci := 0) (v := .ref v2) (C := RJ0) (T := TJ0) (N := 4) hx hb hts (by decide +kernel) hown hK hP 2 rfl rfl 0 (by decide) (hts (.fieldLink RJ0 9 "java/lang/String" "value" "[B") (by decide +kernel)) (fun _ h9 => h9) rfl dJ0_getBytes_840e7_18 ?_
  refine va_alen hx hb hK hP 0 0 rfl rfl (v := nI w) rfl dJ0_getBytes_840e7_21 ?_
  have eo : x_48 = nI o := by rw [ex_48]; exact sb_shl0 _
  rw [eo]
  refine va_copyi (sp := nI 0) (dp := nI o) (n := nI w) hx hb (by rw [hml]; exact hl.1.symm) hown (hts (.methodLink RJ0 212 arraycopyName) (by decide +kernel)) (hts (.native arraycopyName) (by decide +kernel)) (hts (.static arraycopyName) (by decide +kernel)) (hts (.initialized "java/lang/System") (by decide +kernel)) hK hP hD hS 0 1 0 1 rfl rfl rfl rfl rfl (nI_pos (by omega)) (nI_pos (by omega)) (nI_pos (by omega)) (cl_le (by omega) (by omega) (by omega)) (cl_le (by omega) (by omega) (by omega)) (fun i hi => hb0 _) (Nat.le_of_ble_eq_true rfl) (Nat.le_of_ble_eq_true rfl) dJ0_getBytes_840e7_22 (fun H locs hP hD hS => ?_)
  rw [cp_cl (a := 0) (b := o) (c := w) (by omega) (by omega) (by omega)] at hP hD
  obtain ⟨f_49, ef_49⟩ : ∃ z, z = va_cpy b f 0 o w := ⟨_, rfl⟩
  have hP : va_P (dC, dI) vwCl [(v2, .inl (c2, w, .inl b)), (d, .inl (cB, cp, .inl f_49)), (h2, .inr (0, [.ref v2, .int 0, .int hh, .int hz]))] H := by rw [ef_49]; exact hP
  have hD : va_D A [(v2, .inl (c2, w, .inl b)), (d, .inl (cB, cp, .inl f_49)), (h2, .inr (0, [.ref v2, .int 0, .int hh, .int hz]))] := by rw [ef_49]; exact hD
  refine lv_goto (tgt := 43) hx hb dJ0_getBytes_840e7_25 (by decide) ?_
  have hg : sb_Fit f_49 := by rw [ef_49]; exact sb_fitC hb0 hf
  have hP9 := hP.sub (ws' := [(h2, .inr (0, [.ref v2, .int 0, .int hh, .int hz])), (v2, .inl (c2, w, .inl b)), (d, .inl (cB, cp, .inl f_49))]) [2, 0, 1] rfl
  have hD9 := hD.sub (ws' := [(h2, .inr (0, [.ref v2, .int 0, .int hh, .int hz])), (v2, .inl (c2, w, .inl b)), (d, .inl (cB, cp, .inl f_49))]) [2, 0, 1] (by decide) rfl
  have hK9 := hK.sub (tys' := [(c2, .byte), (cB, .byte)]) [0, 1] rfl
  refine W.widen (k := 0) (n := 0) (by omega) (by omega) ?_
  exact W.vret hx hb hr (fun t ht hW => ⟨⟨f_49, rfl, hg, by rw [ht]; exact hP9, va_K.moved hW.alike hK9, hD9⟩, hS.F ht⟩) hS.2.2 dJ0_getBytes_840e7_43
set_option maxHeartbeats 4000000 in
set_option maxRecDepth 100000 in
/-- AbstractStringBuilder.putStringAt(o, a Latin-1 text) -/
theorem kJ5_putStringAt_47b60 (l : Launch) (dC : Nat → ClassId) (dI : Nat → Nat → Nat) (sz : Nat) (h v : Nat) (ml x : Int32) (h2 v2 : Nat) (hh hz : Int32) (cB c2 : ClassId) (cp w : Nat) (f b : Nat → Int32) (o : Nat) (ho : o + w ≤ cp) (hm : cp ≤ 262144) (hb0 : sb_Fit b) (hf : sb_Fit f) : Met l yJ5_putStringAt_47b60 wsJ5_putStringAt_47b60 ({ frames := 2, cells := 0, slots := 0, locals := 83 }) (va_Pc [.ref h, .int (nI o), .ref h2] (fun U => U.heap.size = sz ∧ va_P (dC, dI) vwCl [(h, .inr (1, [.ref v, .int 0, .int ml, .int x])), (v, .inl (cB, cp, .inl f)), (h2, .inr (0, [.ref v2, .int 0, .int hh, .int hz])), (v2, .inl (c2, w, .inl b))] U.heap ∧ va_K (dC, dI) vwCl [(cB, .byte), (c2, .byte)] U ∧ va_D (fun _ => True) [(h, .inr (1, [.ref v, .int 0, .int ml, .int x])), (v, .inl (cB, cp, .inl f)), (h2, .inr (0, [.ref v2, .int 0, .int hh, .int hz])), (v2, .inl (c2, w, .inl b))] ∧ jz (va_A [(h, .inr (1, [.ref v, .int 0, .int ml, .int x])), (v, .inl (cB, cp, .inl f)), (h2, .inr (0, [.ref v2, .int 0, .int hh, .int hz])), (v2, .inl (c2, w, .inl b))] sz) U U.heap)) (va_Qv (fun (u : Nat → Int32) => match u with | g => sb_Fit g) (fun (u : Nat → Int32) (t : State) => match u with | g => va_P (dC, dI) vwCl [(h, .inr (1, [.ref v, .int 0, .int ml, .int x])), (v, .inl (cB, cp, .inl g)), (h2, .inr (0, [.ref v2, .int 0, .int hh, .int hz])), (v2, .inl (c2, w, .inl b))] t.heap ∧ va_K (dC, dI) vwCl [(cB, .byte), (c2, .byte)] t ∧ va_D (va_A [(h, .inr (1, [.ref v, .int 0, .int ml, .int x])), (v, .inl (cB, cp, .inl f)), (h2, .inr (0, [.ref v2, .int 0, .int hh, .int hz])), (v2, .inl (c2, w, .inl b))] sz) [(h, .inr (1, [.ref v, .int 0, .int ml, .int x])), (v, .inl (cB, cp, .inl g)), (h2, .inr (0, [.ref v2, .int 0, .int hh, .int hz])), (v2, .inl (c2, w, .inl b))]) (va_A [(h, .inr (1, [.ref v, .int 0, .int ml, .int x])), (v, .inl (cB, cp, .inl f)), (h2, .inr (0, [.ref v2, .int 0, .int hh, .int hz])), (v2, .inl (c2, w, .inl b))] sz)) 0 0 (va_A [(h, .inr (1, [.ref v, .int 0, .int ml, .int x])), (v, .inl (cB, cp, .inl f)), (h2, .inr (0, [.ref v2, .int 0, .int hh, .int hz])), (v2, .inl (c2, w, .inl b))] sz) := by
  refine Met.ofW (cc := cJ5_putStringAt_47b60) (maxL := 3) (ret := none) (by decide) rfl ?_
  intro p e s m args below meth c s₁ B hml hv
  obtain ⟨rfl, hsz, hP, hK, hD0, hZ⟩ := hv
  have hx := B.exec
  have hb := B.bytes
  have hr := B.returns
  have hts := atoms_spec (ws := wsJ5_putStringAt_47b60) B.pre
  have hown : s.vm.findClass RJ5 = some m.cls := findClass_of_methodNamed B.named
  have hlocks := B.notSynchronized
  subst hsz
  have hD := hD0.self (sz := s.heap.size)
  generalize hAe : va_A [(h, .inr (1, [.ref v, .int 0, .int ml, .int x])), (v, .inl (cB, cp, .inl f)), (h2, .inr (0, [.ref v2, .int 0, .int hh, .int hz])), (v2, .inl (c2, w, .inl b))] s.heap.size = A at hD hZ ⊢
  have hA : ∀ q : Nat, s.heap.size ≤ q → A q := fun q h => by rw [← hAe]; exact Or.inr h
  have hS : va_S A s.heap s.heap [] := va_S.rf
  have hP : va_P (dC, dI) vwCl [(h, .inr (1, [.ref v, .int 0, .int ml, .int x])), (v, .inl (cB, cp, .inl f)), (h2, .inr (0, [.ref v2, .int 0, .int hh, .int hz])), (v2, .inl (c2, w, .inl b))] s.heap := hP
  have hl := lv_entry ([.ref h, .int (nI o), .ref h2]) (n := 3) (Nat.le_of_ble_eq_true rfl)
  rw [lg_entry_eq]
  generalize (lg_sl ([.ref h, .int (nI o), .ref h2]) ++ List.replicate (3 - (lg_sl ([.ref h, .int (nI o), .ref h2])).length) Slot.unset).toArray = ls at hl ⊢
  have hl : lv_has ls 3 [(0, .ref h), (1, .int (nI o)), (2, .ref h2)] := hl
  refine lv_aload_n hx hb dJ5_putStringAt_47b60_0 rfl (lv_at hl 0 rfl) ?_
  refine lv_aload_n hx hb dJ5_putStringAt_47b60_1 rfl (lv_at hl 2 rfl) ?_
  have hPc := hP.sub (ws' := [(h, .inr (1, [.ref v, .int 0, .int ml, .int x])), (h2, .inr (0, [.ref v2, .int 0, .int hh, .int hz]))]) [0, 2] rfl
  have hDc := hD.sub (ws' := [(h, .inr (1, [.ref v, .int 0, .int ml, .int x])), (h2, .inr (0, [.ref v2, .int 0, .int hh, .int hz]))]) [0, 2] (by decide) rfl
  have hKc := hK.sub (tys' := []) [] rfl
  have hFc := va_free (wc := [(h, .inr (1, [.ref v, .int 0, .int ml, .int x])), (h2, .inr (0, [.ref v2, .int 0, .int hh, .int hz]))]) hD hS hA [0, 2] rfl
  refine va_callv (va_runU (As := [.ref h2]) (rest := []) ⟨hx, hb, hml, hown, hts⟩ (kJ5_inflateIfNeededFor_a7421 l dC dI s.heap.size h v ml x h2 v2 hh hz) (va_cwU 1 hts gJ5_putStringAt_47b60_J5_inflateIfNeededFor_a7421_u397J4 rfl rfl rfl rfl (by decide +kernel) ⟨Nat.le_of_ble_eq_true rfl, Nat.le_of_ble_eq_true rfl⟩) ⟨fun a U g mk q => by obtain ⟨q0, q1, qP, qK, qD, qE0⟩ := q; exact ⟨q0, q1, qP, va_K.moved (u := U) (U := U.calling g mk a) (Vm.Alike.refl U.vm) qK, qD, jz.call qE0⟩, va_recv hKc hPc (ci := 1) (q0 := 0) rfl rfl, fun U hU hW => ⟨rfl, by rw [hU], by rw [hU]; exact hPc, va_K.moved hW.alike hKc, hDc.weaken (fun _ _ _ _ => trivial), jz.pass hZ hS hFc hW hU⟩⟩ rfl rfl hl.1 rfl (lv_room (Nat.le_of_ble_eq_true rfl)) dJ5_putStringAt_47b60_2 ⟨(by show 0 + 0 ≤ 0; omega), (by show 0 + 0 ≤ 0; omega)⟩) hS (fun q _ h => hFc q h) hFc (fun u t H1 locs ht hvm hw_50 hB hz1 hk1 hS => ?_)
  try dsimp only at hB
  try dsimp only at hw_50
  obtain ⟨hP1, hK1, hD1⟩ := hB
  rw [ht] at hP1
  have hK1 := va_K.moved hvm.symm hK1
  obtain ⟨hP, hD⟩ := va_join (wr := [(v, .inl (cB, cp, .inl f)), (v2, .inl (c2, w, .inl b))]) (w1 := [(h, .inr (1, [.ref v, .int 0, .int ml, .int x])), (h2, .inr (0, [.ref v2, .int 0, .int hh, .int hz]))]) hP hD [0, 2] [1, 3] rfl rfl (by decide) (by decide) hk1 hFc hP1 hD1
  have hK := (hK.sub (tys' := [(cB, .byte), (c2, .byte)]) [0, 1] rfl).app hK1
  generalize H1 = H at hP hS ⊢
  have hP : va_P (dC, dI) vwCl [(v, .inl (cB, cp, .inl f)), (v2, .inl (c2, w, .inl b)), (h, .inr (1, [.ref v, .int 0, .int ml, .int x])), (h2, .inr (0, [.ref v2, .int 0, .int hh, .int hz]))] H := hP
  have hD : va_D A [(v, .inl (cB, cp, .inl f)), (v2, .inl (c2, w, .inl b)), (h, .inr (1, [.ref v, .int 0, .int ml, .int x])), (h2, .inr (0, [.ref v2, .int 0, .int hh, .int hz]))] := hD
  have hK : va_K (dC, dI) vwCl [(cB, .byte), (c2, .byte)] s := hK
  refine lv_aload_n hx hb dJ5_putStringAt_47b60_5 rfl (lv_at hl 2 rfl) ?_
  refine lv_aload_n hx hb dJ5_putStringAt_47b60_6 rfl (lv_at hl 0 rfl) ?_
  refine va_get (D := (dC, dI)) (ci := 1) (v := .ref v) (C := RJ4) (T := TJ4) (N := 4) hx hb hts (by decide +kernel) hown hK hP 2 rfl rfl 0 (by decide) (hts (.fieldLink RJ5 15 "java/lang/AbstractStringBuilder" "value" "[B") (by decide +kernel)) (fun _ h9 => h9) rfl dJ5_putStringAt_47b60_7 ?_
  refine lv_iload_n hx hb dJ5_putStringAt_47b60_10 rfl (lv_at hl 1 rfl) ?_
  refine lv_aload_n hx hb dJ5_putStringAt_47b60_11 rfl (lv_at hl 0 rfl) ?_
  refine va_get (D := (dC, dI)) (ci := 1) (v := .int 0) (C := RJ4) (T := TJ4) (N := 4) hx hb hts (by decide +kernel) hown hK hP 2 rfl rfl 1 (by decide) (hts (.fieldLink RJ5 22 "java/lang/AbstractStringBuilder" "coder" "B") (by decide +kernel)) (fun _ h9 => h9) rfl dJ5_putStringAt_47b60_12 ?_
  have hPc := hP.sub (ws' := [(h2, .inr (0, [.ref v2, .int 0, .int hh, .int hz])), (v2, .inl (c2, w, .inl b)), (v, .inl (cB, cp, .inl f))]) [3, 1, 0] rfl
  have hDc := hD.sub (ws' := [(h2, .inr (0, [.ref v2, .int 0, .int hh, .int hz])), (v2, .inl (c2, w, .inl b)), (v, .inl (cB, cp, .inl f))]) [3, 1, 0] (by decide) rfl
  have hKc := hK.sub (tys' := [(c2, .byte), (cB, .byte)]) [1, 0] rfl
  have hFc := va_free (wc := [(h2, .inr (0, [.ref v2, .int 0, .int hh, .int hz])), (v2, .inl (c2, w, .inl b)), (v, .inl (cB, cp, .inl f))]) hD hS hA [3, 1, 0] rfl
  refine va_callv (va_runV (As := [.ref v, .int (nI o), .int 0]) (rest := []) ⟨hx, hb, hml, hown, hts⟩ (kJ0_getBytes_840e7 l dC dI H.size h2 v2 v hh hz c2 cB w cp b f o ho hm hb0 hf) (cwV 3 hts gJ5_putStringAt_47b60_J0_getBytes_840e7 rfl rfl rfl (by decide +kernel) ⟨Nat.le_of_ble_eq_true rfl, Nat.le_of_ble_eq_true rfl⟩) ⟨fun a U g mk q => by obtain ⟨q0, q1, qP, qK, qD, qE0⟩ := q; exact ⟨q0, q1, qP, va_K.moved (u := U) (U := U.calling g mk a) (Vm.Alike.refl U.vm) qK, qD, jz.call qE0⟩, va_recv hKc hPc (ci := 0) (q0 := 0) rfl rfl, fun U hU hW => ⟨rfl, by rw [hU], by rw [hU]; exact hPc, va_K.moved hW.alike hKc, hDc.weaken (fun _ _ _ _ => trivial), jz.pass hZ hS hFc hW hU⟩⟩ rfl rfl hl.1 rfl (lv_room (Nat.le_of_ble_eq_true rfl)) dJ5_putStringAt_47b60_15 ⟨(by show 0 + 0 + 0 ≤ 0; omega), (by show 0 + 0 + 0 ≤ 0; omega)⟩) hS (fun q _ h => hFc q h) hFc (fun g t H1 locs ht hvm hg hB hz1 hk1 hS => ?_)
  try dsimp only at hB
  try dsimp only at hg
  obtain ⟨hP1, hK1, hD1⟩ := hB
  rw [ht] at hP1
  have hK1 := va_K.moved hvm.symm hK1
  obtain ⟨hP, hD⟩ := va_join (wr := [(h, .inr (1, [.ref v, .int 0, .int ml, .int x]))]) (w1 := [(h2, .inr (0, [.ref v2, .int 0, .int hh, .int hz])), (v2, .inl (c2, w, .inl b)), (v, .inl (cB, cp, .inl g))]) hP hD [3, 1, 0] [2] rfl rfl (by decide) (by decide) hk1 hFc hP1 hD1
  have hK := (hK.sub (tys' := []) [] rfl).app hK1
  generalize H1 = H at hP hS ⊢
  have hP : va_P (dC, dI) vwCl [(h, .inr (1, [.ref v, .int 0, .int ml, .int x])), (h2, .inr (0, [.ref v2, .int 0, .int hh, .int hz])), (v2, .inl (c2, w, .inl b)), (v, .inl (cB, cp, .inl g))] H := hP
  have hD : va_D A [(h, .inr (1, [.ref v, .int 0, .int ml, .int x])), (h2, .inr (0, [.ref v2, .int 0, .int hh, .int hz])), (v2, .inl (c2, w, .inl b)), (v, .inl (cB, cp, .inl g))] := hD
  have hK : va_K (dC, dI) vwCl [(c2, .byte), (cB, .byte)] s := hK
  have hP9 := hP.sub (ws' := [(h, .inr (1, [.ref v, .int 0, .int ml, .int x])), (v, .inl (cB, cp, .inl g)), (h2, .inr (0, [.ref v2, .int 0, .int hh, .int hz])), (v2, .inl (c2, w, .inl b))]) [0, 3, 1, 2] rfl
  have hD9 := hD.sub (ws' := [(h, .inr (1, [.ref v, .int 0, .int ml, .int x])), (v, .inl (cB, cp, .inl g)), (h2, .inr (0, [.ref v2, .int 0, .int hh, .int hz])), (v2, .inl (c2, w, .inl b))]) [0, 3, 1, 2] (by decide) rfl
  have hK9 := hK.sub (tys' := [(cB, .byte), (c2, .byte)]) [1, 0] rfl
  refine W.widen (k := 0) (n := 0) (by omega) (by omega) ?_
  exact W.vret hx hb hr (fun t ht hW => ⟨⟨g, rfl, hg, by rw [ht]; exact hP9, va_K.moved hW.alike hK9, hD9⟩, hS.F ht⟩) hS.2.2 dJ5_putStringAt_47b60_18
set_option maxHeartbeats 4000000 in
set_option maxRecDepth 100000 in
/-- append(a Latin-1 text) -/
theorem kJ5_append_cf1ce (l : Launch) (dC : Nat → ClassId) (dI : Nat → Nat → Nat) (sz : Nat) (h v : Nat) (ml : Int32) (h2 v2 : Nat) (hh hz : Int32) (cB c2 : ClassId) (n cp w : Nat) (f b : Nat → Int32) (hn : n ≤ cp) (hm : cp ≤ 262144) (hw0 : n + w ≤ 65536) (hb0 : sb_Fit b) (hf : sb_Fit f) : Met l yJ5_append_cf1ce wsJ5_append_cf1ce ({ frames := 4, cells := 1, slots := capn (n + w) cp, locals := 105 }) (va_Pc [.ref h, .ref h2] (fun U => U.heap.size = sz ∧ va_P (dC, dI) vwCl [(h, .inr (1, [.ref v, .int 0, .int ml, .int (nI n)])), (v, .inl (cB, cp, .inl f)), (h2, .inr (0, [.ref v2, .int 0, .int hh, .int hz])), (v2, .inl (c2, w, .inl b))] U.heap ∧ va_K (dC, dI) vwCl [(cB, .byte), (c2, .byte)] U ∧ va_D (fun _ => True) [(h, .inr (1, [.ref v, .int 0, .int ml, .int (nI n)])), (v, .inl (cB, cp, .inl f)), (h2, .inr (0, [.ref v2, .int 0, .int hh, .int hz])), (v2, .inl (c2, w, .inl b))] ∧ jz (va_A [(h, .inr (1, [.ref v, .int 0, .int ml, .int (nI n)])), (v, .inl (cB, cp, .inl f)), (h2, .inr (0, [.ref v2, .int 0, .int hh, .int hz])), (v2, .inl (c2, w, .inl b))] sz) U U.heap)) (va_Qr (fun (u : Nat × ClassId × Nat × (Nat → Int32)) => match u with | (v3, cA, m2, g) => sb_Fit g ∧ n + w ≤ m2 ∧ m2 ≤ 262144 ∧ ((m2 = cp ∧ n + w ≤ cp) ∨ (m2 = capn (n + w) cp ∧ cp < n + w))) (fun (u : Nat × ClassId × Nat × (Nat → Int32)) (ra : Nat) (t : State) => match u with | (v3, cA, m2, g) => ra = h ∧ va_P (dC, dI) vwCl [(h, .inr (1, [.ref v3, .int 0, .int ml, .int (nI (n + w))])), (v3, .inl (cA, m2, .inl g)), (h2, .inr (0, [.ref v2, .int 0, .int hh, .int hz])), (v2, .inl (c2, w, .inl b))] t.heap ∧ va_K (dC, dI) vwCl [(cA, .byte), (c2, .byte)] t ∧ va_D (va_A [(h, .inr (1, [.ref v, .int 0, .int ml, .int (nI n)])), (v, .inl (cB, cp, .inl f)), (h2, .inr (0, [.ref v2, .int 0, .int hh, .int hz])), (v2, .inl (c2, w, .inl b))] sz) [(h, .inr (1, [.ref v3, .int 0, .int ml, .int (nI (n + w))])), (v3, .inl (cA, m2, .inl g)), (h2, .inr (0, [.ref v2, .int 0, .int hh, .int hz])), (v2, .inl (c2, w, .inl b))]) (va_A [(h, .inr (1, [.ref v, .int 0, .int ml, .int (nI n)])), (v, .inl (cB, cp, .inl f)), (h2, .inr (0, [.ref v2, .int 0, .int hh, .int hz])), (v2, .inl (c2, w, .inl b))] sz)) 1 (capn (n + w) cp) (va_A [(h, .inr (1, [.ref v, .int 0, .int ml, .int (nI n)])), (v, .inl (cB, cp, .inl f)), (h2, .inr (0, [.ref v2, .int 0, .int hh, .int hz])), (v2, .inl (c2, w, .inl b))] sz) := by
  refine Met.ofW (cc := cJ5_append_cf1ce) (maxL := 3) (ret := (some (.object "java/lang/AbstractStringBuilder"))) (by decide) rfl ?_
  intro p e s m args below meth c s₁ B hml hv
  obtain ⟨rfl, hsz, hP, hK, hD0, hZ⟩ := hv
  have hx := B.exec
  have hb := B.bytes
  have hr := B.returns
  have hts := atoms_spec (ws := wsJ5_append_cf1ce) B.pre
  have hown : s.vm.findClass RJ5 = some m.cls := findClass_of_methodNamed B.named
  have hlocks := B.notSynchronized
  subst hsz
  have hD := hD0.self (sz := s.heap.size)
  generalize hAe : va_A [(h, .inr (1, [.ref v, .int 0, .int ml, .int (nI n)])), (v, .inl (cB, cp, .inl f)), (h2, .inr (0, [.ref v2, .int 0, .int hh, .int hz])), (v2, .inl (c2, w, .inl b))] s.heap.size = A at hD hZ ⊢
  have hA : ∀ q : Nat, s.heap.size ≤ q → A q := fun q h => by rw [← hAe]; exact Or.inr h
  have hS : va_S A s.heap s.heap [] := va_S.rf
  have hP : va_P (dC, dI) vwCl [(h, .inr (1, [.ref v, .int 0, .int ml, .int (nI n)])), (v, .inl (cB, cp, .inl f)), (h2, .inr (0, [.ref v2, .int 0, .int hh, .int hz])), (v2, .inl (c2, w, .inl b))] s.heap := hP
  have hl := lv_entry ([.ref h, .ref h2]) (n := 3) (Nat.le_of_ble_eq_true rfl)
  rw [lg_entry_eq]
  generalize (lg_sl ([.ref h, .ref h2]) ++ List.replicate (3 - (lg_sl ([.ref h, .ref h2])).length) Slot.unset).toArray = ls at hl ⊢
  have hl : lv_has ls 3 [(0, .ref h), (1, .ref h2)] := hl
  refine lv_aload_n hx hb dJ5_append_cf1ce_0 rfl (lv_at hl 1 rfl) ?_
  refine lv_ifnonnull (tgt := 9) hx hb dJ5_append_cf1ce_1 (by decide) ?_
  refine lv_aload_n hx hb dJ5_append_cf1ce_9 rfl (lv_at hl 1 rfl) ?_
  have hPc := hP.sub (ws' := [(h2, .inr (0, [.ref v2, .int 0, .int hh, .int hz])), (v2, .inl (c2, w, .inl b))]) [2, 3] rfl
  have hDc := hD.sub (ws' := [(h2, .inr (0, [.ref v2, .int 0, .int hh, .int hz])), (v2, .inl (c2, w, .inl b))]) [2, 3] (by decide) rfl
  have hKc := hK.sub (tys' := [(c2, .byte)]) [1] rfl
  have hFc := va_free (wc := [(h2, .inr (0, [.ref v2, .int 0, .int hh, .int hz])), (v2, .inl (c2, w, .inl b))]) hD hS hA [2, 3] rfl
  refine va_calli (va_runV (As := []) (rest := []) ⟨hx, hb, hml, hown, hts⟩ (kJ0_length_8abf5 l dC dI s.heap.size h2 v2 hh hz c2 w b (by omega)) (cwV 0 hts gJ5_append_cf1ce_J0_length_8abf5 rfl rfl rfl (by decide +kernel) ⟨Nat.le_of_ble_eq_true rfl, Nat.le_of_ble_eq_true rfl⟩) ⟨fun a U g mk q => by obtain ⟨q0, q1, qP, qK, qD, qE0⟩ := q; exact ⟨q0, q1, qP, va_K.moved (u := U) (U := U.calling g mk a) (Vm.Alike.refl U.vm) qK, qD, jz.call qE0⟩, va_recv hKc hPc (ci := 0) (q0 := 0) rfl rfl, fun U hU hW => ⟨rfl, by rw [hU], by rw [hU]; exact hPc, va_K.moved hW.alike hKc, hDc.weaken (fun _ _ _ _ => trivial), jz.pass hZ hS hFc hW hU⟩⟩ rfl rfl hl.1 rfl (lv_room (Nat.le_of_ble_eq_true rfl)) dJ5_append_cf1ce_10 ⟨(by show 0 + 0 ≤ 1; omega), (by show 0 + 0 ≤ (capn (n + w) cp); omega)⟩) hS (fun q _ h => hFc q h) hFc (fun r_53 u t H1 locs ht hvm hlen hB hz1 hk1 hS => ?_)
  try dsimp only at hB
  try dsimp only at hlen
  obtain ⟨hP1, hK1, hD1⟩ := hB
  rw [ht] at hP1
  have hK1 := va_K.moved hvm.symm hK1
  obtain ⟨hP, hD⟩ := va_join (wr := [(h, .inr (1, [.ref v, .int 0, .int ml, .int (nI n)])), (v, .inl (cB, cp, .inl f))]) (w1 := [(h2, .inr (0, [.ref v2, .int 0, .int hh, .int hz])), (v2, .inl (c2, w, .inl b))]) hP hD [2, 3] [0, 1] rfl rfl (by decide) (by decide) hk1 hFc hP1 hD1
  have hK := (hK.sub (tys' := [(cB, .byte)]) [0] rfl).app hK1
  generalize H1 = H at hP hS ⊢
  have hP : va_P (dC, dI) vwCl [(h, .inr (1, [.ref v, .int 0, .int ml, .int (nI n)])), (v, .inl (cB, cp, .inl f)), (h2, .inr (0, [.ref v2, .int 0, .int hh, .int hz])), (v2, .inl (c2, w, .inl b))] H := hP
  have hD : va_D A [(h, .inr (1, [.ref v, .int 0, .int ml, .int (nI n)])), (v, .inl (cB, cp, .inl f)), (h2, .inr (0, [.ref v2, .int 0, .int hh, .int hz])), (v2, .inl (c2, w, .inl b))] := hD
  have hK : va_K (dC, dI) vwCl [(cB, .byte), (c2, .byte)] s := hK
  subst hlen
  refine lv_istore_n (lv' := [(2, .int (nI w)), (0, .ref h), (1, .ref h2)]) hx hb dJ5_append_cf1ce_13 rfl hl (by decide) rfl (fun ls hl => ?_)
  refine lv_aload_n hx hb dJ5_append_cf1ce_14 rfl (lv_at hl 1 rfl) ?_
  refine lv_aload_n hx hb dJ5_append_cf1ce_15 rfl (lv_at hl 1 rfl) ?_
  refine va_get (D := (dC, dI)) (ci := 1) (v := .int (nI n)) (C := RJ4) (T := TJ4) (N := 4) hx hb hts (by decide +kernel) hown hK hP 0 rfl rfl 3 (by decide) (hts (.fieldLink RJ5 79 "java/lang/AbstractStringBuilder" "count" "I") (by decide +kernel)) (fun _ h9 => h9) rfl dJ5_append_cf1ce_16 ?_
  refine lv_iload_n hx hb dJ5_append_cf1ce_19 rfl (lv_at hl 0 rfl) ?_
  refine lv_iadd hx hb dJ5_append_cf1ce_20 ?_
  refine lv_topi (fun x_54 ex_54 => ?_)
  have ek : x_54 = nI (n + w) := by rw [ex_54]; exact nI_add n w
  rw [ek]
  have hPc := hP.sub (ws' := [(h, .inr (1, [.ref v, .int 0, .int ml, .int (nI n)])), (v, .inl (cB, cp, .inl f))]) [0, 1] rfl
  have hDc := hD.sub (ws' := [(h, .inr (1, [.ref v, .int 0, .int ml, .int (nI n)])), (v, .inl (cB, cp, .inl f))]) [0, 1] (by decide) rfl
  have hKc := hK.sub (tys' := [(cB, .byte)]) [0] rfl
  have hFc := va_free (wc := [(h, .inr (1, [.ref v, .int 0, .int ml, .int (nI n)])), (v, .inl (cB, cp, .inl f))]) hD hS hA [0, 1] rfl
  refine va_callv (va_runU (As := [.int (nI (n + w))]) (rest := []) ⟨hx, hb, hml, hown, hts⟩ (kJ5_ensureCapacityInternal_d00df l dC dI H.size h v ml (nI n) cB cp f (n + w) hm hw0 hf) (va_cwU 1 hts gJ5_append_cf1ce_J5_ensureCapacityInternal_d00df_u100J4 rfl rfl rfl rfl (by decide +kernel) ⟨Nat.le_of_ble_eq_true rfl, Nat.le_of_ble_eq_true rfl⟩) ⟨fun a U g mk q => by obtain ⟨q0, q1, qP, qK, qD, qE0⟩ := q; exact ⟨q0, q1, qP, va_K.moved (u := U) (U := U.calling g mk a) (Vm.Alike.refl U.vm) qK, qD, jz.call qE0⟩, va_recv hKc hPc (ci := 1) (q0 := 0) rfl rfl, fun U hU hW => ⟨rfl, by rw [hU], by rw [hU]; exact hPc, va_K.moved hW.alike hKc, hDc.weaken (fun _ _ _ _ => trivial), jz.pass hZ hS hFc hW hU⟩⟩ rfl rfl hl.1 rfl (lv_room (Nat.le_of_ble_eq_true rfl)) dJ5_append_cf1ce_21 ⟨(by show 0 + 0 + 1 ≤ 1; omega), (by show 0 + 0 + (capn (n + w) cp) ≤ (capn (n + w) cp); omega)⟩) hS (fun q _ h => hFc q h) hFc (fun u t H1 locs ht hvm hen hB hz1 hk1 hS => ?_)
  obtain ⟨v3, cA, m2, g⟩ := u
  try dsimp only at hB
  try dsimp only at hen
  obtain ⟨hv3, hP1, hK1, hD1⟩ := hB
  rw [ht] at hP1
  have hK1 := va_K.moved hvm.symm hK1
  obtain ⟨hP, hD⟩ := va_join (wr := [(h2, .inr (0, [.ref v2, .int 0, .int hh, .int hz])), (v2, .inl (c2, w, .inl b))]) (w1 := [(h, .inr (1, [.ref v3, .int 0, .int ml, .int (nI n)])), (v3, .inl (cA, m2, .inl g))]) hP hD [0, 1] [2, 3] rfl rfl (by decide) (by decide) hk1 hFc hP1 hD1
  have hK := (hK.sub (tys' := [(c2, .byte)]) [1] rfl).app hK1
  generalize H1 = H at hP hS ⊢
  have hP : va_P (dC, dI) vwCl [(h2, .inr (0, [.ref v2, .int 0, .int hh, .int hz])), (v2, .inl (c2, w, .inl b)), (h, .inr (1, [.ref v3, .int 0, .int ml, .int (nI n)])), (v3, .inl (cA, m2, .inl g))] H := hP
  have hD : va_D A [(h2, .inr (0, [.ref v2, .int 0, .int hh, .int hz])), (v2, .inl (c2, w, .inl b)), (h, .inr (1, [.ref v3, .int 0, .int ml, .int (nI n)])), (v3, .inl (cA, m2, .inl g))] := hD
  have hK : va_K (dC, dI) vwCl [(c2, .byte), (cA, .byte)] s := hK
  obtain ⟨⟨hgf, hgk⟩, hcap⟩ := hen
  have hm2 : n + w ≤ m2 ∧ m2 ≤ 262144 := by rcases hcap with ⟨e, q⟩ | ⟨e, q⟩ <;> subst e <;> (try unfold capn) <;> (try split) <;> omega
  refine lv_aload_n hx hb dJ5_append_cf1ce_24 rfl (lv_at hl 1 rfl) ?_
  refine lv_aload_n hx hb dJ5_append_cf1ce_25 rfl (lv_at hl 1 rfl) ?_
  refine va_get (D := (dC, dI)) (ci := 1) (v := .int (nI n)) (C := RJ4) (T := TJ4) (N := 4) hx hb hts (by decide +kernel) hown hK hP 2 rfl rfl 3 (by decide) (hts (.fieldLink RJ5 79 "java/lang/AbstractStringBuilder" "count" "I") (by decide +kernel)) (fun _ h9 => h9) rfl dJ5_append_cf1ce_26 ?_
  refine lv_aload_n hx hb dJ5_append_cf1ce_29 rfl (lv_at hl 2 rfl) ?_
  have hPc := hP.sub (ws' := [(h, .inr (1, [.ref v3, .int 0, .int ml, .int (nI n)])), (v3, .inl (cA, m2, .inl g)), (h2, .inr (0, [.ref v2, .int 0, .int hh, .int hz])), (v2, .inl (c2, w, .inl b))]) [2, 3, 0, 1] rfl
  have hDc := hD.sub (ws' := [(h, .inr (1, [.ref v3, .int 0, .int ml, .int (nI n)])), (v3, .inl (cA, m2, .inl g)), (h2, .inr (0, [.ref v2, .int 0, .int hh, .int hz])), (v2, .inl (c2, w, .inl b))]) [2, 3, 0, 1] (by decide) rfl
  have hKc := hK.sub (tys' := [(cA, .byte), (c2, .byte)]) [1, 0] rfl
  have hFc := va_free (wc := [(h, .inr (1, [.ref v3, .int 0, .int ml, .int (nI n)])), (v3, .inl (cA, m2, .inl g)), (h2, .inr (0, [.ref v2, .int 0, .int hh, .int hz])), (v2, .inl (c2, w, .inl b))]) hD hS hA [2, 3, 0, 1] rfl
  refine va_callv (va_runU (As := [.int (nI n), .ref h2]) (rest := []) ⟨hx, hb, hml, hown, hts⟩ (kJ5_putStringAt_47b60 l dC dI H.size h v3 ml (nI n) h2 v2 hh hz cA c2 m2 w g b n hm2.1 hm2.2 hb0 hgf) (va_cwU 2 hts gJ5_append_cf1ce_J5_putStringAt_47b60_u208J4 rfl rfl rfl rfl (by decide +kernel) ⟨Nat.le_of_ble_eq_true rfl, Nat.le_of_ble_eq_true rfl⟩) ⟨fun a U g mk q => by obtain ⟨q0, q1, qP, qK, qD, qE0⟩ := q; exact ⟨q0, q1, qP, va_K.moved (u := U) (U := U.calling g mk a) (Vm.Alike.refl U.vm) qK, qD, jz.call qE0⟩, va_recv hKc hPc (ci := 1) (q0 := 0) rfl rfl, fun U hU hW => ⟨rfl, by rw [hU], by rw [hU]; exact hPc, va_K.moved hW.alike hKc, hDc.weaken (fun _ _ _ _ => trivial), jz.pass hZ hS hFc hW hU⟩⟩ rfl rfl hl.1 rfl (lv_room (Nat.le_of_ble_eq_true rfl)) dJ5_append_cf1ce_30 ⟨(by show 0 + 0 + 1 + 0 ≤ 1; omega), (by show 0 + 0 + (capn (n + w) cp) + 0 ≤ (capn (n + w) cp); omega)⟩) hS (fun q _ h => hFc q h) hFc (fun g2 t H1 locs ht hvm hg2 hB hz1 hk1 hS => ?_)
  try dsimp only at hB
  try dsimp only at hg2
  obtain ⟨hP1, hK1, hD1⟩ := hB
  rw [ht] at hP1
  have hK1 := va_K.moved hvm.symm hK1
  obtain ⟨hP, hD⟩ := va_join (wr := []) (w1 := [(h, .inr (1, [.ref v3, .int 0, .int ml, .int (nI n)])), (v3, .inl (cA, m2, .inl g2)), (h2, .inr (0, [.ref v2, .int 0, .int hh, .int hz])), (v2, .inl (c2, w, .inl b))]) hP hD [2, 3, 0, 1] [] rfl rfl (by decide) (by decide) hk1 hFc hP1 hD1
  have hK := (hK.sub (tys' := []) [] rfl).app hK1
  generalize H1 = H at hP hS ⊢
  have hP : va_P (dC, dI) vwCl [(h, .inr (1, [.ref v3, .int 0, .int ml, .int (nI n)])), (v3, .inl (cA, m2, .inl g2)), (h2, .inr (0, [.ref v2, .int 0, .int hh, .int hz])), (v2, .inl (c2, w, .inl b))] H := hP
  have hD : va_D A [(h, .inr (1, [.ref v3, .int 0, .int ml, .int (nI n)])), (v3, .inl (cA, m2, .inl g2)), (h2, .inr (0, [.ref v2, .int 0, .int hh, .int hz])), (v2, .inl (c2, w, .inl b))] := hD
  have hK : va_K (dC, dI) vwCl [(cA, .byte), (c2, .byte)] s := hK
  refine lv_aload_n hx hb dJ5_append_cf1ce_33 rfl (lv_at hl 1 rfl) ?_
  refine lv_dup hx hb dJ5_append_cf1ce_34 rfl ?_
  refine va_get (D := (dC, dI)) (ci := 1) (v := .int (nI n)) (C := RJ4) (T := TJ4) (N := 4) hx hb hts (by decide +kernel) hown hK hP 0 rfl rfl 3 (by decide) (hts (.fieldLink RJ5 79 "java/lang/AbstractStringBuilder" "count" "I") (by decide +kernel)) (fun _ h9 => h9) rfl dJ5_append_cf1ce_35 ?_
  refine lv_iload_n hx hb dJ5_append_cf1ce_38 rfl (lv_at hl 0 rfl) ?_
  refine lv_iadd hx hb dJ5_append_cf1ce_39 ?_
  refine lv_topi (fun x_57 ex_57 => ?_)
  have ex : x_57 = nI (n + w) := by rw [ex_57]; exact nI_add n w
  rw [ex]
  refine va_put (D := (dC, dI)) (ci := 1) (v := .int (nI (n + w))) (ty := .int) (C := RJ4) (T := TJ4) (N := 4) hx hb hts (by decide +kernel) tyJ4 tyJ4_ok nmJ4 hown hK hP hD hS 0 rfl rfl 3 (by decide) (hts (.fieldLink RJ5 79 "java/lang/AbstractStringBuilder" "count" "I") (by decide +kernel)) (fun _ h9 => h9) rfl (by decide +kernel) rfl rfl (Nat.le_of_ble_eq_true rfl) dJ5_append_cf1ce_40 (fun H locs hP hD hS => ?_)
  have hP : va_P (dC, dI) vwCl [(h, .inr (1, [.ref v3, .int 0, .int ml, .int (nI (n + w))])), (v3, .inl (cA, m2, .inl g2)), (h2, .inr (0, [.ref v2, .int 0, .int hh, .int hz])), (v2, .inl (c2, w, .inl b))] H := hP
  have hD : va_D A [(h, .inr (1, [.ref v3, .int 0, .int ml, .int (nI (n + w))])), (v3, .inl (cA, m2, .inl g2)), (h2, .inr (0, [.ref v2, .int 0, .int hh, .int hz])), (v2, .inl (c2, w, .inl b))] := hD
  refine lv_aload_n hx hb dJ5_append_cf1ce_43 rfl (lv_at hl 1 rfl) ?_
  have hP9 := hP.sub (ws' := [(h, .inr (1, [.ref v3, .int 0, .int ml, .int (nI (n + w))])), (v3, .inl (cA, m2, .inl g2)), (h2, .inr (0, [.ref v2, .int 0, .int hh, .int hz])), (v2, .inl (c2, w, .inl b))]) [0, 1, 2, 3] rfl
  have hD9 := hD.sub (ws' := [(h, .inr (1, [.ref v3, .int 0, .int ml, .int (nI (n + w))])), (v3, .inl (cA, m2, .inl g2)), (h2, .inr (0, [.ref v2, .int 0, .int hh, .int hz])), (v2, .inl (c2, w, .inl b))]) [0, 1, 2, 3] (by decide) rfl
  have hK9 := hK.sub (tys' := [(cA, .byte), (c2, .byte)]) [0, 1] rfl
  refine W.widen (k := 1) (n := capn (n + w) cp) (by omega) (by omega) ?_
  exact W.aret (v := .ref h) hx hb hr (Or.inl ⟨_, rfl⟩) (Or.inr ⟨_, rfl⟩) (fun t ht hW => ⟨⟨(v3, cA, m2, g2), h, rfl, ⟨hg2, hm2.1, hm2.2, hcap⟩, rfl, by rw [ht]; exact hP9, va_K.moved hW.alike hK9, hD9⟩, hS.F ht⟩) hS.2.2 dJ5_append_cf1ce_44
set_option maxHeartbeats 4000000 in
set_option maxRecDepth 100000 in
/-- append(a Latin-1 text) -/
theorem kJ4_append_15ec4 (l : Launch) (dC : Nat → ClassId) (dI : Nat → Nat → Nat) (sz : Nat) (h v : Nat) (ml : Int32) (h2 v2 : Nat) (hh hz : Int32) (cB c2 : ClassId) (n cp w : Nat) (f b : Nat → Int32) (hn : n ≤ cp) (hm : cp ≤ 262144) (hw0 : n + w ≤ 65536) (hb0 : sb_Fit b) (hf : sb_Fit f) : Met l yJ4_append_15ec4 wsJ4_append_15ec4 ({ frames := 5, cells := 1, slots := capn (n + w) cp, locals := 127 }) (va_Pc [.ref h, .ref h2] (fun U => U.heap.size = sz ∧ va_P (dC, dI) vwCl [(h, .inr (1, [.ref v, .int 0, .int ml, .int (nI n)])), (v, .inl (cB, cp, .inl f)), (h2, .inr (0, [.ref v2, .int 0, .int hh, .int hz])), (v2, .inl (c2, w, .inl b))] U.heap ∧ va_K (dC, dI) vwCl [(cB, .byte), (c2, .byte)] U ∧ va_D (fun _ => True) [(h, .inr (1, [.ref v, .int 0, .int ml, .int (nI n)])), (v, .inl (cB, cp, .inl f)), (h2, .inr (0, [.ref v2, .int 0, .int hh, .int hz])), (v2, .inl (c2, w, .inl b))] ∧ jz (va_A [(h, .inr (1, [.ref v, .int 0, .int ml, .int (nI n)])), (v, .inl (cB, cp, .inl f)), (h2, .inr (0, [.ref v2, .int 0, .int hh, .int hz])), (v2, .inl (c2, w, .inl b))] sz) U U.heap)) (va_Qr (fun (u : Nat × ClassId × Nat × (Nat → Int32)) => match u with | (v3, cA, m2, g) => sb_Fit g ∧ n + w ≤ m2 ∧ m2 ≤ 262144 ∧ ((m2 = cp ∧ n + w ≤ cp) ∨ (m2 = capn (n + w) cp ∧ cp < n + w))) (fun (u : Nat × ClassId × Nat × (Nat → Int32)) (ra : Nat) (t : State) => match u with | (v3, cA, m2, g) => ra = h ∧ va_P (dC, dI) vwCl [(h, .inr (1, [.ref v3, .int 0, .int ml, .int (nI (n + w))])), (v3, .inl (cA, m2, .inl g)), (h2, .inr (0, [.ref v2, .int 0, .int hh, .int hz])), (v2, .inl (c2, w, .inl b))] t.heap ∧ va_K (dC, dI) vwCl [(cA, .byte), (c2, .byte)] t ∧ va_D (va_A [(h, .inr (1, [.ref v, .int 0, .int ml, .int (nI n)])), (v, .inl (cB, cp, .inl f)), (h2, .inr (0, [.ref v2, .int 0, .int hh, .int hz])), (v2, .inl (c2, w, .inl b))] sz) [(h, .inr (1, [.ref v3, .int 0, .int ml, .int (nI (n + w))])), (v3, .inl (cA, m2, .inl g)), (h2, .inr (0, [.ref v2, .int 0, .int hh, .int hz])), (v2, .inl (c2, w, .inl b))]) (va_A [(h, .inr (1, [.ref v, .int 0, .int ml, .int (nI n)])), (v, .inl (cB, cp, .inl f)), (h2, .inr (0, [.ref v2, .int 0, .int hh, .int hz])), (v2, .inl (c2, w, .inl b))] sz)) 1 (capn (n + w) cp) (va_A [(h, .inr (1, [.ref v, .int 0, .int ml, .int (nI n)])), (v, .inl (cB, cp, .inl f)), (h2, .inr (0, [.ref v2, .int 0, .int hh, .int hz])), (v2, .inl (c2, w, .inl b))] sz) := by
  refine Met.ofW (cc := cJ4_append_15ec4) (maxL := 2) (ret := (some (.object "java/lang/StringBuilder"))) (by decide) rfl ?_
  intro p e s m args below meth c s₁ B hml hv
  obtain ⟨rfl, hsz, hP, hK, hD0, hZ⟩ := hv
  have hx := B.exec
  have hb := B.bytes
  have hr := B.returns
  have hts := atoms_spec (ws := wsJ4_append_15ec4) B.pre
  have hown : s.vm.findClass RJ4 = some m.cls := findClass_of_methodNamed B.named
  have hlocks := B.notSynchronized
  subst hsz
  have hD := hD0.self (sz := s.heap.size)
  generalize hAe : va_A [(h, .inr (1, [.ref v, .int 0, .int ml, .int (nI n)])), (v, .inl (cB, cp, .inl f)), (h2, .inr (0, [.ref v2, .int 0, .int hh, .int hz])), (v2, .inl (c2, w, .inl b))] s.heap.size = A at hD hZ ⊢
  have hA : ∀ q : Nat, s.heap.size ≤ q → A q := fun q h => by rw [← hAe]; exact Or.inr h
  have hS : va_S A s.heap s.heap [] := va_S.rf
  have hP : va_P (dC, dI) vwCl [(h, .inr (1, [.ref v, .int 0, .int ml, .int (nI n)])), (v, .inl (cB, cp, .inl f)), (h2, .inr (0, [.ref v2, .int 0, .int hh, .int hz])), (v2, .inl (c2, w, .inl b))] s.heap := hP
  have hl := lv_entry ([.ref h, .ref h2]) (n := 2) (Nat.le_of_ble_eq_true rfl)
  rw [lg_entry_eq]
  generalize (lg_sl ([.ref h, .ref h2]) ++ List.replicate (2 - (lg_sl ([.ref h, .ref h2])).length) Slot.unset).toArray = ls at hl ⊢
  have hl : lv_has ls 2 [(0, .ref h), (1, .ref h2)] := hl
  refine lv_aload_n hx hb dJ4_append_15ec4_0 rfl (lv_at hl 0 rfl) ?_
  refine lv_aload_n hx hb dJ4_append_15ec4_1 rfl (lv_at hl 1 rfl) ?_
  have hPc := hP.sub (ws' := [(h, .inr (1, [.ref v, .int 0, .int ml, .int (nI n)])), (v, .inl (cB, cp, .inl f)), (h2, .inr (0, [.ref v2, .int 0, .int hh, .int hz])), (v2, .inl (c2, w, .inl b))]) [0, 1, 2, 3] rfl
  have hDc := hD.sub (ws' := [(h, .inr (1, [.ref v, .int 0, .int ml, .int (nI n)])), (v, .inl (cB, cp, .inl f)), (h2, .inr (0, [.ref v2, .int 0, .int hh, .int hz])), (v2, .inl (c2, w, .inl b))]) [0, 1, 2, 3] (by decide) rfl
  have hKc := hK.sub (tys' := [(cB, .byte), (c2, .byte)]) [0, 1] rfl
  have hFc := va_free (wc := [(h, .inr (1, [.ref v, .int 0, .int ml, .int (nI n)])), (v, .inl (cB, cp, .inl f)), (h2, .inr (0, [.ref v2, .int 0, .int hh, .int hz])), (v2, .inl (c2, w, .inl b))]) hD hS hA [0, 1, 2, 3] rfl
  refine va_callr (va_runSU (As := [.ref h2]) (rest := []) (hK.1 1 _ rfl).2 ⟨hx, hb, hml, hown, hts⟩ (kJ5_append_cf1ce l dC dI s.heap.size h v ml h2 v2 hh hz cB c2 n cp w f b hn hm hw0 hb0 hf) (va_cwSU 1 hts gJ4_append_15ec4_J5_append_cf1ce_s29 rfl rfl rfl (by decide +kernel) ⟨Nat.le_of_ble_eq_true rfl, Nat.le_of_ble_eq_true rfl⟩) ⟨fun a U g mk q => by obtain ⟨q0, q1, qP, qK, qD, qE0⟩ := q; exact ⟨q0, q1, qP, va_K.moved (u := U) (U := U.calling g mk a) (Vm.Alike.refl U.vm) qK, qD, jz.call qE0⟩, va_recv hKc hPc (ci := 1) (q0 := 0) rfl rfl, fun U hU hW => ⟨rfl, by rw [hU], by rw [hU]; exact hPc, va_K.moved hW.alike hKc, hDc.weaken (fun _ _ _ _ => trivial), jz.pass hZ hS hFc hW hU⟩⟩ rfl rfl hl.1 rfl (lv_room (Nat.le_of_ble_eq_true rfl)) dJ4_append_15ec4_2 ⟨(by show 0 + 1 ≤ 1; omega), (by show 0 + (capn (n + w) cp) ≤ (capn (n + w) cp); omega)⟩) hS (fun q _ h => hFc q h) hFc (fun u r_58 t H1 locs ht hvm hq hB hz1 hk1 hS => ?_)
  obtain ⟨v3, cA, m2, g2⟩ := u
  try dsimp only at hB
  try dsimp only at hq
  obtain ⟨hra, hP1, hK1, hD1⟩ := hB
  rw [ht] at hP1
  have hK1 := va_K.moved hvm.symm hK1
  obtain ⟨hP, hD⟩ := va_join (wr := []) (w1 := [(h, .inr (1, [.ref v3, .int 0, .int ml, .int (nI (n + w))])), (v3, .inl (cA, m2, .inl g2)), (h2, .inr (0, [.ref v2, .int 0, .int hh, .int hz])), (v2, .inl (c2, w, .inl b))]) hP hD [0, 1, 2, 3] [] rfl rfl (by decide) (by decide) hk1 hFc hP1 hD1
  have hK := (hK.sub (tys' := []) [] rfl).app hK1
  generalize H1 = H at hP hS ⊢
  have hP : va_P (dC, dI) vwCl [(h, .inr (1, [.ref v3, .int 0, .int ml, .int (nI (n + w))])), (v3, .inl (cA, m2, .inl g2)), (h2, .inr (0, [.ref v2, .int 0, .int hh, .int hz])), (v2, .inl (c2, w, .inl b))] H := hP
  have hD : va_D A [(h, .inr (1, [.ref v3, .int 0, .int ml, .int (nI (n + w))])), (v3, .inl (cA, m2, .inl g2)), (h2, .inr (0, [.ref v2, .int 0, .int hh, .int hz])), (v2, .inl (c2, w, .inl b))] := hD
  have hK : va_K (dC, dI) vwCl [(cA, .byte), (c2, .byte)] s := hK
  refine lv_pop hx hb dJ4_append_15ec4_5 rfl ?_
  refine lv_aload_n hx hb dJ4_append_15ec4_6 rfl (lv_at hl 0 rfl) ?_
  obtain ⟨hg2, hq1, hq2, hcap⟩ := hq
  have hm2 : n + w ≤ m2 ∧ m2 ≤ 262144 := ⟨hq1, hq2⟩
  have hP9 := hP.sub (ws' := [(h, .inr (1, [.ref v3, .int 0, .int ml, .int (nI (n + w))])), (v3, .inl (cA, m2, .inl g2)), (h2, .inr (0, [.ref v2, .int 0, .int hh, .int hz])), (v2, .inl (c2, w, .inl b))]) [0, 1, 2, 3] rfl
  have hD9 := hD.sub (ws' := [(h, .inr (1, [.ref v3, .int 0, .int ml, .int (nI (n + w))])), (v3, .inl (cA, m2, .inl g2)), (h2, .inr (0, [.ref v2, .int 0, .int hh, .int hz])), (v2, .inl (c2, w, .inl b))]) [0, 1, 2, 3] (by decide) rfl
  have hK9 := hK.sub (tys' := [(cA, .byte), (c2, .byte)]) [0, 1] rfl
  refine W.widen (k := 1) (n := capn (n + w) cp) (by omega) (by omega) ?_
  exact W.aret (v := .ref h) hx hb hr (Or.inl ⟨_, rfl⟩) (Or.inr ⟨_, rfl⟩) (fun t ht hW => ⟨⟨(v3, cA, m2, g2), h, rfl, ⟨hg2, hm2.1, hm2.2, hcap⟩, rfl, by rw [ht]; exact hP9, va_K.moved hW.alike hK9, hD9⟩, hS.F ht⟩) hS.2.2 dJ4_append_15ec4_7
