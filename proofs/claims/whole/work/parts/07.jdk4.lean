/-! The JDK's own members, fourth part: append(char), the constructors, toString. -/
set_option maxHeartbeats 4000000 in
set_option maxRecDepth 100000 in
/-- append(a Latin-1 sign) -/
theorem kJ5_append_3fe6f (l : Launch) (dC : Nat → ClassId) (dI : Nat → Nat → Nat) (sz : Nat) (h v : Nat) (ml : Int32) (cB : ClassId) (n cp q : Nat) (f : Nat → Int32) (hn : n ≤ cp) (hm : cp ≤ 262144) (hn2 : n < 65536) (hq : q < 256) (hf : sb_Fit f) : Met l yJ5_append_3fe6f wsJ5_append_3fe6f ({ frames := 4, cells := 1, slots := capn (n + 1) cp, locals := 104 }) (va_Pc [.ref h, .int (nI q)] (fun U => U.heap.size = sz ∧ va_P (dC, dI) vwCl [(h, .inr (1, [.ref v, .int 0, .int ml, .int (nI n)])), (v, .inl (cB, cp, .inl f))] U.heap ∧ va_K (dC, dI) vwCl [(cB, .byte)] U ∧ va_D (fun _ => True) [(h, .inr (1, [.ref v, .int 0, .int ml, .int (nI n)])), (v, .inl (cB, cp, .inl f))] ∧ jz (va_A [(h, .inr (1, [.ref v, .int 0, .int ml, .int (nI n)])), (v, .inl (cB, cp, .inl f))] sz) U U.heap)) (va_Qr (fun (u : Nat × ClassId × Nat × (Nat → Int32)) => match u with | (v3, cA, m2, g) => (sb_Fit g ∧ (∀ j, j < n → g j = f j) ∧ g n = sb_b q) ∧ n + 1 ≤ m2 ∧ m2 ≤ 262144 ∧ ((m2 = cp ∧ n + 1 ≤ cp) ∨ (m2 = capn (n + 1) cp ∧ cp < n + 1))) (fun (u : Nat × ClassId × Nat × (Nat → Int32)) (ra : Nat) (t : State) => match u with | (v3, cA, m2, g) => (ra = h ∧ (v3 = v ∨ sz ≤ v3)) ∧ va_P (dC, dI) vwCl [(h, .inr (1, [.ref v3, .int 0, .int ml, .int (nI (n + 1))])), (v3, .inl (cA, m2, .inl g))] t.heap ∧ va_K (dC, dI) vwCl [(cA, .byte)] t ∧ va_D (va_A [(h, .inr (1, [.ref v, .int 0, .int ml, .int (nI n)])), (v, .inl (cB, cp, .inl f))] sz) [(h, .inr (1, [.ref v3, .int 0, .int ml, .int (nI (n + 1))])), (v3, .inl (cA, m2, .inl g))]) (va_A [(h, .inr (1, [.ref v, .int 0, .int ml, .int (nI n)])), (v, .inl (cB, cp, .inl f))] sz)) 1 (capn (n + 1) cp) (va_A [(h, .inr (1, [.ref v, .int 0, .int ml, .int (nI n)])), (v, .inl (cB, cp, .inl f))] sz) := by
  refine Met.ofW (cc := cJ5_append_3fe6f) (maxL := 2) (ret := (some (.object "java/lang/AbstractStringBuilder"))) (by decide) rfl ?_
  intro p e s m args below meth c s₁ B hml hv
  obtain ⟨rfl, hsz, hP, hK, hD0, hZ⟩ := hv
  have hx := B.exec
  have hb := B.bytes
  have hr := B.returns
  have hts := atoms_spec (ws := wsJ5_append_3fe6f) B.pre
  have hown : s.vm.findClass RJ5 = some m.cls := findClass_of_methodNamed B.named
  have hlocks := B.notSynchronized
  subst hsz
  have hD := hD0.self (sz := s.heap.size)
  generalize hAe : va_A [(h, .inr (1, [.ref v, .int 0, .int ml, .int (nI n)])), (v, .inl (cB, cp, .inl f))] s.heap.size = A at hD hZ ⊢
  have hA : ∀ q : Nat, s.heap.size ≤ q → A q := fun q h => by rw [← hAe]; exact Or.inr h
  have hS : va_S A s.heap s.heap [] := va_S.rf
  have hP : va_P (dC, dI) vwCl [(h, .inr (1, [.ref v, .int 0, .int ml, .int (nI n)])), (v, .inl (cB, cp, .inl f))] s.heap := hP
  have hl := lv_entry ([.ref h, .int (nI q)]) (n := 2) (Nat.le_of_ble_eq_true rfl)
  rw [lg_entry_eq]
  generalize (lg_sl ([.ref h, .int (nI q)]) ++ List.replicate (2 - (lg_sl ([.ref h, .int (nI q)])).length) Slot.unset).toArray = ls at hl ⊢
  have hl : lv_has ls 2 [(0, .ref h), (1, .int (nI q))] := hl
  refine lv_aload_n hx hb dJ5_append_3fe6f_0 rfl (lv_at hl 0 rfl) ?_
  refine lv_aload_n hx hb dJ5_append_3fe6f_1 rfl (lv_at hl 0 rfl) ?_
  refine va_get (D := (dC, dI)) (ci := 1) (v := .int (nI n)) (C := RJ4) (T := TJ4) (N := 4) hx hb hts (by decide +kernel) hown hK hP 0 rfl rfl 3 (by decide) (hts (.fieldLink RJ5 79 "java/lang/AbstractStringBuilder" "count" "I") (by decide +kernel)) (fun _ h9 => h9) rfl dJ5_append_3fe6f_2 ?_
  refine lv_iconst (v := 1) hx hb dJ5_append_3fe6f_5 (by decide) ?_
  refine lv_iadd hx hb dJ5_append_3fe6f_6 ?_
  refine lv_topi (fun x_59 ex_59 => ?_)
  have ek : x_59 = nI (n + 1) := by rw [ex_59]; exact nI_1 n
  rw [ek]
  have hS0 := hS
  have hPc := hP.sub (ws' := [(h, .inr (1, [.ref v, .int 0, .int ml, .int (nI n)])), (v, .inl (cB, cp, .inl f))]) [0, 1] rfl
  have hDc := hD.sub (ws' := [(h, .inr (1, [.ref v, .int 0, .int ml, .int (nI n)])), (v, .inl (cB, cp, .inl f))]) [0, 1] (by decide) rfl
  have hKc := hK.sub (tys' := [(cB, .byte)]) [0] rfl
  have hFc := va_free (wc := [(h, .inr (1, [.ref v, .int 0, .int ml, .int (nI n)])), (v, .inl (cB, cp, .inl f))]) hD hS hA [0, 1] rfl
  refine va_callv (va_runU (As := [.int (nI (n + 1))]) (rest := []) ⟨hx, hb, hml, hown, hts⟩ (kJ5_ensureCapacityInternal_d00df l dC dI s.heap.size h v ml (nI n) cB cp f (n + 1) hm (by omega) hf) (va_cwU 1 hts gJ5_append_3fe6f_J5_ensureCapacityInternal_d00df_u100J4 rfl rfl rfl rfl (by decide +kernel) ⟨Nat.le_of_ble_eq_true rfl, Nat.le_of_ble_eq_true rfl⟩) ⟨fun a U g mk q => by obtain ⟨q0, q1, qP, qK, qD, qE0⟩ := q; exact ⟨q0, q1, qP, va_K.moved (u := U) (U := U.calling g mk a) (Vm.Alike.refl U.vm) qK, qD, jz.call qE0⟩, va_recv hKc hPc (ci := 1) (q0 := 0) rfl rfl, fun U hU hW => ⟨rfl, by rw [hU], by rw [hU]; exact hPc, va_K.moved hW.alike hKc, hDc.weaken (fun _ _ _ _ => trivial), jz.pass hZ hS hFc hW hU⟩⟩ rfl rfl hl.1 rfl (lv_room (Nat.le_of_ble_eq_true rfl)) dJ5_append_3fe6f_7 ⟨(by show 0 + 1 ≤ 1; omega), (by show 0 + (capn (n + 1) cp) ≤ (capn (n + 1) cp); omega)⟩) hS (fun q _ h => hFc q h) hFc (fun u t H1 locs ht hvm hen hB hz1 hk1 hS => ?_)
  obtain ⟨v3, cA, m2, g⟩ := u
  try dsimp only at hB
  try dsimp only at hen
  obtain ⟨hv3, hP1, hK1, hD1⟩ := hB
  rw [ht] at hP1
  have hK1 := va_K.moved hvm.symm hK1
  obtain ⟨hP, hD⟩ := va_join (wr := []) (w1 := [(h, .inr (1, [.ref v3, .int 0, .int ml, .int (nI n)])), (v3, .inl (cA, m2, .inl g))]) hP hD [0, 1] [] rfl rfl (by decide) (by decide) hk1 hFc hP1 hD1
  have hK := (hK.sub (tys' := []) [] rfl).app hK1
  generalize H1 = H at hP hS ⊢
  have hP : va_P (dC, dI) vwCl [(h, .inr (1, [.ref v3, .int 0, .int ml, .int (nI n)])), (v3, .inl (cA, m2, .inl g))] H := hP
  have hD : va_D A [(h, .inr (1, [.ref v3, .int 0, .int ml, .int (nI n)])), (v3, .inl (cA, m2, .inl g))] := hD
  have hK : va_K (dC, dI) vwCl [(cA, .byte)] s := hK
  have hv3 : v3 = v ∨ s.heap.size ≤ v3 := hv3.imp id (fun q => Nat.le_trans hS0.1 q)
  obtain ⟨⟨hgf, hgk⟩, hcap⟩ := hen
  have hm2 : n + 1 ≤ m2 ∧ m2 ≤ 262144 := by rcases hcap with ⟨e, q⟩ | ⟨e, q⟩ <;> subst e <;> (try unfold capn) <;> (try split) <;> omega
  refine lv_aload_n hx hb dJ5_append_3fe6f_10 rfl (lv_at hl 0 rfl) ?_
  have hPc := hP.sub (ws' := [(h, .inr (1, [.ref v3, .int 0, .int ml, .int (nI n)]))]) [0] rfl
  have hDc := hD.sub (ws' := [(h, .inr (1, [.ref v3, .int 0, .int ml, .int (nI n)]))]) [0] (by decide) rfl
  have hKc := hK.sub (tys' := []) [] rfl
  have hFc := va_free (wc := [(h, .inr (1, [.ref v3, .int 0, .int ml, .int (nI n)]))]) hD hS hA [0] rfl
  refine va_calli (va_runU (As := []) (rest := []) ⟨hx, hb, hml, hown, hts⟩ (kJ5_isLatin1_aae02 l dC dI H.size h v3 ml (nI n)) (va_cwU 0 hts gJ5_append_3fe6f_J5_isLatin1_aae02_u83J4 rfl rfl rfl rfl (by decide +kernel) ⟨Nat.le_of_ble_eq_true rfl, Nat.le_of_ble_eq_true rfl⟩) ⟨fun a U g mk q => by obtain ⟨q0, q1, qP, qK, qD, qE0⟩ := q; exact ⟨q0, q1, qP, va_K.moved (u := U) (U := U.calling g mk a) (Vm.Alike.refl U.vm) qK, qD, jz.call qE0⟩, va_recv hKc hPc (ci := 1) (q0 := 0) rfl rfl, fun U hU hW => ⟨rfl, by rw [hU], by rw [hU]; exact hPc, va_K.moved hW.alike hKc, hDc.weaken (fun _ _ _ _ => trivial), jz.pass hZ hS hFc hW hU⟩⟩ rfl rfl hl.1 rfl (lv_room (Nat.le_of_ble_eq_true rfl)) dJ5_append_3fe6f_11 ⟨(by show 0 + 1 + 0 ≤ 1; omega), (by show 0 + (capn (n + 1) cp) + 0 ≤ (capn (n + 1) cp); omega)⟩) hS (fun q _ h => hFc q h) hFc (fun r_61 u t H1 locs ht hvm hil hB hz1 hk1 hS => ?_)
  try dsimp only at hB
  try dsimp only at hil
  obtain ⟨hP1, hK1, hD1⟩ := hB
  rw [ht] at hP1
  have hK1 := va_K.moved hvm.symm hK1
  obtain ⟨hP, hD⟩ := va_join (wr := [(v3, .inl (cA, m2, .inl g))]) (w1 := [(h, .inr (1, [.ref v3, .int 0, .int ml, .int (nI n)]))]) hP hD [0] [1] rfl rfl (by decide) (by decide) hk1 hFc hP1 hD1
  have hK := (hK.sub (tys' := [(cA, .byte)]) [0] rfl).app hK1
  generalize H1 = H at hP hS ⊢
  have hP : va_P (dC, dI) vwCl [(v3, .inl (cA, m2, .inl g)), (h, .inr (1, [.ref v3, .int 0, .int ml, .int (nI n)]))] H := hP
  have hD : va_D A [(v3, .inl (cA, m2, .inl g)), (h, .inr (1, [.ref v3, .int 0, .int ml, .int (nI n)]))] := hD
  have hK : va_K (dC, dI) vwCl [(cA, .byte)] s := hK
  refine lv_if_eq (tgt := 45) hx hb dJ5_append_3fe6f_14 (by decide) (fun c_62 => absurd c_62 (by rw [hil]; decide)) (fun c_62 => ?_)
  refine lv_iload_n hx hb dJ5_append_3fe6f_17 rfl (lv_at hl 1 rfl) ?_
  have hPc := hP.sub (ws' := []) [] rfl
  have hDc := hD.sub (ws' := []) [] (by decide) rfl
  have hKc := hK.sub (tys' := []) [] rfl
  have hFc := va_free (wc := []) hD hS hA [] rfl
  refine va_calli (va_runS (As := [.int (nI q)]) (rest := []) ⟨hx, hb, hml, hown, hts⟩ (kJ1_canEncode_fc78d l dC dI H.size q hq) (va_cwS 1 hts gJ5_append_3fe6f_J1_canEncode_fc78d rfl rfl rfl (by decide +kernel) ⟨Nat.le_of_ble_eq_true rfl, Nat.le_of_ble_eq_true rfl⟩) ⟨fun a U g mk q => by obtain ⟨q0, q1, qP, qK, qD⟩ := q; exact ⟨q0, q1, qP, va_K.moved (u := U) (U := U.calling g mk a) (Vm.Alike.refl U.vm) qK, qD⟩, fun U hU hW => ⟨rfl, by rw [hU], by rw [hU]; exact hPc, va_K.moved hW.alike hKc, hDc.weaken (fun _ _ _ _ => trivial)⟩⟩ rfl rfl hl.1 rfl (lv_room (Nat.le_of_ble_eq_true rfl)) dJ5_append_3fe6f_18 ⟨(by show 0 + 1 + 0 + 0 ≤ 1; omega), (by show 0 + (capn (n + 1) cp) + 0 + 0 ≤ (capn (n + 1) cp); omega)⟩) hS (fun q _ h => hFc q h) hFc (fun r_63 u t H1 locs ht hvm hce hB hz1 hk1 hS => ?_)
  try dsimp only at hB
  try dsimp only at hce
  obtain ⟨hP1, hK1, hD1⟩ := hB
  rw [ht] at hP1
  have hK1 := va_K.moved hvm.symm hK1
  obtain ⟨hP, hD⟩ := va_join (wr := [(v3, .inl (cA, m2, .inl g)), (h, .inr (1, [.ref v3, .int 0, .int ml, .int (nI n)]))]) (w1 := []) hP hD [] [0, 1] rfl rfl (by decide) (by decide) hk1 hFc hP1 hD1
  have hK := (hK.sub (tys' := [(cA, .byte)]) [0] rfl).app hK1
  generalize H1 = H at hP hS ⊢
  have hP : va_P (dC, dI) vwCl [(v3, .inl (cA, m2, .inl g)), (h, .inr (1, [.ref v3, .int 0, .int ml, .int (nI n)]))] H := hP
  have hD : va_D A [(v3, .inl (cA, m2, .inl g)), (h, .inr (1, [.ref v3, .int 0, .int ml, .int (nI n)]))] := hD
  have hK : va_K (dC, dI) vwCl [(cA, .byte)] s := hK
  refine lv_if_eq (tgt := 45) hx hb dJ5_append_3fe6f_21 (by decide) (fun c_64 => absurd c_64 (by rw [hce]; decide)) (fun c_64 => ?_)
  refine lv_aload_n hx hb dJ5_append_3fe6f_24 rfl (lv_at hl 0 rfl) ?_
  refine va_get (D := (dC, dI)) (ci := 1) (v := .ref v3) (C := RJ4) (T := TJ4) (N := 4) hx hb hts (by decide +kernel) hown hK hP 1 rfl rfl 0 (by decide) (hts (.fieldLink RJ5 15 "java/lang/AbstractStringBuilder" "value" "[B") (by decide +kernel)) (fun _ h9 => h9) rfl dJ5_append_3fe6f_25 ?_
  refine lv_aload_n hx hb dJ5_append_3fe6f_28 rfl (lv_at hl 0 rfl) ?_
  refine lv_dup hx hb dJ5_append_3fe6f_29 rfl ?_
  refine va_get (D := (dC, dI)) (ci := 1) (v := .int (nI n)) (C := RJ4) (T := TJ4) (N := 4) hx hb hts (by decide +kernel) hown hK hP 1 rfl rfl 3 (by decide) (hts (.fieldLink RJ5 79 "java/lang/AbstractStringBuilder" "count" "I") (by decide +kernel)) (fun _ h9 => h9) rfl dJ5_append_3fe6f_30 ?_
  refine lv_dup_x1 hx hb dJ5_append_3fe6f_33 rfl rfl ?_
  refine lv_iconst (v := 1) hx hb dJ5_append_3fe6f_34 (by decide) ?_
  refine lv_iadd hx hb dJ5_append_3fe6f_35 ?_
  refine lv_topi (fun x_65 ex_65 => ?_)
  have ex : x_65 = nI (n + 1) := by rw [ex_65]; exact nI_1 n
  rw [ex]
  refine va_put (D := (dC, dI)) (ci := 1) (v := .int (nI (n + 1))) (ty := .int) (C := RJ4) (T := TJ4) (N := 4) hx hb hts (by decide +kernel) tyJ4 tyJ4_ok nmJ4 hown hK hP hD hS 1 rfl rfl 3 (by decide) (hts (.fieldLink RJ5 79 "java/lang/AbstractStringBuilder" "count" "I") (by decide +kernel)) (fun _ h9 => h9) rfl (by decide +kernel) rfl rfl (Nat.le_of_ble_eq_true rfl) dJ5_append_3fe6f_36 (fun H locs hP hD hS => ?_)
  have hP : va_P (dC, dI) vwCl [(v3, .inl (cA, m2, .inl g)), (h, .inr (1, [.ref v3, .int 0, .int ml, .int (nI (n + 1))]))] H := hP
  have hD : va_D A [(v3, .inl (cA, m2, .inl g)), (h, .inr (1, [.ref v3, .int 0, .int ml, .int (nI (n + 1))]))] := hD
  refine lv_iload_n hx hb dJ5_append_3fe6f_39 rfl (lv_at hl 1 rfl) ?_
  obtain ⟨x_66, ex_66⟩ : ∃ z : Int32, (nI q).toInt8.toInt32 = z := ⟨_, rfl⟩
  refine lv_i2b (v := x_66) hx hb dJ5_append_3fe6f_40 ex_66 ?_
  have hin_67 : vp_in (nI n) m2 := vp_in_nI (by omega) (by omega)
  refine va_bast hx hb hK hP hD hS 0 0 rfl rfl hin_67 dJ5_append_3fe6f_41 (fun H locs hP hD hS => ?_)
  obtain ⟨f_68, ef_68⟩ : ∃ z, z = upd g (nI n).toNatClampNeg (vp_nar .byte x_66) := ⟨_, rfl⟩
  have hP : va_P (dC, dI) vwCl [(v3, .inl (cA, m2, .inl f_68)), (h, .inr (1, [.ref v3, .int 0, .int ml, .int (nI (n + 1))]))] H := by rw [ef_68]; exact hP
  have hD : va_D A [(v3, .inl (cA, m2, .inl f_68)), (h, .inr (1, [.ref v3, .int 0, .int ml, .int (nI (n + 1))]))] := by rw [ef_68]; exact hD
  have hg2 : sb_Fit f_68 := by rw [ef_68]; exact sb_fitU hgf (by rw [← ex_66]; rw [pk_vb]; exact pk_fb _)
  have hgc : (∀ j, j < n → f_68 j = f j) ∧ f_68 n = sb_b q := by
    rw [ef_68, nI_clamp (by omega)]
    exact ⟨fun j hj => by rw [pk_un (by omega)]; exact hgk j (by omega), by rw [pk_us, ← ex_66, pk_vb]; rfl⟩
  have hg2 := And.intro hg2 hgc
  refine lv_goto (tgt := 75) hx hb dJ5_append_3fe6f_42 (by decide) ?_
  refine lv_aload_n hx hb dJ5_append_3fe6f_75 rfl (lv_at hl 0 rfl) ?_
  have hP9 := hP.sub (ws' := [(h, .inr (1, [.ref v3, .int 0, .int ml, .int (nI (n + 1))])), (v3, .inl (cA, m2, .inl f_68))]) [1, 0] rfl
  have hD9 := hD.sub (ws' := [(h, .inr (1, [.ref v3, .int 0, .int ml, .int (nI (n + 1))])), (v3, .inl (cA, m2, .inl f_68))]) [1, 0] (by decide) rfl
  have hK9 := hK.sub (tys' := [(cA, .byte)]) [0] rfl
  refine W.widen (k := 1) (n := capn (n + 1) cp) (by omega) (by omega) ?_
  exact W.aret (v := .ref h) hx hb hr (Or.inl ⟨_, rfl⟩) (Or.inr ⟨_, rfl⟩) (fun t ht hW => ⟨⟨(v3, cA, m2, f_68), h, rfl, ⟨hg2, hm2.1, hm2.2, hcap⟩, ⟨rfl, hv3⟩, by rw [ht]; exact hP9, va_K.moved hW.alike hK9, hD9⟩, hS.F ht⟩) hS.2.2 dJ5_append_3fe6f_76
set_option maxHeartbeats 4000000 in
set_option maxRecDepth 100000 in
/-- append(a Latin-1 sign) -/
theorem kJ4_append_cf468 (l : Launch) (dC : Nat → ClassId) (dI : Nat → Nat → Nat) (sz : Nat) (h v : Nat) (ml : Int32) (cB : ClassId) (n cp q : Nat) (f : Nat → Int32) (hn : n ≤ cp) (hm : cp ≤ 262144) (hn2 : n < 65536) (hq : q < 256) (hf : sb_Fit f) : Met l yJ4_append_cf468 wsJ4_append_cf468 ({ frames := 5, cells := 1, slots := capn (n + 1) cp, locals := 125 }) (va_Pc [.ref h, .int (nI q)] (fun U => U.heap.size = sz ∧ va_P (dC, dI) vwCl [(h, .inr (1, [.ref v, .int 0, .int ml, .int (nI n)])), (v, .inl (cB, cp, .inl f))] U.heap ∧ va_K (dC, dI) vwCl [(cB, .byte)] U ∧ va_D (fun _ => True) [(h, .inr (1, [.ref v, .int 0, .int ml, .int (nI n)])), (v, .inl (cB, cp, .inl f))] ∧ jz (va_A [(h, .inr (1, [.ref v, .int 0, .int ml, .int (nI n)])), (v, .inl (cB, cp, .inl f))] sz) U U.heap)) (va_Qr (fun (u : Nat × ClassId × Nat × (Nat → Int32)) => match u with | (v3, cA, m2, g) => (sb_Fit g ∧ (∀ j, j < n → g j = f j) ∧ g n = sb_b q) ∧ n + 1 ≤ m2 ∧ m2 ≤ 262144 ∧ ((m2 = cp ∧ n + 1 ≤ cp) ∨ (m2 = capn (n + 1) cp ∧ cp < n + 1))) (fun (u : Nat × ClassId × Nat × (Nat → Int32)) (ra : Nat) (t : State) => match u with | (v3, cA, m2, g) => (ra = h ∧ (v3 = v ∨ sz ≤ v3)) ∧ va_P (dC, dI) vwCl [(h, .inr (1, [.ref v3, .int 0, .int ml, .int (nI (n + 1))])), (v3, .inl (cA, m2, .inl g))] t.heap ∧ va_K (dC, dI) vwCl [(cA, .byte)] t ∧ va_D (va_A [(h, .inr (1, [.ref v, .int 0, .int ml, .int (nI n)])), (v, .inl (cB, cp, .inl f))] sz) [(h, .inr (1, [.ref v3, .int 0, .int ml, .int (nI (n + 1))])), (v3, .inl (cA, m2, .inl g))]) (va_A [(h, .inr (1, [.ref v, .int 0, .int ml, .int (nI n)])), (v, .inl (cB, cp, .inl f))] sz)) 1 (capn (n + 1) cp) (va_A [(h, .inr (1, [.ref v, .int 0, .int ml, .int (nI n)])), (v, .inl (cB, cp, .inl f))] sz) := by
  refine Met.ofW (cc := cJ4_append_cf468) (maxL := 2) (ret := (some (.object "java/lang/StringBuilder"))) (by decide) rfl ?_
  intro p e s m args below meth c s₁ B hml hv
  obtain ⟨rfl, hsz, hP, hK, hD0, hZ⟩ := hv
  have hx := B.exec
  have hb := B.bytes
  have hr := B.returns
  have hts := atoms_spec (ws := wsJ4_append_cf468) B.pre
  have hown : s.vm.findClass RJ4 = some m.cls := findClass_of_methodNamed B.named
  have hlocks := B.notSynchronized
  subst hsz
  have hD := hD0.self (sz := s.heap.size)
  generalize hAe : va_A [(h, .inr (1, [.ref v, .int 0, .int ml, .int (nI n)])), (v, .inl (cB, cp, .inl f))] s.heap.size = A at hD hZ ⊢
  have hA : ∀ q : Nat, s.heap.size ≤ q → A q := fun q h => by rw [← hAe]; exact Or.inr h
  have hS : va_S A s.heap s.heap [] := va_S.rf
  have hP : va_P (dC, dI) vwCl [(h, .inr (1, [.ref v, .int 0, .int ml, .int (nI n)])), (v, .inl (cB, cp, .inl f))] s.heap := hP
  have hl := lv_entry ([.ref h, .int (nI q)]) (n := 2) (Nat.le_of_ble_eq_true rfl)
  rw [lg_entry_eq]
  generalize (lg_sl ([.ref h, .int (nI q)]) ++ List.replicate (2 - (lg_sl ([.ref h, .int (nI q)])).length) Slot.unset).toArray = ls at hl ⊢
  have hl : lv_has ls 2 [(0, .ref h), (1, .int (nI q))] := hl
  refine lv_aload_n hx hb dJ4_append_cf468_0 rfl (lv_at hl 0 rfl) ?_
  refine lv_iload_n hx hb dJ4_append_cf468_1 rfl (lv_at hl 1 rfl) ?_
  have hS0 := hS
  have hPc := hP.sub (ws' := [(h, .inr (1, [.ref v, .int 0, .int ml, .int (nI n)])), (v, .inl (cB, cp, .inl f))]) [0, 1] rfl
  have hDc := hD.sub (ws' := [(h, .inr (1, [.ref v, .int 0, .int ml, .int (nI n)])), (v, .inl (cB, cp, .inl f))]) [0, 1] (by decide) rfl
  have hKc := hK.sub (tys' := [(cB, .byte)]) [0] rfl
  have hFc := va_free (wc := [(h, .inr (1, [.ref v, .int 0, .int ml, .int (nI n)])), (v, .inl (cB, cp, .inl f))]) hD hS hA [0, 1] rfl
  refine va_callr (va_runSU (As := [.int (nI q)]) (rest := []) (hK.1 1 _ rfl).2 ⟨hx, hb, hml, hown, hts⟩ (kJ5_append_3fe6f l dC dI s.heap.size h v ml cB n cp q f hn hm hn2 hq hf) (va_cwSU 1 hts gJ4_append_cf468_J5_append_3fe6f_s50 rfl rfl rfl (by decide +kernel) ⟨Nat.le_of_ble_eq_true rfl, Nat.le_of_ble_eq_true rfl⟩) ⟨fun a U g mk q => by obtain ⟨q0, q1, qP, qK, qD, qE0⟩ := q; exact ⟨q0, q1, qP, va_K.moved (u := U) (U := U.calling g mk a) (Vm.Alike.refl U.vm) qK, qD, jz.call qE0⟩, va_recv hKc hPc (ci := 1) (q0 := 0) rfl rfl, fun U hU hW => ⟨rfl, by rw [hU], by rw [hU]; exact hPc, va_K.moved hW.alike hKc, hDc.weaken (fun _ _ _ _ => trivial), jz.pass hZ hS hFc hW hU⟩⟩ rfl rfl hl.1 rfl (lv_room (Nat.le_of_ble_eq_true rfl)) dJ4_append_cf468_2 ⟨(by show 0 + 1 ≤ 1; omega), (by show 0 + (capn (n + 1) cp) ≤ (capn (n + 1) cp); omega)⟩) hS (fun q _ h => hFc q h) hFc (fun u r_69 t H1 locs ht hvm hq0 hB hz1 hk1 hS => ?_)
  obtain ⟨v3, cA, m2, g2⟩ := u
  try dsimp only at hB
  try dsimp only at hq0
  obtain ⟨⟨hra, hv3⟩, hP1, hK1, hD1⟩ := hB
  rw [ht] at hP1
  have hK1 := va_K.moved hvm.symm hK1
  obtain ⟨hP, hD⟩ := va_join (wr := []) (w1 := [(h, .inr (1, [.ref v3, .int 0, .int ml, .int (nI (n + 1))])), (v3, .inl (cA, m2, .inl g2))]) hP hD [0, 1] [] rfl rfl (by decide) (by decide) hk1 hFc hP1 hD1
  have hK := (hK.sub (tys' := []) [] rfl).app hK1
  generalize H1 = H at hP hS ⊢
  have hP : va_P (dC, dI) vwCl [(h, .inr (1, [.ref v3, .int 0, .int ml, .int (nI (n + 1))])), (v3, .inl (cA, m2, .inl g2))] H := hP
  have hD : va_D A [(h, .inr (1, [.ref v3, .int 0, .int ml, .int (nI (n + 1))])), (v3, .inl (cA, m2, .inl g2))] := hD
  have hK : va_K (dC, dI) vwCl [(cA, .byte)] s := hK
  have hv3 : v3 = v ∨ s.heap.size ≤ v3 := hv3.imp id (fun q => Nat.le_trans hS0.1 q)
  refine lv_pop hx hb dJ4_append_cf468_5 rfl ?_
  refine lv_aload_n hx hb dJ4_append_cf468_6 rfl (lv_at hl 0 rfl) ?_
  obtain ⟨hg2, hq1, hq2, hcap⟩ := hq0
  have hm2 : n + 1 ≤ m2 ∧ m2 ≤ 262144 := ⟨hq1, hq2⟩
  have hP9 := hP.sub (ws' := [(h, .inr (1, [.ref v3, .int 0, .int ml, .int (nI (n + 1))])), (v3, .inl (cA, m2, .inl g2))]) [0, 1] rfl
  have hD9 := hD.sub (ws' := [(h, .inr (1, [.ref v3, .int 0, .int ml, .int (nI (n + 1))])), (v3, .inl (cA, m2, .inl g2))]) [0, 1] (by decide) rfl
  have hK9 := hK.sub (tys' := [(cA, .byte)]) [0] rfl
  refine W.widen (k := 1) (n := capn (n + 1) cp) (by omega) (by omega) ?_
  exact W.aret (v := .ref h) hx hb hr (Or.inl ⟨_, rfl⟩) (Or.inr ⟨_, rfl⟩) (fun t ht hW => ⟨⟨(v3, cA, m2, g2), h, rfl, ⟨hg2, hm2.1, hm2.2, hcap⟩, ⟨rfl, hv3⟩, by rw [ht]; exact hP9, va_K.moved hW.alike hK9, hD9⟩, hS.F ht⟩) hS.2.2 dJ4_append_cf468_7
set_option maxHeartbeats 4000000 in
set_option maxRecDepth 100000 in
/-- AbstractStringBuilder(k) -/
theorem kJ5_init_d00df (l : Launch) (dC : Nat → ClassId) (dI : Nat → Nat → Nat) (sz : Nat) (h : Nat) (cd ml x : Int32) (k : Nat) (hk : k ≤ 65536) : Met l yJ5_init_d00df wsJ5_init_d00df ({ frames := 1, cells := 1, slots := k, locals := 12 }) (va_Pc [.ref h, .int (nI k)] (fun U => U.heap.size = sz ∧ va_P (dC, dI) vwCl [(h, .inr (1, [.null, .int cd, .int ml, .int x]))] U.heap ∧ va_K (dC, dI) vwCl [] U ∧ va_D (fun _ => True) [(h, .inr (1, [.null, .int cd, .int ml, .int x]))] ∧ jz (va_A [(h, .inr (1, [.null, .int cd, .int ml, .int x]))] sz) U U.heap)) (va_Qv (fun (u : Nat × ClassId) => match u with | (v, cA) => True) (fun (u : Nat × ClassId) (t : State) => match u with | (v, cA) => sz ≤ v ∧ va_P (dC, dI) vwCl [(h, .inr (1, [.ref v, .int 0, .int ml, .int x])), (v, .inl (cA, k, .inl (fun _ => 0)))] t.heap ∧ va_K (dC, dI) vwCl [(cA, .byte)] t ∧ va_D (va_A [(h, .inr (1, [.null, .int cd, .int ml, .int x]))] sz) [(h, .inr (1, [.ref v, .int 0, .int ml, .int x])), (v, .inl (cA, k, .inl (fun _ => 0)))]) (va_A [(h, .inr (1, [.null, .int cd, .int ml, .int x]))] sz)) 1 k (va_A [(h, .inr (1, [.null, .int cd, .int ml, .int x]))] sz) := by
  refine Met.ofW (cc := cJ5_init_d00df) (maxL := 2) (ret := none) (by decide) rfl ?_
  intro p e s m args below meth c s₁ B hml hv
  obtain ⟨rfl, hsz, hP, hK, hD0, hZ⟩ := hv
  have hx := B.exec
  have hb := B.bytes
  have hr := B.returns
  have hts := atoms_spec (ws := wsJ5_init_d00df) B.pre
  have hown : s.vm.findClass RJ5 = some m.cls := findClass_of_methodNamed B.named
  have hlocks := B.notSynchronized
  have hin : meth.name = "<init>" := (name_of_methodNamed B.named B.method).1
  subst hsz
  have hD := hD0.self (sz := s.heap.size)
  generalize hAe : va_A [(h, .inr (1, [.null, .int cd, .int ml, .int x]))] s.heap.size = A at hD hZ ⊢
  have hA : ∀ q : Nat, s.heap.size ≤ q → A q := fun q h => by rw [← hAe]; exact Or.inr h
  have hS : va_S A s.heap s.heap [] := va_S.rf
  have hP : va_P (dC, dI) vwCl [(h, .inr (1, [.null, .int cd, .int ml, .int x]))] s.heap := hP
  have hl := lv_entry ([.ref h, .int (nI k)]) (n := 2) (Nat.le_of_ble_eq_true rfl)
  rw [lg_entry_eq]
  generalize (lg_sl ([.ref h, .int (nI k)]) ++ List.replicate (2 - (lg_sl ([.ref h, .int (nI k)])).length) Slot.unset).toArray = ls at hl ⊢
  have hl : lv_has ls 2 [(0, .ref h), (1, .int (nI k))] := hl
  refine lv_aload_n hx hb dJ5_init_d00df_0 rfl (lv_at hl 0 rfl) ?_
  refine W.objInit hx hb hown (hts (.methodLink RJ5 3 objectInit) (by decide +kernel)) (hts (.instanceMethod objectInit) (by decide +kernel)) (hts _ (by decide +kernel)) rfl (by rw [hml]; exact hl.1) rfl dJ5_init_d00df_1 (Nat.le_of_ble_eq_true rfl) (Nat.le_of_ble_eq_true rfl) ?_
  refine W.eq (g2 := F0 m 4 ls []) rfl ?_
  refine va_gets (C := "java/lang/String") (n := "COMPACT_STRINGS") (d := "Z") (v := .int 1) hx hb hZ.1 hS hown (hts (.fieldLink RJ5 18 "java/lang/String" "COMPACT_STRINGS" "Z") (by decide +kernel)) (fun _ h9 => h9) dJ5_init_d00df_4 ?_
  refine lv_if_eq (tgt := 25) hx hb dJ5_init_d00df_7 (by decide) (fun c_70 => absurd c_70 (by decide)) (fun c_70 => ?_)
  refine lv_aload_n hx hb dJ5_init_d00df_10 rfl (lv_at hl 0 rfl) ?_
  refine lv_iload_n hx hb dJ5_init_d00df_11 rfl (lv_at hl 1 rfl) ?_
  refine va_newa (atype := .byte) (ty := .byte) (N' := k) (a0 := (k, .inl (fun _ => 0))) hx hb (hts (.arrayClass .byte) (by decide +kernel)) rfl hK hP hD hS hA (fun _ => rfl) (nI_pos (by omega)) (nI_clamp (by omega)) (by show k * 1 ≤ 536870912; omega) (by show 0 + 1 ≤ 1; omega) (by show 0 + k ≤ k; omega) dJ5_init_d00df_12 (fun q_71 cA_72 H hK hP hD hS => ?_)
  have hP : va_P (dC, dI) vwCl [(h, .inr (1, [.null, .int cd, .int ml, .int x])), (q_71, .inl (cA_72, k, .inl (fun _ => 0)))] H := hP
  have hD : va_D A [(h, .inr (1, [.null, .int cd, .int ml, .int x])), (q_71, .inl (cA_72, k, .inl (fun _ => 0)))] := hD
  have hK : va_K (dC, dI) vwCl [(cA_72, .byte)] s := hK
  refine va_put (D := (dC, dI)) (ci := 1) (v := .ref q_71) (ty := (.array .byte)) (C := RJ4) (T := TJ4) (N := 4) hx hb hts (by decide +kernel) tyJ4 tyJ4_ok nmJ4 hown hK hP hD hS 0 rfl rfl 0 (by decide) (hts (.fieldLink RJ5 15 "java/lang/AbstractStringBuilder" "value" "[B") (by decide +kernel)) (fun _ h9 => h9) rfl (by decide +kernel) rfl rfl (Nat.le_of_ble_eq_true rfl) dJ5_init_d00df_14 (fun H locs hP hD hS => ?_)
  have hP : va_P (dC, dI) vwCl [(h, .inr (1, [.ref q_71, .int cd, .int ml, .int x])), (q_71, .inl (cA_72, k, .inl (fun _ => 0)))] H := hP
  have hD : va_D A [(h, .inr (1, [.ref q_71, .int cd, .int ml, .int x])), (q_71, .inl (cA_72, k, .inl (fun _ => 0)))] := hD
  refine lv_aload_n hx hb dJ5_init_d00df_17 rfl (lv_at hl 0 rfl) ?_
  refine lv_iconst (v := 0) hx hb dJ5_init_d00df_18 (by decide) ?_
  refine va_put (D := (dC, dI)) (ci := 1) (v := .int 0) (ty := .byte) (C := RJ4) (T := TJ4) (N := 4) hx hb hts (by decide +kernel) tyJ4 tyJ4_ok nmJ4 hown hK hP hD hS 0 rfl rfl 1 (by decide) (hts (.fieldLink RJ5 22 "java/lang/AbstractStringBuilder" "coder" "B") (by decide +kernel)) (fun _ h9 => h9) rfl (by decide +kernel) rfl rfl (Nat.le_of_ble_eq_true rfl) dJ5_init_d00df_19 (fun H locs hP hD hS => ?_)
  have hP : va_P (dC, dI) vwCl [(h, .inr (1, [.ref q_71, .int 0, .int ml, .int x])), (q_71, .inl (cA_72, k, .inl (fun _ => 0)))] H := hP
  have hD : va_D A [(h, .inr (1, [.ref q_71, .int 0, .int ml, .int x])), (q_71, .inl (cA_72, k, .inl (fun _ => 0)))] := hD
  refine lv_goto (tgt := 38) hx hb dJ5_init_d00df_22 (by decide) ?_
  have hfr : s.heap.size ≤ q_71 := va_new_ge hAe hD 1 [0] rfl rfl (by decide)
  have hP9 := hP.sub (ws' := [(h, .inr (1, [.ref q_71, .int 0, .int ml, .int x])), (q_71, .inl (cA_72, k, .inl (fun _ => 0)))]) [0, 1] rfl
  have hD9 := hD.sub (ws' := [(h, .inr (1, [.ref q_71, .int 0, .int ml, .int x])), (q_71, .inl (cA_72, k, .inl (fun _ => 0)))]) [0, 1] (by decide) rfl
  have hK9 := hK.sub (tys' := [(cA_72, .byte)]) [0] rfl
  refine W.widen (k := 1) (n := k) (by omega) (by omega) ?_
  exact W.vret hx hb hr (fun t ht hW => ⟨⟨(q_71, cA_72), rfl, trivial, hfr, by rw [ht]; exact hP9, va_K.moved hW.alike hK9, hD9⟩, hS.F ht⟩) hS.2.2 dJ5_init_d00df_38
set_option maxHeartbeats 4000000 in
set_option maxRecDepth 100000 in
/-- StringBuilder() -/
theorem kJ4_init_da8c8 (l : Launch) (dC : Nat → ClassId) (dI : Nat → Nat → Nat) (sz : Nat) (h : Nat) (cd ml x : Int32) : Met l yJ4_init_da8c8 wsJ4_init_da8c8 ({ frames := 2, cells := 1, slots := 16, locals := 33 }) (va_Pc [.ref h] (fun U => U.heap.size = sz ∧ va_P (dC, dI) vwCl [(h, .inr (1, [.null, .int cd, .int ml, .int x]))] U.heap ∧ va_K (dC, dI) vwCl [] U ∧ va_D (fun _ => True) [(h, .inr (1, [.null, .int cd, .int ml, .int x]))] ∧ jz (va_A [(h, .inr (1, [.null, .int cd, .int ml, .int x]))] sz) U U.heap)) (va_Qv (fun (u : Nat × ClassId) => match u with | (v, cA) => True) (fun (u : Nat × ClassId) (t : State) => match u with | (v, cA) => sz ≤ v ∧ va_P (dC, dI) vwCl [(h, .inr (1, [.ref v, .int 0, .int ml, .int x])), (v, .inl (cA, 16, .inl (fun _ => 0)))] t.heap ∧ va_K (dC, dI) vwCl [(cA, .byte)] t ∧ va_D (va_A [(h, .inr (1, [.null, .int cd, .int ml, .int x]))] sz) [(h, .inr (1, [.ref v, .int 0, .int ml, .int x])), (v, .inl (cA, 16, .inl (fun _ => 0)))]) (va_A [(h, .inr (1, [.null, .int cd, .int ml, .int x]))] sz)) 1 16 (va_A [(h, .inr (1, [.null, .int cd, .int ml, .int x]))] sz) := by
  refine Met.ofW (cc := cJ4_init_da8c8) (maxL := 1) (ret := none) (by decide) rfl ?_
  intro p e s m args below meth c s₁ B hml hv
  obtain ⟨rfl, hsz, hP, hK, hD0, hZ⟩ := hv
  have hx := B.exec
  have hb := B.bytes
  have hr := B.returns
  have hts := atoms_spec (ws := wsJ4_init_da8c8) B.pre
  have hown : s.vm.findClass RJ4 = some m.cls := findClass_of_methodNamed B.named
  have hlocks := B.notSynchronized
  have hin : meth.name = "<init>" := (name_of_methodNamed B.named B.method).1
  subst hsz
  have hD := hD0.self (sz := s.heap.size)
  generalize hAe : va_A [(h, .inr (1, [.null, .int cd, .int ml, .int x]))] s.heap.size = A at hD hZ ⊢
  have hA : ∀ q : Nat, s.heap.size ≤ q → A q := fun q h => by rw [← hAe]; exact Or.inr h
  have hS : va_S A s.heap s.heap [] := va_S.rf
  have hP : va_P (dC, dI) vwCl [(h, .inr (1, [.null, .int cd, .int ml, .int x]))] s.heap := hP
  have hl := lv_entry ([.ref h]) (n := 1) (Nat.le_of_ble_eq_true rfl)
  rw [lg_entry_eq]
  generalize (lg_sl ([.ref h]) ++ List.replicate (1 - (lg_sl ([.ref h])).length) Slot.unset).toArray = ls at hl ⊢
  have hl : lv_has ls 1 [(0, .ref h)] := hl
  refine lv_aload_n hx hb dJ4_init_da8c8_0 rfl (lv_at hl 0 rfl) ?_
  refine lv_bipush (v := 16) hx hb dJ4_init_da8c8_1 (by decide) ?_
  have hS0 := hS
  have hPc := hP.sub (ws' := [(h, .inr (1, [.null, .int cd, .int ml, .int x]))]) [0] rfl
  have hDc := hD.sub (ws' := [(h, .inr (1, [.null, .int cd, .int ml, .int x]))]) [0] (by decide) rfl
  have hKc := hK.sub (tys' := []) [] rfl
  have hFc := va_free (wc := [(h, .inr (1, [.null, .int cd, .int ml, .int x]))]) hD hS hA [0] rfl
  refine va_callv (va_runI (As := [.int (nI 16)]) (rest := []) ⟨hx, hb, hml, hown, hts⟩ (kJ5_init_d00df l dC dI s.heap.size h cd ml x 16 (by omega)) (cwI 1 hts gJ4_init_da8c8_J5_init_d00df rfl rfl rfl (hts (.initialized RJ5) (by decide +kernel)) (hts (.methodLink RJ4 1 yJ5_init_d00df) (by decide +kernel)) (hts (.instanceMethod yJ5_init_d00df) (by decide +kernel)) rfl (by decide +kernel) ⟨Nat.le_of_ble_eq_true rfl, Nat.le_of_ble_eq_true rfl⟩) ⟨fun a U g mk q => by obtain ⟨q0, q1, qP, qK, qD, qE0⟩ := q; exact ⟨q0, q1, qP, va_K.moved (u := U) (U := U.calling g mk a) (Vm.Alike.refl U.vm) qK, qD, jz.call qE0⟩, fun U hU hW => ⟨rfl, by rw [hU], by rw [hU]; exact hPc, va_K.moved hW.alike hKc, hDc.weaken (fun _ _ _ _ => trivial), jz.pass hZ hS hFc hW hU⟩⟩ rfl rfl hl.1 rfl (lv_room (Nat.le_of_ble_eq_true rfl)) dJ4_init_da8c8_3 ⟨(by show 0 + 1 ≤ 1; omega), (by show 0 + 16 ≤ 16; omega)⟩) hS (fun q _ h => hFc q h) hFc (fun u t H1 locs ht hvm hw_73 hB hz1 hk1 hS => ?_)
  obtain ⟨v, cA⟩ := u
  try dsimp only at hB
  try dsimp only at hw_73
  obtain ⟨hfr, hP1, hK1, hD1⟩ := hB
  rw [ht] at hP1
  have hK1 := va_K.moved hvm.symm hK1
  obtain ⟨hP, hD⟩ := va_join (wr := []) (w1 := [(h, .inr (1, [.ref v, .int 0, .int ml, .int x])), (v, .inl (cA, 16, .inl (fun _ => 0)))]) hP hD [0] [] rfl rfl (by decide) (by decide) hk1 hFc hP1 hD1
  have hK := (hK.sub (tys' := []) [] rfl).app hK1
  generalize H1 = H at hP hS ⊢
  have hP : va_P (dC, dI) vwCl [(h, .inr (1, [.ref v, .int 0, .int ml, .int x])), (v, .inl (cA, 16, .inl (fun _ => 0)))] H := hP
  have hD : va_D A [(h, .inr (1, [.ref v, .int 0, .int ml, .int x])), (v, .inl (cA, 16, .inl (fun _ => 0)))] := hD
  have hK : va_K (dC, dI) vwCl [(cA, .byte)] s := hK
  have hfr := Nat.le_trans hS0.1 hfr
  have hP9 := hP.sub (ws' := [(h, .inr (1, [.ref v, .int 0, .int ml, .int x])), (v, .inl (cA, 16, .inl (fun _ => 0)))]) [0, 1] rfl
  have hD9 := hD.sub (ws' := [(h, .inr (1, [.ref v, .int 0, .int ml, .int x])), (v, .inl (cA, 16, .inl (fun _ => 0)))]) [0, 1] (by decide) rfl
  have hK9 := hK.sub (tys' := [(cA, .byte)]) [0] rfl
  refine W.widen (k := 1) (n := 16) (by omega) (by omega) ?_
  exact W.vret hx hb hr (fun t ht hW => ⟨⟨(v, cA), rfl, trivial, hfr, by rw [ht]; exact hP9, va_K.moved hW.alike hK9, hD9⟩, hS.F ht⟩) hS.2.2 dJ4_init_da8c8_6
set_option maxHeartbeats 4000000 in
set_option maxRecDepth 100000 in
/-- String(a Latin-1 builder) -/
theorem kJ0_init_db425 (l : Launch) (dC : Nat → ClassId) (dI : Nat → Nat → Nat) (sz : Nat) (h2 h v : Nat) (cd hh hz ml : Int32) (cB : ClassId) (n cp : Nat) (f : Nat → Int32) (hn : n ≤ cp) (hm : cp ≤ 65536) (hf : sb_Fit f) : Met l yJ0_init_db425 wsJ0_init_db425 ({ frames := 3, cells := 1, slots := n, locals := 106 }) (va_Pc [.ref h2, .ref h, .null] (fun U => U.heap.size = sz ∧ va_P (dC, dI) vwCl [(h2, .inr (0, [.null, .int cd, .int hh, .int hz])), (h, .inr (1, [.ref v, .int 0, .int ml, .int (nI n)])), (v, .inl (cB, cp, .inl f))] U.heap ∧ va_K (dC, dI) vwCl [(cB, .byte)] U ∧ va_D (fun _ => True) [(h2, .inr (0, [.null, .int cd, .int hh, .int hz])), (h, .inr (1, [.ref v, .int 0, .int ml, .int (nI n)])), (v, .inl (cB, cp, .inl f))] ∧ jz (va_A [(h2, .inr (0, [.null, .int cd, .int hh, .int hz])), (h, .inr (1, [.ref v, .int 0, .int ml, .int (nI n)])), (v, .inl (cB, cp, .inl f))] sz) U U.heap)) (va_Qv (fun (u : Nat × ClassId × (Nat → Int32)) => match u with | (v2, cA, g) => sb_Fit g ∧ ∀ j, j < n → g j = f j) (fun (u : Nat × ClassId × (Nat → Int32)) (t : State) => match u with | (v2, cA, g) => sz ≤ v2 ∧ va_P (dC, dI) vwCl [(h2, .inr (0, [.ref v2, .int 0, .int hh, .int hz])), (v2, .inl (cA, n, .inl g)), (h, .inr (1, [.ref v, .int 0, .int ml, .int (nI n)])), (v, .inl (cB, cp, .inl f))] t.heap ∧ va_K (dC, dI) vwCl [(cA, .byte), (cB, .byte)] t ∧ va_D (va_A [(h2, .inr (0, [.null, .int cd, .int hh, .int hz])), (h, .inr (1, [.ref v, .int 0, .int ml, .int (nI n)])), (v, .inl (cB, cp, .inl f))] sz) [(h2, .inr (0, [.ref v2, .int 0, .int hh, .int hz])), (v2, .inl (cA, n, .inl g)), (h, .inr (1, [.ref v, .int 0, .int ml, .int (nI n)])), (v, .inl (cB, cp, .inl f))]) (va_A [(h2, .inr (0, [.null, .int cd, .int hh, .int hz])), (h, .inr (1, [.ref v, .int 0, .int ml, .int (nI n)])), (v, .inl (cB, cp, .inl f))] sz)) 1 n (va_A [(h2, .inr (0, [.null, .int cd, .int hh, .int hz])), (h, .inr (1, [.ref v, .int 0, .int ml, .int (nI n)])), (v, .inl (cB, cp, .inl f))] sz) := by
  refine Met.ofW (cc := cJ0_init_db425) (maxL := 5) (ret := none) (by decide) rfl ?_
  intro p e s m args below meth c s₁ B hml hv
  obtain ⟨rfl, hsz, hP, hK, hD0, hZ⟩ := hv
  have hx := B.exec
  have hb := B.bytes
  have hr := B.returns
  have hts := atoms_spec (ws := wsJ0_init_db425) B.pre
  have hown : s.vm.findClass RJ0 = some m.cls := findClass_of_methodNamed B.named
  have hlocks := B.notSynchronized
  have hin : meth.name = "<init>" := (name_of_methodNamed B.named B.method).1
  subst hsz
  have hD := hD0.self (sz := s.heap.size)
  generalize hAe : va_A [(h2, .inr (0, [.null, .int cd, .int hh, .int hz])), (h, .inr (1, [.ref v, .int 0, .int ml, .int (nI n)])), (v, .inl (cB, cp, .inl f))] s.heap.size = A at hD hZ ⊢
  have hA : ∀ q : Nat, s.heap.size ≤ q → A q := fun q h => by rw [← hAe]; exact Or.inr h
  have hS : va_S A s.heap s.heap [] := va_S.rf
  have hP : va_P (dC, dI) vwCl [(h2, .inr (0, [.null, .int cd, .int hh, .int hz])), (h, .inr (1, [.ref v, .int 0, .int ml, .int (nI n)])), (v, .inl (cB, cp, .inl f))] s.heap := hP
  have hl := lv_entry ([.ref h2, .ref h, .null]) (n := 5) (Nat.le_of_ble_eq_true rfl)
  rw [lg_entry_eq]
  generalize (lg_sl ([.ref h2, .ref h, .null]) ++ List.replicate (5 - (lg_sl ([.ref h2, .ref h, .null])).length) Slot.unset).toArray = ls at hl ⊢
  have hl : lv_has ls 5 [(0, .ref h2), (1, .ref h), (2, .null)] := hl
  refine lv_aload_n hx hb dJ0_init_db425_0 rfl (lv_at hl 0 rfl) ?_
  refine W.objInit hx hb hown (hts (.methodLink RJ0 1 objectInit) (by decide +kernel)) (hts (.instanceMethod objectInit) (by decide +kernel)) (hts _ (by decide +kernel)) rfl (by rw [hml]; exact hl.1) rfl dJ0_init_db425_1 (Nat.le_of_ble_eq_true rfl) (Nat.le_of_ble_eq_true rfl) ?_
  refine W.eq (g2 := F0 m 4 ls []) rfl ?_
  refine lv_aload_n hx hb dJ0_init_db425_4 rfl (lv_at hl 1 rfl) ?_
  have hPc := hP.sub (ws' := [(h, .inr (1, [.ref v, .int 0, .int ml, .int (nI n)]))]) [1] rfl
  have hDc := hD.sub (ws' := [(h, .inr (1, [.ref v, .int 0, .int ml, .int (nI n)]))]) [1] (by decide) rfl
  have hKc := hK.sub (tys' := []) [] rfl
  have hFc := va_free (wc := [(h, .inr (1, [.ref v, .int 0, .int ml, .int (nI n)]))]) hD hS hA [1] rfl
  refine va_callr (va_runU (As := []) (rest := []) ⟨hx, hb, hml, hown, hts⟩ (kJ5_getValue_6d5f1 l dC dI s.heap.size h v ml (nI n)) (va_cwU 0 hts gJ0_init_db425_J5_getValue_6d5f1_u552J4 rfl rfl rfl rfl (by decide +kernel) ⟨Nat.le_of_ble_eq_true rfl, Nat.le_of_ble_eq_true rfl⟩) ⟨fun a U g mk q => by obtain ⟨q0, q1, qP, qK, qD⟩ := q; exact ⟨q0, q1, qP, va_K.moved (u := U) (U := U.calling g mk a) (Vm.Alike.refl U.vm) qK, qD⟩, va_recv hKc hPc (ci := 1) (q0 := 0) rfl rfl, fun U hU hW => ⟨rfl, by rw [hU], by rw [hU]; exact hPc, va_K.moved hW.alike hKc, hDc.weaken (fun _ _ _ _ => trivial)⟩⟩ rfl rfl hl.1 rfl (lv_room (Nat.le_of_ble_eq_true rfl)) dJ0_init_db425_5 ⟨(by show 0 + 0 ≤ 1; omega), (by show 0 + 0 ≤ n; omega)⟩) hS (fun q _ h => hFc q h) hFc (fun u r_75 t H1 locs ht hvm hgv hB hz1 hk1 hS => ?_)
  try dsimp only at hB
  try dsimp only at hgv
  obtain ⟨hra, hP1, hK1, hD1⟩ := hB
  rw [ht] at hP1
  have hK1 := va_K.moved hvm.symm hK1
  obtain ⟨hP, hD⟩ := va_join (wr := [(h2, .inr (0, [.null, .int cd, .int hh, .int hz])), (v, .inl (cB, cp, .inl f))]) (w1 := [(h, .inr (1, [.ref v, .int 0, .int ml, .int (nI n)]))]) hP hD [1] [0, 2] rfl rfl (by decide) (by decide) hk1 hFc hP1 hD1
  have hK := (hK.sub (tys' := [(cB, .byte)]) [0] rfl).app hK1
  generalize H1 = H at hP hS ⊢
  have hP : va_P (dC, dI) vwCl [(h2, .inr (0, [.null, .int cd, .int hh, .int hz])), (v, .inl (cB, cp, .inl f)), (h, .inr (1, [.ref v, .int 0, .int ml, .int (nI n)]))] H := hP
  have hD : va_D A [(h2, .inr (0, [.null, .int cd, .int hh, .int hz])), (v, .inl (cB, cp, .inl f)), (h, .inr (1, [.ref v, .int 0, .int ml, .int (nI n)]))] := hD
  have hK : va_K (dC, dI) vwCl [(cB, .byte)] s := hK
  have hra2 := hra.symm
  subst hra2
  refine lv_astore_n (lv' := [(3, .ref v), (0, .ref h2), (1, .ref h), (2, .null)]) hx hb dJ0_init_db425_8 rfl hl (by decide) rfl (fun ls hl => ?_)
  refine lv_aload_n hx hb dJ0_init_db425_9 rfl (lv_at hl 2 rfl) ?_
  have hPc := hP.sub (ws' := [(h, .inr (1, [.ref v, .int 0, .int ml, .int (nI n)]))]) [2] rfl
  have hDc := hD.sub (ws' := [(h, .inr (1, [.ref v, .int 0, .int ml, .int (nI n)]))]) [2] (by decide) rfl
  have hKc := hK.sub (tys' := []) [] rfl
  have hFc := va_free (wc := [(h, .inr (1, [.ref v, .int 0, .int ml, .int (nI n)]))]) hD hS hA [2] rfl
  refine va_calli (va_runU (As := []) (rest := []) ⟨hx, hb, hml, hown, hts⟩ (kJ4_length_8abf5 l dC dI H.size h v ml (nI n)) (va_cwO 0 hts gJ0_init_db425_J4_length_8abf5_u549J4 rfl rfl rfl (b0 := cJ5_length_8abf5) (m0 := 1) (r0 := (some .int)) (by decide +kernel) (by decide +kernel) ⟨Nat.le_of_ble_eq_true rfl, Nat.le_of_ble_eq_true rfl⟩) ⟨fun a U g mk q => by obtain ⟨q0, q1, qP, qK, qD⟩ := q; exact ⟨q0, q1, qP, va_K.moved (u := U) (U := U.calling g mk a) (Vm.Alike.refl U.vm) qK, qD⟩, va_recv hKc hPc (ci := 1) (q0 := 0) rfl rfl, fun U hU hW => ⟨rfl, by rw [hU], by rw [hU]; exact hPc, va_K.moved hW.alike hKc, hDc.weaken (fun _ _ _ _ => trivial)⟩⟩ rfl rfl hl.1 rfl (lv_room (Nat.le_of_ble_eq_true rfl)) dJ0_init_db425_10 ⟨(by show 0 + 0 + 0 ≤ 1; omega), (by show 0 + 0 + 0 ≤ n; omega)⟩) hS (fun q _ h => hFc q h) hFc (fun r_76 u t H1 locs ht hvm hgl hB hz1 hk1 hS => ?_)
  try dsimp only at hB
  try dsimp only at hgl
  obtain ⟨hP1, hK1, hD1⟩ := hB
  rw [ht] at hP1
  have hK1 := va_K.moved hvm.symm hK1
  obtain ⟨hP, hD⟩ := va_join (wr := [(h2, .inr (0, [.null, .int cd, .int hh, .int hz])), (v, .inl (cB, cp, .inl f))]) (w1 := [(h, .inr (1, [.ref v, .int 0, .int ml, .int (nI n)]))]) hP hD [2] [0, 1] rfl rfl (by decide) (by decide) hk1 hFc hP1 hD1
  have hK := (hK.sub (tys' := [(cB, .byte)]) [0] rfl).app hK1
  generalize H1 = H at hP hS ⊢
  have hP : va_P (dC, dI) vwCl [(h2, .inr (0, [.null, .int cd, .int hh, .int hz])), (v, .inl (cB, cp, .inl f)), (h, .inr (1, [.ref v, .int 0, .int ml, .int (nI n)]))] H := hP
  have hD : va_D A [(h2, .inr (0, [.null, .int cd, .int hh, .int hz])), (v, .inl (cB, cp, .inl f)), (h, .inr (1, [.ref v, .int 0, .int ml, .int (nI n)]))] := hD
  have hK : va_K (dC, dI) vwCl [(cB, .byte)] s := hK
  subst hgl
  refine lv_istore (lv' := [(4, .int (nI n)), (3, .ref v), (0, .ref h2), (1, .ref h), (2, .null)]) hx hb dJ0_init_db425_13 hl (by decide) rfl (fun ls hl => ?_)
  refine lv_aload_n hx hb dJ0_init_db425_15 rfl (lv_at hl 3 rfl) ?_
  have hPc := hP.sub (ws' := [(h, .inr (1, [.ref v, .int 0, .int ml, .int (nI n)]))]) [2] rfl
  have hDc := hD.sub (ws' := [(h, .inr (1, [.ref v, .int 0, .int ml, .int (nI n)]))]) [2] (by decide) rfl
  have hKc := hK.sub (tys' := []) [] rfl
  have hFc := va_free (wc := [(h, .inr (1, [.ref v, .int 0, .int ml, .int (nI n)]))]) hD hS hA [2] rfl
  refine va_calli (va_runU (As := []) (rest := []) ⟨hx, hb, hml, hown, hts⟩ (kJ5_isLatin1_aae02 l dC dI H.size h v ml (nI n)) (va_cwU 0 hts gJ0_init_db425_J5_isLatin1_aae02_u1047J4 rfl rfl rfl rfl (by decide +kernel) ⟨Nat.le_of_ble_eq_true rfl, Nat.le_of_ble_eq_true rfl⟩) ⟨fun a U g mk q => by obtain ⟨q0, q1, qP, qK, qD, qE0⟩ := q; exact ⟨q0, q1, qP, va_K.moved (u := U) (U := U.calling g mk a) (Vm.Alike.refl U.vm) qK, qD, jz.call qE0⟩, va_recv hKc hPc (ci := 1) (q0 := 0) rfl rfl, fun U hU hW => ⟨rfl, by rw [hU], by rw [hU]; exact hPc, va_K.moved hW.alike hKc, hDc.weaken (fun _ _ _ _ => trivial), jz.pass hZ hS hFc hW hU⟩⟩ rfl rfl hl.1 rfl (lv_room (Nat.le_of_ble_eq_true rfl)) dJ0_init_db425_16 ⟨(by show 0 + 0 + 0 + 0 ≤ 1; omega), (by show 0 + 0 + 0 + 0 ≤ n; omega)⟩) hS (fun q _ h => hFc q h) hFc (fun r_77 u t H1 locs ht hvm hil hB hz1 hk1 hS => ?_)
  try dsimp only at hB
  try dsimp only at hil
  obtain ⟨hP1, hK1, hD1⟩ := hB
  rw [ht] at hP1
  have hK1 := va_K.moved hvm.symm hK1
  obtain ⟨hP, hD⟩ := va_join (wr := [(h2, .inr (0, [.null, .int cd, .int hh, .int hz])), (v, .inl (cB, cp, .inl f))]) (w1 := [(h, .inr (1, [.ref v, .int 0, .int ml, .int (nI n)]))]) hP hD [2] [0, 1] rfl rfl (by decide) (by decide) hk1 hFc hP1 hD1
  have hK := (hK.sub (tys' := [(cB, .byte)]) [0] rfl).app hK1
  generalize H1 = H at hP hS ⊢
  have hP : va_P (dC, dI) vwCl [(h2, .inr (0, [.null, .int cd, .int hh, .int hz])), (v, .inl (cB, cp, .inl f)), (h, .inr (1, [.ref v, .int 0, .int ml, .int (nI n)]))] H := hP
  have hD : va_D A [(h2, .inr (0, [.null, .int cd, .int hh, .int hz])), (v, .inl (cB, cp, .inl f)), (h, .inr (1, [.ref v, .int 0, .int ml, .int (nI n)]))] := hD
  have hK : va_K (dC, dI) vwCl [(cB, .byte)] s := hK
  refine lv_if_eq (tgt := 41) hx hb dJ0_init_db425_19 (by decide) (fun c_78 => absurd c_78 (by rw [hil]; decide)) (fun c_78 => ?_)
  refine lv_aload_n hx hb dJ0_init_db425_22 rfl (lv_at hl 2 rfl) ?_
  refine lv_iconst (v := 0) hx hb dJ0_init_db425_23 (by decide) ?_
  refine va_putF (D := (dC, dI)) (ci := 0) (v := .int 0) (ty := .byte) (C := RJ0) (T := TJ0) (N := 4) hx hb hts (by decide +kernel) tyJ0 tyJ0_ok nmJ0 hown hK hP hD hS 0 rfl rfl 1 (by decide) (hts (.fieldLink RJ0 15 "java/lang/String" "coder" "B") (by decide +kernel)) (fun _ h9 => h9) rfl hin rfl (by decide +kernel) rfl rfl (Nat.le_of_ble_eq_true rfl) dJ0_init_db425_24 (fun H locs hP hD hS => ?_)
  have hP : va_P (dC, dI) vwCl [(h2, .inr (0, [.null, .int 0, .int hh, .int hz])), (v, .inl (cB, cp, .inl f)), (h, .inr (1, [.ref v, .int 0, .int ml, .int (nI n)]))] H := hP
  have hD : va_D A [(h2, .inr (0, [.null, .int 0, .int hh, .int hz])), (v, .inl (cB, cp, .inl f)), (h, .inr (1, [.ref v, .int 0, .int ml, .int (nI n)]))] := hD
  refine lv_aload_n hx hb dJ0_init_db425_27 rfl (lv_at hl 2 rfl) ?_
  refine lv_aload_n hx hb dJ0_init_db425_28 rfl (lv_at hl 1 rfl) ?_
  refine lv_iconst (v := 0) hx hb dJ0_init_db425_29 (by decide) ?_
  refine lv_iload hx hb dJ0_init_db425_30 (lv_at hl 0 rfl) ?_
  have hsz7 := hS.1
  have hPc := hP.sub (ws' := [(v, .inl (cB, cp, .inl f))]) [1] rfl
  have hDc := hD.sub (ws' := [(v, .inl (cB, cp, .inl f))]) [1] (by decide) rfl
  have hKc := hK.sub (tys' := [(cB, .byte)]) [0] rfl
  have hFc := va_free (wc := [(v, .inl (cB, cp, .inl f))]) hD hS hA [1] rfl
  refine va_callr (va_runS (As := [.ref v, .int (nI 0), .int (nI n)]) (rest := [.ref h2]) ⟨hx, hb, hml, hown, hts⟩ (kJ7_copyOfRange_39247 l dC dI H.size v cB cp f n hn hm hf) (va_cwS 3 hts gJ0_init_db425_J7_copyOfRange_39247 rfl rfl rfl (by decide +kernel) ⟨Nat.le_of_ble_eq_true rfl, Nat.le_of_ble_eq_true rfl⟩) ⟨fun a U g mk q => by obtain ⟨q0, q1, qP, qK, qD, qE0⟩ := q; exact ⟨q0, q1, qP, va_K.moved (u := U) (U := U.calling g mk a) (Vm.Alike.refl U.vm) qK, qD, jz.call qE0⟩, fun U hU hW => ⟨rfl, by rw [hU], by rw [hU]; exact hPc, va_K.moved hW.alike hKc, hDc.weaken (fun _ _ _ _ => trivial), jz.pass hZ hS hFc hW hU⟩⟩ rfl rfl hl.1 rfl (lv_room (Nat.le_of_ble_eq_true rfl)) dJ0_init_db425_32 ⟨(by show 0 + 0 + 0 + 0 + 1 ≤ 1; omega), (by show 0 + 0 + 0 + 0 + n ≤ n; omega)⟩) hS (fun q _ h => hFc q h) hFc (fun u r_79 t H1 locs ht hvm hg hB hz1 hk1 hS => ?_)
  obtain ⟨cA, g⟩ := u
  try dsimp only at hB
  try dsimp only at hg
  obtain ⟨hfr, hP1, hK1, hD1⟩ := hB
  rw [ht] at hP1
  have hK1 := va_K.moved hvm.symm hK1
  obtain ⟨hP, hD⟩ := va_join (wr := [(h2, .inr (0, [.null, .int 0, .int hh, .int hz])), (h, .inr (1, [.ref v, .int 0, .int ml, .int (nI n)]))]) (w1 := [(v, .inl (cB, cp, .inl f)), (r_79, .inl (cA, n, .inl g))]) hP hD [1] [0, 2] rfl rfl (by decide) (by decide) hk1 hFc hP1 hD1
  have hK := (hK.sub (tys' := []) [] rfl).app hK1
  generalize H1 = H at hP hS ⊢
  have hP : va_P (dC, dI) vwCl [(h2, .inr (0, [.null, .int 0, .int hh, .int hz])), (h, .inr (1, [.ref v, .int 0, .int ml, .int (nI n)])), (v, .inl (cB, cp, .inl f)), (r_79, .inl (cA, n, .inl g))] H := hP
  have hD : va_D A [(h2, .inr (0, [.null, .int 0, .int hh, .int hz])), (h, .inr (1, [.ref v, .int 0, .int ml, .int (nI n)])), (v, .inl (cB, cp, .inl f)), (r_79, .inl (cA, n, .inl g))] := hD
  have hK : va_K (dC, dI) vwCl [(cB, .byte), (cA, .byte)] s := hK
  have hfr := Nat.le_trans hsz7 hfr
  refine va_putF (D := (dC, dI)) (ci := 0) (v := .ref r_79) (ty := (.array .byte)) (C := RJ0) (T := TJ0) (N := 4) hx hb hts (by decide +kernel) tyJ0 tyJ0_ok nmJ0 hown hK hP hD hS 0 rfl rfl 0 (by decide) (hts (.fieldLink RJ0 9 "java/lang/String" "value" "[B") (by decide +kernel)) (fun _ h9 => h9) rfl hin rfl (by decide +kernel) rfl rfl (Nat.le_of_ble_eq_true rfl) dJ0_init_db425_35 (fun H locs hP hD hS => ?_)
  have hP : va_P (dC, dI) vwCl [(h2, .inr (0, [.ref r_79, .int 0, .int hh, .int hz])), (h, .inr (1, [.ref v, .int 0, .int ml, .int (nI n)])), (v, .inl (cB, cp, .inl f)), (r_79, .inl (cA, n, .inl g))] H := hP
  have hD : va_D A [(h2, .inr (0, [.ref r_79, .int 0, .int hh, .int hz])), (h, .inr (1, [.ref v, .int 0, .int ml, .int (nI n)])), (v, .inl (cB, cp, .inl f)), (r_79, .inl (cA, n, .inl g))] := hD
  refine lv_goto (tgt := 97) hx hb dJ0_init_db425_38 (by decide) ?_
  have hP9 := hP.sub (ws' := [(h2, .inr (0, [.ref r_79, .int 0, .int hh, .int hz])), (r_79, .inl (cA, n, .inl g)), (h, .inr (1, [.ref v, .int 0, .int ml, .int (nI n)])), (v, .inl (cB, cp, .inl f))]) [0, 3, 1, 2] rfl
  have hD9 := hD.sub (ws' := [(h2, .inr (0, [.ref r_79, .int 0, .int hh, .int hz])), (r_79, .inl (cA, n, .inl g)), (h, .inr (1, [.ref v, .int 0, .int ml, .int (nI n)])), (v, .inl (cB, cp, .inl f))]) [0, 3, 1, 2] (by decide) rfl
  have hK9 := hK.sub (tys' := [(cA, .byte), (cB, .byte)]) [1, 0] rfl
  refine W.widen (k := 1) (n := n) (by omega) (by omega) ?_
  exact W.vret hx hb hr (fun t ht hW => ⟨⟨(r_79, cA, g), rfl, hg, hfr, by rw [ht]; exact hP9, va_K.moved hW.alike hK9, hD9⟩, hS.F ht⟩) hS.2.2 dJ0_init_db425_97
set_option maxHeartbeats 4000000 in
set_option maxRecDepth 100000 in
/-- String(a Latin-1 builder) -/
theorem kJ0_init_81219 (l : Launch) (dC : Nat → ClassId) (dI : Nat → Nat → Nat) (sz : Nat) (h2 h v : Nat) (cd hh hz ml : Int32) (cB : ClassId) (n cp : Nat) (f : Nat → Int32) (hn : n ≤ cp) (hm : cp ≤ 65536) (hf : sb_Fit f) : Met l yJ0_init_81219 wsJ0_init_81219 ({ frames := 4, cells := 1, slots := n, locals := 130 }) (va_Pc [.ref h2, .ref h] (fun U => U.heap.size = sz ∧ va_P (dC, dI) vwCl [(h2, .inr (0, [.null, .int cd, .int hh, .int hz])), (h, .inr (1, [.ref v, .int 0, .int ml, .int (nI n)])), (v, .inl (cB, cp, .inl f))] U.heap ∧ va_K (dC, dI) vwCl [(cB, .byte)] U ∧ va_D (fun _ => True) [(h2, .inr (0, [.null, .int cd, .int hh, .int hz])), (h, .inr (1, [.ref v, .int 0, .int ml, .int (nI n)])), (v, .inl (cB, cp, .inl f))] ∧ jz (va_A [(h2, .inr (0, [.null, .int cd, .int hh, .int hz])), (h, .inr (1, [.ref v, .int 0, .int ml, .int (nI n)])), (v, .inl (cB, cp, .inl f))] sz) U U.heap)) (va_Qv (fun (u : Nat × ClassId × (Nat → Int32)) => match u with | (v2, cA, g) => sb_Fit g ∧ ∀ j, j < n → g j = f j) (fun (u : Nat × ClassId × (Nat → Int32)) (t : State) => match u with | (v2, cA, g) => sz ≤ v2 ∧ va_P (dC, dI) vwCl [(h2, .inr (0, [.ref v2, .int 0, .int hh, .int hz])), (v2, .inl (cA, n, .inl g)), (h, .inr (1, [.ref v, .int 0, .int ml, .int (nI n)])), (v, .inl (cB, cp, .inl f))] t.heap ∧ va_K (dC, dI) vwCl [(cA, .byte), (cB, .byte)] t ∧ va_D (va_A [(h2, .inr (0, [.null, .int cd, .int hh, .int hz])), (h, .inr (1, [.ref v, .int 0, .int ml, .int (nI n)])), (v, .inl (cB, cp, .inl f))] sz) [(h2, .inr (0, [.ref v2, .int 0, .int hh, .int hz])), (v2, .inl (cA, n, .inl g)), (h, .inr (1, [.ref v, .int 0, .int ml, .int (nI n)])), (v, .inl (cB, cp, .inl f))]) (va_A [(h2, .inr (0, [.null, .int cd, .int hh, .int hz])), (h, .inr (1, [.ref v, .int 0, .int ml, .int (nI n)])), (v, .inl (cB, cp, .inl f))] sz)) 1 n (va_A [(h2, .inr (0, [.null, .int cd, .int hh, .int hz])), (h, .inr (1, [.ref v, .int 0, .int ml, .int (nI n)])), (v, .inl (cB, cp, .inl f))] sz) := by
  refine Met.ofW (cc := cJ0_init_81219) (maxL := 2) (ret := none) (by decide) rfl ?_
  intro p e s m args below meth c s₁ B hml hv
  obtain ⟨rfl, hsz, hP, hK, hD0, hZ⟩ := hv
  have hx := B.exec
  have hb := B.bytes
  have hr := B.returns
  have hts := atoms_spec (ws := wsJ0_init_81219) B.pre
  have hown : s.vm.findClass RJ0 = some m.cls := findClass_of_methodNamed B.named
  have hlocks := B.notSynchronized
  have hin : meth.name = "<init>" := (name_of_methodNamed B.named B.method).1
  subst hsz
  have hD := hD0.self (sz := s.heap.size)
  generalize hAe : va_A [(h2, .inr (0, [.null, .int cd, .int hh, .int hz])), (h, .inr (1, [.ref v, .int 0, .int ml, .int (nI n)])), (v, .inl (cB, cp, .inl f))] s.heap.size = A at hD hZ ⊢
  have hA : ∀ q : Nat, s.heap.size ≤ q → A q := fun q h => by rw [← hAe]; exact Or.inr h
  have hS : va_S A s.heap s.heap [] := va_S.rf
  have hP : va_P (dC, dI) vwCl [(h2, .inr (0, [.null, .int cd, .int hh, .int hz])), (h, .inr (1, [.ref v, .int 0, .int ml, .int (nI n)])), (v, .inl (cB, cp, .inl f))] s.heap := hP
  have hl := lv_entry ([.ref h2, .ref h]) (n := 2) (Nat.le_of_ble_eq_true rfl)
  rw [lg_entry_eq]
  generalize (lg_sl ([.ref h2, .ref h]) ++ List.replicate (2 - (lg_sl ([.ref h2, .ref h])).length) Slot.unset).toArray = ls at hl ⊢
  have hl : lv_has ls 2 [(0, .ref h2), (1, .ref h)] := hl
  refine lv_aload_n hx hb dJ0_init_81219_0 rfl (lv_at hl 0 rfl) ?_
  refine lv_aload_n hx hb dJ0_init_81219_1 rfl (lv_at hl 1 rfl) ?_
  refine lv_null hx hb dJ0_init_81219_2 ?_
  have hS0 := hS
  have hPc := hP.sub (ws' := [(h2, .inr (0, [.null, .int cd, .int hh, .int hz])), (h, .inr (1, [.ref v, .int 0, .int ml, .int (nI n)])), (v, .inl (cB, cp, .inl f))]) [0, 1, 2] rfl
  have hDc := hD.sub (ws' := [(h2, .inr (0, [.null, .int cd, .int hh, .int hz])), (h, .inr (1, [.ref v, .int 0, .int ml, .int (nI n)])), (v, .inl (cB, cp, .inl f))]) [0, 1, 2] (by decide) rfl
  have hKc := hK.sub (tys' := [(cB, .byte)]) [0] rfl
  have hFc := va_free (wc := [(h2, .inr (0, [.null, .int cd, .int hh, .int hz])), (h, .inr (1, [.ref v, .int 0, .int ml, .int (nI n)])), (v, .inl (cB, cp, .inl f))]) hD hS hA [0, 1, 2] rfl
  refine va_callv (va_runI (As := [.ref h, .null]) (rest := []) ⟨hx, hb, hml, hown, hts⟩ (kJ0_init_db425 l dC dI s.heap.size h2 h v cd hh hz ml cB n cp f hn hm hf) (cwI 2 hts gJ0_init_81219_J0_init_db425 rfl rfl rfl (hts (.initialized RJ0) (by decide +kernel)) (hts (.methodLink RJ0 489 yJ0_init_db425) (by decide +kernel)) (hts (.instanceMethod yJ0_init_db425) (by decide +kernel)) rfl (by decide +kernel) ⟨Nat.le_of_ble_eq_true rfl, Nat.le_of_ble_eq_true rfl⟩) ⟨fun a U g mk q => by obtain ⟨q0, q1, qP, qK, qD, qE0⟩ := q; exact ⟨q0, q1, qP, va_K.moved (u := U) (U := U.calling g mk a) (Vm.Alike.refl U.vm) qK, qD, jz.call qE0⟩, fun U hU hW => ⟨rfl, by rw [hU], by rw [hU]; exact hPc, va_K.moved hW.alike hKc, hDc.weaken (fun _ _ _ _ => trivial), jz.pass hZ hS hFc hW hU⟩⟩ rfl rfl hl.1 rfl (lv_room (Nat.le_of_ble_eq_true rfl)) dJ0_init_81219_3 ⟨(by show 0 + 1 ≤ 1; omega), (by show 0 + n ≤ n; omega)⟩) hS (fun q _ h => hFc q h) hFc (fun u t H1 locs ht hvm hg hB hz1 hk1 hS => ?_)
  obtain ⟨v2, cA, g⟩ := u
  try dsimp only at hB
  try dsimp only at hg
  obtain ⟨hfr, hP1, hK1, hD1⟩ := hB
  rw [ht] at hP1
  have hK1 := va_K.moved hvm.symm hK1
  obtain ⟨hP, hD⟩ := va_join (wr := []) (w1 := [(h2, .inr (0, [.ref v2, .int 0, .int hh, .int hz])), (v2, .inl (cA, n, .inl g)), (h, .inr (1, [.ref v, .int 0, .int ml, .int (nI n)])), (v, .inl (cB, cp, .inl f))]) hP hD [0, 1, 2] [] rfl rfl (by decide) (by decide) hk1 hFc hP1 hD1
  have hK := (hK.sub (tys' := []) [] rfl).app hK1
  generalize H1 = H at hP hS ⊢
  have hP : va_P (dC, dI) vwCl [(h2, .inr (0, [.ref v2, .int 0, .int hh, .int hz])), (v2, .inl (cA, n, .inl g)), (h, .inr (1, [.ref v, .int 0, .int ml, .int (nI n)])), (v, .inl (cB, cp, .inl f))] H := hP
  have hD : va_D A [(h2, .inr (0, [.ref v2, .int 0, .int hh, .int hz])), (v2, .inl (cA, n, .inl g)), (h, .inr (1, [.ref v, .int 0, .int ml, .int (nI n)])), (v, .inl (cB, cp, .inl f))] := hD
  have hK : va_K (dC, dI) vwCl [(cA, .byte), (cB, .byte)] s := hK
  have hfr := Nat.le_trans hS0.1 hfr
  have hP9 := hP.sub (ws' := [(h2, .inr (0, [.ref v2, .int 0, .int hh, .int hz])), (v2, .inl (cA, n, .inl g)), (h, .inr (1, [.ref v, .int 0, .int ml, .int (nI n)])), (v, .inl (cB, cp, .inl f))]) [0, 1, 2, 3] rfl
  have hD9 := hD.sub (ws' := [(h2, .inr (0, [.ref v2, .int 0, .int hh, .int hz])), (v2, .inl (cA, n, .inl g)), (h, .inr (1, [.ref v, .int 0, .int ml, .int (nI n)])), (v, .inl (cB, cp, .inl f))]) [0, 1, 2, 3] (by decide) rfl
  have hK9 := hK.sub (tys' := [(cA, .byte), (cB, .byte)]) [0, 1] rfl
  refine W.widen (k := 1) (n := n) (by omega) (by omega) ?_
  exact W.vret hx hb hr (fun t ht hW => ⟨⟨(v2, cA, g), rfl, hg, hfr, by rw [ht]; exact hP9, va_K.moved hW.alike hK9, hD9⟩, hS.F ht⟩) hS.2.2 dJ0_init_81219_6
