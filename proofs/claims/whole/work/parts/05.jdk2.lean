/-! The JDK's own members, second part: Arrays.copyOf, copyOfRange; the capacity of a StringBuilder. -/
set_option maxHeartbeats 4000000 in
set_option maxRecDepth 100000 in
/-- Arrays.copyOfRangeByte(v, 0, k) -/
theorem kJ7_copyOfRangeByte_39247 (l : Launch) (dC : Nat → ClassId) (dI : Nat → Nat → Nat) (sz : Nat) (v : Nat) (cB : ClassId) (cp : Nat) (f : Nat → Int32) (k : Nat) (hk : k ≤ cp) (hm : cp ≤ 65536) (hf : sb_Fit f) : Met l yJ7_copyOfRangeByte_39247 wsJ7_copyOfRangeByte_39247 ({ frames := 1, cells := 1, slots := k, locals := 60 }) (va_Pc [.ref v, .int (nI 0), .int (nI k)] (fun U => U.heap.size = sz ∧ va_P (dC, dI) vwCl [(v, .inl (cB, cp, .inl f))] U.heap ∧ va_K (dC, dI) vwCl [(cB, .byte)] U ∧ va_D (fun _ => True) [(v, .inl (cB, cp, .inl f))])) (va_Qr (fun (u : ClassId × (Nat → Int32)) => match u with | (cA, g) => sb_Fit g ∧ ∀ j, j < k → g j = f j) (fun (u : ClassId × (Nat → Int32)) (ra : Nat) (t : State) => match u with | (cA, g) => sz ≤ ra ∧ va_P (dC, dI) vwCl [(v, .inl (cB, cp, .inl f)), (ra, .inl (cA, k, .inl g))] t.heap ∧ va_K (dC, dI) vwCl [(cB, .byte), (cA, .byte)] t ∧ va_D (va_A [(v, .inl (cB, cp, .inl f))] sz) [(v, .inl (cB, cp, .inl f)), (ra, .inl (cA, k, .inl g))]) (va_A [(v, .inl (cB, cp, .inl f))] sz)) 1 k (va_A [(v, .inl (cB, cp, .inl f))] sz) := by
  refine Met.ofW (cc := cJ7_copyOfRangeByte_39247) (maxL := 5) (ret := (some (.array .byte))) (by decide) rfl ?_
  intro p e s m args below meth c s₁ B hml hv
  obtain ⟨rfl, hsz, hP, hK, hD0⟩ := hv
  have hx := B.exec
  have hb := B.bytes
  have hr := B.returns
  have hts := atoms_spec (ws := wsJ7_copyOfRangeByte_39247) B.pre
  have hown : s.vm.findClass RJ7 = some m.cls := findClass_of_methodNamed B.named
  have hlocks := B.notSynchronized
  subst hsz
  have hD := hD0.self (sz := s.heap.size)
  generalize hAe : va_A [(v, .inl (cB, cp, .inl f))] s.heap.size = A at hD ⊢
  have hA : ∀ q : Nat, s.heap.size ≤ q → A q := fun q h => by rw [← hAe]; exact Or.inr h
  have hS : va_S A s.heap s.heap [] := va_S.rf
  have hP : va_P (dC, dI) vwCl [(v, .inl (cB, cp, .inl f))] s.heap := hP
  have hl := lv_entry ([.ref v, .int (nI 0), .int (nI k)]) (n := 5) (Nat.le_of_ble_eq_true rfl)
  rw [lg_entry_eq]
  generalize (lg_sl ([.ref v, .int (nI 0), .int (nI k)]) ++ List.replicate (5 - (lg_sl ([.ref v, .int (nI 0), .int (nI k)])).length) Slot.unset).toArray = ls at hl ⊢
  have hl : lv_has ls 5 [(0, .ref v), (1, .int (nI 0)), (2, .int (nI k))] := hl
  refine lv_iload_n hx hb dJ7_copyOfRangeByte_39247_0 rfl (lv_at hl 1 rfl) ?_
  refine lv_iload_n hx hb dJ7_copyOfRangeByte_39247_1 rfl (lv_at hl 2 rfl) ?_
  have hPc := hP.sub (ws' := []) [] rfl
  have hDc := hD.sub (ws' := []) [] (by decide) rfl
  have hKc := hK.sub (tys' := []) [] rfl
  have hFc := va_free (wc := []) hD hS hA [] rfl
  refine va_callv (va_runS (As := [.int (nI 0), .int (nI k)]) (rest := []) ⟨hx, hb, hml, hown, hts⟩ (kJ7_checkLength_df160 l dC dI s.heap.size 0 k (by omega) (by omega)) (va_cwS 2 hts gJ7_copyOfRangeByte_39247_J7_checkLength_df160 rfl rfl rfl (by decide +kernel) ⟨Nat.le_of_ble_eq_true rfl, Nat.le_of_ble_eq_true rfl⟩) ⟨fun a U g mk q => by obtain ⟨q0, q1, qP, qK, qD⟩ := q; exact ⟨q0, q1, qP, va_K.moved (u := U) (U := U.calling g mk a) (Vm.Alike.refl U.vm) qK, qD⟩, fun U hU hW => ⟨rfl, by rw [hU], by rw [hU]; exact hPc, va_K.moved hW.alike hKc, hDc.weaken (fun _ _ _ _ => trivial)⟩⟩ rfl rfl hl.1 rfl (lv_room (Nat.le_of_ble_eq_true rfl)) dJ7_copyOfRangeByte_39247_2 ⟨(by show 0 + 0 ≤ 1; omega), (by show 0 + 0 ≤ k; omega)⟩) hS (fun q _ h => hFc q h) hFc (fun u t H1 locs ht hvm hw_13 hB hz1 hk1 hS => ?_)
  try dsimp only at hB
  try dsimp only at hw_13
  obtain ⟨hP1, hK1, hD1⟩ := hB
  rw [ht] at hP1
  have hK1 := va_K.moved hvm.symm hK1
  obtain ⟨hP, hD⟩ := va_join (wr := [(v, .inl (cB, cp, .inl f))]) (w1 := []) hP hD [] [0] rfl rfl (by decide) (by decide) hk1 hFc hP1 hD1
  have hK := (hK.sub (tys' := [(cB, .byte)]) [0] rfl).app hK1
  generalize H1 = H at hP hS ⊢
  have hP : va_P (dC, dI) vwCl [(v, .inl (cB, cp, .inl f))] H := hP
  have hD : va_D A [(v, .inl (cB, cp, .inl f))] := hD
  have hK : va_K (dC, dI) vwCl [(cB, .byte)] s := hK
  refine lv_iload_n hx hb dJ7_copyOfRangeByte_39247_5 rfl (lv_at hl 2 rfl) ?_
  refine lv_iload_n hx hb dJ7_copyOfRangeByte_39247_6 rfl (lv_at hl 1 rfl) ?_
  refine lv_isub hx hb dJ7_copyOfRangeByte_39247_7 ?_
  refine lv_topi (fun x_15 ex_15 => ?_)
  refine lv_istore_n (lv' := [(3, .int x_15), (0, .ref v), (1, .int (nI 0)), (2, .int (nI k))]) hx hb dJ7_copyOfRangeByte_39247_8 rfl hl (by decide) rfl (fun ls hl => ?_)
  refine lv_iload_n hx hb dJ7_copyOfRangeByte_39247_9 rfl (lv_at hl 0 rfl) ?_
  have ex : x_15 = nI k := by rw [ex_15]; exact pk_sub (by omega)
  obtain rfl : x_15 = nI k := ex
  refine va_newa (atype := .byte) (ty := .byte) (N' := k) (a0 := (k, .inl (fun _ => 0))) hx hb (hts (.arrayClass .byte) (by decide +kernel)) rfl hK hP hD hS hA (fun _ => rfl) (nI_pos (by omega)) (nI_clamp (by omega)) (by show k * 1 ≤ 536870912; omega) (by show 0 + 0 + 1 ≤ 1; omega) (by show 0 + 0 + k ≤ k; omega) dJ7_copyOfRangeByte_39247_10 (fun q_16 cA_17 H hK hP hD hS => ?_)
  have hP : va_P (dC, dI) vwCl [(v, .inl (cB, cp, .inl f)), (q_16, .inl (cA_17, k, .inl (fun _ => 0)))] H := hP
  have hD : va_D A [(v, .inl (cB, cp, .inl f)), (q_16, .inl (cA_17, k, .inl (fun _ => 0)))] := hD
  have hK : va_K (dC, dI) vwCl [(cB, .byte), (cA_17, .byte)] s := hK
  refine lv_astore (lv' := [(4, .ref q_16), (3, .int (nI k)), (0, .ref v), (1, .int (nI 0)), (2, .int (nI k))]) hx hb dJ7_copyOfRangeByte_39247_12 hl (by decide) rfl (fun ls hl => ?_)
  refine lv_aload_n hx hb dJ7_copyOfRangeByte_39247_14 rfl (lv_at hl 2 rfl) ?_
  refine lv_iload_n hx hb dJ7_copyOfRangeByte_39247_15 rfl (lv_at hl 3 rfl) ?_
  refine lv_aload hx hb dJ7_copyOfRangeByte_39247_16 (lv_at hl 0 rfl) ?_
  refine lv_iconst (v := 0) hx hb dJ7_copyOfRangeByte_39247_18 (by decide) ?_
  refine lv_aload_n hx hb dJ7_copyOfRangeByte_39247_19 rfl (lv_at hl 2 rfl) ?_
  refine va_alen hx hb hK hP 0 0 rfl rfl (v := nI cp) rfl dJ7_copyOfRangeByte_39247_20 ?_
  refine lv_iload_n hx hb dJ7_copyOfRangeByte_39247_21 rfl (lv_at hl 3 rfl) ?_
  refine lv_isub hx hb dJ7_copyOfRangeByte_39247_22 ?_
  refine lv_topi (fun x_18 ex_18 => ?_)
  refine lv_iload_n hx hb dJ7_copyOfRangeByte_39247_23 rfl (lv_at hl 1 rfl) ?_
  refine va_mmin hx hb (by rw [hml]; exact hl.1.symm) hown (hts (.methodLink RJ7 304 Lib.Math.min.name) (by decide +kernel)) (hts (.static Lib.Math.min.name) (by decide +kernel)) (hts (.initialized "java/lang/Math") (by decide +kernel)) (hts (.code Lib.Math.min.name Lib.Math.min.code 2 (some .int)) (by decide +kernel)) (Nat.le_of_ble_eq_true rfl) (Nat.le_of_ble_eq_true rfl) (by show 0 + 0 + 1 ≤ 1; omega) (by show 0 + 0 + k ≤ k; omega) dJ7_copyOfRangeByte_39247_24 ?_
  refine lv_topi (fun x_19 ex_19 => ?_)
  have em : x_19 = nI k := by
    rw [ex_19, ex_18]
    rw [show nI cp - nI 0 = nI cp from pk_sub (a := cp) (b := 0) (by omega)]
    by_cases q : k < cp
    · exact if_pos (nI_lt q (by omega))
    · have : k = cp := by omega
      subst this
      exact if_neg (nI_nlt (Nat.le_refl _) (by omega))
  rw [em]
  refine va_copyi (sp := nI 0) (dp := nI 0) (n := nI k) hx hb (by rw [hml]; exact hl.1.symm) hown (hts (.methodLink RJ7 150 arraycopyName) (by decide +kernel)) (hts (.native arraycopyName) (by decide +kernel)) (hts (.static arraycopyName) (by decide +kernel)) (hts (.initialized "java/lang/System") (by decide +kernel)) hK hP hD hS 0 1 0 1 rfl rfl rfl rfl rfl (nI_pos (by omega)) (nI_pos (by omega)) (nI_pos (by omega)) (cl_le (by omega) (by omega) (by omega)) (cl_le (by omega) (by omega) (by omega)) (fun i hi => hf _) (Nat.le_of_ble_eq_true rfl) (Nat.le_of_ble_eq_true rfl) dJ7_copyOfRangeByte_39247_27 (fun H locs hP hD hS => ?_)
  rw [cp_cl (a := 0) (b := 0) (c := k) (by omega) (by omega) (by omega)] at hP hD
  obtain ⟨f_20, ef_20⟩ : ∃ z, z = va_cpy f (fun _ => 0) 0 0 k := ⟨_, rfl⟩
  have hP : va_P (dC, dI) vwCl [(v, .inl (cB, cp, .inl f)), (q_16, .inl (cA_17, k, .inl f_20))] H := by rw [ef_20]; exact hP
  have hD : va_D A [(v, .inl (cB, cp, .inl f)), (q_16, .inl (cA_17, k, .inl f_20))] := by rw [ef_20]; exact hD
  refine lv_aload hx hb dJ7_copyOfRangeByte_39247_30 (lv_at hl 0 rfl) ?_
  have hg : sb_Fit f_20 := by rw [ef_20]; exact sb_fitC hf sb_fit0
  have hgc : ∀ j, j < k → f_20 j = f j := by intro j hj; rw [ef_20]; exact sb_cpy0 hj
  have hg := And.intro hg hgc
  have hfr : s.heap.size ≤ q_16 := va_new_ge hAe hD 1 [0] rfl rfl (by decide)
  have hP9 := hP.sub (ws' := [(v, .inl (cB, cp, .inl f)), (q_16, .inl (cA_17, k, .inl f_20))]) [0, 1] rfl
  have hD9 := hD.sub (ws' := [(v, .inl (cB, cp, .inl f)), (q_16, .inl (cA_17, k, .inl f_20))]) [0, 1] (by decide) rfl
  have hK9 := hK.sub (tys' := [(cB, .byte), (cA_17, .byte)]) [0, 1] rfl
  refine W.widen (k := 1) (n := k) (by omega) (by omega) ?_
  exact W.aret (v := .ref q_16) hx hb hr (Or.inr ⟨_, rfl⟩) (Or.inr ⟨_, rfl⟩) (fun t ht hW => ⟨⟨(cA_17, f_20), q_16, rfl, hg, hfr, by rw [ht]; exact hP9, va_K.moved hW.alike hK9, hD9⟩, hS.F ht⟩) hS.2.2 dJ7_copyOfRangeByte_39247_32
set_option maxHeartbeats 4000000 in
set_option maxRecDepth 100000 in
/-- Arrays.copyOfRange(v, 0, k) -/
theorem kJ7_copyOfRange_39247 (l : Launch) (dC : Nat → ClassId) (dI : Nat → Nat → Nat) (sz : Nat) (v : Nat) (cB : ClassId) (cp : Nat) (f : Nat → Int32) (k : Nat) (hk : k ≤ cp) (hm : cp ≤ 65536) (hf : sb_Fit f) : Met l yJ7_copyOfRange_39247 wsJ7_copyOfRange_39247 ({ frames := 2, cells := 1, slots := k, locals := 84 }) (va_Pc [.ref v, .int (nI 0), .int (nI k)] (fun U => U.heap.size = sz ∧ va_P (dC, dI) vwCl [(v, .inl (cB, cp, .inl f))] U.heap ∧ va_K (dC, dI) vwCl [(cB, .byte)] U ∧ va_D (fun _ => True) [(v, .inl (cB, cp, .inl f))] ∧ jz (va_A [(v, .inl (cB, cp, .inl f))] sz) U U.heap)) (va_Qr (fun (u : ClassId × (Nat → Int32)) => match u with | (cA, g) => sb_Fit g ∧ ∀ j, j < k → g j = f j) (fun (u : ClassId × (Nat → Int32)) (ra : Nat) (t : State) => match u with | (cA, g) => sz ≤ ra ∧ va_P (dC, dI) vwCl [(v, .inl (cB, cp, .inl f)), (ra, .inl (cA, k, .inl g))] t.heap ∧ va_K (dC, dI) vwCl [(cB, .byte), (cA, .byte)] t ∧ va_D (va_A [(v, .inl (cB, cp, .inl f))] sz) [(v, .inl (cB, cp, .inl f)), (ra, .inl (cA, k, .inl g))]) (va_A [(v, .inl (cB, cp, .inl f))] sz)) 1 k (va_A [(v, .inl (cB, cp, .inl f))] sz) := by
  refine Met.ofW (cc := cJ7_copyOfRange_39247) (maxL := 3) (ret := (some (.array .byte))) (by decide) rfl ?_
  intro p e s m args below meth c s₁ B hml hv
  obtain ⟨rfl, hsz, hP, hK, hD0, hZ⟩ := hv
  have hx := B.exec
  have hb := B.bytes
  have hr := B.returns
  have hts := atoms_spec (ws := wsJ7_copyOfRange_39247) B.pre
  have hown : s.vm.findClass RJ7 = some m.cls := findClass_of_methodNamed B.named
  have hlocks := B.notSynchronized
  subst hsz
  have hD := hD0.self (sz := s.heap.size)
  generalize hAe : va_A [(v, .inl (cB, cp, .inl f))] s.heap.size = A at hD hZ ⊢
  have hA : ∀ q : Nat, s.heap.size ≤ q → A q := fun q h => by rw [← hAe]; exact Or.inr h
  have hS : va_S A s.heap s.heap [] := va_S.rf
  have hP : va_P (dC, dI) vwCl [(v, .inl (cB, cp, .inl f))] s.heap := hP
  have hl := lv_entry ([.ref v, .int (nI 0), .int (nI k)]) (n := 3) (Nat.le_of_ble_eq_true rfl)
  rw [lg_entry_eq]
  generalize (lg_sl ([.ref v, .int (nI 0), .int (nI k)]) ++ List.replicate (3 - (lg_sl ([.ref v, .int (nI 0), .int (nI k)])).length) Slot.unset).toArray = ls at hl ⊢
  have hl : lv_has ls 3 [(0, .ref v), (1, .int (nI 0)), (2, .int (nI k))] := hl
  refine lv_iload_n hx hb dJ7_copyOfRange_39247_0 rfl (lv_at hl 1 rfl) ?_
  refine lv_if_ne (tgt := 10) hx hb dJ7_copyOfRange_39247_1 (by decide) (fun c_21 => absurd c_21 (fun h => h rfl)) (fun c_21 => ?_)
  refine lv_iload_n hx hb dJ7_copyOfRange_39247_4 rfl (lv_at hl 2 rfl) ?_
  refine lv_aload_n hx hb dJ7_copyOfRange_39247_5 rfl (lv_at hl 0 rfl) ?_
  refine va_alen hx hb hK hP 0 0 rfl rfl (v := nI cp) rfl dJ7_copyOfRange_39247_6 ?_
  refine lv_icmp_eq (tgt := 17) hx hb dJ7_copyOfRange_39247_7 (by decide) (fun c_22 => ?_) (fun c_22 => ?_)
  · obtain rfl : k = cp := (nI_eq (by omega) (by omega)).mp c_22
    refine lv_aload_n hx hb dJ7_copyOfRange_39247_17 rfl (lv_at hl 0 rfl) ?_
    have hnm : s.vm.findClass "[B" = some cB := va_nm_byte (hK.2 0 _ rfl).2
    refine va_clone hx hb (by rw [hml]; exact hl.1.symm) hown (hts (.methodLink RJ7 310 ⟨"[B", "clone", "()Ljava/lang/Object;"⟩) (by decide +kernel)) (hts (.sameMethod "[B" "java/lang/Object" "clone" "()Ljava/lang/Object;") (by decide +kernel)) (hts (.native ⟨"java/lang/Object", "clone", "()Ljava/lang/Object;"⟩) (by decide +kernel)) (hts (.instanceMethod ⟨"java/lang/Object", "clone", "()Ljava/lang/Object;"⟩) (by decide +kernel)) (hts (.selects "[B" ⟨"[B", "clone", "()Ljava/lang/Object;"⟩ ⟨"java/lang/Object", "clone", "()Ljava/lang/Object;"⟩) (by decide +kernel)) hZ.2 hK hP hD hS hA 0 0 rfl rfl hnm (va_fit (fun i _ => hf i)) (Nat.le_of_ble_eq_true rfl) (Nat.le_of_ble_eq_true rfl) (by show 0 + 1 ≤ 1; omega) (by show 0 + k ≤ k; omega) dJ7_copyOfRange_39247_18 (fun q_23 H hK hP hD hS => ?_)
    have hP : va_P (dC, dI) vwCl [(v, .inl (cB, k, .inl f)), (q_23, .inl (cB, k, .inl f))] H := hP
    have hD : va_D A [(v, .inl (cB, k, .inl f)), (q_23, .inl (cB, k, .inl f))] := hD
    have hK : va_K (dC, dI) vwCl [(cB, .byte), (cB, .byte)] s := hK
    refine va_castA hx hb hown (hts (.classLink RJ7 311 "[B") (by decide +kernel)) hP 1 rfl hnm dJ7_copyOfRange_39247_21 ?_
    have hfr : s.heap.size ≤ q_23 := va_new_ge hAe hD 1 [0] rfl rfl (by decide)
    have hP9 := hP.sub (ws' := [(v, .inl (cB, k, .inl f)), (q_23, .inl (cB, k, .inl f))]) [0, 1] rfl
    have hD9 := hD.sub (ws' := [(v, .inl (cB, k, .inl f)), (q_23, .inl (cB, k, .inl f))]) [0, 1] (by decide) rfl
    have hK9 := hK.sub (tys' := [(cB, .byte), (cB, .byte)]) [0, 1] rfl
    refine W.widen (k := 1) (n := k) (by omega) (by omega) ?_
    exact W.aret (v := .ref q_23) hx hb hr (Or.inr ⟨_, rfl⟩) (Or.inr ⟨_, rfl⟩) (fun t ht hW => ⟨⟨(cB, f), q_23, rfl, ⟨hf, fun _ _ => rfl⟩, hfr, by rw [ht]; exact hP9, va_K.moved hW.alike hK9, hD9⟩, hS.F ht⟩) hS.2.2 dJ7_copyOfRange_39247_24
  · refine lv_aload_n hx hb dJ7_copyOfRange_39247_10 rfl (lv_at hl 0 rfl) ?_
    refine lv_iload_n hx hb dJ7_copyOfRange_39247_11 rfl (lv_at hl 1 rfl) ?_
    refine lv_iload_n hx hb dJ7_copyOfRange_39247_12 rfl (lv_at hl 2 rfl) ?_
    have hPc := hP.sub (ws' := [(v, .inl (cB, cp, .inl f))]) [0] rfl
    have hDc := hD.sub (ws' := [(v, .inl (cB, cp, .inl f))]) [0] (by decide) rfl
    have hKc := hK.sub (tys' := [(cB, .byte)]) [0] rfl
    have hFc := va_free (wc := [(v, .inl (cB, cp, .inl f))]) hD hS hA [0] rfl
    refine va_callr (va_runS (As := [.ref v, .int (nI 0), .int (nI k)]) (rest := []) ⟨hx, hb, hml, hown, hts⟩ (kJ7_copyOfRangeByte_39247 l dC dI s.heap.size v cB cp f k hk hm hf) (va_cwS 3 hts gJ7_copyOfRange_39247_J7_copyOfRangeByte_39247 rfl rfl rfl (by decide +kernel) ⟨Nat.le_of_ble_eq_true rfl, Nat.le_of_ble_eq_true rfl⟩) ⟨fun a U g mk q => by obtain ⟨q0, q1, qP, qK, qD⟩ := q; exact ⟨q0, q1, qP, va_K.moved (u := U) (U := U.calling g mk a) (Vm.Alike.refl U.vm) qK, qD⟩, fun U hU hW => ⟨rfl, by rw [hU], by rw [hU]; exact hPc, va_K.moved hW.alike hKc, hDc.weaken (fun _ _ _ _ => trivial)⟩⟩ rfl rfl hl.1 rfl (lv_room (Nat.le_of_ble_eq_true rfl)) dJ7_copyOfRange_39247_13 ⟨(by show 0 + 1 ≤ 1; omega), (by show 0 + k ≤ k; omega)⟩) hS (fun q _ h => hFc q h) hFc (fun u r_24 t H1 locs ht hvm hg hB hz1 hk1 hS => ?_)
    obtain ⟨cA, g⟩ := u
    try dsimp only at hB
    try dsimp only at hg
    obtain ⟨hfr, hP1, hK1, hD1⟩ := hB
    rw [ht] at hP1
    have hK1 := va_K.moved hvm.symm hK1
    obtain ⟨hP, hD⟩ := va_join (wr := []) (w1 := [(v, .inl (cB, cp, .inl f)), (r_24, .inl (cA, k, .inl g))]) hP hD [0] [] rfl rfl (by decide) (by decide) hk1 hFc hP1 hD1
    have hK := (hK.sub (tys' := []) [] rfl).app hK1
    generalize H1 = H at hP hS ⊢
    have hP : va_P (dC, dI) vwCl [(v, .inl (cB, cp, .inl f)), (r_24, .inl (cA, k, .inl g))] H := hP
    have hD : va_D A [(v, .inl (cB, cp, .inl f)), (r_24, .inl (cA, k, .inl g))] := hD
    have hK : va_K (dC, dI) vwCl [(cB, .byte), (cA, .byte)] s := hK
    have hP9 := hP.sub (ws' := [(v, .inl (cB, cp, .inl f)), (r_24, .inl (cA, k, .inl g))]) [0, 1] rfl
    have hD9 := hD.sub (ws' := [(v, .inl (cB, cp, .inl f)), (r_24, .inl (cA, k, .inl g))]) [0, 1] (by decide) rfl
    have hK9 := hK.sub (tys' := [(cB, .byte), (cA, .byte)]) [0, 1] rfl
    refine W.widen (k := 1) (n := k) (by omega) (by omega) ?_
    exact W.aret (v := .ref r_24) hx hb hr (Or.inr ⟨_, rfl⟩) (Or.inr ⟨_, rfl⟩) (fun t ht hW => ⟨⟨(cA, g), r_24, rfl, hg, hfr, by rw [ht]; exact hP9, va_K.moved hW.alike hK9, hD9⟩, hS.F ht⟩) hS.2.2 dJ7_copyOfRange_39247_16
set_option maxHeartbeats 4000000 in
set_option maxRecDepth 100000 in
/-- Arrays.copyOf(v, k), k beyond its length -/
theorem kJ7_copyOf_9075b (l : Launch) (dC : Nat → ClassId) (dI : Nat → Nat → Nat) (sz : Nat) (v : Nat) (cB : ClassId) (cp : Nat) (f : Nat → Int32) (k : Nat) (hk : cp < k) (hk2 : k ≤ 262144) (hf : sb_Fit f) : Met l yJ7_copyOf_9075b wsJ7_copyOf_9075b ({ frames := 1, cells := 1, slots := k, locals := 60 }) (va_Pc [.ref v, .int (nI k)] (fun U => U.heap.size = sz ∧ va_P (dC, dI) vwCl [(v, .inl (cB, cp, .inl f))] U.heap ∧ va_K (dC, dI) vwCl [(cB, .byte)] U ∧ va_D (fun _ => True) [(v, .inl (cB, cp, .inl f))])) (va_Qr (fun (u : ClassId × (Nat → Int32)) => match u with | (cA, g) => sb_Fit g ∧ ∀ j, j < cp → g j = f j) (fun (u : ClassId × (Nat → Int32)) (ra : Nat) (t : State) => match u with | (cA, g) => sz ≤ ra ∧ va_P (dC, dI) vwCl [(v, .inl (cB, cp, .inl f)), (ra, .inl (cA, k, .inl g))] t.heap ∧ va_K (dC, dI) vwCl [(cB, .byte), (cA, .byte)] t ∧ va_D (va_A [(v, .inl (cB, cp, .inl f))] sz) [(v, .inl (cB, cp, .inl f)), (ra, .inl (cA, k, .inl g))]) (va_A [(v, .inl (cB, cp, .inl f))] sz)) 1 k (va_A [(v, .inl (cB, cp, .inl f))] sz) := by
  refine Met.ofW (cc := cJ7_copyOf_9075b) (maxL := 3) (ret := (some (.array .byte))) (by decide) rfl ?_
  intro p e s m args below meth c s₁ B hml hv
  obtain ⟨rfl, hsz, hP, hK, hD0⟩ := hv
  have hx := B.exec
  have hb := B.bytes
  have hr := B.returns
  have hts := atoms_spec (ws := wsJ7_copyOf_9075b) B.pre
  have hown : s.vm.findClass RJ7 = some m.cls := findClass_of_methodNamed B.named
  have hlocks := B.notSynchronized
  subst hsz
  have hD := hD0.self (sz := s.heap.size)
  generalize hAe : va_A [(v, .inl (cB, cp, .inl f))] s.heap.size = A at hD ⊢
  have hA : ∀ q : Nat, s.heap.size ≤ q → A q := fun q h => by rw [← hAe]; exact Or.inr h
  have hS : va_S A s.heap s.heap [] := va_S.rf
  have hP : va_P (dC, dI) vwCl [(v, .inl (cB, cp, .inl f))] s.heap := hP
  have hl := lv_entry ([.ref v, .int (nI k)]) (n := 3) (Nat.le_of_ble_eq_true rfl)
  rw [lg_entry_eq]
  generalize (lg_sl ([.ref v, .int (nI k)]) ++ List.replicate (3 - (lg_sl ([.ref v, .int (nI k)])).length) Slot.unset).toArray = ls at hl ⊢
  have hl : lv_has ls 3 [(0, .ref v), (1, .int (nI k))] := hl
  refine lv_iload_n hx hb dJ7_copyOf_9075b_0 rfl (lv_at hl 1 rfl) ?_
  refine lv_aload_n hx hb dJ7_copyOf_9075b_1 rfl (lv_at hl 0 rfl) ?_
  refine va_alen hx hb hK hP 0 0 rfl rfl (v := nI cp) rfl dJ7_copyOf_9075b_2 ?_
  refine lv_icmp_ne (tgt := 14) hx hb dJ7_copyOf_9075b_3 (by decide) (fun c_25 => ?_) (fun c_25 => absurd c_25 (fun e => by have := (nI_eq (by omega) (by omega)).mp e; omega))
  refine lv_iload_n hx hb dJ7_copyOf_9075b_14 rfl (lv_at hl 1 rfl) ?_
  refine va_newa (atype := .byte) (ty := .byte) (N' := k) (a0 := (k, .inl (fun _ => 0))) hx hb (hts (.arrayClass .byte) (by decide +kernel)) rfl hK hP hD hS hA (fun _ => rfl) (nI_pos (by omega)) (nI_clamp (by omega)) (by show k * 1 ≤ 536870912; omega) (by show 0 + 1 ≤ 1; omega) (by show 0 + k ≤ k; omega) dJ7_copyOf_9075b_15 (fun q_26 cA_27 H hK hP hD hS => ?_)
  have hP : va_P (dC, dI) vwCl [(v, .inl (cB, cp, .inl f)), (q_26, .inl (cA_27, k, .inl (fun _ => 0)))] H := hP
  have hD : va_D A [(v, .inl (cB, cp, .inl f)), (q_26, .inl (cA_27, k, .inl (fun _ => 0)))] := hD
  have hK : va_K (dC, dI) vwCl [(cB, .byte), (cA_27, .byte)] s := hK
  refine lv_astore_n (lv' := [(2, .ref q_26), (0, .ref v), (1, .int (nI k))]) hx hb dJ7_copyOf_9075b_17 rfl hl (by decide) rfl (fun ls hl => ?_)
  refine lv_aload_n hx hb dJ7_copyOf_9075b_18 rfl (lv_at hl 1 rfl) ?_
  refine lv_iconst (v := 0) hx hb dJ7_copyOf_9075b_19 (by decide) ?_
  refine lv_aload_n hx hb dJ7_copyOf_9075b_20 rfl (lv_at hl 0 rfl) ?_
  refine lv_iconst (v := 0) hx hb dJ7_copyOf_9075b_21 (by decide) ?_
  refine lv_aload_n hx hb dJ7_copyOf_9075b_22 rfl (lv_at hl 1 rfl) ?_
  refine va_alen hx hb hK hP 0 0 rfl rfl (v := nI cp) rfl dJ7_copyOf_9075b_23 ?_
  refine lv_iload_n hx hb dJ7_copyOf_9075b_24 rfl (lv_at hl 2 rfl) ?_
  refine va_mmin hx hb (by rw [hml]; exact hl.1.symm) hown (hts (.methodLink RJ7 304 Lib.Math.min.name) (by decide +kernel)) (hts (.static Lib.Math.min.name) (by decide +kernel)) (hts (.initialized "java/lang/Math") (by decide +kernel)) (hts (.code Lib.Math.min.name Lib.Math.min.code 2 (some .int)) (by decide +kernel)) (Nat.le_of_ble_eq_true rfl) (Nat.le_of_ble_eq_true rfl) (by show 0 + 1 ≤ 1; omega) (by show 0 + k ≤ k; omega) dJ7_copyOf_9075b_25 ?_
  refine lv_topi (fun x_28 ex_28 => ?_)
  have em : x_28 = nI cp := by rw [ex_28]; exact if_neg (nI_nlt (by omega) (by omega))
  rw [em]
  refine va_copyi (sp := nI 0) (dp := nI 0) (n := nI cp) hx hb (by rw [hml]; exact hl.1.symm) hown (hts (.methodLink RJ7 150 arraycopyName) (by decide +kernel)) (hts (.native arraycopyName) (by decide +kernel)) (hts (.static arraycopyName) (by decide +kernel)) (hts (.initialized "java/lang/System") (by decide +kernel)) hK hP hD hS 0 1 0 1 rfl rfl rfl rfl rfl (nI_pos (by omega)) (nI_pos (by omega)) (nI_pos (by omega)) (cl_le (by omega) (by omega) (by omega)) (cl_le (by omega) (by omega) (by omega)) (fun i hi => hf _) (Nat.le_of_ble_eq_true rfl) (Nat.le_of_ble_eq_true rfl) dJ7_copyOf_9075b_28 (fun H locs hP hD hS => ?_)
  rw [cp_cl (a := 0) (b := 0) (c := cp) (by omega) (by omega) (by omega)] at hP hD
  obtain ⟨f_29, ef_29⟩ : ∃ z, z = va_cpy f (fun _ => 0) 0 0 cp := ⟨_, rfl⟩
  have hP : va_P (dC, dI) vwCl [(v, .inl (cB, cp, .inl f)), (q_26, .inl (cA_27, k, .inl f_29))] H := by rw [ef_29]; exact hP
  have hD : va_D A [(v, .inl (cB, cp, .inl f)), (q_26, .inl (cA_27, k, .inl f_29))] := by rw [ef_29]; exact hD
  refine lv_aload_n hx hb dJ7_copyOf_9075b_31 rfl (lv_at hl 0 rfl) ?_
  have hg : sb_Fit f_29 := by rw [ef_29]; exact sb_fitC hf sb_fit0
  have hgc : ∀ j, j < cp → f_29 j = f j := by intro j hj; rw [ef_29]; exact sb_cpy0 hj
  have hg := And.intro hg hgc
  have hfr : s.heap.size ≤ q_26 := va_new_ge hAe hD 1 [0] rfl rfl (by decide)
  have hP9 := hP.sub (ws' := [(v, .inl (cB, cp, .inl f)), (q_26, .inl (cA_27, k, .inl f_29))]) [0, 1] rfl
  have hD9 := hD.sub (ws' := [(v, .inl (cB, cp, .inl f)), (q_26, .inl (cA_27, k, .inl f_29))]) [0, 1] (by decide) rfl
  have hK9 := hK.sub (tys' := [(cB, .byte), (cA_27, .byte)]) [0, 1] rfl
  refine W.widen (k := 1) (n := k) (by omega) (by omega) ?_
  exact W.aret (v := .ref q_26) hx hb hr (Or.inr ⟨_, rfl⟩) (Or.inr ⟨_, rfl⟩) (fun t ht hW => ⟨⟨(cA_27, f_29), q_26, rfl, hg, hfr, by rw [ht]; exact hP9, va_K.moved hW.alike hK9, hD9⟩, hS.F ht⟩) hS.2.2 dJ7_copyOf_9075b_32
def capn (k cp : Nat) : Nat := cp + (if k - cp < cp + 2 then cp + 2 else k - cp)
set_option maxHeartbeats 4000000 in
set_option maxRecDepth 100000 in
/-- AbstractStringBuilder.newCapacity(k), k beyond its capacity cp -/
theorem kJ5_newCapacity_0f7a4 (l : Launch) (dC : Nat → ClassId) (dI : Nat → Nat → Nat) (sz : Nat) (h v : Nat) (ml x : Int32) (cB : ClassId) (cp : Nat) (f : Nat → Int32) (k : Nat) (hk : cp < k) (hk2 : k ≤ 65536) : Met l yJ5_newCapacity_0f7a4 wsJ5_newCapacity_0f7a4 ({ frames := 2, cells := 0, slots := 0, locals := 47 }) (va_Pc [.ref h, .int (nI k)] (fun U => U.heap.size = sz ∧ va_P (dC, dI) vwCl [(h, .inr (1, [.ref v, .int 0, .int ml, .int x])), (v, .inl (cB, cp, .inl f))] U.heap ∧ va_K (dC, dI) vwCl [(cB, .byte)] U ∧ va_D (fun _ => True) [(h, .inr (1, [.ref v, .int 0, .int ml, .int x])), (v, .inl (cB, cp, .inl f))])) (va_Qi (fun (r : Int32) (u : Unit) => r = nI (capn k cp)) (fun (u : Unit) (t : State) => va_P (dC, dI) vwCl [(h, .inr (1, [.ref v, .int 0, .int ml, .int x])), (v, .inl (cB, cp, .inl f))] t.heap ∧ va_K (dC, dI) vwCl [(cB, .byte)] t ∧ va_D (va_A [(h, .inr (1, [.ref v, .int 0, .int ml, .int x])), (v, .inl (cB, cp, .inl f))] sz) [(h, .inr (1, [.ref v, .int 0, .int ml, .int x])), (v, .inl (cB, cp, .inl f))]) (va_A [(h, .inr (1, [.ref v, .int 0, .int ml, .int x])), (v, .inl (cB, cp, .inl f))] sz)) 0 0 (va_A [(h, .inr (1, [.ref v, .int 0, .int ml, .int x])), (v, .inl (cB, cp, .inl f))] sz) := by
  refine Met.ofW (cc := cJ5_newCapacity_0f7a4) (maxL := 6) (ret := (some .int)) (by decide) rfl ?_
  intro p e s m args below meth c s₁ B hml hv
  obtain ⟨rfl, hsz, hP, hK, hD0⟩ := hv
  have hx := B.exec
  have hb := B.bytes
  have hr := B.returns
  have hts := atoms_spec (ws := wsJ5_newCapacity_0f7a4) B.pre
  have hown : s.vm.findClass RJ5 = some m.cls := findClass_of_methodNamed B.named
  have hlocks := B.notSynchronized
  subst hsz
  have hD := hD0.self (sz := s.heap.size)
  generalize hAe : va_A [(h, .inr (1, [.ref v, .int 0, .int ml, .int x])), (v, .inl (cB, cp, .inl f))] s.heap.size = A at hD ⊢
  have hA : ∀ q : Nat, s.heap.size ≤ q → A q := fun q h => by rw [← hAe]; exact Or.inr h
  have hS : va_S A s.heap s.heap [] := va_S.rf
  have hP : va_P (dC, dI) vwCl [(h, .inr (1, [.ref v, .int 0, .int ml, .int x])), (v, .inl (cB, cp, .inl f))] s.heap := hP
  have hl := lv_entry ([.ref h, .int (nI k)]) (n := 6) (Nat.le_of_ble_eq_true rfl)
  rw [lg_entry_eq]
  generalize (lg_sl ([.ref h, .int (nI k)]) ++ List.replicate (6 - (lg_sl ([.ref h, .int (nI k)])).length) Slot.unset).toArray = ls at hl ⊢
  have hl : lv_has ls 6 [(0, .ref h), (1, .int (nI k))] := hl
  refine lv_aload_n hx hb dJ5_newCapacity_0f7a4_0 rfl (lv_at hl 0 rfl) ?_
  refine va_get (D := (dC, dI)) (ci := 1) (v := .ref v) (C := RJ4) (T := TJ4) (N := 4) hx hb hts (by decide +kernel) hown hK hP 0 rfl rfl 0 (by decide) (hts (.fieldLink RJ5 15 "java/lang/AbstractStringBuilder" "value" "[B") (by decide +kernel)) (fun _ h9 => h9) rfl dJ5_newCapacity_0f7a4_1 ?_
  refine va_alen hx hb hK hP 1 0 rfl rfl (v := nI cp) rfl dJ5_newCapacity_0f7a4_4 ?_
  refine lv_istore_n (lv' := [(2, .int (nI cp)), (0, .ref h), (1, .int (nI k))]) hx hb dJ5_newCapacity_0f7a4_5 rfl hl (by decide) rfl (fun ls hl => ?_)
  refine lv_iload_n hx hb dJ5_newCapacity_0f7a4_6 rfl (lv_at hl 2 rfl) ?_
  refine lv_aload_n hx hb dJ5_newCapacity_0f7a4_7 rfl (lv_at hl 1 rfl) ?_
  refine va_get (D := (dC, dI)) (ci := 1) (v := .int 0) (C := RJ4) (T := TJ4) (N := 4) hx hb hts (by decide +kernel) hown hK hP 0 rfl rfl 1 (by decide) (hts (.fieldLink RJ5 22 "java/lang/AbstractStringBuilder" "coder" "B") (by decide +kernel)) (fun _ h9 => h9) rfl dJ5_newCapacity_0f7a4_8 ?_
  refine lv_ishl hx hb dJ5_newCapacity_0f7a4_11 ?_
  refine lv_topi (fun x_30 ex_30 => ?_)
  refine lv_istore_n (lv' := [(3, .int x_30), (2, .int (nI cp)), (0, .ref h), (1, .int (nI k))]) hx hb dJ5_newCapacity_0f7a4_12 rfl hl (by decide) rfl (fun ls hl => ?_)
  refine lv_iload_n hx hb dJ5_newCapacity_0f7a4_13 rfl (lv_at hl 0 rfl) ?_
  refine lv_iload_n hx hb dJ5_newCapacity_0f7a4_14 rfl (lv_at hl 1 rfl) ?_
  refine lv_isub hx hb dJ5_newCapacity_0f7a4_15 ?_
  refine lv_topi (fun x_31 ex_31 => ?_)
  refine lv_istore (lv' := [(4, .int x_31), (3, .int x_30), (2, .int (nI cp)), (0, .ref h), (1, .int (nI k))]) hx hb dJ5_newCapacity_0f7a4_16 hl (by decide) rfl (fun ls hl => ?_)
  refine lv_iload_n hx hb dJ5_newCapacity_0f7a4_18 rfl (lv_at hl 2 rfl) ?_
  refine lv_iload hx hb dJ5_newCapacity_0f7a4_19 (lv_at hl 0 rfl) ?_
  refine lv_iload_n hx hb dJ5_newCapacity_0f7a4_21 rfl (lv_at hl 2 rfl) ?_
  refine lv_iconst (v := 2) hx hb dJ5_newCapacity_0f7a4_22 (by decide) ?_
  refine lv_aload_n hx hb dJ5_newCapacity_0f7a4_23 rfl (lv_at hl 3 rfl) ?_
  refine va_get (D := (dC, dI)) (ci := 1) (v := .int 0) (C := RJ4) (T := TJ4) (N := 4) hx hb hts (by decide +kernel) hown hK hP 0 rfl rfl 1 (by decide) (hts (.fieldLink RJ5 22 "java/lang/AbstractStringBuilder" "coder" "B") (by decide +kernel)) (fun _ h9 => h9) rfl dJ5_newCapacity_0f7a4_24 ?_
  refine lv_ishl hx hb dJ5_newCapacity_0f7a4_27 ?_
  refine lv_topi (fun x_32 ex_32 => ?_)
  refine lv_iadd hx hb dJ5_newCapacity_0f7a4_28 ?_
  refine lv_topi (fun x_33 ex_33 => ?_)
  have e3 : x_30 = nI k := by rw [ex_30]; exact sb_shl0 (nI k)
  have e4 : x_31 = nI (k - cp) := by rw [ex_31, e3]; exact pk_sub (by omega)
  have e2 : x_32 = 2 := by rw [ex_32]; exact sb_shl0 2
  have e5 : x_33 = nI (cp + 2) := by rw [ex_33, e2]; exact nI_add cp 2
  rw [e4, e5]
  rw [e3, e4] at hl
  have hPc := hP.sub (ws' := []) [] rfl
  have hDc := hD.sub (ws' := []) [] (by decide) rfl
  have hKc := hK.sub (tys' := []) [] rfl
  have hFc := va_free (wc := []) hD hS hA [] rfl
  refine va_calli (va_runS (As := [.int (nI cp), .int (nI (k - cp)), .int (nI (cp + 2))]) (rest := []) ⟨hx, hb, hml, hown, hts⟩ (kJ8_newLength_cabcc l dC dI s.heap.size cp (k - cp) (cp + 2) (by omega) (by omega) (by omega) (by omega)) (va_cwS 3 hts gJ5_newCapacity_0f7a4_J8_newLength_cabcc rfl rfl rfl (by decide +kernel) ⟨Nat.le_of_ble_eq_true rfl, Nat.le_of_ble_eq_true rfl⟩) ⟨fun a U g mk q => by obtain ⟨q0, q1, qP, qK, qD⟩ := q; exact ⟨q0, q1, qP, va_K.moved (u := U) (U := U.calling g mk a) (Vm.Alike.refl U.vm) qK, qD⟩, fun U hU hW => ⟨rfl, by rw [hU], by rw [hU]; exact hPc, va_K.moved hW.alike hKc, hDc.weaken (fun _ _ _ _ => trivial)⟩⟩ rfl rfl hl.1 rfl (lv_room (Nat.le_of_ble_eq_true rfl)) dJ5_newCapacity_0f7a4_29 ⟨(by show 0 + 0 ≤ 0; omega), (by show 0 + 0 ≤ 0; omega)⟩) hS (fun q _ h => hFc q h) hFc (fun r_34 u t H1 locs ht hvm hr5 hB hz1 hk1 hS => ?_)
  try dsimp only at hB
  try dsimp only at hr5
  obtain ⟨hP1, hK1, hD1⟩ := hB
  rw [ht] at hP1
  have hK1 := va_K.moved hvm.symm hK1
  obtain ⟨hP, hD⟩ := va_join (wr := [(h, .inr (1, [.ref v, .int 0, .int ml, .int x])), (v, .inl (cB, cp, .inl f))]) (w1 := []) hP hD [] [0, 1] rfl rfl (by decide) (by decide) hk1 hFc hP1 hD1
  have hK := (hK.sub (tys' := [(cB, .byte)]) [0] rfl).app hK1
  generalize H1 = H at hP hS ⊢
  have hP : va_P (dC, dI) vwCl [(h, .inr (1, [.ref v, .int 0, .int ml, .int x])), (v, .inl (cB, cp, .inl f))] H := hP
  have hD : va_D A [(h, .inr (1, [.ref v, .int 0, .int ml, .int x])), (v, .inl (cB, cp, .inl f))] := hD
  have hK : va_K (dC, dI) vwCl [(cB, .byte)] s := hK
  rw [show cp + (if k - cp < cp + 2 then cp + 2 else k - cp) = capn k cp from rfl] at hr5
  have hcap : capn k cp ≤ 262144 := by unfold capn; split <;> omega
  rw [hr5]
  refine lv_istore (lv' := [(5, .int (nI (capn k cp))), (4, .int (nI (k - cp))), (3, .int (nI k)), (2, .int (nI cp)), (0, .ref h), (1, .int (nI k))]) hx hb dJ5_newCapacity_0f7a4_32 hl (by decide) rfl (fun ls hl => ?_)
  refine lv_iload hx hb dJ5_newCapacity_0f7a4_34 (lv_at hl 0 rfl) ?_
  refine lv_ldc (v := 2147483647) hx hb hown (hts (.constant RJ5 39 (2147483647)) (by decide +kernel)) dJ5_newCapacity_0f7a4_36 ?_
  refine lv_icmp_ne (tgt := 51) hx hb dJ5_newCapacity_0f7a4_38 (by decide) (fun c_35 => ?_) (fun c_35 => absurd c_35 (fun e => by have := (nI_eq (by omega) (by decide)).mp (show nI (capn k cp) = nI 2147483647 from e); omega))
  refine lv_iload hx hb dJ5_newCapacity_0f7a4_51 (lv_at hl 0 rfl) ?_
  refine lv_aload_n hx hb dJ5_newCapacity_0f7a4_53 rfl (lv_at hl 4 rfl) ?_
  refine va_get (D := (dC, dI)) (ci := 1) (v := .int 0) (C := RJ4) (T := TJ4) (N := 4) hx hb hts (by decide +kernel) hown hK hP 0 rfl rfl 1 (by decide) (hts (.fieldLink RJ5 22 "java/lang/AbstractStringBuilder" "coder" "B") (by decide +kernel)) (fun _ h9 => h9) rfl dJ5_newCapacity_0f7a4_54 ?_
  refine lv_ishr hx hb dJ5_newCapacity_0f7a4_57 ?_
  refine lv_topi (fun x_36 ex_36 => ?_)
  have er : x_36 = nI (capn k cp) := by rw [ex_36]; exact sb_shr0 _
  have hP9 := hP.sub (ws' := [(h, .inr (1, [.ref v, .int 0, .int ml, .int x])), (v, .inl (cB, cp, .inl f))]) [0, 1] rfl
  have hD9 := hD.sub (ws' := [(h, .inr (1, [.ref v, .int 0, .int ml, .int x])), (v, .inl (cB, cp, .inl f))]) [0, 1] (by decide) rfl
  have hK9 := hK.sub (tys' := [(cB, .byte)]) [0] rfl
  refine W.widen (k := 0) (n := 0) (by omega) (by omega) ?_
  exact W.iret (v := x_36) hx hb hr (fun t ht hW => ⟨⟨x_36, (), rfl, er, by rw [ht]; exact hP9, va_K.moved hW.alike hK9, hD9⟩, hS.F ht⟩) hS.2.2 dJ5_newCapacity_0f7a4_58
