/-! Signrope: its making, ropeOf, setLength, text, where nothing is thrown. -/
set_option maxHeartbeats 4000000 in
set_option maxRecDepth 100000 in
/-- ropeOf of a rope there is -/
theorem kX1_ropeOf (l : Launch) (dC : Nat → ClassId) (dI : Nat → Nat → Nat) (sz : Nat) (hX rp u1 u2 u3 u4 : Nat) (kn rf ac : Int32) (cR : ClassId) (fR : Nat → Option Nat) (j t0 : Nat) (hj : j < 4) (hR : fR j = some t0) : Met l yX1_ropeOf wsX1_ropeOf ({ frames := 0, cells := 0, slots := 0, locals := 0 }) (va_Pc [.ref hX, .int (nI j)] (fun U => U.heap.size = sz ∧ va_P (dC, dI) vwCl [(hX, .inr (5, [.ref rp, .ref u1, .ref u2, .ref u3, .ref u4, .int kn, .int rf, .int ac])), (rp, .inl (cR, 4, .inr (.inr (.inr (.inr fR)))))] U.heap ∧ va_K (dC, dI) vwCl [(cR, .object "Signrope$Text")] U ∧ va_D (fun _ => True) [(hX, .inr (5, [.ref rp, .ref u1, .ref u2, .ref u3, .ref u4, .int kn, .int rf, .int ac])), (rp, .inl (cR, 4, .inr (.inr (.inr (.inr fR)))))])) (va_Qr (fun (u : Unit) => True) (fun (u : Unit) (ra : Nat) (t : State) => ra = t0 ∧ va_P (dC, dI) vwCl [(hX, .inr (5, [.ref rp, .ref u1, .ref u2, .ref u3, .ref u4, .int kn, .int rf, .int ac])), (rp, .inl (cR, 4, .inr (.inr (.inr (.inr fR)))))] t.heap ∧ va_K (dC, dI) vwCl [(cR, .object "Signrope$Text")] t ∧ va_D (va_A [(hX, .inr (5, [.ref rp, .ref u1, .ref u2, .ref u3, .ref u4, .int kn, .int rf, .int ac])), (rp, .inl (cR, 4, .inr (.inr (.inr (.inr fR)))))] sz) [(hX, .inr (5, [.ref rp, .ref u1, .ref u2, .ref u3, .ref u4, .int kn, .int rf, .int ac])), (rp, .inl (cR, 4, .inr (.inr (.inr (.inr fR)))))]) (va_A [(hX, .inr (5, [.ref rp, .ref u1, .ref u2, .ref u3, .ref u4, .int kn, .int rf, .int ac])), (rp, .inl (cR, 4, .inr (.inr (.inr (.inr fR)))))] sz)) 0 0 (va_A [(hX, .inr (5, [.ref rp, .ref u1, .ref u2, .ref u3, .ref u4, .int kn, .int rf, .int ac])), (rp, .inl (cR, 4, .inr (.inr (.inr (.inr fR)))))] sz) := by
  refine Met.ofW (cc := cX1_ropeOf) (maxL := 3) (ret := (some (.object "Signrope$Text"))) (by decide) rfl ?_
  intro p e s m args below meth c s₁ B hml hv
  obtain ⟨rfl, hsz, hP, hK, hD0⟩ := hv
  have hx := B.exec
  have hb := B.bytes
  have hr := B.returns
  have hts := atoms_spec (ws := wsX1_ropeOf) B.pre
  have hown : s.vm.findClass RX1 = some m.cls := findClass_of_methodNamed B.named
  have hlocks := B.notSynchronized
  subst hsz
  have hD := hD0.self (sz := s.heap.size)
  generalize hAe : va_A [(hX, .inr (5, [.ref rp, .ref u1, .ref u2, .ref u3, .ref u4, .int kn, .int rf, .int ac])), (rp, .inl (cR, 4, .inr (.inr (.inr (.inr fR)))))] s.heap.size = A at hD ⊢
  have hA : ∀ q : Nat, s.heap.size ≤ q → A q := fun q h => by rw [← hAe]; exact Or.inr h
  have hS : va_S A s.heap s.heap [] := va_S.rf
  have hP : va_P (dC, dI) vwCl [(hX, .inr (5, [.ref rp, .ref u1, .ref u2, .ref u3, .ref u4, .int kn, .int rf, .int ac])), (rp, .inl (cR, 4, .inr (.inr (.inr (.inr fR)))))] s.heap := hP
  have hl := lv_entry ([.ref hX, .int (nI j)]) (n := 3) (Nat.le_of_ble_eq_true rfl)
  rw [lg_entry_eq]
  generalize (lg_sl ([.ref hX, .int (nI j)]) ++ List.replicate (3 - (lg_sl ([.ref hX, .int (nI j)])).length) Slot.unset).toArray = ls at hl ⊢
  have hl : lv_has ls 3 [(0, .ref hX), (1, .int (nI j))] := hl
  refine lv_iload_n hx hb dX1_ropeOf_0 rfl (lv_at hl 1 rfl) ?_
  refine lv_if_lt (tgt := 13) hx hb dX1_ropeOf_1 (by decide) (fun c_246 => absurd c_246 (nI_pos (by omega))) (fun c_246 => ?_)
  refine lv_iload_n hx hb dX1_ropeOf_4 rfl (lv_at hl 1 rfl) ?_
  refine lv_aload_n hx hb dX1_ropeOf_5 rfl (lv_at hl 0 rfl) ?_
  refine va_get (D := (dC, dI)) (ci := 5) (v := .ref rp) (C := RX1) (T := TX1) (N := 8) hx hb hts (by decide +kernel) hown hK hP 0 rfl rfl 0 (by decide) (hts (.fieldLink RX1 11 "Signrope" "ropes" "[LSignrope$Text;") (by decide +kernel)) (fun _ h9 => h9) rfl dX1_ropeOf_6 ?_
  refine va_alen hx hb hK hP 1 0 rfl rfl (v := nI 4) rfl dX1_ropeOf_9 ?_
  refine lv_icmp_lt (tgt := 17) hx hb dX1_ropeOf_10 (by decide) (fun c_247 => ?_) (fun c_247 => absurd (show nI j < nI 4 from nI_lt hj (by omega)) c_247)
  refine lv_aload_n hx hb dX1_ropeOf_17 rfl (lv_at hl 0 rfl) ?_
  refine va_get (D := (dC, dI)) (ci := 5) (v := .ref rp) (C := RX1) (T := TX1) (N := 8) hx hb hts (by decide +kernel) hown hK hP 0 rfl rfl 0 (by decide) (hts (.fieldLink RX1 11 "Signrope" "ropes" "[LSignrope$Text;") (by decide +kernel)) (fun _ h9 => h9) rfl dX1_ropeOf_18 ?_
  refine lv_iload_n hx hb dX1_ropeOf_21 rfl (lv_at hl 1 rfl) ?_
  have hin_248 : vp_in (nI j) 4 := vp_in_nI hj (by omega)
  refine va_aldq hx hb hK hP 1 0 rfl rfl hin_248 dX1_ropeOf_22 ?_
  rw [show fR (nI j).toNatClampNeg = some t0 from (by rw [nI_clamp (by omega)]; exact hR)]
  refine lv_astore_n (lv' := [(2, .ref t0), (0, .ref hX), (1, .int (nI j))]) hx hb dX1_ropeOf_23 rfl hl (by decide) rfl (fun ls hl => ?_)
  refine lv_aload_n hx hb dX1_ropeOf_24 rfl (lv_at hl 0 rfl) ?_
  refine lv_ifnonnull (tgt := 38) hx hb dX1_ropeOf_25 (by decide) ?_
  refine lv_aload_n hx hb dX1_ropeOf_38 rfl (lv_at hl 0 rfl) ?_
  have hP9 := hP.sub (ws' := [(hX, .inr (5, [.ref rp, .ref u1, .ref u2, .ref u3, .ref u4, .int kn, .int rf, .int ac])), (rp, .inl (cR, 4, .inr (.inr (.inr (.inr fR)))))]) [0, 1] rfl
  have hD9 := hD.sub (ws' := [(hX, .inr (5, [.ref rp, .ref u1, .ref u2, .ref u3, .ref u4, .int kn, .int rf, .int ac])), (rp, .inl (cR, 4, .inr (.inr (.inr (.inr fR)))))]) [0, 1] (by decide) rfl
  have hK9 := hK.sub (tys' := [(cR, .object "Signrope$Text")]) [0] rfl
  exact W.aret (v := .ref t0) hx hb hr (Or.inl ⟨_, rfl⟩) (Or.inr ⟨_, rfl⟩) (fun t ht hW => ⟨⟨(), t0, rfl, trivial, rfl, by rw [ht]; exact hP9, va_K.moved hW.alike hK9, hD9⟩, hS.F ht⟩) hS.2.2 dX1_ropeOf_39
set_option maxHeartbeats 4000000 in
set_option maxRecDepth 100000 in
/-- setLength, nothing thrown -/
theorem kX1_setLength (l : Launch) (dC : Nat → ClassId) (dI : Nat → Nat → Nat) (sz : Nat) (hX rp u1 u2 u3 u4 : Nat) (kn rf ac : Int32) (cR : ClassId) (fR : Nat → Option Nat) (j t0 : Nat) (hj : j < 4) (hR : fR j = some t0) (b0 : Nat) (cC : ClassId) (k : Nat) (f : Nat → Int32) (L : Nat) (hk : k ≤ 480) (hL : L ≤ 240) : Met l yX1_setLength wsX1_setLength ({ frames := 1, cells := 0, slots := 0, locals := 22 }) (va_Pc [.ref hX, .int (nI j), .int (nI L)] (fun U => U.heap.size = sz ∧ va_P (dC, dI) vwCl [(hX, .inr (5, [.ref rp, .ref u1, .ref u2, .ref u3, .ref u4, .int kn, .int rf, .int ac])), (rp, .inl (cR, 4, .inr (.inr (.inr (.inr fR))))), (t0, .inr (4, [.ref b0, .int (nI k)])), (b0, .inl (cC, 480, .inl f))] U.heap ∧ va_K (dC, dI) vwCl [(cR, .object "Signrope$Text"), (cC, .char)] U ∧ va_D (fun _ => True) [(hX, .inr (5, [.ref rp, .ref u1, .ref u2, .ref u3, .ref u4, .int kn, .int rf, .int ac])), (rp, .inl (cR, 4, .inr (.inr (.inr (.inr fR))))), (t0, .inr (4, [.ref b0, .int (nI k)])), (b0, .inl (cC, 480, .inl f))])) (va_Qi (fun (r : Int32) (u : Nat → Int32) => match u with | g => r = nI k ∧ ∀ j, j < L → g j = if j < k then f j else 0) (fun (u : Nat → Int32) (t : State) => match u with | g => va_P (dC, dI) vwCl [(hX, .inr (5, [.ref rp, .ref u1, .ref u2, .ref u3, .ref u4, .int kn, .int rf, .int (ac + 1)])), (rp, .inl (cR, 4, .inr (.inr (.inr (.inr fR))))), (t0, .inr (4, [.ref b0, .int (nI L)])), (b0, .inl (cC, 480, .inl g))] t.heap ∧ va_K (dC, dI) vwCl [(cR, .object "Signrope$Text"), (cC, .char)] t ∧ va_D (va_A [(hX, .inr (5, [.ref rp, .ref u1, .ref u2, .ref u3, .ref u4, .int kn, .int rf, .int ac])), (rp, .inl (cR, 4, .inr (.inr (.inr (.inr fR))))), (t0, .inr (4, [.ref b0, .int (nI k)])), (b0, .inl (cC, 480, .inl f))] sz) [(hX, .inr (5, [.ref rp, .ref u1, .ref u2, .ref u3, .ref u4, .int kn, .int rf, .int (ac + 1)])), (rp, .inl (cR, 4, .inr (.inr (.inr (.inr fR))))), (t0, .inr (4, [.ref b0, .int (nI L)])), (b0, .inl (cC, 480, .inl g))]) (va_A [(hX, .inr (5, [.ref rp, .ref u1, .ref u2, .ref u3, .ref u4, .int kn, .int rf, .int ac])), (rp, .inl (cR, 4, .inr (.inr (.inr (.inr fR))))), (t0, .inr (4, [.ref b0, .int (nI k)])), (b0, .inl (cC, 480, .inl f))] sz)) 0 0 (va_A [(hX, .inr (5, [.ref rp, .ref u1, .ref u2, .ref u3, .ref u4, .int kn, .int rf, .int ac])), (rp, .inl (cR, 4, .inr (.inr (.inr (.inr fR))))), (t0, .inr (4, [.ref b0, .int (nI k)])), (b0, .inl (cC, 480, .inl f))] sz) := by
  refine Met.ofW (cc := cX1_setLength) (maxL := 5) (ret := (some .int)) (by decide) rfl ?_
  intro p e s m args below meth c s₁ B hml hv
  obtain ⟨rfl, hsz, hP, hK, hD0⟩ := hv
  have hx := B.exec
  have hb := B.bytes
  have hr := B.returns
  have hts := atoms_spec (ws := wsX1_setLength) B.pre
  have hown : s.vm.findClass RX1 = some m.cls := findClass_of_methodNamed B.named
  have hlocks := B.notSynchronized
  subst hsz
  have hD := hD0.self (sz := s.heap.size)
  generalize hAe : va_A [(hX, .inr (5, [.ref rp, .ref u1, .ref u2, .ref u3, .ref u4, .int kn, .int rf, .int ac])), (rp, .inl (cR, 4, .inr (.inr (.inr (.inr fR))))), (t0, .inr (4, [.ref b0, .int (nI k)])), (b0, .inl (cC, 480, .inl f))] s.heap.size = A at hD ⊢
  have hA : ∀ q : Nat, s.heap.size ≤ q → A q := fun q h => by rw [← hAe]; exact Or.inr h
  have hS : va_S A s.heap s.heap [] := va_S.rf
  have hP : va_P (dC, dI) vwCl [(hX, .inr (5, [.ref rp, .ref u1, .ref u2, .ref u3, .ref u4, .int kn, .int rf, .int ac])), (rp, .inl (cR, 4, .inr (.inr (.inr (.inr fR))))), (t0, .inr (4, [.ref b0, .int (nI k)])), (b0, .inl (cC, 480, .inl f))] s.heap := hP
  have hl := lv_entry ([.ref hX, .int (nI j), .int (nI L)]) (n := 5) (Nat.le_of_ble_eq_true rfl)
  rw [lg_entry_eq]
  generalize (lg_sl ([.ref hX, .int (nI j), .int (nI L)]) ++ List.replicate (5 - (lg_sl ([.ref hX, .int (nI j), .int (nI L)])).length) Slot.unset).toArray = ls at hl ⊢
  have hl : lv_has ls 5 [(0, .ref hX), (1, .int (nI j)), (2, .int (nI L))] := hl
  refine lv_aload_n hx hb dX1_setLength_0 rfl (lv_at hl 0 rfl) ?_
  refine lv_iload_n hx hb dX1_setLength_1 rfl (lv_at hl 1 rfl) ?_
  have hPc := hP.sub (ws' := [(hX, .inr (5, [.ref rp, .ref u1, .ref u2, .ref u3, .ref u4, .int kn, .int rf, .int ac])), (rp, .inl (cR, 4, .inr (.inr (.inr (.inr fR)))))]) [0, 1] rfl
  have hDc := hD.sub (ws' := [(hX, .inr (5, [.ref rp, .ref u1, .ref u2, .ref u3, .ref u4, .int kn, .int rf, .int ac])), (rp, .inl (cR, 4, .inr (.inr (.inr (.inr fR)))))]) [0, 1] (by decide) rfl
  have hKc := hK.sub (tys' := [(cR, .object "Signrope$Text")]) [0] rfl
  have hFc := va_free (wc := [(hX, .inr (5, [.ref rp, .ref u1, .ref u2, .ref u3, .ref u4, .int kn, .int rf, .int ac])), (rp, .inl (cR, 4, .inr (.inr (.inr (.inr fR)))))]) hD hS hA [0, 1] rfl
  refine va_callr (va_runV (As := [.int (nI j)]) (rest := []) ⟨hx, hb, hml, hown, hts⟩ (kX1_ropeOf l dC dI s.heap.size hX rp u1 u2 u3 u4 kn rf ac cR fR j t0 hj hR) (cwV 1 hts gX1_setLength_X1_ropeOf rfl rfl rfl (by decide +kernel) ⟨Nat.le_of_ble_eq_true rfl, Nat.le_of_ble_eq_true rfl⟩) ⟨fun a U g mk q => by obtain ⟨q0, q1, qP, qK, qD⟩ := q; exact ⟨q0, q1, qP, va_K.moved (u := U) (U := U.calling g mk a) (Vm.Alike.refl U.vm) qK, qD⟩, va_recv hKc hPc (ci := 5) (q0 := 0) rfl rfl, fun U hU hW => ⟨rfl, by rw [hU], by rw [hU]; exact hPc, va_K.moved hW.alike hKc, hDc.weaken (fun _ _ _ _ => trivial)⟩⟩ rfl rfl hl.1 rfl (lv_room (Nat.le_of_ble_eq_true rfl)) dX1_setLength_2 ⟨(by show 0 + 0 ≤ 0; omega), (by show 0 + 0 ≤ 0; omega)⟩) hS (fun q _ h => hFc q h) hFc (fun u r_250 t H1 locs ht hvm hw_249 hB hz1 hk1 hS => ?_)
  try dsimp only at hB
  try dsimp only at hw_249
  obtain ⟨hra, hP1, hK1, hD1⟩ := hB
  rw [ht] at hP1
  have hK1 := va_K.moved hvm.symm hK1
  obtain ⟨hP, hD⟩ := va_join (wr := [(t0, .inr (4, [.ref b0, .int (nI k)])), (b0, .inl (cC, 480, .inl f))]) (w1 := [(hX, .inr (5, [.ref rp, .ref u1, .ref u2, .ref u3, .ref u4, .int kn, .int rf, .int ac])), (rp, .inl (cR, 4, .inr (.inr (.inr (.inr fR)))))]) hP hD [0, 1] [2, 3] rfl rfl (by decide) (by decide) hk1 hFc hP1 hD1
  have hK := (hK.sub (tys' := [(cC, .char)]) [1] rfl).app hK1
  generalize H1 = H at hP hS ⊢
  have hP : va_P (dC, dI) vwCl [(t0, .inr (4, [.ref b0, .int (nI k)])), (b0, .inl (cC, 480, .inl f)), (hX, .inr (5, [.ref rp, .ref u1, .ref u2, .ref u3, .ref u4, .int kn, .int rf, .int ac])), (rp, .inl (cR, 4, .inr (.inr (.inr (.inr fR)))))] H := hP
  have hD : va_D A [(t0, .inr (4, [.ref b0, .int (nI k)])), (b0, .inl (cC, 480, .inl f)), (hX, .inr (5, [.ref rp, .ref u1, .ref u2, .ref u3, .ref u4, .int kn, .int rf, .int ac])), (rp, .inl (cR, 4, .inr (.inr (.inr (.inr fR)))))] := hD
  have hK : va_K (dC, dI) vwCl [(cC, .char), (cR, .object "Signrope$Text")] s := hK
  have hra2 := hra.symm
  subst hra2
  refine lv_astore_n (lv' := [(3, .ref t0), (0, .ref hX), (1, .int (nI j)), (2, .int (nI L))]) hx hb dX1_setLength_5 rfl hl (by decide) rfl (fun ls hl => ?_)
  refine lv_iload_n hx hb dX1_setLength_6 rfl (lv_at hl 3 rfl) ?_
  refine lv_if_lt (tgt := 17) hx hb dX1_setLength_7 (by decide) (fun c_251 => absurd c_251 (nI_pos (by omega))) (fun c_251 => ?_)
  refine lv_iload_n hx hb dX1_setLength_10 rfl (lv_at hl 3 rfl) ?_
  refine lv_sipush (v := 240) hx hb dX1_setLength_11 (by decide) ?_
  refine lv_icmp_le (tgt := 27) hx hb dX1_setLength_14 (by decide) (fun c_252 => ?_) (fun c_252 => absurd (show nI L ≤ nI 240 from nI_le (by omega) (by omega)) c_252)
  refine lv_aload_n hx hb dX1_setLength_27 rfl (lv_at hl 0 rfl) ?_
  have hPc := hP.sub (ws' := [(t0, .inr (4, [.ref b0, .int (nI k)]))]) [0] rfl
  have hDc := hD.sub (ws' := [(t0, .inr (4, [.ref b0, .int (nI k)]))]) [0] (by decide) rfl
  have hKc := hK.sub (tys' := []) [] rfl
  have hFc := va_free (wc := [(t0, .inr (4, [.ref b0, .int (nI k)]))]) hD hS hA [0] rfl
  refine va_calli (va_runV (As := []) (rest := []) ⟨hx, hb, hml, hown, hts⟩ (kX0_size l dC dI H.size t0 b0 (nI k)) (cwV 0 hts gX1_setLength_X0_size rfl rfl rfl (by decide +kernel) ⟨Nat.le_of_ble_eq_true rfl, Nat.le_of_ble_eq_true rfl⟩) ⟨fun a U g mk q => by obtain ⟨q0, q1, qP, qK, qD⟩ := q; exact ⟨q0, q1, qP, va_K.moved (u := U) (U := U.calling g mk a) (Vm.Alike.refl U.vm) qK, qD⟩, va_recv hKc hPc (ci := 4) (q0 := 0) rfl rfl, fun U hU hW => ⟨rfl, by rw [hU], by rw [hU]; exact hPc, va_K.moved hW.alike hKc, hDc.weaken (fun _ _ _ _ => trivial)⟩⟩ rfl rfl hl.1 rfl (lv_room (Nat.le_of_ble_eq_true rfl)) dX1_setLength_28 ⟨(by show 0 + 0 + 0 ≤ 0; omega), (by show 0 + 0 + 0 ≤ 0; omega)⟩) hS (fun q _ h => hFc q h) hFc (fun r_253 u t H1 locs ht hvm hq hB hz1 hk1 hS => ?_)
  try dsimp only at hB
  try dsimp only at hq
  obtain ⟨hP1, hK1, hD1⟩ := hB
  rw [ht] at hP1
  have hK1 := va_K.moved hvm.symm hK1
  obtain ⟨hP, hD⟩ := va_join (wr := [(b0, .inl (cC, 480, .inl f)), (hX, .inr (5, [.ref rp, .ref u1, .ref u2, .ref u3, .ref u4, .int kn, .int rf, .int ac])), (rp, .inl (cR, 4, .inr (.inr (.inr (.inr fR)))))]) (w1 := [(t0, .inr (4, [.ref b0, .int (nI k)]))]) hP hD [0] [1, 2, 3] rfl rfl (by decide) (by decide) hk1 hFc hP1 hD1
  have hK := (hK.sub (tys' := [(cC, .char), (cR, .object "Signrope$Text")]) [0, 1] rfl).app hK1
  generalize H1 = H at hP hS ⊢
  have hP : va_P (dC, dI) vwCl [(b0, .inl (cC, 480, .inl f)), (hX, .inr (5, [.ref rp, .ref u1, .ref u2, .ref u3, .ref u4, .int kn, .int rf, .int ac])), (rp, .inl (cR, 4, .inr (.inr (.inr (.inr fR))))), (t0, .inr (4, [.ref b0, .int (nI k)]))] H := hP
  have hD : va_D A [(b0, .inl (cC, 480, .inl f)), (hX, .inr (5, [.ref rp, .ref u1, .ref u2, .ref u3, .ref u4, .int kn, .int rf, .int ac])), (rp, .inl (cR, 4, .inr (.inr (.inr (.inr fR))))), (t0, .inr (4, [.ref b0, .int (nI k)]))] := hD
  have hK : va_K (dC, dI) vwCl [(cC, .char), (cR, .object "Signrope$Text")] s := hK
  subst hq
  refine lv_istore (lv' := [(4, .int (nI k)), (3, .ref t0), (0, .ref hX), (1, .int (nI j)), (2, .int (nI L))]) hx hb dX1_setLength_31 hl (by decide) rfl (fun ls hl => ?_)
  refine lv_aload_n hx hb dX1_setLength_33 rfl (lv_at hl 1 rfl) ?_
  refine lv_iload_n hx hb dX1_setLength_34 rfl (lv_at hl 4 rfl) ?_
  have hPc := hP.sub (ws' := [(t0, .inr (4, [.ref b0, .int (nI k)])), (b0, .inl (cC, 480, .inl f))]) [3, 0] rfl
  have hDc := hD.sub (ws' := [(t0, .inr (4, [.ref b0, .int (nI k)])), (b0, .inl (cC, 480, .inl f))]) [3, 0] (by decide) rfl
  have hKc := hK.sub (tys' := [(cC, .char)]) [0] rfl
  have hFc := va_free (wc := [(t0, .inr (4, [.ref b0, .int (nI k)])), (b0, .inl (cC, 480, .inl f))]) hD hS hA [3, 0] rfl
  refine va_callv (va_runV (As := [.int (nI L)]) (rest := []) ⟨hx, hb, hml, hown, hts⟩ (kX0_resize l dC dI H.size t0 b0 cC k f L (by omega) hk) (cwV 1 hts gX1_setLength_X0_resize rfl rfl rfl (by decide +kernel) ⟨Nat.le_of_ble_eq_true rfl, Nat.le_of_ble_eq_true rfl⟩) ⟨fun a U g mk q => by obtain ⟨q0, q1, qP, qK, qD⟩ := q; exact ⟨q0, q1, qP, va_K.moved (u := U) (U := U.calling g mk a) (Vm.Alike.refl U.vm) qK, qD⟩, va_recv hKc hPc (ci := 4) (q0 := 0) rfl rfl, fun U hU hW => ⟨rfl, by rw [hU], by rw [hU]; exact hPc, va_K.moved hW.alike hKc, hDc.weaken (fun _ _ _ _ => trivial)⟩⟩ rfl rfl hl.1 rfl (lv_room (Nat.le_of_ble_eq_true rfl)) dX1_setLength_35 ⟨(by show 0 + 0 + 0 + 0 ≤ 0; omega), (by show 0 + 0 + 0 + 0 ≤ 0; omega)⟩) hS (fun q _ h => hFc q h) hFc (fun g t H1 locs ht hvm hg hB hz1 hk1 hS => ?_)
  try dsimp only at hB
  try dsimp only at hg
  obtain ⟨hP1, hK1, hD1⟩ := hB
  rw [ht] at hP1
  have hK1 := va_K.moved hvm.symm hK1
  obtain ⟨hP, hD⟩ := va_join (wr := [(hX, .inr (5, [.ref rp, .ref u1, .ref u2, .ref u3, .ref u4, .int kn, .int rf, .int ac])), (rp, .inl (cR, 4, .inr (.inr (.inr (.inr fR)))))]) (w1 := [(t0, .inr (4, [.ref b0, .int (nI L)])), (b0, .inl (cC, 480, .inl g))]) hP hD [3, 0] [1, 2] rfl rfl (by decide) (by decide) hk1 hFc hP1 hD1
  have hK := (hK.sub (tys' := [(cR, .object "Signrope$Text")]) [1] rfl).app hK1
  generalize H1 = H at hP hS ⊢
  have hP : va_P (dC, dI) vwCl [(hX, .inr (5, [.ref rp, .ref u1, .ref u2, .ref u3, .ref u4, .int kn, .int rf, .int ac])), (rp, .inl (cR, 4, .inr (.inr (.inr (.inr fR))))), (t0, .inr (4, [.ref b0, .int (nI L)])), (b0, .inl (cC, 480, .inl g))] H := hP
  have hD : va_D A [(hX, .inr (5, [.ref rp, .ref u1, .ref u2, .ref u3, .ref u4, .int kn, .int rf, .int ac])), (rp, .inl (cR, 4, .inr (.inr (.inr (.inr fR))))), (t0, .inr (4, [.ref b0, .int (nI L)])), (b0, .inl (cC, 480, .inl g))] := hD
  have hK : va_K (dC, dI) vwCl [(cR, .object "Signrope$Text"), (cC, .char)] s := hK
  refine lv_aload_n hx hb dX1_setLength_38 rfl (lv_at hl 2 rfl) ?_
  refine lv_dup hx hb dX1_setLength_39 rfl ?_
  refine va_get (D := (dC, dI)) (ci := 5) (v := .int ac) (C := RX1) (T := TX1) (N := 8) hx hb hts (by decide +kernel) hown hK hP 0 rfl rfl 7 (by decide) (hts (.fieldLink RX1 104 "Signrope" "acts" "I") (by decide +kernel)) (fun _ h9 => h9) rfl dX1_setLength_40 ?_
  refine lv_iconst (v := 1) hx hb dX1_setLength_43 (by decide) ?_
  refine lv_iadd hx hb dX1_setLength_44 ?_
  refine lv_topi (fun x_255 ex_255 => ?_)
  refine va_put (D := (dC, dI)) (ci := 5) (v := .int x_255) (ty := .int) (C := RX1) (T := TX1) (N := 8) hx hb hts (by decide +kernel) tyX1 tyX1_ok nmX1 hown hK hP hD hS 0 rfl rfl 7 (by decide) (hts (.fieldLink RX1 104 "Signrope" "acts" "I") (by decide +kernel)) (fun _ h9 => h9) rfl (by decide +kernel) rfl rfl (Nat.le_of_ble_eq_true rfl) dX1_setLength_45 (fun H locs hP hD hS => ?_)
  have hP : va_P (dC, dI) vwCl [(hX, .inr (5, [.ref rp, .ref u1, .ref u2, .ref u3, .ref u4, .int kn, .int rf, .int x_255])), (rp, .inl (cR, 4, .inr (.inr (.inr (.inr fR))))), (t0, .inr (4, [.ref b0, .int (nI L)])), (b0, .inl (cC, 480, .inl g))] H := hP
  have hD : va_D A [(hX, .inr (5, [.ref rp, .ref u1, .ref u2, .ref u3, .ref u4, .int kn, .int rf, .int x_255])), (rp, .inl (cR, 4, .inr (.inr (.inr (.inr fR))))), (t0, .inr (4, [.ref b0, .int (nI L)])), (b0, .inl (cC, 480, .inl g))] := hD
  refine lv_iload hx hb dX1_setLength_48 (lv_at hl 0 rfl) ?_
  rw [ex_255] at hP hD
  have hP9 := hP.sub (ws' := [(hX, .inr (5, [.ref rp, .ref u1, .ref u2, .ref u3, .ref u4, .int kn, .int rf, .int (ac + 1)])), (rp, .inl (cR, 4, .inr (.inr (.inr (.inr fR))))), (t0, .inr (4, [.ref b0, .int (nI L)])), (b0, .inl (cC, 480, .inl g))]) [0, 1, 2, 3] rfl
  have hD9 := hD.sub (ws' := [(hX, .inr (5, [.ref rp, .ref u1, .ref u2, .ref u3, .ref u4, .int kn, .int rf, .int (ac + 1)])), (rp, .inl (cR, 4, .inr (.inr (.inr (.inr fR))))), (t0, .inr (4, [.ref b0, .int (nI L)])), (b0, .inl (cC, 480, .inl g))]) [0, 1, 2, 3] (by decide) rfl
  have hK9 := hK.sub (tys' := [(cR, .object "Signrope$Text"), (cC, .char)]) [0, 1] rfl
  refine W.widen (k := 0) (n := 0) (by omega) (by omega) ?_
  exact W.iret (v := nI k) hx hb hr (fun t ht hW => ⟨⟨nI k, g, rfl, ⟨rfl, hg⟩, by rw [ht]; exact hP9, va_K.moved hW.alike hK9, hD9⟩, hS.F ht⟩) hS.2.2 dX1_setLength_50
set_option maxHeartbeats 4000000 in
set_option maxRecDepth 100000 in
/-- text, nothing thrown -/
theorem kX1_text (l : Launch) (dC : Nat → ClassId) (dI : Nat → Nat → Nat) (sz : Nat) (hX rp u1 u2 u3 u4 : Nat) (kn rf ac : Int32) (cR : ClassId) (fR : Nat → Option Nat) (j t0 : Nat) (hj : j < 4) (hR : fR j = some t0) (b0 : Nat) (cC : ClassId) (k : Nat) (f : Nat → Int32) (tc : Nat → Nat) (hk0 : 1 ≤ k) (hk : k ≤ 480) (hf : ∀ j, j < k → f j = nI (tc j) ∧ tc j < 256) : Met l yX1_text wsX1_text ({ frames := 5, cells := 3, slots := k + 4 + k, locals := 120 }) (va_Pc [.ref hX, .int (nI j)] (fun U => U.heap.size = sz ∧ va_P (dC, dI) vwCl [(hX, .inr (5, [.ref rp, .ref u1, .ref u2, .ref u3, .ref u4, .int kn, .int rf, .int ac])), (rp, .inl (cR, 4, .inr (.inr (.inr (.inr fR))))), (t0, .inr (4, [.ref b0, .int (nI k)])), (b0, .inl (cC, 480, .inl f))] U.heap ∧ va_K (dC, dI) vwCl [(cR, .object "Signrope$Text"), (cC, .char)] U ∧ va_D (fun _ => True) [(hX, .inr (5, [.ref rp, .ref u1, .ref u2, .ref u3, .ref u4, .int kn, .int rf, .int ac])), (rp, .inl (cR, 4, .inr (.inr (.inr (.inr fR))))), (t0, .inr (4, [.ref b0, .int (nI k)])), (b0, .inl (cC, 480, .inl f))] ∧ jz (va_A [(hX, .inr (5, [.ref rp, .ref u1, .ref u2, .ref u3, .ref u4, .int kn, .int rf, .int ac])), (rp, .inl (cR, 4, .inr (.inr (.inr (.inr fR))))), (t0, .inr (4, [.ref b0, .int (nI k)])), (b0, .inl (cC, 480, .inl f))] sz) U U.heap)) (va_Qr (fun (u : Nat × ClassId × (Nat → Int32)) => match u with | (v2, cA, g) => sb_Fit g ∧ ∀ j, j < k → g j = sb_b (tc j)) (fun (u : Nat × ClassId × (Nat → Int32)) (ra : Nat) (t : State) => match u with | (v2, cA, g) => va_P (dC, dI) vwCl [(hX, .inr (5, [.ref rp, .ref u1, .ref u2, .ref u3, .ref u4, .int kn, .int rf, .int ac])), (rp, .inl (cR, 4, .inr (.inr (.inr (.inr fR))))), (t0, .inr (4, [.ref b0, .int (nI k)])), (b0, .inl (cC, 480, .inl f)), (ra, .inr (0, [.ref v2, .int 0, .int 0, .int 0])), (v2, .inl (cA, k, .inl g))] t.heap ∧ va_K (dC, dI) vwCl [(cR, .object "Signrope$Text"), (cC, .char), (cA, .byte)] t ∧ va_D (va_A [(hX, .inr (5, [.ref rp, .ref u1, .ref u2, .ref u3, .ref u4, .int kn, .int rf, .int ac])), (rp, .inl (cR, 4, .inr (.inr (.inr (.inr fR))))), (t0, .inr (4, [.ref b0, .int (nI k)])), (b0, .inl (cC, 480, .inl f))] sz) [(hX, .inr (5, [.ref rp, .ref u1, .ref u2, .ref u3, .ref u4, .int kn, .int rf, .int ac])), (rp, .inl (cR, 4, .inr (.inr (.inr (.inr fR))))), (t0, .inr (4, [.ref b0, .int (nI k)])), (b0, .inl (cC, 480, .inl f)), (ra, .inr (0, [.ref v2, .int 0, .int 0, .int 0])), (v2, .inl (cA, k, .inl g))]) (va_A [(hX, .inr (5, [.ref rp, .ref u1, .ref u2, .ref u3, .ref u4, .int kn, .int rf, .int ac])), (rp, .inl (cR, 4, .inr (.inr (.inr (.inr fR))))), (t0, .inr (4, [.ref b0, .int (nI k)])), (b0, .inl (cC, 480, .inl f))] sz)) 3 (k + 4 + k) (va_A [(hX, .inr (5, [.ref rp, .ref u1, .ref u2, .ref u3, .ref u4, .int kn, .int rf, .int ac])), (rp, .inl (cR, 4, .inr (.inr (.inr (.inr fR))))), (t0, .inr (4, [.ref b0, .int (nI k)])), (b0, .inl (cC, 480, .inl f))] sz) := by
  refine Met.ofW (cc := cX1_text) (maxL := 3) (ret := (some (.object "java/lang/String"))) (by decide) rfl ?_
  intro p e s m args below meth c s₁ B hml hv
  obtain ⟨rfl, hsz, hP, hK, hD0, hZ⟩ := hv
  have hx := B.exec
  have hb := B.bytes
  have hr := B.returns
  have hts := atoms_spec (ws := wsX1_text) B.pre
  have hown : s.vm.findClass RX1 = some m.cls := findClass_of_methodNamed B.named
  have hlocks := B.notSynchronized
  subst hsz
  have hD := hD0.self (sz := s.heap.size)
  generalize hAe : va_A [(hX, .inr (5, [.ref rp, .ref u1, .ref u2, .ref u3, .ref u4, .int kn, .int rf, .int ac])), (rp, .inl (cR, 4, .inr (.inr (.inr (.inr fR))))), (t0, .inr (4, [.ref b0, .int (nI k)])), (b0, .inl (cC, 480, .inl f))] s.heap.size = A at hD hZ ⊢
  have hA : ∀ q : Nat, s.heap.size ≤ q → A q := fun q h => by rw [← hAe]; exact Or.inr h
  have hS : va_S A s.heap s.heap [] := va_S.rf
  have hP : va_P (dC, dI) vwCl [(hX, .inr (5, [.ref rp, .ref u1, .ref u2, .ref u3, .ref u4, .int kn, .int rf, .int ac])), (rp, .inl (cR, 4, .inr (.inr (.inr (.inr fR))))), (t0, .inr (4, [.ref b0, .int (nI k)])), (b0, .inl (cC, 480, .inl f))] s.heap := hP
  have hl := lv_entry ([.ref hX, .int (nI j)]) (n := 3) (Nat.le_of_ble_eq_true rfl)
  rw [lg_entry_eq]
  generalize (lg_sl ([.ref hX, .int (nI j)]) ++ List.replicate (3 - (lg_sl ([.ref hX, .int (nI j)])).length) Slot.unset).toArray = ls at hl ⊢
  have hl : lv_has ls 3 [(0, .ref hX), (1, .int (nI j))] := hl
  refine lv_aload_n hx hb dX1_text_0 rfl (lv_at hl 0 rfl) ?_
  refine lv_iload_n hx hb dX1_text_1 rfl (lv_at hl 1 rfl) ?_
  have hPc := hP.sub (ws' := [(hX, .inr (5, [.ref rp, .ref u1, .ref u2, .ref u3, .ref u4, .int kn, .int rf, .int ac])), (rp, .inl (cR, 4, .inr (.inr (.inr (.inr fR)))))]) [0, 1] rfl
  have hDc := hD.sub (ws' := [(hX, .inr (5, [.ref rp, .ref u1, .ref u2, .ref u3, .ref u4, .int kn, .int rf, .int ac])), (rp, .inl (cR, 4, .inr (.inr (.inr (.inr fR)))))]) [0, 1] (by decide) rfl
  have hKc := hK.sub (tys' := [(cR, .object "Signrope$Text")]) [0] rfl
  have hFc := va_free (wc := [(hX, .inr (5, [.ref rp, .ref u1, .ref u2, .ref u3, .ref u4, .int kn, .int rf, .int ac])), (rp, .inl (cR, 4, .inr (.inr (.inr (.inr fR)))))]) hD hS hA [0, 1] rfl
  refine va_callr (va_runV (As := [.int (nI j)]) (rest := []) ⟨hx, hb, hml, hown, hts⟩ (kX1_ropeOf l dC dI s.heap.size hX rp u1 u2 u3 u4 kn rf ac cR fR j t0 hj hR) (cwV 1 hts gX1_text_X1_ropeOf rfl rfl rfl (by decide +kernel) ⟨Nat.le_of_ble_eq_true rfl, Nat.le_of_ble_eq_true rfl⟩) ⟨fun a U g mk q => by obtain ⟨q0, q1, qP, qK, qD⟩ := q; exact ⟨q0, q1, qP, va_K.moved (u := U) (U := U.calling g mk a) (Vm.Alike.refl U.vm) qK, qD⟩, va_recv hKc hPc (ci := 5) (q0 := 0) rfl rfl, fun U hU hW => ⟨rfl, by rw [hU], by rw [hU]; exact hPc, va_K.moved hW.alike hKc, hDc.weaken (fun _ _ _ _ => trivial)⟩⟩ rfl rfl hl.1 rfl (lv_room (Nat.le_of_ble_eq_true rfl)) dX1_text_2 ⟨(by show 0 + 0 ≤ 3; omega), (by show 0 + 0 ≤ (k + 4 + k); omega)⟩) hS (fun q _ h => hFc q h) hFc (fun u r_257 t H1 locs ht hvm hw_256 hB hz1 hk1 hS => ?_)
  try dsimp only at hB
  try dsimp only at hw_256
  obtain ⟨hra, hP1, hK1, hD1⟩ := hB
  rw [ht] at hP1
  have hK1 := va_K.moved hvm.symm hK1
  obtain ⟨hP, hD⟩ := va_join (wr := [(t0, .inr (4, [.ref b0, .int (nI k)])), (b0, .inl (cC, 480, .inl f))]) (w1 := [(hX, .inr (5, [.ref rp, .ref u1, .ref u2, .ref u3, .ref u4, .int kn, .int rf, .int ac])), (rp, .inl (cR, 4, .inr (.inr (.inr (.inr fR)))))]) hP hD [0, 1] [2, 3] rfl rfl (by decide) (by decide) hk1 hFc hP1 hD1
  have hK := (hK.sub (tys' := [(cC, .char)]) [1] rfl).app hK1
  generalize H1 = H at hP hS ⊢
  have hP : va_P (dC, dI) vwCl [(t0, .inr (4, [.ref b0, .int (nI k)])), (b0, .inl (cC, 480, .inl f)), (hX, .inr (5, [.ref rp, .ref u1, .ref u2, .ref u3, .ref u4, .int kn, .int rf, .int ac])), (rp, .inl (cR, 4, .inr (.inr (.inr (.inr fR)))))] H := hP
  have hD : va_D A [(t0, .inr (4, [.ref b0, .int (nI k)])), (b0, .inl (cC, 480, .inl f)), (hX, .inr (5, [.ref rp, .ref u1, .ref u2, .ref u3, .ref u4, .int kn, .int rf, .int ac])), (rp, .inl (cR, 4, .inr (.inr (.inr (.inr fR)))))] := hD
  have hK : va_K (dC, dI) vwCl [(cC, .char), (cR, .object "Signrope$Text")] s := hK
  have hra2 := hra.symm
  subst hra2
  refine lv_astore_n (lv' := [(2, .ref t0), (0, .ref hX), (1, .int (nI j))]) hx hb dX1_text_5 rfl hl (by decide) rfl (fun ls hl => ?_)
  refine lv_aload_n hx hb dX1_text_6 rfl (lv_at hl 0 rfl) ?_
  refine lv_iconst (v := 0) hx hb dX1_text_7 (by decide) ?_
  refine lv_aload_n hx hb dX1_text_8 rfl (lv_at hl 0 rfl) ?_
  have hPc := hP.sub (ws' := [(t0, .inr (4, [.ref b0, .int (nI k)]))]) [0] rfl
  have hDc := hD.sub (ws' := [(t0, .inr (4, [.ref b0, .int (nI k)]))]) [0] (by decide) rfl
  have hKc := hK.sub (tys' := []) [] rfl
  have hFc := va_free (wc := [(t0, .inr (4, [.ref b0, .int (nI k)]))]) hD hS hA [0] rfl
  refine va_calli (va_runV (As := []) (rest := [.int 0, .ref t0]) ⟨hx, hb, hml, hown, hts⟩ (kX0_size l dC dI H.size t0 b0 (nI k)) (cwV 0 hts gX1_text_X0_size rfl rfl rfl (by decide +kernel) ⟨Nat.le_of_ble_eq_true rfl, Nat.le_of_ble_eq_true rfl⟩) ⟨fun a U g mk q => by obtain ⟨q0, q1, qP, qK, qD⟩ := q; exact ⟨q0, q1, qP, va_K.moved (u := U) (U := U.calling g mk a) (Vm.Alike.refl U.vm) qK, qD⟩, va_recv hKc hPc (ci := 4) (q0 := 0) rfl rfl, fun U hU hW => ⟨rfl, by rw [hU], by rw [hU]; exact hPc, va_K.moved hW.alike hKc, hDc.weaken (fun _ _ _ _ => trivial)⟩⟩ rfl rfl hl.1 rfl (lv_room (Nat.le_of_ble_eq_true rfl)) dX1_text_9 ⟨(by show 0 + 0 + 0 ≤ 3; omega), (by show 0 + 0 + 0 ≤ (k + 4 + k); omega)⟩) hS (fun q _ h => hFc q h) hFc (fun r_258 u t H1 locs ht hvm hq hB hz1 hk1 hS => ?_)
  try dsimp only at hB
  try dsimp only at hq
  obtain ⟨hP1, hK1, hD1⟩ := hB
  rw [ht] at hP1
  have hK1 := va_K.moved hvm.symm hK1
  obtain ⟨hP, hD⟩ := va_join (wr := [(b0, .inl (cC, 480, .inl f)), (hX, .inr (5, [.ref rp, .ref u1, .ref u2, .ref u3, .ref u4, .int kn, .int rf, .int ac])), (rp, .inl (cR, 4, .inr (.inr (.inr (.inr fR)))))]) (w1 := [(t0, .inr (4, [.ref b0, .int (nI k)]))]) hP hD [0] [1, 2, 3] rfl rfl (by decide) (by decide) hk1 hFc hP1 hD1
  have hK := (hK.sub (tys' := [(cC, .char), (cR, .object "Signrope$Text")]) [0, 1] rfl).app hK1
  generalize H1 = H at hP hS ⊢
  have hP : va_P (dC, dI) vwCl [(b0, .inl (cC, 480, .inl f)), (hX, .inr (5, [.ref rp, .ref u1, .ref u2, .ref u3, .ref u4, .int kn, .int rf, .int ac])), (rp, .inl (cR, 4, .inr (.inr (.inr (.inr fR))))), (t0, .inr (4, [.ref b0, .int (nI k)]))] H := hP
  have hD : va_D A [(b0, .inl (cC, 480, .inl f)), (hX, .inr (5, [.ref rp, .ref u1, .ref u2, .ref u3, .ref u4, .int kn, .int rf, .int ac])), (rp, .inl (cR, 4, .inr (.inr (.inr (.inr fR))))), (t0, .inr (4, [.ref b0, .int (nI k)]))] := hD
  have hK : va_K (dC, dI) vwCl [(cC, .char), (cR, .object "Signrope$Text")] s := hK
  subst hq
  have hPc := hP.sub (ws' := [(t0, .inr (4, [.ref b0, .int (nI k)])), (b0, .inl (cC, 480, .inl f))]) [3, 0] rfl
  have hDc := hD.sub (ws' := [(t0, .inr (4, [.ref b0, .int (nI k)])), (b0, .inl (cC, 480, .inl f))]) [3, 0] (by decide) rfl
  have hKc := hK.sub (tys' := [(cC, .char)]) [0] rfl
  have hFc := va_free (wc := [(t0, .inr (4, [.ref b0, .int (nI k)])), (b0, .inl (cC, 480, .inl f))]) hD hS hA [3, 0] rfl
  refine va_callr (va_runV (As := [.int (nI 0), .int (nI k)]) (rest := []) ⟨hx, hb, hml, hown, hts⟩ (kX0_written l dC dI H.size t0 b0 cC k f tc hk0 hk hf) (cwV 2 hts gX1_text_X0_written rfl rfl rfl (by decide +kernel) ⟨Nat.le_of_ble_eq_true rfl, Nat.le_of_ble_eq_true rfl⟩) ⟨fun a U g mk q => by obtain ⟨q0, q1, qP, qK, qD, qE0⟩ := q; exact ⟨q0, q1, qP, va_K.moved (u := U) (U := U.calling g mk a) (Vm.Alike.refl U.vm) qK, qD, jz.call qE0⟩, va_recv hKc hPc (ci := 4) (q0 := 0) rfl rfl, fun U hU hW => ⟨rfl, by rw [hU], by rw [hU]; exact hPc, va_K.moved hW.alike hKc, hDc.weaken (fun _ _ _ _ => trivial), jz.pass hZ hS hFc hW hU⟩⟩ rfl rfl hl.1 rfl (lv_room (Nat.le_of_ble_eq_true rfl)) dX1_text_12 ⟨(by show 0 + 0 + 0 + 3 ≤ 3; omega), (by show 0 + 0 + 0 + (k + 4 + k) ≤ (k + 4 + k); omega)⟩) hS (fun q _ h => hFc q h) hFc (fun u r_259 t H1 locs ht hvm hg hB hz1 hk1 hS => ?_)
  obtain ⟨v2, cA, g⟩ := u
  try dsimp only at hB
  try dsimp only at hg
  obtain ⟨hP1, hK1, hD1⟩ := hB
  rw [ht] at hP1
  have hK1 := va_K.moved hvm.symm hK1
  obtain ⟨hP, hD⟩ := va_join (wr := [(hX, .inr (5, [.ref rp, .ref u1, .ref u2, .ref u3, .ref u4, .int kn, .int rf, .int ac])), (rp, .inl (cR, 4, .inr (.inr (.inr (.inr fR)))))]) (w1 := [(t0, .inr (4, [.ref b0, .int (nI k)])), (b0, .inl (cC, 480, .inl f)), (r_259, .inr (0, [.ref v2, .int 0, .int 0, .int 0])), (v2, .inl (cA, k, .inl g))]) hP hD [3, 0] [1, 2] rfl rfl (by decide) (by decide) hk1 hFc hP1 hD1
  have hK := (hK.sub (tys' := [(cR, .object "Signrope$Text")]) [1] rfl).app hK1
  generalize H1 = H at hP hS ⊢
  have hP : va_P (dC, dI) vwCl [(hX, .inr (5, [.ref rp, .ref u1, .ref u2, .ref u3, .ref u4, .int kn, .int rf, .int ac])), (rp, .inl (cR, 4, .inr (.inr (.inr (.inr fR))))), (t0, .inr (4, [.ref b0, .int (nI k)])), (b0, .inl (cC, 480, .inl f)), (r_259, .inr (0, [.ref v2, .int 0, .int 0, .int 0])), (v2, .inl (cA, k, .inl g))] H := hP
  have hD : va_D A [(hX, .inr (5, [.ref rp, .ref u1, .ref u2, .ref u3, .ref u4, .int kn, .int rf, .int ac])), (rp, .inl (cR, 4, .inr (.inr (.inr (.inr fR))))), (t0, .inr (4, [.ref b0, .int (nI k)])), (b0, .inl (cC, 480, .inl f)), (r_259, .inr (0, [.ref v2, .int 0, .int 0, .int 0])), (v2, .inl (cA, k, .inl g))] := hD
  have hK : va_K (dC, dI) vwCl [(cR, .object "Signrope$Text"), (cC, .char), (cA, .byte)] s := hK
  have hP9 := hP.sub (ws' := [(hX, .inr (5, [.ref rp, .ref u1, .ref u2, .ref u3, .ref u4, .int kn, .int rf, .int ac])), (rp, .inl (cR, 4, .inr (.inr (.inr (.inr fR))))), (t0, .inr (4, [.ref b0, .int (nI k)])), (b0, .inl (cC, 480, .inl f)), (r_259, .inr (0, [.ref v2, .int 0, .int 0, .int 0])), (v2, .inl (cA, k, .inl g))]) [0, 1, 2, 3, 4, 5] rfl
  have hD9 := hD.sub (ws' := [(hX, .inr (5, [.ref rp, .ref u1, .ref u2, .ref u3, .ref u4, .int kn, .int rf, .int ac])), (rp, .inl (cR, 4, .inr (.inr (.inr (.inr fR))))), (t0, .inr (4, [.ref b0, .int (nI k)])), (b0, .inl (cC, 480, .inl f)), (r_259, .inr (0, [.ref v2, .int 0, .int 0, .int 0])), (v2, .inl (cA, k, .inl g))]) [0, 1, 2, 3, 4, 5] (by decide) rfl
  have hK9 := hK.sub (tys' := [(cR, .object "Signrope$Text"), (cC, .char), (cA, .byte)]) [0, 1, 2] rfl
  refine W.widen (k := 3) (n := k + 4 + k) (by omega) (by omega) ?_
  exact W.aret (v := .ref r_259) hx hb hr (Or.inl ⟨_, rfl⟩) (Or.inr ⟨_, rfl⟩) (fun t ht hW => ⟨⟨(v2, cA, g), r_259, rfl, hg, by rw [ht]; exact hP9, va_K.moved hW.alike hK9, hD9⟩, hS.F ht⟩) hS.2.2 dX1_text_15
