/-! SignropeModel: the leaves. The object: an object of class 7 (thrown, the row of texts, knocked, refused, spliced). -/
set_option maxHeartbeats 4000000 in
set_option maxRecDepth 100000 in
/-- thrown() -/
theorem kX3_thrown (l : Launch) (dC : Nat → ClassId) (dI : Nat → Nat → Nat) (sz : Nat) (hM tx : Nat) (th kn rf sp : Int32) : Met l yX3_thrown wsX3_thrown ({ frames := 0, cells := 0, slots := 0, locals := 0 }) (va_Pc [.ref hM] (fun U => U.heap.size = sz ∧ va_P (dC, dI) vwCl [(hM, .inr (7, [.int th, .ref tx, .int kn, .int rf, .int sp]))] U.heap ∧ va_K (dC, dI) vwCl [] U ∧ va_D (fun _ => True) [(hM, .inr (7, [.int th, .ref tx, .int kn, .int rf, .int sp]))])) (va_Qi (fun (r : Int32) (u : Unit) => r = th) (fun (u : Unit) (t : State) => va_P (dC, dI) vwCl [(hM, .inr (7, [.int th, .ref tx, .int kn, .int rf, .int sp]))] t.heap ∧ va_K (dC, dI) vwCl [] t ∧ va_D (va_A [(hM, .inr (7, [.int th, .ref tx, .int kn, .int rf, .int sp]))] sz) [(hM, .inr (7, [.int th, .ref tx, .int kn, .int rf, .int sp]))]) (va_A [(hM, .inr (7, [.int th, .ref tx, .int kn, .int rf, .int sp]))] sz)) 0 0 (va_A [(hM, .inr (7, [.int th, .ref tx, .int kn, .int rf, .int sp]))] sz) := by
  refine Met.ofW (cc := cX3_thrown) (maxL := 1) (ret := (some .int)) (by decide) rfl ?_
  intro p e s m args below meth c s₁ B hml hv
  obtain ⟨rfl, hsz, hP, hK, hD0⟩ := hv
  have hx := B.exec
  have hb := B.bytes
  have hr := B.returns
  have hts := atoms_spec (ws := wsX3_thrown) B.pre
  have hown : s.vm.findClass RX3 = some m.cls := findClass_of_methodNamed B.named
  have hlocks := B.notSynchronized
  subst hsz
  have hD := hD0.self (sz := s.heap.size)
  generalize hAe : va_A [(hM, .inr (7, [.int th, .ref tx, .int kn, .int rf, .int sp]))] s.heap.size = A at hD ⊢
  have hA : ∀ q : Nat, s.heap.size ≤ q → A q := fun q h => by rw [← hAe]; exact Or.inr h
  have hS : va_S A s.heap s.heap [] := va_S.rf
  have hP : va_P (dC, dI) vwCl [(hM, .inr (7, [.int th, .ref tx, .int kn, .int rf, .int sp]))] s.heap := hP
  have hl := lv_entry ([.ref hM]) (n := 1) (Nat.le_of_ble_eq_true rfl)
  rw [lg_entry_eq]
  generalize (lg_sl ([.ref hM]) ++ List.replicate (1 - (lg_sl ([.ref hM])).length) Slot.unset).toArray = ls at hl ⊢
  have hl : lv_has ls 1 [(0, .ref hM)] := hl
  refine lv_aload_n hx hb dX3_thrown_0 rfl (lv_at hl 0 rfl) ?_
  refine va_get (D := (dC, dI)) (ci := 7) (v := .int th) (C := RX3) (T := TX3) (N := 5) hx hb hts (by decide +kernel) hown hK hP 0 rfl rfl 0 (by decide) (hts (.fieldLink RX3 14 "SignropeModel" "thrown" "I") (by decide +kernel)) (fun _ h9 => h9) rfl dX3_thrown_1 ?_
  have hP9 := hP.sub (ws' := [(hM, .inr (7, [.int th, .ref tx, .int kn, .int rf, .int sp]))]) [0] rfl
  have hD9 := hD.sub (ws' := [(hM, .inr (7, [.int th, .ref tx, .int kn, .int rf, .int sp]))]) [0] (by decide) rfl
  have hK9 := hK.sub (tys' := []) [] rfl
  exact W.iret (v := th) hx hb hr (fun t ht hW => ⟨⟨th, (), rfl, rfl, by rw [ht]; exact hP9, va_K.moved hW.alike hK9, hD9⟩, hS.F ht⟩) hS.2.2 dX3_thrown_4
set_option maxHeartbeats 4000000 in
set_option maxRecDepth 100000 in
/-- isIn -/
theorem kX3_isIn (l : Launch) (dC : Nat → ClassId) (dI : Nat → Nat → Nat) (sz : Nat) (v lo hi : Int32) : Met l yX3_isIn wsX3_isIn ({ frames := 0, cells := 0, slots := 0, locals := 0 }) (va_Pc [.int v, .int lo, .int hi] (fun U => U.heap.size = sz ∧ va_P (dC, dI) vwCl [] U.heap ∧ va_K (dC, dI) vwCl [] U ∧ va_D (fun _ => True) [])) (va_Qi (fun (r : Int32) (u : Unit) => (r = 1 ∧ lo ≤ v ∧ v ≤ hi) ∨ (r = 0 ∧ ¬ (lo ≤ v ∧ v ≤ hi))) (fun (u : Unit) (t : State) => va_P (dC, dI) vwCl [] t.heap ∧ va_K (dC, dI) vwCl [] t ∧ va_D (va_A [] sz) []) (va_A [] sz)) 0 0 (va_A [] sz) := by
  refine Met.ofW (cc := cX3_isIn) (maxL := 3) (ret := (some .boolean)) (by decide) rfl ?_
  intro p e s m args below meth c s₁ B hml hv
  obtain ⟨rfl, hsz, hP, hK, hD0⟩ := hv
  have hx := B.exec
  have hb := B.bytes
  have hr := B.returns
  have hts := atoms_spec (ws := wsX3_isIn) B.pre
  have hown : s.vm.findClass RX3 = some m.cls := findClass_of_methodNamed B.named
  have hlocks := B.notSynchronized
  subst hsz
  have hD := hD0.self (sz := s.heap.size)
  generalize hAe : va_A [] s.heap.size = A at hD ⊢
  have hA : ∀ q : Nat, s.heap.size ≤ q → A q := fun q h => by rw [← hAe]; exact Or.inr h
  have hS : va_S A s.heap s.heap [] := va_S.rf
  have hP : va_P (dC, dI) vwCl [] s.heap := hP
  have hl := lv_entry ([.int v, .int lo, .int hi]) (n := 3) (Nat.le_of_ble_eq_true rfl)
  rw [lg_entry_eq]
  generalize (lg_sl ([.int v, .int lo, .int hi]) ++ List.replicate (3 - (lg_sl ([.int v, .int lo, .int hi])).length) Slot.unset).toArray = ls at hl ⊢
  have hl : lv_has ls 3 [(0, .int v), (1, .int lo), (2, .int hi)] := hl
  refine lv_iload_n hx hb dX3_isIn_0 rfl (lv_at hl 0 rfl) ?_
  refine lv_iload_n hx hb dX3_isIn_1 rfl (lv_at hl 1 rfl) ?_
  refine lv_icmp_lt (tgt := 14) hx hb dX3_isIn_2 (by decide) (fun c_114 => ?_) (fun c_114 => ?_)
  · refine lv_iconst (v := 0) hx hb dX3_isIn_14 (by decide) ?_
    have hP9 := hP.sub (ws' := []) [] rfl
    have hD9 := hD.sub (ws' := []) [] (by decide) rfl
    have hK9 := hK.sub (tys' := []) [] rfl
    exact W.zret (v := 0) hx hb hr rfl (fun t ht hW => ⟨⟨0, (), rfl, Or.inr ⟨rfl, fun q => absurd c_114 (Int32.not_lt.mpr q.1)⟩, by rw [ht]; exact hP9, va_K.moved hW.alike hK9, hD9⟩, hS.F ht⟩) hS.2.2 dX3_isIn_15
  · refine lv_iload_n hx hb dX3_isIn_5 rfl (lv_at hl 0 rfl) ?_
    refine lv_iload_n hx hb dX3_isIn_6 rfl (lv_at hl 2 rfl) ?_
    refine lv_icmp_gt (tgt := 14) hx hb dX3_isIn_7 (by decide) (fun c_115 => ?_) (fun c_115 => ?_)
    · refine lv_iconst (v := 0) hx hb dX3_isIn_14 (by decide) ?_
      have hP9 := hP.sub (ws' := []) [] rfl
      have hD9 := hD.sub (ws' := []) [] (by decide) rfl
      have hK9 := hK.sub (tys' := []) [] rfl
      exact W.zret (v := 0) hx hb hr rfl (fun t ht hW => ⟨⟨0, (), rfl, Or.inr ⟨rfl, fun q => absurd c_115 (Int32.not_lt.mpr q.2)⟩, by rw [ht]; exact hP9, va_K.moved hW.alike hK9, hD9⟩, hS.F ht⟩) hS.2.2 dX3_isIn_15
    · refine lv_iconst (v := 1) hx hb dX3_isIn_10 (by decide) ?_
      refine lv_goto (tgt := 15) hx hb dX3_isIn_11 (by decide) ?_
      have hP9 := hP.sub (ws' := []) [] rfl
      have hD9 := hD.sub (ws' := []) [] (by decide) rfl
      have hK9 := hK.sub (tys' := []) [] rfl
      exact W.zret (v := 1) hx hb hr rfl (fun t ht hW => ⟨⟨1, (), rfl, Or.inl ⟨rfl, Int32.not_lt.mp c_114, Int32.not_lt.mp c_115⟩, by rw [ht]; exact hP9, va_K.moved hW.alike hK9, hD9⟩, hS.F ht⟩) hS.2.2 dX3_isIn_15
set_option maxHeartbeats 4000000 in
set_option maxRecDepth 100000 in
/-- isNone -/
theorem kX3_isNone (l : Launch) (dC : Nat → ClassId) (dI : Nat → Nat → Nat) (sz : Nat) (rope : Int32) : Met l yX3_isNone wsX3_isNone ({ frames := 1, cells := 0, slots := 0, locals := 22 }) (va_Pc [.int rope] (fun U => U.heap.size = sz ∧ va_P (dC, dI) vwCl [] U.heap ∧ va_K (dC, dI) vwCl [] U ∧ va_D (fun _ => True) [])) (va_Qi (fun (r : Int32) (u : Unit) => (r = 0 ∧ 0 ≤ rope ∧ rope ≤ 3) ∨ (r = 1 ∧ ¬ (0 ≤ rope ∧ rope ≤ 3))) (fun (u : Unit) (t : State) => va_P (dC, dI) vwCl [] t.heap ∧ va_K (dC, dI) vwCl [] t ∧ va_D (va_A [] sz) []) (va_A [] sz)) 0 0 (va_A [] sz) := by
  refine Met.ofW (cc := cX3_isNone) (maxL := 1) (ret := (some .boolean)) (by decide) rfl ?_
  intro p e s m args below meth c s₁ B hml hv
  obtain ⟨rfl, hsz, hP, hK, hD0⟩ := hv
  have hx := B.exec
  have hb := B.bytes
  have hr := B.returns
  have hts := atoms_spec (ws := wsX3_isNone) B.pre
  have hown : s.vm.findClass RX3 = some m.cls := findClass_of_methodNamed B.named
  have hlocks := B.notSynchronized
  subst hsz
  have hD := hD0.self (sz := s.heap.size)
  generalize hAe : va_A [] s.heap.size = A at hD ⊢
  have hA : ∀ q : Nat, s.heap.size ≤ q → A q := fun q h => by rw [← hAe]; exact Or.inr h
  have hS : va_S A s.heap s.heap [] := va_S.rf
  have hP : va_P (dC, dI) vwCl [] s.heap := hP
  have hl := lv_entry ([.int rope]) (n := 1) (Nat.le_of_ble_eq_true rfl)
  rw [lg_entry_eq]
  generalize (lg_sl ([.int rope]) ++ List.replicate (1 - (lg_sl ([.int rope])).length) Slot.unset).toArray = ls at hl ⊢
  have hl : lv_has ls 1 [(0, .int rope)] := hl
  refine lv_iload_n hx hb dX3_isNone_0 rfl (lv_at hl 0 rfl) ?_
  refine lv_iconst (v := 0) hx hb dX3_isNone_1 (by decide) ?_
  refine lv_iconst (v := 3) hx hb dX3_isNone_2 (by decide) ?_
  have hPc := hP.sub (ws' := []) [] rfl
  have hDc := hD.sub (ws' := []) [] (by decide) rfl
  have hKc := hK.sub (tys' := []) [] rfl
  have hFc := va_free (wc := []) hD hS hA [] rfl
  refine va_calli (va_runS (As := [.int rope, .int 0, .int 3]) (rest := []) ⟨hx, hb, hml, hown, hts⟩ (kX3_isIn l dC dI s.heap.size rope 0 3) (va_cwS 3 hts gX3_isNone_X3_isIn rfl rfl rfl (by decide +kernel) ⟨Nat.le_of_ble_eq_true rfl, Nat.le_of_ble_eq_true rfl⟩) ⟨fun a U g mk q => by obtain ⟨q0, q1, qP, qK, qD⟩ := q; exact ⟨q0, q1, qP, va_K.moved (u := U) (U := U.calling g mk a) (Vm.Alike.refl U.vm) qK, qD⟩, fun U hU hW => ⟨rfl, by rw [hU], by rw [hU]; exact hPc, va_K.moved hW.alike hKc, hDc.weaken (fun _ _ _ _ => trivial)⟩⟩ rfl rfl hl.1 rfl (lv_room (Nat.le_of_ble_eq_true rfl)) dX3_isNone_3 ⟨(by show 0 + 0 ≤ 0; omega), (by show 0 + 0 ≤ 0; omega)⟩) hS (fun q _ h => hFc q h) hFc (fun r_116 u t H1 locs ht hvm hi hB hz1 hk1 hS => ?_)
  try dsimp only at hB
  try dsimp only at hi
  obtain ⟨hP1, hK1, hD1⟩ := hB
  rw [ht] at hP1
  have hK1 := va_K.moved hvm.symm hK1
  obtain ⟨hP, hD⟩ := va_join (wr := []) (w1 := []) hP hD [] [] rfl rfl (by decide) (by decide) hk1 hFc hP1 hD1
  have hK := (hK.sub (tys' := []) [] rfl).app hK1
  generalize H1 = H at hP hS ⊢
  have hP : va_P (dC, dI) vwCl [] H := hP
  have hD : va_D A [] := hD
  have hK : va_K (dC, dI) vwCl [] s := hK
  refine lv_if_ne (tgt := 13) hx hb dX3_isNone_6 (by decide) (fun c_117 => ?_) (fun c_117 => ?_)
  · refine lv_iconst (v := 0) hx hb dX3_isNone_13 (by decide) ?_
    have hP9 := hP.sub (ws' := []) [] rfl
    have hD9 := hD.sub (ws' := []) [] (by decide) rfl
    have hK9 := hK.sub (tys' := []) [] rfl
    refine W.widen (k := 0) (n := 0) (by omega) (by omega) ?_
    exact W.zret (v := 0) hx hb hr rfl (fun t ht hW => ⟨⟨0, (), rfl, hi.elim (fun q => Or.inl ⟨rfl, q.2⟩) (fun q => absurd q.1 c_117), by rw [ht]; exact hP9, va_K.moved hW.alike hK9, hD9⟩, hS.F ht⟩) hS.2.2 dX3_isNone_14
  · refine lv_iconst (v := 1) hx hb dX3_isNone_9 (by decide) ?_
    refine lv_goto (tgt := 14) hx hb dX3_isNone_10 (by decide) ?_
    have hP9 := hP.sub (ws' := []) [] rfl
    have hD9 := hD.sub (ws' := []) [] (by decide) rfl
    have hK9 := hK.sub (tys' := []) [] rfl
    refine W.widen (k := 0) (n := 0) (by omega) (by omega) ?_
    exact W.zret (v := 1) hx hb hr rfl (fun t ht hW => ⟨⟨1, (), rfl, hi.elim (fun q => absurd (q.1.symm.trans c_117) (by decide)) (fun q => Or.inr ⟨rfl, q.2⟩), by rw [ht]; exact hP9, va_K.moved hW.alike hK9, hD9⟩, hS.F ht⟩) hS.2.2 dX3_isNone_14
set_option maxHeartbeats 4000000 in
set_option maxRecDepth 100000 in
/-- refuse -/
theorem kX3_refuse (l : Launch) (dC : Nat → ClassId) (dI : Nat → Nat → Nat) (sz : Nat) (hM tx : Nat) (th kn rf sp : Int32) (b wh : Int32) : Met l yX3_refuse wsX3_refuse ({ frames := 0, cells := 0, slots := 0, locals := 0 }) (va_Pc [.ref hM, .int b, .int wh] (fun U => U.heap.size = sz ∧ va_P (dC, dI) vwCl [(hM, .inr (7, [.int th, .ref tx, .int kn, .int rf, .int sp]))] U.heap ∧ va_K (dC, dI) vwCl [] U ∧ va_D (fun _ => True) [(hM, .inr (7, [.int th, .ref tx, .int kn, .int rf, .int sp]))])) (va_Qi (fun (r : Int32) (u : Int32) => match u with | t2 => t2 = (if b = 0 then th else if th = 0 then wh else th) ∧ r = if 0 < t2 then 1 else 0) (fun (u : Int32) (t : State) => match u with | t2 => va_P (dC, dI) vwCl [(hM, .inr (7, [.int t2, .ref tx, .int kn, .int rf, .int sp]))] t.heap ∧ va_K (dC, dI) vwCl [] t ∧ va_D (va_A [(hM, .inr (7, [.int th, .ref tx, .int kn, .int rf, .int sp]))] sz) [(hM, .inr (7, [.int t2, .ref tx, .int kn, .int rf, .int sp]))]) (va_A [(hM, .inr (7, [.int th, .ref tx, .int kn, .int rf, .int sp]))] sz)) 0 0 (va_A [(hM, .inr (7, [.int th, .ref tx, .int kn, .int rf, .int sp]))] sz) := by
  refine Met.ofW (cc := cX3_refuse) (maxL := 3) (ret := (some .boolean)) (by decide) rfl ?_
  intro p e s m args below meth c s₁ B hml hv
  obtain ⟨rfl, hsz, hP, hK, hD0⟩ := hv
  have hx := B.exec
  have hb := B.bytes
  have hr := B.returns
  have hts := atoms_spec (ws := wsX3_refuse) B.pre
  have hown : s.vm.findClass RX3 = some m.cls := findClass_of_methodNamed B.named
  have hlocks := B.notSynchronized
  subst hsz
  have hD := hD0.self (sz := s.heap.size)
  generalize hAe : va_A [(hM, .inr (7, [.int th, .ref tx, .int kn, .int rf, .int sp]))] s.heap.size = A at hD ⊢
  have hA : ∀ q : Nat, s.heap.size ≤ q → A q := fun q h => by rw [← hAe]; exact Or.inr h
  have hS : va_S A s.heap s.heap [] := va_S.rf
  have hP : va_P (dC, dI) vwCl [(hM, .inr (7, [.int th, .ref tx, .int kn, .int rf, .int sp]))] s.heap := hP
  have hl := lv_entry ([.ref hM, .int b, .int wh]) (n := 3) (Nat.le_of_ble_eq_true rfl)
  rw [lg_entry_eq]
  generalize (lg_sl ([.ref hM, .int b, .int wh]) ++ List.replicate (3 - (lg_sl ([.ref hM, .int b, .int wh])).length) Slot.unset).toArray = ls at hl ⊢
  have hl : lv_has ls 3 [(0, .ref hM), (1, .int b), (2, .int wh)] := hl
  refine lv_iload_n hx hb dX3_refuse_0 rfl (lv_at hl 1 rfl) ?_
  refine lv_if_eq (tgt := 16) hx hb dX3_refuse_1 (by decide) (fun c_118 => ?_) (fun c_118 => ?_)
  · refine lv_aload_n hx hb dX3_refuse_16 rfl (lv_at hl 0 rfl) ?_
    refine va_get (D := (dC, dI)) (ci := 7) (v := .int th) (C := RX3) (T := TX3) (N := 5) hx hb hts (by decide +kernel) hown hK hP 0 rfl rfl 0 (by decide) (hts (.fieldLink RX3 14 "SignropeModel" "thrown" "I") (by decide +kernel)) (fun _ h9 => h9) rfl dX3_refuse_17 ?_
    refine lv_if_le (tgt := 27) hx hb dX3_refuse_20 (by decide) (fun c_119 => ?_) (fun c_119 => ?_)
    · refine lv_iconst (v := 0) hx hb dX3_refuse_27 (by decide) ?_
      have hP9 := hP.sub (ws' := [(hM, .inr (7, [.int th, .ref tx, .int kn, .int rf, .int sp]))]) [0] rfl
      have hD9 := hD.sub (ws' := [(hM, .inr (7, [.int th, .ref tx, .int kn, .int rf, .int sp]))]) [0] (by decide) rfl
      have hK9 := hK.sub (tys' := []) [] rfl
      exact W.zret (v := 0) hx hb hr rfl (fun t ht hW => ⟨⟨0, th, rfl, ⟨(if_pos c_118).symm, (if_neg (Int32.not_lt.mpr c_119)).symm⟩, by rw [ht]; exact hP9, va_K.moved hW.alike hK9, hD9⟩, hS.F ht⟩) hS.2.2 dX3_refuse_28
    · refine lv_iconst (v := 1) hx hb dX3_refuse_23 (by decide) ?_
      refine lv_goto (tgt := 28) hx hb dX3_refuse_24 (by decide) ?_
      have hP9 := hP.sub (ws' := [(hM, .inr (7, [.int th, .ref tx, .int kn, .int rf, .int sp]))]) [0] rfl
      have hD9 := hD.sub (ws' := [(hM, .inr (7, [.int th, .ref tx, .int kn, .int rf, .int sp]))]) [0] (by decide) rfl
      have hK9 := hK.sub (tys' := []) [] rfl
      exact W.zret (v := 1) hx hb hr rfl (fun t ht hW => ⟨⟨1, th, rfl, ⟨(if_pos c_118).symm, (if_pos (Int32.not_le.mp c_119)).symm⟩, by rw [ht]; exact hP9, va_K.moved hW.alike hK9, hD9⟩, hS.F ht⟩) hS.2.2 dX3_refuse_28
  · refine lv_aload_n hx hb dX3_refuse_4 rfl (lv_at hl 0 rfl) ?_
    refine va_get (D := (dC, dI)) (ci := 7) (v := .int th) (C := RX3) (T := TX3) (N := 5) hx hb hts (by decide +kernel) hown hK hP 0 rfl rfl 0 (by decide) (hts (.fieldLink RX3 14 "SignropeModel" "thrown" "I") (by decide +kernel)) (fun _ h9 => h9) rfl dX3_refuse_5 ?_
    refine lv_if_ne (tgt := 16) hx hb dX3_refuse_8 (by decide) (fun c_120 => ?_) (fun c_120 => ?_)
    · refine lv_aload_n hx hb dX3_refuse_16 rfl (lv_at hl 0 rfl) ?_
      refine va_get (D := (dC, dI)) (ci := 7) (v := .int th) (C := RX3) (T := TX3) (N := 5) hx hb hts (by decide +kernel) hown hK hP 0 rfl rfl 0 (by decide) (hts (.fieldLink RX3 14 "SignropeModel" "thrown" "I") (by decide +kernel)) (fun _ h9 => h9) rfl dX3_refuse_17 ?_
      refine lv_if_le (tgt := 27) hx hb dX3_refuse_20 (by decide) (fun c_121 => ?_) (fun c_121 => ?_)
      · refine lv_iconst (v := 0) hx hb dX3_refuse_27 (by decide) ?_
        have hP9 := hP.sub (ws' := [(hM, .inr (7, [.int th, .ref tx, .int kn, .int rf, .int sp]))]) [0] rfl
        have hD9 := hD.sub (ws' := [(hM, .inr (7, [.int th, .ref tx, .int kn, .int rf, .int sp]))]) [0] (by decide) rfl
        have hK9 := hK.sub (tys' := []) [] rfl
        exact W.zret (v := 0) hx hb hr rfl (fun t ht hW => ⟨⟨0, th, rfl, ⟨((if_neg c_118).trans (if_neg c_120)).symm, (if_neg (Int32.not_lt.mpr c_121)).symm⟩, by rw [ht]; exact hP9, va_K.moved hW.alike hK9, hD9⟩, hS.F ht⟩) hS.2.2 dX3_refuse_28
      · refine lv_iconst (v := 1) hx hb dX3_refuse_23 (by decide) ?_
        refine lv_goto (tgt := 28) hx hb dX3_refuse_24 (by decide) ?_
        have hP9 := hP.sub (ws' := [(hM, .inr (7, [.int th, .ref tx, .int kn, .int rf, .int sp]))]) [0] rfl
        have hD9 := hD.sub (ws' := [(hM, .inr (7, [.int th, .ref tx, .int kn, .int rf, .int sp]))]) [0] (by decide) rfl
        have hK9 := hK.sub (tys' := []) [] rfl
        exact W.zret (v := 1) hx hb hr rfl (fun t ht hW => ⟨⟨1, th, rfl, ⟨((if_neg c_118).trans (if_neg c_120)).symm, (if_pos (Int32.not_le.mp c_121)).symm⟩, by rw [ht]; exact hP9, va_K.moved hW.alike hK9, hD9⟩, hS.F ht⟩) hS.2.2 dX3_refuse_28
    · refine lv_aload_n hx hb dX3_refuse_11 rfl (lv_at hl 0 rfl) ?_
      refine lv_iload_n hx hb dX3_refuse_12 rfl (lv_at hl 2 rfl) ?_
      refine va_put (D := (dC, dI)) (ci := 7) (v := .int wh) (ty := .int) (C := RX3) (T := TX3) (N := 5) hx hb hts (by decide +kernel) tyX3 tyX3_ok nmX3 hown hK hP hD hS 0 rfl rfl 0 (by decide) (hts (.fieldLink RX3 14 "SignropeModel" "thrown" "I") (by decide +kernel)) (fun _ h9 => h9) rfl (by decide +kernel) rfl rfl (Nat.le_of_ble_eq_true rfl) dX3_refuse_13 (fun H locs hP hD hS => ?_)
      have hP : va_P (dC, dI) vwCl [(hM, .inr (7, [.int wh, .ref tx, .int kn, .int rf, .int sp]))] H := hP
      have hD : va_D A [(hM, .inr (7, [.int wh, .ref tx, .int kn, .int rf, .int sp]))] := hD
      refine lv_aload_n hx hb dX3_refuse_16 rfl (lv_at hl 0 rfl) ?_
      refine va_get (D := (dC, dI)) (ci := 7) (v := .int wh) (C := RX3) (T := TX3) (N := 5) hx hb hts (by decide +kernel) hown hK hP 0 rfl rfl 0 (by decide) (hts (.fieldLink RX3 14 "SignropeModel" "thrown" "I") (by decide +kernel)) (fun _ h9 => h9) rfl dX3_refuse_17 ?_
      refine lv_if_le (tgt := 27) hx hb dX3_refuse_20 (by decide) (fun c_122 => ?_) (fun c_122 => ?_)
      · refine lv_iconst (v := 0) hx hb dX3_refuse_27 (by decide) ?_
        have hP9 := hP.sub (ws' := [(hM, .inr (7, [.int wh, .ref tx, .int kn, .int rf, .int sp]))]) [0] rfl
        have hD9 := hD.sub (ws' := [(hM, .inr (7, [.int wh, .ref tx, .int kn, .int rf, .int sp]))]) [0] (by decide) rfl
        have hK9 := hK.sub (tys' := []) [] rfl
        exact W.zret (v := 0) hx hb hr rfl (fun t ht hW => ⟨⟨0, wh, rfl, ⟨((if_neg c_118).trans (if_pos c_120)).symm, (if_neg (Int32.not_lt.mpr c_122)).symm⟩, by rw [ht]; exact hP9, va_K.moved hW.alike hK9, hD9⟩, hS.F ht⟩) hS.2.2 dX3_refuse_28
      · refine lv_iconst (v := 1) hx hb dX3_refuse_23 (by decide) ?_
        refine lv_goto (tgt := 28) hx hb dX3_refuse_24 (by decide) ?_
        have hP9 := hP.sub (ws' := [(hM, .inr (7, [.int wh, .ref tx, .int kn, .int rf, .int sp]))]) [0] rfl
        have hD9 := hD.sub (ws' := [(hM, .inr (7, [.int wh, .ref tx, .int kn, .int rf, .int sp]))]) [0] (by decide) rfl
        have hK9 := hK.sub (tys' := []) [] rfl
        exact W.zret (v := 1) hx hb hr rfl (fun t ht hW => ⟨⟨1, wh, rfl, ⟨((if_neg c_118).trans (if_pos c_120)).symm, (if_pos (Int32.not_le.mp c_122)).symm⟩, by rw [ht]; exact hP9, va_K.moved hW.alike hK9, hD9⟩, hS.F ht⟩) hS.2.2 dX3_refuse_28
set_option maxHeartbeats 4000000 in
set_option maxRecDepth 100000 in
/-- start -/
theorem kX3_start (l : Launch) (dC : Nat → ClassId) (dI : Nat → Nat → Nat) (sz : Nat) (hM tx : Nat) (th kn rf sp : Int32) (b wh : Int32) : Met l yX3_start wsX3_start ({ frames := 1, cells := 0, slots := 0, locals := 22 }) (va_Pc [.ref hM, .int b, .int wh] (fun U => U.heap.size = sz ∧ va_P (dC, dI) vwCl [(hM, .inr (7, [.int th, .ref tx, .int kn, .int rf, .int sp]))] U.heap ∧ va_K (dC, dI) vwCl [] U ∧ va_D (fun _ => True) [(hM, .inr (7, [.int th, .ref tx, .int kn, .int rf, .int sp]))])) (va_Qi (fun (r : Int32) (u : Int32) => match u with | t2 => t2 = (if b = 0 then 0 else wh) ∧ r = if 0 < t2 then 1 else 0) (fun (u : Int32) (t : State) => match u with | t2 => va_P (dC, dI) vwCl [(hM, .inr (7, [.int t2, .ref tx, .int kn, .int rf, .int sp]))] t.heap ∧ va_K (dC, dI) vwCl [] t ∧ va_D (va_A [(hM, .inr (7, [.int th, .ref tx, .int kn, .int rf, .int sp]))] sz) [(hM, .inr (7, [.int t2, .ref tx, .int kn, .int rf, .int sp]))]) (va_A [(hM, .inr (7, [.int th, .ref tx, .int kn, .int rf, .int sp]))] sz)) 0 0 (va_A [(hM, .inr (7, [.int th, .ref tx, .int kn, .int rf, .int sp]))] sz) := by
  refine Met.ofW (cc := cX3_start) (maxL := 3) (ret := (some .boolean)) (by decide) rfl ?_
  intro p e s m args below meth c s₁ B hml hv
  obtain ⟨rfl, hsz, hP, hK, hD0⟩ := hv
  have hx := B.exec
  have hb := B.bytes
  have hr := B.returns
  have hts := atoms_spec (ws := wsX3_start) B.pre
  have hown : s.vm.findClass RX3 = some m.cls := findClass_of_methodNamed B.named
  have hlocks := B.notSynchronized
  subst hsz
  have hD := hD0.self (sz := s.heap.size)
  generalize hAe : va_A [(hM, .inr (7, [.int th, .ref tx, .int kn, .int rf, .int sp]))] s.heap.size = A at hD ⊢
  have hA : ∀ q : Nat, s.heap.size ≤ q → A q := fun q h => by rw [← hAe]; exact Or.inr h
  have hS : va_S A s.heap s.heap [] := va_S.rf
  have hP : va_P (dC, dI) vwCl [(hM, .inr (7, [.int th, .ref tx, .int kn, .int rf, .int sp]))] s.heap := hP
  have hl := lv_entry ([.ref hM, .int b, .int wh]) (n := 3) (Nat.le_of_ble_eq_true rfl)
  rw [lg_entry_eq]
  generalize (lg_sl ([.ref hM, .int b, .int wh]) ++ List.replicate (3 - (lg_sl ([.ref hM, .int b, .int wh])).length) Slot.unset).toArray = ls at hl ⊢
  have hl : lv_has ls 3 [(0, .ref hM), (1, .int b), (2, .int wh)] := hl
  refine lv_aload_n hx hb dX3_start_0 rfl (lv_at hl 0 rfl) ?_
  refine lv_iconst (v := 0) hx hb dX3_start_1 (by decide) ?_
  refine va_put (D := (dC, dI)) (ci := 7) (v := .int 0) (ty := .int) (C := RX3) (T := TX3) (N := 5) hx hb hts (by decide +kernel) tyX3 tyX3_ok nmX3 hown hK hP hD hS 0 rfl rfl 0 (by decide) (hts (.fieldLink RX3 14 "SignropeModel" "thrown" "I") (by decide +kernel)) (fun _ h9 => h9) rfl (by decide +kernel) rfl rfl (Nat.le_of_ble_eq_true rfl) dX3_start_2 (fun H locs hP hD hS => ?_)
  have hP : va_P (dC, dI) vwCl [(hM, .inr (7, [.int 0, .ref tx, .int kn, .int rf, .int sp]))] H := hP
  have hD : va_D A [(hM, .inr (7, [.int 0, .ref tx, .int kn, .int rf, .int sp]))] := hD
  refine lv_aload_n hx hb dX3_start_5 rfl (lv_at hl 0 rfl) ?_
  refine lv_iload_n hx hb dX3_start_6 rfl (lv_at hl 1 rfl) ?_
  refine lv_iload_n hx hb dX3_start_7 rfl (lv_at hl 2 rfl) ?_
  have hPc := hP.sub (ws' := [(hM, .inr (7, [.int 0, .ref tx, .int kn, .int rf, .int sp]))]) [0] rfl
  have hDc := hD.sub (ws' := [(hM, .inr (7, [.int 0, .ref tx, .int kn, .int rf, .int sp]))]) [0] (by decide) rfl
  have hKc := hK.sub (tys' := []) [] rfl
  have hFc := va_free (wc := [(hM, .inr (7, [.int 0, .ref tx, .int kn, .int rf, .int sp]))]) hD hS hA [0] rfl
  refine va_calli (va_runV (As := [.int b, .int wh]) (rest := []) ⟨hx, hb, hml, hown, hts⟩ (kX3_refuse l dC dI H.size hM tx 0 kn rf sp b wh) (cwV 2 hts gX3_start_X3_refuse rfl rfl rfl (by decide +kernel) ⟨Nat.le_of_ble_eq_true rfl, Nat.le_of_ble_eq_true rfl⟩) ⟨fun a U g mk q => by obtain ⟨q0, q1, qP, qK, qD⟩ := q; exact ⟨q0, q1, qP, va_K.moved (u := U) (U := U.calling g mk a) (Vm.Alike.refl U.vm) qK, qD⟩, va_recv hKc hPc (ci := 7) (q0 := 0) rfl rfl, fun U hU hW => ⟨rfl, by rw [hU], by rw [hU]; exact hPc, va_K.moved hW.alike hKc, hDc.weaken (fun _ _ _ _ => trivial)⟩⟩ rfl rfl hl.1 rfl (lv_room (Nat.le_of_ble_eq_true rfl)) dX3_start_8 ⟨(by show 0 + 0 ≤ 0; omega), (by show 0 + 0 ≤ 0; omega)⟩) hS (fun q _ h => hFc q h) hFc (fun r_123 t2 t H1 locs ht hvm hr1 hB hz1 hk1 hS => ?_)
  try dsimp only at hB
  try dsimp only at hr1
  obtain ⟨hP1, hK1, hD1⟩ := hB
  rw [ht] at hP1
  have hK1 := va_K.moved hvm.symm hK1
  obtain ⟨hP, hD⟩ := va_join (wr := []) (w1 := [(hM, .inr (7, [.int t2, .ref tx, .int kn, .int rf, .int sp]))]) hP hD [0] [] rfl rfl (by decide) (by decide) hk1 hFc hP1 hD1
  have hK := (hK.sub (tys' := []) [] rfl).app hK1
  generalize H1 = H at hP hS ⊢
  have hP : va_P (dC, dI) vwCl [(hM, .inr (7, [.int t2, .ref tx, .int kn, .int rf, .int sp]))] H := hP
  have hD : va_D A [(hM, .inr (7, [.int t2, .ref tx, .int kn, .int rf, .int sp]))] := hD
  have hK : va_K (dC, dI) vwCl [] s := hK
  have hP9 := hP.sub (ws' := [(hM, .inr (7, [.int t2, .ref tx, .int kn, .int rf, .int sp]))]) [0] rfl
  have hD9 := hD.sub (ws' := [(hM, .inr (7, [.int t2, .ref tx, .int kn, .int rf, .int sp]))]) [0] (by decide) rfl
  have hK9 := hK.sub (tys' := []) [] rfl
  refine W.widen (k := 0) (n := 0) (by omega) (by omega) ?_
  exact W.zret (v := r_123) hx hb hr (by rw [hr1.2]; split <;> rfl) (fun t ht hW => ⟨⟨r_123, t2, rfl, ⟨hr1.1.trans (by by_cases q : b = 0 <;> simp [q]), hr1.2⟩, by rw [ht]; exact hP9, va_K.moved hW.alike hK9, hD9⟩, hS.F ht⟩) hS.2.2 dX3_start_11
set_option maxHeartbeats 4000000 in
set_option maxRecDepth 100000 in
/-- many -/
theorem kX3_many (l : Launch) (dC : Nat → ClassId) (dI : Nat → Nat → Nat) (sz : Nat) (hM tx : Nat) (th kn rf sp : Int32) (cT cI : ClassId) (fT : Nat → Option Nat) (j r k : Nat) (f : Nat → Int32) (hj : j < 4) (hT : fT j = some r) : Met l yX3_many wsX3_many ({ frames := 0, cells := 0, slots := 0, locals := 0 }) (va_Pc [.ref hM, .int (nI j)] (fun U => U.heap.size = sz ∧ va_P (dC, dI) vwCl [(hM, .inr (7, [.int th, .ref tx, .int kn, .int rf, .int sp])), (tx, .inl (cT, 4, .inr (.inr (.inr (.inr fT))))), (r, .inl (cI, k, .inl f))] U.heap ∧ va_K (dC, dI) vwCl [(cT, .array .int), (cI, .int)] U ∧ va_D (fun _ => True) [(hM, .inr (7, [.int th, .ref tx, .int kn, .int rf, .int sp])), (tx, .inl (cT, 4, .inr (.inr (.inr (.inr fT))))), (r, .inl (cI, k, .inl f))])) (va_Qi (fun (r : Int32) (u : Unit) => r = nI k) (fun (u : Unit) (t : State) => va_P (dC, dI) vwCl [(hM, .inr (7, [.int th, .ref tx, .int kn, .int rf, .int sp])), (tx, .inl (cT, 4, .inr (.inr (.inr (.inr fT))))), (r, .inl (cI, k, .inl f))] t.heap ∧ va_K (dC, dI) vwCl [(cT, .array .int), (cI, .int)] t ∧ va_D (va_A [(hM, .inr (7, [.int th, .ref tx, .int kn, .int rf, .int sp])), (tx, .inl (cT, 4, .inr (.inr (.inr (.inr fT))))), (r, .inl (cI, k, .inl f))] sz) [(hM, .inr (7, [.int th, .ref tx, .int kn, .int rf, .int sp])), (tx, .inl (cT, 4, .inr (.inr (.inr (.inr fT))))), (r, .inl (cI, k, .inl f))]) (va_A [(hM, .inr (7, [.int th, .ref tx, .int kn, .int rf, .int sp])), (tx, .inl (cT, 4, .inr (.inr (.inr (.inr fT))))), (r, .inl (cI, k, .inl f))] sz)) 0 0 (va_A [(hM, .inr (7, [.int th, .ref tx, .int kn, .int rf, .int sp])), (tx, .inl (cT, 4, .inr (.inr (.inr (.inr fT))))), (r, .inl (cI, k, .inl f))] sz) := by
  refine Met.ofW (cc := cX3_many) (maxL := 2) (ret := (some .int)) (by decide) rfl ?_
  intro p e s m args below meth c s₁ B hml hv
  obtain ⟨rfl, hsz, hP, hK, hD0⟩ := hv
  have hx := B.exec
  have hb := B.bytes
  have hr := B.returns
  have hts := atoms_spec (ws := wsX3_many) B.pre
  have hown : s.vm.findClass RX3 = some m.cls := findClass_of_methodNamed B.named
  have hlocks := B.notSynchronized
  subst hsz
  have hD := hD0.self (sz := s.heap.size)
  generalize hAe : va_A [(hM, .inr (7, [.int th, .ref tx, .int kn, .int rf, .int sp])), (tx, .inl (cT, 4, .inr (.inr (.inr (.inr fT))))), (r, .inl (cI, k, .inl f))] s.heap.size = A at hD ⊢
  have hA : ∀ q : Nat, s.heap.size ≤ q → A q := fun q h => by rw [← hAe]; exact Or.inr h
  have hS : va_S A s.heap s.heap [] := va_S.rf
  have hP : va_P (dC, dI) vwCl [(hM, .inr (7, [.int th, .ref tx, .int kn, .int rf, .int sp])), (tx, .inl (cT, 4, .inr (.inr (.inr (.inr fT))))), (r, .inl (cI, k, .inl f))] s.heap := hP
  have hl := lv_entry ([.ref hM, .int (nI j)]) (n := 2) (Nat.le_of_ble_eq_true rfl)
  rw [lg_entry_eq]
  generalize (lg_sl ([.ref hM, .int (nI j)]) ++ List.replicate (2 - (lg_sl ([.ref hM, .int (nI j)])).length) Slot.unset).toArray = ls at hl ⊢
  have hl : lv_has ls 2 [(0, .ref hM), (1, .int (nI j))] := hl
  refine lv_aload_n hx hb dX3_many_0 rfl (lv_at hl 0 rfl) ?_
  refine va_get (D := (dC, dI)) (ci := 7) (v := .ref tx) (C := RX3) (T := TX3) (N := 5) hx hb hts (by decide +kernel) hown hK hP 0 rfl rfl 1 (by decide) (hts (.fieldLink RX3 11 "SignropeModel" "texts" "[[I") (by decide +kernel)) (fun _ h9 => h9) rfl dX3_many_1 ?_
  refine lv_iload_n hx hb dX3_many_4 rfl (lv_at hl 1 rfl) ?_
  have hin_124 : vp_in (nI j) 4 := vp_in_nI hj (by omega)
  refine va_aldA hx hb hK hP 1 0 rfl rfl hin_124 dX3_many_5 ?_
  rw [show fT (nI j).toNatClampNeg = some r from (by rw [nI_clamp (by omega)]; exact hT)]
  refine va_alen hx hb hK hP 2 1 rfl rfl (v := nI k) rfl dX3_many_6 ?_
  have hP9 := hP.sub (ws' := [(hM, .inr (7, [.int th, .ref tx, .int kn, .int rf, .int sp])), (tx, .inl (cT, 4, .inr (.inr (.inr (.inr fT))))), (r, .inl (cI, k, .inl f))]) [0, 1, 2] rfl
  have hD9 := hD.sub (ws' := [(hM, .inr (7, [.int th, .ref tx, .int kn, .int rf, .int sp])), (tx, .inl (cT, 4, .inr (.inr (.inr (.inr fT))))), (r, .inl (cI, k, .inl f))]) [0, 1, 2] (by decide) rfl
  have hK9 := hK.sub (tys' := [(cT, .array .int), (cI, .int)]) [0, 1] rfl
  exact W.iret (v := nI k) hx hb hr (fun t ht hW => ⟨⟨nI k, (), rfl, rfl, by rw [ht]; exact hP9, va_K.moved hW.alike hK9, hD9⟩, hS.F ht⟩) hS.2.2 dX3_many_7
