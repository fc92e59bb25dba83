/-! The law's own rows for setLength and text: what it catches is not thrown here. -/
theorem met_ofWH {l : Launch} {y : MethodName} {ws ws' : List Cond} {rm : Room} {Pc : Array Value → State → Prop} {Qc : Array Value → State → Outcome → State → Prop} {mc ms : Nat} {free : Addr → Prop} {cc : ByteArray} {maxL : Nat} {ret : Option FieldType} {hh : List (Nat × Nat × Nat × Nat)}
    (hy : plainName y.cls = true) (hw : ws = Cond.codeWith y cc maxL ret hh :: ws')
    (body : ∀ p e s m args below meth c s₁, BodyLoose p l y (headSpec ws rm) cc maxL ret e s m args below meth c s₁ → c.maxLocals = maxL → Pc args s →
      W p l e (headSpec ws rm).room s m args below meth c s.heap [] 0 0 (MQ below Qc args s mc ms free) (entryFrame m args maxL)) : Met l y ws rm Pc Qc mc ms free := by
  refine MetFree.of_bodyS (code := cc) (maxLocals := maxL) (ret := ret) hy ?_ ?_
  · intro args s m h hn
    obtain ⟨m9, meth, c, hn9, h1, h2, h3, h4, -, h5, h6, -⟩ := Cond.codeWith_spec (atoms_spec (ws := ws) h _ (by rw [hw]; exact List.mem_cons_self))
    cases hn.symm.trans hn9
    exact ⟨meth, c, h1, h2, h3, h4, h5, h6⟩
  · intro p e s m args below meth c s₁ B hml hP _
    have hh0 : s₁.heap = s.heap := by rw [B.state]; rfl
    obtain ⟨t, a1, o, b1, b2, b3⟩ := body p e s m args below meth c s₁ B hml hP s₁ hh0 (Stand.of_body B)
    exact ⟨t, o, a1, b1, b2, b3⟩
def jn (i : Nat) (nm d : String) (U : State) : Prop := va_Nw (.fieldLinkNest RL i "SignropeLaw$Out" nm d RL) U
theorem jn.call {i : Nat} {nm d : String} {U : State} {g : JFrame} {mk : MethodId} {a : Array Value} (h : jn i nm d U) : jn i nm d (U.calling g mk a) := va_Nw.same rfl rfl h
theorem jn.pass {i : Nat} {nm d : String} {s U : State} (h : jn i nm d s) (hW : s.WarmedH U.vm) : jn i nm d U := va_Nw.warmF hW h
set_option maxHeartbeats 4000000 in
set_option maxRecDepth 100000 in
/-- the law's setLength -/
theorem kL_setLength (l : Launch) (dC : Nat → ClassId) (dI : Nat → Nat → Nat) (sz : Nat) (hX rp u1 u2 u3 u4 : Nat) (kn rf ac : Int32) (cR : ClassId) (fR : Nat → Option Nat) (j t0 : Nat) (hj : j < 4) (hR : fR j = some t0) (b0 : Nat) (cC : ClassId) (k : Nat) (f : Nat → Int32) (hO : Nat) (x : Int64) (qv : Value) (L : Nat) (hk : k ≤ 480) (hL : L ≤ 240) : Met l yL_setLength wsL_setLength ({ frames := 2, cells := 0, slots := 0, locals := 46 }) (va_Pc [.ref hX, .int (nI j), .int (nI L), .ref hO] (fun U => U.heap.size = sz ∧ va_P (dC, dI) vwCl [(hX, .inr (5, [.ref rp, .ref u1, .ref u2, .ref u3, .ref u4, .int kn, .int rf, .int ac])), (rp, .inl (cR, 4, .inr (.inr (.inr (.inr fR))))), (t0, .inr (4, [.ref b0, .int (nI k)])), (b0, .inl (cC, 480, .inl f)), (hO, .inr (6, [.long x, qv]))] U.heap ∧ va_K (dC, dI) vwCl [(cR, .object "Signrope$Text"), (cC, .char)] U ∧ va_D (fun _ => True) [(hX, .inr (5, [.ref rp, .ref u1, .ref u2, .ref u3, .ref u4, .int kn, .int rf, .int ac])), (rp, .inl (cR, 4, .inr (.inr (.inr (.inr fR))))), (t0, .inr (4, [.ref b0, .int (nI k)])), (b0, .inl (cC, 480, .inl f)), (hO, .inr (6, [.long x, qv]))] ∧ jn 13 "n" "J" U)) (va_Qi (fun (r : Int32) (u : Nat → Int32) => match u with | g => r = 0 ∧ ∀ j, j < L → g j = if j < k then f j else 0) (fun (u : Nat → Int32) (t : State) => match u with | g => va_P (dC, dI) vwCl [(hX, .inr (5, [.ref rp, .ref u1, .ref u2, .ref u3, .ref u4, .int kn, .int rf, .int (ac + 1)])), (rp, .inl (cR, 4, .inr (.inr (.inr (.inr fR))))), (t0, .inr (4, [.ref b0, .int (nI L)])), (b0, .inl (cC, 480, .inl g)), (hO, .inr (6, [.long ((nI k).toInt64), qv]))] t.heap ∧ va_K (dC, dI) vwCl [(cR, .object "Signrope$Text"), (cC, .char)] t ∧ va_D (va_A [(hX, .inr (5, [.ref rp, .ref u1, .ref u2, .ref u3, .ref u4, .int kn, .int rf, .int ac])), (rp, .inl (cR, 4, .inr (.inr (.inr (.inr fR))))), (t0, .inr (4, [.ref b0, .int (nI k)])), (b0, .inl (cC, 480, .inl f)), (hO, .inr (6, [.long x, qv]))] sz) [(hX, .inr (5, [.ref rp, .ref u1, .ref u2, .ref u3, .ref u4, .int kn, .int rf, .int (ac + 1)])), (rp, .inl (cR, 4, .inr (.inr (.inr (.inr fR))))), (t0, .inr (4, [.ref b0, .int (nI L)])), (b0, .inl (cC, 480, .inl g)), (hO, .inr (6, [.long ((nI k).toInt64), qv]))]) (va_A [(hX, .inr (5, [.ref rp, .ref u1, .ref u2, .ref u3, .ref u4, .int kn, .int rf, .int ac])), (rp, .inl (cR, 4, .inr (.inr (.inr (.inr fR))))), (t0, .inr (4, [.ref b0, .int (nI k)])), (b0, .inl (cC, 480, .inl f)), (hO, .inr (6, [.long x, qv]))] sz)) 0 0 (va_A [(hX, .inr (5, [.ref rp, .ref u1, .ref u2, .ref u3, .ref u4, .int kn, .int rf, .int ac])), (rp, .inl (cR, 4, .inr (.inr (.inr (.inr fR))))), (t0, .inr (4, [.ref b0, .int (nI k)])), (b0, .inl (cC, 480, .inl f)), (hO, .inr (6, [.long x, qv]))] sz) := by
  refine met_ofWH (cc := cL_setLength) (maxL := 5) (ret := (some .int)) (hh := [(0, 11, 14, 19), (0, 11, 18, 21)]) (by decide) rfl ?_
  intro p e s m args below meth c s₁ B hml hv
  obtain ⟨rfl, hsz, hP, hK, hD0, hJ⟩ := hv
  have hx := B.exec
  have hb := B.bytes
  have hr := B.returns
  have hts := atoms_spec (ws := wsL_setLength) B.pre
  have hown : s.vm.findClass RL = some m.cls := findClass_of_methodNamed B.named
  have hlocks := B.notSynchronized
  subst hsz
  have hD := hD0.self (sz := s.heap.size)
  generalize hAe : va_A [(hX, .inr (5, [.ref rp, .ref u1, .ref u2, .ref u3, .ref u4, .int kn, .int rf, .int ac])), (rp, .inl (cR, 4, .inr (.inr (.inr (.inr fR))))), (t0, .inr (4, [.ref b0, .int (nI k)])), (b0, .inl (cC, 480, .inl f)), (hO, .inr (6, [.long x, qv]))] s.heap.size = A at hD ⊢
  have hA : ∀ q : Nat, s.heap.size ≤ q → A q := fun q h => by rw [← hAe]; exact Or.inr h
  have hS : va_S A s.heap s.heap [] := va_S.rf
  have hP : va_P (dC, dI) vwCl [(hX, .inr (5, [.ref rp, .ref u1, .ref u2, .ref u3, .ref u4, .int kn, .int rf, .int ac])), (rp, .inl (cR, 4, .inr (.inr (.inr (.inr fR))))), (t0, .inr (4, [.ref b0, .int (nI k)])), (b0, .inl (cC, 480, .inl f)), (hO, .inr (6, [.long x, qv]))] s.heap := hP
  have hl := lv_entry ([.ref hX, .int (nI j), .int (nI L), .ref hO]) (n := 5) (Nat.le_of_ble_eq_true rfl)
  rw [lg_entry_eq]
  generalize (lg_sl ([.ref hX, .int (nI j), .int (nI L), .ref hO]) ++ List.replicate (5 - (lg_sl ([.ref hX, .int (nI j), .int (nI L), .ref hO])).length) Slot.unset).toArray = ls at hl ⊢
  have hl : lv_has ls 5 [(0, .ref hX), (1, .int (nI j)), (2, .int (nI L)), (3, .ref hO)] := hl
  refine lv_aload_n hx hb dL_setLength_0 rfl (lv_at hl 3 rfl) ?_
  refine lv_aload_n hx hb dL_setLength_1 rfl (lv_at hl 0 rfl) ?_
  refine lv_iload_n hx hb dL_setLength_2 rfl (lv_at hl 1 rfl) ?_
  refine lv_iload_n hx hb dL_setLength_3 rfl (lv_at hl 2 rfl) ?_
  have hPc := hP.sub (ws' := [(hX, .inr (5, [.ref rp, .ref u1, .ref u2, .ref u3, .ref u4, .int kn, .int rf, .int ac])), (rp, .inl (cR, 4, .inr (.inr (.inr (.inr fR))))), (t0, .inr (4, [.ref b0, .int (nI k)])), (b0, .inl (cC, 480, .inl f))]) [0, 1, 2, 3] rfl
  have hDc := hD.sub (ws' := [(hX, .inr (5, [.ref rp, .ref u1, .ref u2, .ref u3, .ref u4, .int kn, .int rf, .int ac])), (rp, .inl (cR, 4, .inr (.inr (.inr (.inr fR))))), (t0, .inr (4, [.ref b0, .int (nI k)])), (b0, .inl (cC, 480, .inl f))]) [0, 1, 2, 3] (by decide) rfl
  have hKc := hK.sub (tys' := [(cR, .object "Signrope$Text"), (cC, .char)]) [0, 1] rfl
  have hFc := va_free (wc := [(hX, .inr (5, [.ref rp, .ref u1, .ref u2, .ref u3, .ref u4, .int kn, .int rf, .int ac])), (rp, .inl (cR, 4, .inr (.inr (.inr (.inr fR))))), (t0, .inr (4, [.ref b0, .int (nI k)])), (b0, .inl (cC, 480, .inl f))]) hD hS hA [0, 1, 2, 3] rfl
  refine va_calli (va_runV (As := [.int (nI j), .int (nI L)]) (rest := [.ref hO]) ⟨hx, hb, hml, hown, hts⟩ (kX1_setLength l dC dI s.heap.size hX rp u1 u2 u3 u4 kn rf ac cR fR j t0 hj hR b0 cC k f L hk hL) (cwV 2 hts gL_setLength_X1_setLength rfl rfl rfl (by decide +kernel) ⟨Nat.le_of_ble_eq_true rfl, Nat.le_of_ble_eq_true rfl⟩) ⟨fun a U g mk q => by obtain ⟨q0, q1, qP, qK, qD⟩ := q; exact ⟨q0, q1, qP, va_K.moved (u := U) (U := U.calling g mk a) (Vm.Alike.refl U.vm) qK, qD⟩, va_recv hKc hPc (ci := 5) (q0 := 0) rfl rfl, fun U hU hW => ⟨rfl, by rw [hU], by rw [hU]; exact hPc, va_K.moved hW.alike hKc, hDc.weaken (fun _ _ _ _ => trivial)⟩⟩ rfl rfl hl.1 rfl (lv_room (Nat.le_of_ble_eq_true rfl)) dL_setLength_4 ⟨(by show 0 + 0 ≤ 0; omega), (by show 0 + 0 ≤ 0; omega)⟩) hS (fun q _ h => hFc q h) hFc (fun r_321 g t H1 locs ht hvm hg hB hz1 hk1 hS => ?_)
  try dsimp only at hB
  try dsimp only at hg
  obtain ⟨hP1, hK1, hD1⟩ := hB
  rw [ht] at hP1
  have hK1 := va_K.moved hvm.symm hK1
  obtain ⟨hP, hD⟩ := va_join (wr := [(hO, .inr (6, [.long x, qv]))]) (w1 := [(hX, .inr (5, [.ref rp, .ref u1, .ref u2, .ref u3, .ref u4, .int kn, .int rf, .int (ac + 1)])), (rp, .inl (cR, 4, .inr (.inr (.inr (.inr fR))))), (t0, .inr (4, [.ref b0, .int (nI L)])), (b0, .inl (cC, 480, .inl g))]) hP hD [0, 1, 2, 3] [4] rfl rfl (by decide) (by decide) hk1 hFc hP1 hD1
  have hK := (hK.sub (tys' := []) [] rfl).app hK1
  generalize H1 = H at hP hS ⊢
  have hP : va_P (dC, dI) vwCl [(hO, .inr (6, [.long x, qv])), (hX, .inr (5, [.ref rp, .ref u1, .ref u2, .ref u3, .ref u4, .int kn, .int rf, .int (ac + 1)])), (rp, .inl (cR, 4, .inr (.inr (.inr (.inr fR))))), (t0, .inr (4, [.ref b0, .int (nI L)])), (b0, .inl (cC, 480, .inl g))] H := hP
  have hD : va_D A [(hO, .inr (6, [.long x, qv])), (hX, .inr (5, [.ref rp, .ref u1, .ref u2, .ref u3, .ref u4, .int kn, .int rf, .int (ac + 1)])), (rp, .inl (cR, 4, .inr (.inr (.inr (.inr fR))))), (t0, .inr (4, [.ref b0, .int (nI L)])), (b0, .inl (cC, 480, .inl g))] := hD
  have hK : va_K (dC, dI) vwCl [(cR, .object "Signrope$Text"), (cC, .char)] s := hK
  obtain ⟨er, hgc⟩ := hg
  subst er
  obtain ⟨x_322, ex_322⟩ : ∃ z : Int64, (nI k).toInt64 = z := ⟨_, rfl⟩
  refine lv_i2l (v := x_322) hx hb dL_setLength_7 ex_322 ?_
  subst ex_322
  refine va_putN (D := (dC, dI)) (ci := 6) (v := .long ((nI k).toInt64)) (ty := .long) (C := RX2) (T := TX2) (N := 2) hx hb hts (by decide +kernel) tyX2 tyX2_ok nmX2 hown hK hP hD hS 0 rfl rfl 0 (by decide) (va_Nw.use rfl hJ) (fun _ h9 => h9) rfl (by decide +kernel) rfl rfl (Nat.le_of_ble_eq_true rfl) dL_setLength_8 (fun H locs hP hD hS => ?_)
  have hP : va_P (dC, dI) vwCl [(hO, .inr (6, [.long ((nI k).toInt64), qv])), (hX, .inr (5, [.ref rp, .ref u1, .ref u2, .ref u3, .ref u4, .int kn, .int rf, .int (ac + 1)])), (rp, .inl (cR, 4, .inr (.inr (.inr (.inr fR))))), (t0, .inr (4, [.ref b0, .int (nI L)])), (b0, .inl (cC, 480, .inl g))] H := hP
  have hD : va_D A [(hO, .inr (6, [.long ((nI k).toInt64), qv])), (hX, .inr (5, [.ref rp, .ref u1, .ref u2, .ref u3, .ref u4, .int kn, .int rf, .int (ac + 1)])), (rp, .inl (cR, 4, .inr (.inr (.inr (.inr fR))))), (t0, .inr (4, [.ref b0, .int (nI L)])), (b0, .inl (cC, 480, .inl g))] := hD
  refine lv_goto (tgt := 22) hx hb dL_setLength_11 (by decide) ?_
  refine lv_iconst (v := 0) hx hb dL_setLength_22 (by decide) ?_
  have hP9 := hP.sub (ws' := [(hX, .inr (5, [.ref rp, .ref u1, .ref u2, .ref u3, .ref u4, .int kn, .int rf, .int (ac + 1)])), (rp, .inl (cR, 4, .inr (.inr (.inr (.inr fR))))), (t0, .inr (4, [.ref b0, .int (nI L)])), (b0, .inl (cC, 480, .inl g)), (hO, .inr (6, [.long ((nI k).toInt64), qv]))]) [1, 2, 3, 4, 0] rfl
  have hD9 := hD.sub (ws' := [(hX, .inr (5, [.ref rp, .ref u1, .ref u2, .ref u3, .ref u4, .int kn, .int rf, .int (ac + 1)])), (rp, .inl (cR, 4, .inr (.inr (.inr (.inr fR))))), (t0, .inr (4, [.ref b0, .int (nI L)])), (b0, .inl (cC, 480, .inl g)), (hO, .inr (6, [.long ((nI k).toInt64), qv]))]) [1, 2, 3, 4, 0] (by decide) rfl
  have hK9 := hK.sub (tys' := [(cR, .object "Signrope$Text"), (cC, .char)]) [0, 1] rfl
  refine W.widen (k := 0) (n := 0) (by omega) (by omega) ?_
  exact W.iret (v := 0) hx hb hr (fun t ht hW => ⟨⟨0, g, rfl, ⟨rfl, hgc⟩, by rw [ht]; exact hP9, va_K.moved hW.alike hK9, hD9⟩, hS.F ht⟩) hS.2.2 dL_setLength_23
set_option maxHeartbeats 4000000 in
set_option maxRecDepth 100000 in
/-- the law's text -/
theorem kL_text (l : Launch) (dC : Nat → ClassId) (dI : Nat → Nat → Nat) (sz : Nat) (hX rp u1 u2 u3 u4 : Nat) (kn rf ac : Int32) (cR : ClassId) (fR : Nat → Option Nat) (j t0 : Nat) (hj : j < 4) (hR : fR j = some t0) (b0 : Nat) (cC : ClassId) (k : Nat) (f : Nat → Int32) (hO : Nat) (x : Int64) (qv : Value) (tc : Nat → Nat) (hk0 : 1 ≤ k) (hk : k ≤ 480) (hf : ∀ j, j < k → f j = nI (tc j) ∧ tc j < 256) : Met l yL_text wsL_text ({ frames := 6, cells := 3, slots := k + 4 + k, locals := 142 }) (va_Pc [.ref hX, .int (nI j), .ref hO] (fun U => U.heap.size = sz ∧ va_P (dC, dI) vwCl [(hX, .inr (5, [.ref rp, .ref u1, .ref u2, .ref u3, .ref u4, .int kn, .int rf, .int ac])), (rp, .inl (cR, 4, .inr (.inr (.inr (.inr fR))))), (t0, .inr (4, [.ref b0, .int (nI k)])), (b0, .inl (cC, 480, .inl f)), (hO, .inr (6, [.long x, qv]))] U.heap ∧ va_K (dC, dI) vwCl [(cR, .object "Signrope$Text"), (cC, .char)] U ∧ va_D (fun _ => True) [(hX, .inr (5, [.ref rp, .ref u1, .ref u2, .ref u3, .ref u4, .int kn, .int rf, .int ac])), (rp, .inl (cR, 4, .inr (.inr (.inr (.inr fR))))), (t0, .inr (4, [.ref b0, .int (nI k)])), (b0, .inl (cC, 480, .inl f)), (hO, .inr (6, [.long x, qv]))] ∧ jz (va_A [(hX, .inr (5, [.ref rp, .ref u1, .ref u2, .ref u3, .ref u4, .int kn, .int rf, .int ac])), (rp, .inl (cR, 4, .inr (.inr (.inr (.inr fR))))), (t0, .inr (4, [.ref b0, .int (nI k)])), (b0, .inl (cC, 480, .inl f)), (hO, .inr (6, [.long x, qv]))] sz) U U.heap ∧ jn 125 "s" "Ljava/lang/String;" U)) (va_Qi (fun (r : Int32) (u : Nat × Nat × (Nat → Int32)) => match u with | (a2, v2, g) => r = 0 ∧ sb_Fit g ∧ ∀ j, j < k → g j = sb_b (tc j)) (fun (u : Nat × Nat × (Nat → Int32)) (t : State) => match u with | (a2, v2, g) => rs a2 v2 k g (fun x => x < sz ∨ t.heap.size ≤ x) t t.heap ∧ va_P (dC, dI) vwCl [(hX, .inr (5, [.ref rp, .ref u1, .ref u2, .ref u3, .ref u4, .int kn, .int rf, .int ac])), (rp, .inl (cR, 4, .inr (.inr (.inr (.inr fR))))), (t0, .inr (4, [.ref b0, .int (nI k)])), (b0, .inl (cC, 480, .inl f)), (hO, .inr (6, [.long x, .ref a2]))] t.heap ∧ va_K (dC, dI) vwCl [(cR, .object "Signrope$Text"), (cC, .char)] t ∧ va_D (va_A [(hX, .inr (5, [.ref rp, .ref u1, .ref u2, .ref u3, .ref u4, .int kn, .int rf, .int ac])), (rp, .inl (cR, 4, .inr (.inr (.inr (.inr fR))))), (t0, .inr (4, [.ref b0, .int (nI k)])), (b0, .inl (cC, 480, .inl f)), (hO, .inr (6, [.long x, qv]))] sz) [(hX, .inr (5, [.ref rp, .ref u1, .ref u2, .ref u3, .ref u4, .int kn, .int rf, .int ac])), (rp, .inl (cR, 4, .inr (.inr (.inr (.inr fR))))), (t0, .inr (4, [.ref b0, .int (nI k)])), (b0, .inl (cC, 480, .inl f)), (hO, .inr (6, [.long x, .ref a2]))]) (va_A [(hX, .inr (5, [.ref rp, .ref u1, .ref u2, .ref u3, .ref u4, .int kn, .int rf, .int ac])), (rp, .inl (cR, 4, .inr (.inr (.inr (.inr fR))))), (t0, .inr (4, [.ref b0, .int (nI k)])), (b0, .inl (cC, 480, .inl f)), (hO, .inr (6, [.long x, qv]))] sz)) 3 (k + 4 + k) (va_A [(hX, .inr (5, [.ref rp, .ref u1, .ref u2, .ref u3, .ref u4, .int kn, .int rf, .int ac])), (rp, .inl (cR, 4, .inr (.inr (.inr (.inr fR))))), (t0, .inr (4, [.ref b0, .int (nI k)])), (b0, .inl (cC, 480, .inl f)), (hO, .inr (6, [.long x, qv]))] sz) := by
  refine met_ofWH (cc := cL_text) (maxL := 4) (ret := (some .int)) (hh := [(0, 9, 12, 19)]) (by decide) rfl ?_
  intro p e s m args below meth c s₁ B hml hv
  obtain ⟨rfl, hsz, hP, hK, hD0, hZ, hJ⟩ := hv
  have hx := B.exec
  have hb := B.bytes
  have hr := B.returns
  have hts := atoms_spec (ws := wsL_text) B.pre
  have hown : s.vm.findClass RL = some m.cls := findClass_of_methodNamed B.named
  have hlocks := B.notSynchronized
  subst hsz
  have hD := hD0.self (sz := s.heap.size)
  generalize hAe : va_A [(hX, .inr (5, [.ref rp, .ref u1, .ref u2, .ref u3, .ref u4, .int kn, .int rf, .int ac])), (rp, .inl (cR, 4, .inr (.inr (.inr (.inr fR))))), (t0, .inr (4, [.ref b0, .int (nI k)])), (b0, .inl (cC, 480, .inl f)), (hO, .inr (6, [.long x, qv]))] s.heap.size = A at hD hZ ⊢
  have hA : ∀ q : Nat, s.heap.size ≤ q → A q := fun q h => by rw [← hAe]; exact Or.inr h
  have hS : va_S A s.heap s.heap [] := va_S.rf
  have hP : va_P (dC, dI) vwCl [(hX, .inr (5, [.ref rp, .ref u1, .ref u2, .ref u3, .ref u4, .int kn, .int rf, .int ac])), (rp, .inl (cR, 4, .inr (.inr (.inr (.inr fR))))), (t0, .inr (4, [.ref b0, .int (nI k)])), (b0, .inl (cC, 480, .inl f)), (hO, .inr (6, [.long x, qv]))] s.heap := hP
  have hl := lv_entry ([.ref hX, .int (nI j), .ref hO]) (n := 4) (Nat.le_of_ble_eq_true rfl)
  rw [lg_entry_eq]
  generalize (lg_sl ([.ref hX, .int (nI j), .ref hO]) ++ List.replicate (4 - (lg_sl ([.ref hX, .int (nI j), .ref hO])).length) Slot.unset).toArray = ls at hl ⊢
  have hl : lv_has ls 4 [(0, .ref hX), (1, .int (nI j)), (2, .ref hO)] := hl
  refine lv_aload_n hx hb dL_text_0 rfl (lv_at hl 2 rfl) ?_
  refine lv_aload_n hx hb dL_text_1 rfl (lv_at hl 0 rfl) ?_
  refine lv_iload_n hx hb dL_text_2 rfl (lv_at hl 1 rfl) ?_
  have hPc := hP.sub (ws' := [(hX, .inr (5, [.ref rp, .ref u1, .ref u2, .ref u3, .ref u4, .int kn, .int rf, .int ac])), (rp, .inl (cR, 4, .inr (.inr (.inr (.inr fR))))), (t0, .inr (4, [.ref b0, .int (nI k)])), (b0, .inl (cC, 480, .inl f))]) [0, 1, 2, 3] rfl
  have hDc := hD.sub (ws' := [(hX, .inr (5, [.ref rp, .ref u1, .ref u2, .ref u3, .ref u4, .int kn, .int rf, .int ac])), (rp, .inl (cR, 4, .inr (.inr (.inr (.inr fR))))), (t0, .inr (4, [.ref b0, .int (nI k)])), (b0, .inl (cC, 480, .inl f))]) [0, 1, 2, 3] (by decide) rfl
  have hKc := hK.sub (tys' := [(cR, .object "Signrope$Text"), (cC, .char)]) [0, 1] rfl
  have hFc := va_free (wc := [(hX, .inr (5, [.ref rp, .ref u1, .ref u2, .ref u3, .ref u4, .int kn, .int rf, .int ac])), (rp, .inl (cR, 4, .inr (.inr (.inr (.inr fR))))), (t0, .inr (4, [.ref b0, .int (nI k)])), (b0, .inl (cC, 480, .inl f))]) hD hS hA [0, 1, 2, 3] rfl
  refine va_callr (va_runV (As := [.int (nI j)]) (rest := [.ref hO]) ⟨hx, hb, hml, hown, hts⟩ (kX1_text l dC dI s.heap.size hX rp u1 u2 u3 u4 kn rf ac cR fR j t0 hj hR b0 cC k f tc hk0 hk hf) (cwV 1 hts gL_text_X1_text rfl rfl rfl (by decide +kernel) ⟨Nat.le_of_ble_eq_true rfl, Nat.le_of_ble_eq_true rfl⟩) ⟨fun a U g mk q => by obtain ⟨q0, q1, qP, qK, qD, qE0⟩ := q; exact ⟨q0, q1, qP, va_K.moved (u := U) (U := U.calling g mk a) (Vm.Alike.refl U.vm) qK, qD, jz.call qE0⟩, va_recv hKc hPc (ci := 5) (q0 := 0) rfl rfl, fun U hU hW => ⟨rfl, by rw [hU], by rw [hU]; exact hPc, va_K.moved hW.alike hKc, hDc.weaken (fun _ _ _ _ => trivial), jz.pass hZ hS hFc hW hU⟩⟩ rfl rfl hl.1 rfl (lv_room (Nat.le_of_ble_eq_true rfl)) dL_text_3 ⟨(by show 0 + 3 ≤ 3; omega), (by show 0 + (k + 4 + k) ≤ (k + 4 + k); omega)⟩) hS (fun q _ h => hFc q h) hFc (fun u r_323 t H1 locs ht hvm hg hB hz1 hk1 hS => ?_)
  obtain ⟨v2, cA, g⟩ := u
  try dsimp only at hB
  try dsimp only at hg
  obtain ⟨hP1, hK1, hD1⟩ := hB
  rw [ht] at hP1
  have hK1 := va_K.moved hvm.symm hK1
  obtain ⟨hP, hD⟩ := va_join (wr := [(hO, .inr (6, [.long x, qv]))]) (w1 := [(hX, .inr (5, [.ref rp, .ref u1, .ref u2, .ref u3, .ref u4, .int kn, .int rf, .int ac])), (rp, .inl (cR, 4, .inr (.inr (.inr (.inr fR))))), (t0, .inr (4, [.ref b0, .int (nI k)])), (b0, .inl (cC, 480, .inl f)), (r_323, .inr (0, [.ref v2, .int 0, .int 0, .int 0])), (v2, .inl (cA, k, .inl g))]) hP hD [0, 1, 2, 3] [4] rfl rfl (by decide) (by decide) hk1 hFc hP1 hD1
  have hK := (hK.sub (tys' := []) [] rfl).app hK1
  generalize H1 = H at hP hS ⊢
  have hP : va_P (dC, dI) vwCl [(hO, .inr (6, [.long x, qv])), (hX, .inr (5, [.ref rp, .ref u1, .ref u2, .ref u3, .ref u4, .int kn, .int rf, .int ac])), (rp, .inl (cR, 4, .inr (.inr (.inr (.inr fR))))), (t0, .inr (4, [.ref b0, .int (nI k)])), (b0, .inl (cC, 480, .inl f)), (r_323, .inr (0, [.ref v2, .int 0, .int 0, .int 0])), (v2, .inl (cA, k, .inl g))] H := hP
  have hD : va_D A [(hO, .inr (6, [.long x, qv])), (hX, .inr (5, [.ref rp, .ref u1, .ref u2, .ref u3, .ref u4, .int kn, .int rf, .int ac])), (rp, .inl (cR, 4, .inr (.inr (.inr (.inr fR))))), (t0, .inr (4, [.ref b0, .int (nI k)])), (b0, .inl (cC, 480, .inl f)), (r_323, .inr (0, [.ref v2, .int 0, .int 0, .int 0])), (v2, .inl (cA, k, .inl g))] := hD
  have hK : va_K (dC, dI) vwCl [(cR, .object "Signrope$Text"), (cC, .char), (cA, .byte)] s := hK
  refine va_putN (D := (dC, dI)) (ci := 6) (v := .ref r_323) (ty := (.object "java/lang/String")) (C := RX2) (T := TX2) (N := 2) hx hb hts (by decide +kernel) tyX2 tyX2_ok nmX2 hown hK hP hD hS 0 rfl rfl 1 (by decide) (va_Nw.use rfl hJ) (fun _ h9 => h9) rfl (by decide +kernel) rfl rfl (Nat.le_of_ble_eq_true rfl) dL_text_6 (fun H locs hP hD hS => ?_)
  have hP : va_P (dC, dI) vwCl [(hO, .inr (6, [.long x, .ref r_323])), (hX, .inr (5, [.ref rp, .ref u1, .ref u2, .ref u3, .ref u4, .int kn, .int rf, .int ac])), (rp, .inl (cR, 4, .inr (.inr (.inr (.inr fR))))), (t0, .inr (4, [.ref b0, .int (nI k)])), (b0, .inl (cC, 480, .inl f)), (r_323, .inr (0, [.ref v2, .int 0, .int 0, .int 0])), (v2, .inl (cA, k, .inl g))] H := hP
  have hD : va_D A [(hO, .inr (6, [.long x, .ref r_323])), (hX, .inr (5, [.ref rp, .ref u1, .ref u2, .ref u3, .ref u4, .int kn, .int rf, .int ac])), (rp, .inl (cR, 4, .inr (.inr (.inr (.inr fR))))), (t0, .inr (4, [.ref b0, .int (nI k)])), (b0, .inl (cC, 480, .inl f)), (r_323, .inr (0, [.ref v2, .int 0, .int 0, .int 0])), (v2, .inl (cA, k, .inl g))] := hD
  refine lv_goto (tgt := 15) hx hb dL_text_9 (by decide) ?_
  refine lv_iconst (v := 0) hx hb dL_text_15 (by decide) ?_
  have hfa : s.heap.size ≤ r_323 := va_new_ge hAe hD 5 [1, 2, 3, 4, 0] rfl rfl (by decide)
  have hfv : s.heap.size ≤ v2 := va_new_ge hAe hD 6 [1, 2, 3, 4, 0] rfl rfl (by decide)
  have hM7 : rs r_323 v2 k g (fun x => x < s.heap.size ∨ H.size ≤ x) s H := rs.ofH hts (by decide +kernel) hK hP 5 6 2 rfl rfl rfl (fun h => h.elim (fun h => Nat.lt_irrefl _ (Nat.lt_of_lt_of_le h hfa)) (fun h => Nat.lt_irrefl _ (Nat.lt_of_lt_of_le (hP 5 _ rfl).lt h))) (fun h => h.elim (fun h => Nat.lt_irrefl _ (Nat.lt_of_lt_of_le h hfv)) (fun h => Nat.lt_irrefl _ (Nat.lt_of_lt_of_le (hP 6 _ rfl).lt h)))
  have hP9 := hP.sub (ws' := [(hX, .inr (5, [.ref rp, .ref u1, .ref u2, .ref u3, .ref u4, .int kn, .int rf, .int ac])), (rp, .inl (cR, 4, .inr (.inr (.inr (.inr fR))))), (t0, .inr (4, [.ref b0, .int (nI k)])), (b0, .inl (cC, 480, .inl f)), (hO, .inr (6, [.long x, .ref r_323]))]) [1, 2, 3, 4, 0] rfl
  have hD9 := hD.sub (ws' := [(hX, .inr (5, [.ref rp, .ref u1, .ref u2, .ref u3, .ref u4, .int kn, .int rf, .int ac])), (rp, .inl (cR, 4, .inr (.inr (.inr (.inr fR))))), (t0, .inr (4, [.ref b0, .int (nI k)])), (b0, .inl (cC, 480, .inl f)), (hO, .inr (6, [.long x, .ref r_323]))]) [1, 2, 3, 4, 0] (by decide) rfl
  have hK9 := hK.sub (tys' := [(cR, .object "Signrope$Text"), (cC, .char)]) [0, 1] rfl
  refine W.widen (k := 3) (n := k + 4 + k) (by omega) (by omega) ?_
  exact W.iret (v := 0) hx hb hr (fun t ht hW => ⟨⟨0, (r_323, v2, g), rfl, ⟨rfl, hg⟩, by rw [ht]; exact rs.moved hW.alike hM7, by rw [ht]; exact hP9, va_K.moved hW.alike hK9, hD9⟩, hS.F ht⟩) hS.2.2 dL_text_16
