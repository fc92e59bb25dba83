/-! Signrope$Text: the leaves. A text: an object of class 4 (its row, its size nI k, k at most 480) and its row of 480 chars f. -/
def ch_ok (f : Nat → Int32) : Prop := ∀ i, ∃ q, q < 65536 ∧ f i = nI q
theorem ch_nar {f : Nat → Int32} (h : ch_ok f) (i : Nat) : narrow .char (.int (f i)) = .int (f i) := by
  obtain ⟨q, hq, e⟩ := h i
  rw [e]
  exact (pk_charN hq).1
theorem ch_fit {f : Nat → Int32} (h : ch_ok f) (i : Nat) : fits .char (.int (f i)) = true := by
  obtain ⟨q, hq, e⟩ := h i
  rw [e]
  exact (pk_charN hq).2
theorem ch_upd {f : Nat → Int32} (h : ch_ok f) (k : Nat) {x : Int32} (hx : ∃ q, q < 65536 ∧ x = nI q) : ch_ok (upd f k x) := by
  intro i
  by_cases e : i = k
  · rw [e, pk_us]; exact hx
  · rw [pk_un e]; exact h i
theorem ch_vp {q : Nat} (hq : q < 65536) : vp_nar .char (nI q) = nI q := by
  unfold vp_nar
  rw [(pk_charN hq).1]
theorem cl_le {a b m : Nat} (ha : a < 2 ^ 31) (hb : b < 2 ^ 31) (h : a + b ≤ m) : (nI a).toNatClampNeg + (nI b).toNatClampNeg ≤ m := by
  rw [nI_clamp ha, nI_clamp hb]; exact h
theorem cp_cl {α : Type} {f g : Nat → α} {a b c : Nat} (ha : a < 2 ^ 31) (hb : b < 2 ^ 31) (hc : c < 2 ^ 31) : va_cpy f g (nI a).toNatClampNeg (nI b).toNatClampNeg (nI c).toNatClampNeg = va_cpy f g a b c := by
  rw [nI_clamp ha, nI_clamp hb, nI_clamp hc]
def jz (A : Nat → Prop) (U : State) (H : Heap) : Prop := va_Z "java/lang/String" "COMPACT_STRINGS" "Z" (.int 1) A U H ∧ va_Nw (.castable "[B" "java/lang/Cloneable") U
theorem jz.call {A : Nat → Prop} {U : State} {g : JFrame} {mk : MethodId} {a : Array Value} (h : jz A U U.heap) : jz A (U.calling g mk a) (U.calling g mk a).heap := ⟨va_Z.moved (u := U) (U := U.calling g mk a) (Vm.Alike.refl U.vm) h.1, va_Nw.same rfl rfl h.2⟩
theorem jz.pass {A B : Nat → Prop} {s U : State} {H : Heap} {locs : List Loc} (h : jz A s s.heap) (hS : va_S A s.heap H locs) (hF : ∀ q, B q → A q) (hW : s.WarmedH U.vm) (hU : U.heap = H) : jz B U U.heap := ⟨by rw [hU]; exact va_Z.moved hW.alike ((va_Z.kept h.1 (fun q hq ha => hS.2.1 q hq ha)).narrow hF), va_Nw.warmC hW h.2⟩
theorem va_new_ge {ws0 ws : va_W} {sz q : Nat} {e : va_E} {A : Nat → Prop} (hAe : va_A ws0 sz = A) (hD : va_D A ws) (i : Nat) (js : List Nat) (hi : ws[i]? = some (q, e)) (hj : js.map (fun j => (ws[j]?).map (fun p => p.1)) = ws0.map (fun p => some p.1)) (hni : i ∉ js) : sz ≤ q := by
  have hA : A q := hD.2 i _ hi
  rw [← hAe] at hA
  rcases hA with ⟨k, e', hk⟩ | h
  · exfalso
    have h1 : (ws0.map (fun p => some p.1))[k]? = some (some q) := by rw [List.getElem?_map, hk]; rfl
    rw [← hj, List.getElem?_map] at h1
    cases hjs : js[k]? with
    | none => rw [hjs] at h1; cases h1
    | some j =>
      rw [hjs] at h1
      cases hp : ws[j]? with
      | none => rw [Option.map_some, hp] at h1; cases h1
      | some p =>
        rw [Option.map_some, hp] at h1
        have e1 : p.1 = q := by cases h1; rfl
        have := hD.1 j i p (q, e) hp hi e1
        subst this
        exact hni (List.mem_of_getElem? hjs)
  · exact h
set_option maxHeartbeats 4000000 in
set_option maxRecDepth 100000 in
/-- Text.size() -/
theorem kX0_size (l : Launch) (dC : Nat → ClassId) (dI : Nat → Nat → Nat) (sz : Nat) (h b : Nat) (x : Int32) : Met l yX0_size wsX0_size ({ frames := 0, cells := 0, slots := 0, locals := 0 }) (va_Pc [.ref h] (fun U => U.heap.size = sz ∧ va_P (dC, dI) vwCl [(h, .inr (4, [.ref b, .int x]))] U.heap ∧ va_K (dC, dI) vwCl [] U ∧ va_D (fun _ => True) [(h, .inr (4, [.ref b, .int x]))])) (va_Qi (fun (r : Int32) (u : Unit) => r = x) (fun (u : Unit) (t : State) => va_P (dC, dI) vwCl [(h, .inr (4, [.ref b, .int x]))] t.heap ∧ va_K (dC, dI) vwCl [] t ∧ va_D (va_A [(h, .inr (4, [.ref b, .int x]))] sz) [(h, .inr (4, [.ref b, .int x]))]) (va_A [(h, .inr (4, [.ref b, .int x]))] sz)) 0 0 (va_A [(h, .inr (4, [.ref b, .int x]))] sz) := by
  refine Met.ofW (cc := cX0_size) (maxL := 1) (ret := (some .int)) (by decide) rfl ?_
  intro p e s m args below meth c s₁ B hml hv
  obtain ⟨rfl, hsz, hP, hK, hD0⟩ := hv
  have hx := B.exec
  have hb := B.bytes
  have hr := B.returns
  have hts := atoms_spec (ws := wsX0_size) B.pre
  have hown : s.vm.findClass RX0 = some m.cls := findClass_of_methodNamed B.named
  have hlocks := B.notSynchronized
  subst hsz
  have hD := hD0.self (sz := s.heap.size)
  generalize hAe : va_A [(h, .inr (4, [.ref b, .int x]))] s.heap.size = A at hD ⊢
  have hA : ∀ q : Nat, s.heap.size ≤ q → A q := fun q h => by rw [← hAe]; exact Or.inr h
  have hS : va_S A s.heap s.heap [] := va_S.rf
  have hP : va_P (dC, dI) vwCl [(h, .inr (4, [.ref b, .int x]))] s.heap := hP
  have hl := lv_entry ([.ref h]) (n := 1) (Nat.le_of_ble_eq_true rfl)
  rw [lg_entry_eq]
  generalize (lg_sl ([.ref h]) ++ List.replicate (1 - (lg_sl ([.ref h])).length) Slot.unset).toArray = ls at hl ⊢
  have hl : lv_has ls 1 [(0, .ref h)] := hl
  refine lv_aload_n hx hb dX0_size_0 rfl (lv_at hl 0 rfl) ?_
  refine va_get (D := (dC, dI)) (ci := 4) (v := .int x) (C := RX0) (T := TX0) (N := 2) hx hb hts (by decide +kernel) hown hK hP 0 rfl rfl 1 (by decide) (hts (.fieldLink RX0 15 "Signrope$Text" "size" "I") (by decide +kernel)) (fun _ h9 => h9) rfl dX0_size_1 ?_
  have hP9 := hP.sub (ws' := [(h, .inr (4, [.ref b, .int x]))]) [0] rfl
  have hD9 := hD.sub (ws' := [(h, .inr (4, [.ref b, .int x]))]) [0] (by decide) rfl
  have hK9 := hK.sub (tys' := []) [] rfl
  exact W.iret (v := x) hx hb hr (fun t ht hW => ⟨⟨x, (), rfl, rfl, by rw [ht]; exact hP9, va_K.moved hW.alike hK9, hD9⟩, hS.F ht⟩) hS.2.2 dX0_size_4
set_option maxHeartbeats 4000000 in
set_option maxRecDepth 100000 in
/-- Text.signAt(j) of a sign that is there -/
theorem kX0_signAt (l : Launch) (dC : Nat → ClassId) (dI : Nat → Nat → Nat) (sz : Nat) (h b : Nat) (cC : ClassId) (k : Nat) (f : Nat → Int32) (j : Nat) (hk : k ≤ 480) (hf : ch_ok f) (hj : j < k) : Met l yX0_signAt wsX0_signAt ({ frames := 0, cells := 0, slots := 0, locals := 0 }) (va_Pc [.ref h, .int (nI j)] (fun U => U.heap.size = sz ∧ va_P (dC, dI) vwCl [(h, .inr (4, [.ref b, .int (nI k)])), (b, .inl (cC, 480, .inl f))] U.heap ∧ va_K (dC, dI) vwCl [(cC, .char)] U ∧ va_D (fun _ => True) [(h, .inr (4, [.ref b, .int (nI k)])), (b, .inl (cC, 480, .inl f))])) (va_Qi (fun (r : Int32) (u : Unit) => r = f j) (fun (u : Unit) (t : State) => va_P (dC, dI) vwCl [(h, .inr (4, [.ref b, .int (nI k)])), (b, .inl (cC, 480, .inl f))] t.heap ∧ va_K (dC, dI) vwCl [(cC, .char)] t ∧ va_D (va_A [(h, .inr (4, [.ref b, .int (nI k)])), (b, .inl (cC, 480, .inl f))] sz) [(h, .inr (4, [.ref b, .int (nI k)])), (b, .inl (cC, 480, .inl f))]) (va_A [(h, .inr (4, [.ref b, .int (nI k)])), (b, .inl (cC, 480, .inl f))] sz)) 0 0 (va_A [(h, .inr (4, [.ref b, .int (nI k)])), (b, .inl (cC, 480, .inl f))] sz) := by
  refine Met.ofW (cc := cX0_signAt) (maxL := 2) (ret := (some .char)) (by decide) rfl ?_
  intro p e s m args below meth c s₁ B hml hv
  obtain ⟨rfl, hsz, hP, hK, hD0⟩ := hv
  have hx := B.exec
  have hb := B.bytes
  have hr := B.returns
  have hts := atoms_spec (ws := wsX0_signAt) B.pre
  have hown : s.vm.findClass RX0 = some m.cls := findClass_of_methodNamed B.named
  have hlocks := B.notSynchronized
  subst hsz
  have hD := hD0.self (sz := s.heap.size)
  generalize hAe : va_A [(h, .inr (4, [.ref b, .int (nI k)])), (b, .inl (cC, 480, .inl f))] s.heap.size = A at hD ⊢
  have hA : ∀ q : Nat, s.heap.size ≤ q → A q := fun q h => by rw [← hAe]; exact Or.inr h
  have hS : va_S A s.heap s.heap [] := va_S.rf
  have hP : va_P (dC, dI) vwCl [(h, .inr (4, [.ref b, .int (nI k)])), (b, .inl (cC, 480, .inl f))] s.heap := hP
  have hl := lv_entry ([.ref h, .int (nI j)]) (n := 2) (Nat.le_of_ble_eq_true rfl)
  rw [lg_entry_eq]
  generalize (lg_sl ([.ref h, .int (nI j)]) ++ List.replicate (2 - (lg_sl ([.ref h, .int (nI j)])).length) Slot.unset).toArray = ls at hl ⊢
  have hl : lv_has ls 2 [(0, .ref h), (1, .int (nI j))] := hl
  refine lv_iload_n hx hb dX0_signAt_0 rfl (lv_at hl 1 rfl) ?_
  refine lv_if_lt (tgt := 12) hx hb dX0_signAt_1 (by decide) (fun c_1 => absurd c_1 (nI_pos (by omega))) (fun c_1 => ?_)
  refine lv_iload_n hx hb dX0_signAt_4 rfl (lv_at hl 1 rfl) ?_
  refine lv_aload_n hx hb dX0_signAt_5 rfl (lv_at hl 0 rfl) ?_
  refine va_get (D := (dC, dI)) (ci := 4) (v := .int (nI k)) (C := RX0) (T := TX0) (N := 2) hx hb hts (by decide +kernel) hown hK hP 0 rfl rfl 1 (by decide) (hts (.fieldLink RX0 15 "Signrope$Text" "size" "I") (by decide +kernel)) (fun _ h9 => h9) rfl dX0_signAt_6 ?_
  refine lv_icmp_lt (tgt := 16) hx hb dX0_signAt_9 (by decide) (fun c_2 => ?_) (fun c_2 => absurd (nI_lt hj (by omega)) c_2)
  refine lv_aload_n hx hb dX0_signAt_16 rfl (lv_at hl 0 rfl) ?_
  refine va_get (D := (dC, dI)) (ci := 4) (v := .ref b) (C := RX0) (T := TX0) (N := 2) hx hb hts (by decide +kernel) hown hK hP 0 rfl rfl 0 (by decide) (hts (.fieldLink RX0 9 "Signrope$Text" "signs" "[C") (by decide +kernel)) (fun _ h9 => h9) rfl dX0_signAt_17 ?_
  refine lv_iload_n hx hb dX0_signAt_20 rfl (lv_at hl 1 rfl) ?_
  have hin_3 : vp_in (nI j) 480 := vp_in_nI (by omega) (by omega)
  refine va_cald hx hb hK hP 1 0 rfl rfl hin_3 dX0_signAt_21 ?_
  refine lv_topi (fun x_4 ex_4 => ?_)
  have er : x_4 = f j := by rw [ex_4, nI_clamp (by omega)]
  have hP9 := hP.sub (ws' := [(h, .inr (4, [.ref b, .int (nI k)])), (b, .inl (cC, 480, .inl f))]) [0, 1] rfl
  have hD9 := hD.sub (ws' := [(h, .inr (4, [.ref b, .int (nI k)])), (b, .inl (cC, 480, .inl f))]) [0, 1] (by decide) rfl
  have hK9 := hK.sub (tys' := [(cC, .char)]) [0] rfl
  exact W.zret (v := x_4) hx hb hr (by rw [er]; exact ch_nar hf j) (fun t ht hW => ⟨⟨x_4, (), rfl, er, by rw [ht]; exact hP9, va_K.moved hW.alike hK9, hD9⟩, hS.F ht⟩) hS.2.2 dX0_signAt_22
set_option maxHeartbeats 4000000 in
set_option maxRecDepth 100000 in
/-- Text.clear() -/
theorem kX0_clear (l : Launch) (dC : Nat → ClassId) (dI : Nat → Nat → Nat) (sz : Nat) (h b : Nat) (x : Int32) : Met l yX0_clear wsX0_clear ({ frames := 0, cells := 0, slots := 0, locals := 0 }) (va_Pc [.ref h] (fun U => U.heap.size = sz ∧ va_P (dC, dI) vwCl [(h, .inr (4, [.ref b, .int x]))] U.heap ∧ va_K (dC, dI) vwCl [] U ∧ va_D (fun _ => True) [(h, .inr (4, [.ref b, .int x]))])) (va_Qv (fun (u : Unit) => True) (fun (u : Unit) (t : State) => va_P (dC, dI) vwCl [(h, .inr (4, [.ref b, .int 0]))] t.heap ∧ va_K (dC, dI) vwCl [] t ∧ va_D (va_A [(h, .inr (4, [.ref b, .int x]))] sz) [(h, .inr (4, [.ref b, .int 0]))]) (va_A [(h, .inr (4, [.ref b, .int x]))] sz)) 0 0 (va_A [(h, .inr (4, [.ref b, .int x]))] sz) := by
  refine Met.ofW (cc := cX0_clear) (maxL := 1) (ret := none) (by decide) rfl ?_
  intro p e s m args below meth c s₁ B hml hv
  obtain ⟨rfl, hsz, hP, hK, hD0⟩ := hv
  have hx := B.exec
  have hb := B.bytes
  have hr := B.returns
  have hts := atoms_spec (ws := wsX0_clear) B.pre
  have hown : s.vm.findClass RX0 = some m.cls := findClass_of_methodNamed B.named
  have hlocks := B.notSynchronized
  subst hsz
  have hD := hD0.self (sz := s.heap.size)
  generalize hAe : va_A [(h, .inr (4, [.ref b, .int x]))] s.heap.size = A at hD ⊢
  have hA : ∀ q : Nat, s.heap.size ≤ q → A q := fun q h => by rw [← hAe]; exact Or.inr h
  have hS : va_S A s.heap s.heap [] := va_S.rf
  have hP : va_P (dC, dI) vwCl [(h, .inr (4, [.ref b, .int x]))] s.heap := hP
  have hl := lv_entry ([.ref h]) (n := 1) (Nat.le_of_ble_eq_true rfl)
  rw [lg_entry_eq]
  generalize (lg_sl ([.ref h]) ++ List.replicate (1 - (lg_sl ([.ref h])).length) Slot.unset).toArray = ls at hl ⊢
  have hl : lv_has ls 1 [(0, .ref h)] := hl
  refine lv_aload_n hx hb dX0_clear_0 rfl (lv_at hl 0 rfl) ?_
  refine lv_iconst (v := 0) hx hb dX0_clear_1 (by decide) ?_
  refine va_put (D := (dC, dI)) (ci := 4) (v := .int 0) (ty := .int) (C := RX0) (T := TX0) (N := 2) hx hb hts (by decide +kernel) tyX0 tyX0_ok nmX0 hown hK hP hD hS 0 rfl rfl 1 (by decide) (hts (.fieldLink RX0 15 "Signrope$Text" "size" "I") (by decide +kernel)) (fun _ h9 => h9) rfl (by decide +kernel) rfl rfl (Nat.le_of_ble_eq_true rfl) dX0_clear_2 (fun H locs hP hD hS => ?_)
  have hP : va_P (dC, dI) vwCl [(h, .inr (4, [.ref b, .int 0]))] H := hP
  have hD : va_D A [(h, .inr (4, [.ref b, .int 0]))] := hD
  have hP9 := hP.sub (ws' := [(h, .inr (4, [.ref b, .int 0]))]) [0] rfl
  have hD9 := hD.sub (ws' := [(h, .inr (4, [.ref b, .int 0]))]) [0] (by decide) rfl
  have hK9 := hK.sub (tys' := []) [] rfl
  exact W.vret hx hb hr (fun t ht hW => ⟨⟨(), rfl, trivial, by rw [ht]; exact hP9, va_K.moved hW.alike hK9, hD9⟩, hS.F ht⟩) hS.2.2 dX0_clear_5
set_option maxHeartbeats 4000000 in
set_option maxRecDepth 100000 in
/-- Text.lay(q) where there is room -/
theorem kX0_lay (l : Launch) (dC : Nat → ClassId) (dI : Nat → Nat → Nat) (sz : Nat) (h b : Nat) (cC : ClassId) (k : Nat) (f : Nat → Int32) (q : Nat) (hk : k < 480) (hq : q < 65536) : Met l yX0_lay wsX0_lay ({ frames := 0, cells := 0, slots := 0, locals := 0 }) (va_Pc [.ref h, .int (nI q)] (fun U => U.heap.size = sz ∧ va_P (dC, dI) vwCl [(h, .inr (4, [.ref b, .int (nI k)])), (b, .inl (cC, 480, .inl f))] U.heap ∧ va_K (dC, dI) vwCl [(cC, .char)] U ∧ va_D (fun _ => True) [(h, .inr (4, [.ref b, .int (nI k)])), (b, .inl (cC, 480, .inl f))])) (va_Qv (fun (u : Unit) => True) (fun (u : Unit) (t : State) => va_P (dC, dI) vwCl [(h, .inr (4, [.ref b, .int (nI (k + 1))])), (b, .inl (cC, 480, .inl (upd f k (nI q))))] t.heap ∧ va_K (dC, dI) vwCl [(cC, .char)] t ∧ va_D (va_A [(h, .inr (4, [.ref b, .int (nI k)])), (b, .inl (cC, 480, .inl f))] sz) [(h, .inr (4, [.ref b, .int (nI (k + 1))])), (b, .inl (cC, 480, .inl (upd f k (nI q))))]) (va_A [(h, .inr (4, [.ref b, .int (nI k)])), (b, .inl (cC, 480, .inl f))] sz)) 0 0 (va_A [(h, .inr (4, [.ref b, .int (nI k)])), (b, .inl (cC, 480, .inl f))] sz) := by
  refine Met.ofW (cc := cX0_lay) (maxL := 2) (ret := none) (by decide) rfl ?_
  intro p e s m args below meth c s₁ B hml hv
  obtain ⟨rfl, hsz, hP, hK, hD0⟩ := hv
  have hx := B.exec
  have hb := B.bytes
  have hr := B.returns
  have hts := atoms_spec (ws := wsX0_lay) B.pre
  have hown : s.vm.findClass RX0 = some m.cls := findClass_of_methodNamed B.named
  have hlocks := B.notSynchronized
  subst hsz
  have hD := hD0.self (sz := s.heap.size)
  generalize hAe : va_A [(h, .inr (4, [.ref b, .int (nI k)])), (b, .inl (cC, 480, .inl f))] s.heap.size = A at hD ⊢
  have hA : ∀ q : Nat, s.heap.size ≤ q → A q := fun q h => by rw [← hAe]; exact Or.inr h
  have hS : va_S A s.heap s.heap [] := va_S.rf
  have hP : va_P (dC, dI) vwCl [(h, .inr (4, [.ref b, .int (nI k)])), (b, .inl (cC, 480, .inl f))] s.heap := hP
  have hl := lv_entry ([.ref h, .int (nI q)]) (n := 2) (Nat.le_of_ble_eq_true rfl)
  rw [lg_entry_eq]
  generalize (lg_sl ([.ref h, .int (nI q)]) ++ List.replicate (2 - (lg_sl ([.ref h, .int (nI q)])).length) Slot.unset).toArray = ls at hl ⊢
  have hl : lv_has ls 2 [(0, .ref h), (1, .int (nI q))] := hl
  refine lv_aload_n hx hb dX0_lay_0 rfl (lv_at hl 0 rfl) ?_
  refine va_get (D := (dC, dI)) (ci := 4) (v := .int (nI k)) (C := RX0) (T := TX0) (N := 2) hx hb hts (by decide +kernel) hown hK hP 0 rfl rfl 1 (by decide) (hts (.fieldLink RX0 15 "Signrope$Text" "size" "I") (by decide +kernel)) (fun _ h9 => h9) rfl dX0_lay_1 ?_
  refine lv_sipush (v := 480) hx hb dX0_lay_4 (by decide) ?_
  refine lv_icmp_ge (tgt := 30) hx hb dX0_lay_7 (by decide) (fun c_5 => absurd c_5 (show ¬ nI 480 ≤ nI k from nI_ge hk (by omega))) (fun c_5 => ?_)
  refine lv_aload_n hx hb dX0_lay_10 rfl (lv_at hl 0 rfl) ?_
  refine va_get (D := (dC, dI)) (ci := 4) (v := .ref b) (C := RX0) (T := TX0) (N := 2) hx hb hts (by decide +kernel) hown hK hP 0 rfl rfl 0 (by decide) (hts (.fieldLink RX0 9 "Signrope$Text" "signs" "[C") (by decide +kernel)) (fun _ h9 => h9) rfl dX0_lay_11 ?_
  refine lv_aload_n hx hb dX0_lay_14 rfl (lv_at hl 0 rfl) ?_
  refine va_get (D := (dC, dI)) (ci := 4) (v := .int (nI k)) (C := RX0) (T := TX0) (N := 2) hx hb hts (by decide +kernel) hown hK hP 0 rfl rfl 1 (by decide) (hts (.fieldLink RX0 15 "Signrope$Text" "size" "I") (by decide +kernel)) (fun _ h9 => h9) rfl dX0_lay_15 ?_
  refine lv_iload_n hx hb dX0_lay_18 rfl (lv_at hl 1 rfl) ?_
  have hin_6 : vp_in (nI k) 480 := vp_in_nI (by omega) (by omega)
  refine va_cast hx hb hK hP hD hS 1 0 rfl rfl hin_6 dX0_lay_19 (fun H locs hP hD hS => ?_)
  obtain ⟨f_7, ef_7⟩ : ∃ z, z = upd f (nI k).toNatClampNeg (vp_nar .char (nI q)) := ⟨_, rfl⟩
  have hP : va_P (dC, dI) vwCl [(h, .inr (4, [.ref b, .int (nI k)])), (b, .inl (cC, 480, .inl f_7))] H := by rw [ef_7]; exact hP
  have hD : va_D A [(h, .inr (4, [.ref b, .int (nI k)])), (b, .inl (cC, 480, .inl f_7))] := by rw [ef_7]; exact hD
  refine lv_aload_n hx hb dX0_lay_20 rfl (lv_at hl 0 rfl) ?_
  refine lv_dup hx hb dX0_lay_21 rfl ?_
  refine va_get (D := (dC, dI)) (ci := 4) (v := .int (nI k)) (C := RX0) (T := TX0) (N := 2) hx hb hts (by decide +kernel) hown hK hP 0 rfl rfl 1 (by decide) (hts (.fieldLink RX0 15 "Signrope$Text" "size" "I") (by decide +kernel)) (fun _ h9 => h9) rfl dX0_lay_22 ?_
  refine lv_iconst (v := 1) hx hb dX0_lay_25 (by decide) ?_
  refine lv_iadd hx hb dX0_lay_26 ?_
  refine lv_topi (fun x_8 ex_8 => ?_)
  refine va_put (D := (dC, dI)) (ci := 4) (v := .int x_8) (ty := .int) (C := RX0) (T := TX0) (N := 2) hx hb hts (by decide +kernel) tyX0 tyX0_ok nmX0 hown hK hP hD hS 0 rfl rfl 1 (by decide) (hts (.fieldLink RX0 15 "Signrope$Text" "size" "I") (by decide +kernel)) (fun _ h9 => h9) rfl (by decide +kernel) rfl rfl (Nat.le_of_ble_eq_true rfl) dX0_lay_27 (fun H locs hP hD hS => ?_)
  have hP : va_P (dC, dI) vwCl [(h, .inr (4, [.ref b, .int x_8])), (b, .inl (cC, 480, .inl f_7))] H := hP
  have hD : va_D A [(h, .inr (4, [.ref b, .int x_8])), (b, .inl (cC, 480, .inl f_7))] := hD
  have eg : f_7 = upd f k (nI q) := by rw [ef_7, nI_clamp (by omega), ch_vp hq]
  have ex : x_8 = nI (k + 1) := by rw [ex_8]; exact nI_1 k
  rw [eg, ex] at hP hD
  have hP9 := hP.sub (ws' := [(h, .inr (4, [.ref b, .int (nI (k + 1))])), (b, .inl (cC, 480, .inl (upd f k (nI q))))]) [0, 1] rfl
  have hD9 := hD.sub (ws' := [(h, .inr (4, [.ref b, .int (nI (k + 1))])), (b, .inl (cC, 480, .inl (upd f k (nI q))))]) [0, 1] (by decide) rfl
  have hK9 := hK.sub (tys' := [(cC, .char)]) [0] rfl
  exact W.vret hx hb hr (fun t ht hW => ⟨⟨(), rfl, trivial, by rw [ht]; exact hP9, va_K.moved hW.alike hK9, hD9⟩, hS.F ht⟩) hS.2.2 dX0_lay_30
set_option maxHeartbeats 4000000 in
set_option maxRecDepth 100000 in
/-- Text.changeAt(j, q) of a sign that is there -/
theorem kX0_changeAt (l : Launch) (dC : Nat → ClassId) (dI : Nat → Nat → Nat) (sz : Nat) (h b : Nat) (cC : ClassId) (k : Nat) (f : Nat → Int32) (j q : Nat) (hk : k ≤ 480) (hj : j < k) (hq : q < 65536) : Met l yX0_changeAt wsX0_changeAt ({ frames := 0, cells := 0, slots := 0, locals := 0 }) (va_Pc [.ref h, .int (nI j), .int (nI q)] (fun U => U.heap.size = sz ∧ va_P (dC, dI) vwCl [(h, .inr (4, [.ref b, .int (nI k)])), (b, .inl (cC, 480, .inl f))] U.heap ∧ va_K (dC, dI) vwCl [(cC, .char)] U ∧ va_D (fun _ => True) [(h, .inr (4, [.ref b, .int (nI k)])), (b, .inl (cC, 480, .inl f))])) (va_Qv (fun (u : Unit) => True) (fun (u : Unit) (t : State) => va_P (dC, dI) vwCl [(h, .inr (4, [.ref b, .int (nI k)])), (b, .inl (cC, 480, .inl (upd f j (nI q))))] t.heap ∧ va_K (dC, dI) vwCl [(cC, .char)] t ∧ va_D (va_A [(h, .inr (4, [.ref b, .int (nI k)])), (b, .inl (cC, 480, .inl f))] sz) [(h, .inr (4, [.ref b, .int (nI k)])), (b, .inl (cC, 480, .inl (upd f j (nI q))))]) (va_A [(h, .inr (4, [.ref b, .int (nI k)])), (b, .inl (cC, 480, .inl f))] sz)) 0 0 (va_A [(h, .inr (4, [.ref b, .int (nI k)])), (b, .inl (cC, 480, .inl f))] sz) := by
  refine Met.ofW (cc := cX0_changeAt) (maxL := 3) (ret := none) (by decide) rfl ?_
  intro p e s m args below meth c s₁ B hml hv
  obtain ⟨rfl, hsz, hP, hK, hD0⟩ := hv
  have hx := B.exec
  have hb := B.bytes
  have hr := B.returns
  have hts := atoms_spec (ws := wsX0_changeAt) B.pre
  have hown : s.vm.findClass RX0 = some m.cls := findClass_of_methodNamed B.named
  have hlocks := B.notSynchronized
  subst hsz
  have hD := hD0.self (sz := s.heap.size)
  generalize hAe : va_A [(h, .inr (4, [.ref b, .int (nI k)])), (b, .inl (cC, 480, .inl f))] s.heap.size = A at hD ⊢
  have hA : ∀ q : Nat, s.heap.size ≤ q → A q := fun q h => by rw [← hAe]; exact Or.inr h
  have hS : va_S A s.heap s.heap [] := va_S.rf
  have hP : va_P (dC, dI) vwCl [(h, .inr (4, [.ref b, .int (nI k)])), (b, .inl (cC, 480, .inl f))] s.heap := hP
  have hl := lv_entry ([.ref h, .int (nI j), .int (nI q)]) (n := 3) (Nat.le_of_ble_eq_true rfl)
  rw [lg_entry_eq]
  generalize (lg_sl ([.ref h, .int (nI j), .int (nI q)]) ++ List.replicate (3 - (lg_sl ([.ref h, .int (nI j), .int (nI q)])).length) Slot.unset).toArray = ls at hl ⊢
  have hl : lv_has ls 3 [(0, .ref h), (1, .int (nI j)), (2, .int (nI q))] := hl
  refine lv_iload_n hx hb dX0_changeAt_0 rfl (lv_at hl 1 rfl) ?_
  refine lv_if_lt (tgt := 19) hx hb dX0_changeAt_1 (by decide) (fun c_9 => absurd c_9 (nI_pos (by omega))) (fun c_9 => ?_)
  refine lv_iload_n hx hb dX0_changeAt_4 rfl (lv_at hl 1 rfl) ?_
  refine lv_aload_n hx hb dX0_changeAt_5 rfl (lv_at hl 0 rfl) ?_
  refine va_get (D := (dC, dI)) (ci := 4) (v := .int (nI k)) (C := RX0) (T := TX0) (N := 2) hx hb hts (by decide +kernel) hown hK hP 0 rfl rfl 1 (by decide) (hts (.fieldLink RX0 15 "Signrope$Text" "size" "I") (by decide +kernel)) (fun _ h9 => h9) rfl dX0_changeAt_6 ?_
  refine lv_icmp_ge (tgt := 19) hx hb dX0_changeAt_9 (by decide) (fun c_10 => absurd c_10 (nI_ge hj (by omega))) (fun c_10 => ?_)
  refine lv_aload_n hx hb dX0_changeAt_12 rfl (lv_at hl 0 rfl) ?_
  refine va_get (D := (dC, dI)) (ci := 4) (v := .ref b) (C := RX0) (T := TX0) (N := 2) hx hb hts (by decide +kernel) hown hK hP 0 rfl rfl 0 (by decide) (hts (.fieldLink RX0 9 "Signrope$Text" "signs" "[C") (by decide +kernel)) (fun _ h9 => h9) rfl dX0_changeAt_13 ?_
  refine lv_iload_n hx hb dX0_changeAt_16 rfl (lv_at hl 1 rfl) ?_
  refine lv_iload_n hx hb dX0_changeAt_17 rfl (lv_at hl 2 rfl) ?_
  have hin_11 : vp_in (nI j) 480 := vp_in_nI (by omega) (by omega)
  refine va_cast hx hb hK hP hD hS 1 0 rfl rfl hin_11 dX0_changeAt_18 (fun H locs hP hD hS => ?_)
  obtain ⟨f_12, ef_12⟩ : ∃ z, z = upd f (nI j).toNatClampNeg (vp_nar .char (nI q)) := ⟨_, rfl⟩
  have hP : va_P (dC, dI) vwCl [(h, .inr (4, [.ref b, .int (nI k)])), (b, .inl (cC, 480, .inl f_12))] H := by rw [ef_12]; exact hP
  have hD : va_D A [(h, .inr (4, [.ref b, .int (nI k)])), (b, .inl (cC, 480, .inl f_12))] := by rw [ef_12]; exact hD
  have eg : f_12 = upd f j (nI q) := by rw [ef_12, nI_clamp (by omega), ch_vp hq]
  rw [eg] at hP hD
  have hP9 := hP.sub (ws' := [(h, .inr (4, [.ref b, .int (nI k)])), (b, .inl (cC, 480, .inl (upd f j (nI q))))]) [0, 1] rfl
  have hD9 := hD.sub (ws' := [(h, .inr (4, [.ref b, .int (nI k)])), (b, .inl (cC, 480, .inl (upd f j (nI q))))]) [0, 1] (by decide) rfl
  have hK9 := hK.sub (tys' := [(cC, .char)]) [0] rfl
  exact W.vret hx hb hr (fun t ht hW => ⟨⟨(), rfl, trivial, by rw [ht]; exact hP9, va_K.moved hW.alike hK9, hD9⟩, hS.F ht⟩) hS.2.2 dX0_changeAt_19
