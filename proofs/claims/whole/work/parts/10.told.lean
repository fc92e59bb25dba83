/-! StringBuilder.toString; SignropeModel.told, and what it makes. -/
set_option maxHeartbeats 4000000 in
set_option maxRecDepth 100000 in
/-- StringBuilder.toString() -/
theorem kJ4_toString_0e30d (l : Launch) (dC : Nat → ClassId) (dI : Nat → Nat → Nat) (sz : Nat) (h v : Nat) (ml : Int32) (cB : ClassId) (n cp : Nat) (f : Nat → Int32) (hn : n ≤ cp) (hm : cp ≤ 65536) (hf : sb_Fit f) : Met l yJ4_toString_0e30d wsJ4_toString_0e30d ({ frames := 5, cells := 2, slots := 4 + n, locals := 151 }) (va_Pc [.ref h] (fun U => U.heap.size = sz ∧ va_P (dC, dI) vwCl [(h, .inr (1, [.ref v, .int 0, .int ml, .int (nI n)])), (v, .inl (cB, cp, .inl f))] U.heap ∧ va_K (dC, dI) vwCl [(cB, .byte)] U ∧ va_D (fun _ => True) [(h, .inr (1, [.ref v, .int 0, .int ml, .int (nI n)])), (v, .inl (cB, cp, .inl f))] ∧ jz (va_A [(h, .inr (1, [.ref v, .int 0, .int ml, .int (nI n)])), (v, .inl (cB, cp, .inl f))] sz) U U.heap)) (va_Qr (fun (u : Nat × ClassId × (Nat → Int32)) => match u with | (v2, cA, g) => sb_Fit g ∧ ∀ j, j < n → g j = f j) (fun (u : Nat × ClassId × (Nat → Int32)) (ra : Nat) (t : State) => match u with | (v2, cA, g) => (sz ≤ ra ∧ sz ≤ v2) ∧ va_P (dC, dI) vwCl [(ra, .inr (0, [.ref v2, .int 0, .int 0, .int 0])), (v2, .inl (cA, n, .inl g)), (h, .inr (1, [.ref v, .int 0, .int ml, .int (nI n)])), (v, .inl (cB, cp, .inl f))] t.heap ∧ va_K (dC, dI) vwCl [(cA, .byte), (cB, .byte)] t ∧ va_D (va_A [(h, .inr (1, [.ref v, .int 0, .int ml, .int (nI n)])), (v, .inl (cB, cp, .inl f))] sz) [(ra, .inr (0, [.ref v2, .int 0, .int 0, .int 0])), (v2, .inl (cA, n, .inl g)), (h, .inr (1, [.ref v, .int 0, .int ml, .int (nI n)])), (v, .inl (cB, cp, .inl f))]) (va_A [(h, .inr (1, [.ref v, .int 0, .int ml, .int (nI n)])), (v, .inl (cB, cp, .inl f))] sz)) 2 (4 + n) (va_A [(h, .inr (1, [.ref v, .int 0, .int ml, .int (nI n)])), (v, .inl (cB, cp, .inl f))] sz) := by
  refine Met.ofW (cc := cJ4_toString_0e30d) (maxL := 1) (ret := (some (.object "java/lang/String"))) (by decide) rfl ?_
  intro p e s m args below meth c s₁ B hml hv
  obtain ⟨rfl, hsz, hP, hK, hD0, hZ⟩ := hv
  have hx := B.exec
  have hb := B.bytes
  have hr := B.returns
  have hts := atoms_spec (ws := wsJ4_toString_0e30d) B.pre
  have hown : s.vm.findClass RJ4 = some m.cls := findClass_of_methodNamed B.named
  have hlocks := B.notSynchronized
  subst hsz
  have hD := hD0.self (sz := s.heap.size)
  generalize hAe : va_A [(h, .inr (1, [.ref v, .int 0, .int ml, .int (nI n)])), (v, .inl (cB, cp, .inl f))] s.heap.size = A at hD hZ ⊢
  have hA : ∀ q : Nat, s.heap.size ≤ q → A q := fun q h => by rw [← hAe]; exact Or.inr h
  have hS : va_S A s.heap s.heap [] := va_S.rf
  have hP : va_P (dC, dI) vwCl [(h, .inr (1, [.ref v, .int 0, .int ml, .int (nI n)])), (v, .inl (cB, cp, .inl f))] s.heap := hP
  have hl := lv_entry ([.ref h]) (n := 1) (Nat.le_of_ble_eq_true rfl)
  rw [lg_entry_eq]
  generalize (lg_sl ([.ref h]) ++ List.replicate (1 - (lg_sl ([.ref h])).length) Slot.unset).toArray = ls at hl ⊢
  have hl : lv_has ls 1 [(0, .ref h)] := hl
  refine va_new (ci := 0) (fs := [.null, .int 0, .int 0, .int 0]) (C := RJ0) (T := TJ0) (N := 4) hx hb hts (by decide +kernel) tyJ0 tyJ0_ok hown (hts (.classLink RJ4 18 RJ0) (by decide +kernel)) (hts (.instantiable RJ0 4) (by decide +kernel)) (hts (.initialized RJ0) (by decide +kernel)) hK hP hD hS hA rfl (fun j hj => by rcases (show j = 0 ∨ j = 1 ∨ j = 2 ∨ j = 3 by omega) with rfl | rfl | rfl | rfl <;> rfl) (by show 0 + 1 ≤ 2; omega) (by show 0 + 4 ≤ (4 + n); omega) dJ4_toString_0e30d_0 (fun q_100 H hP hD hS => ?_)
  have hP : va_P (dC, dI) vwCl [(h, .inr (1, [.ref v, .int 0, .int ml, .int (nI n)])), (v, .inl (cB, cp, .inl f)), (q_100, .inr (0, [.null, .int 0, .int 0, .int 0]))] H := hP
  have hD : va_D A [(h, .inr (1, [.ref v, .int 0, .int ml, .int (nI n)])), (v, .inl (cB, cp, .inl f)), (q_100, .inr (0, [.null, .int 0, .int 0, .int 0]))] := hD
  have hfr1 : s.heap.size ≤ q_100 := va_new_ge hAe hD 2 [0, 1] rfl rfl (by decide)
  refine lv_dup hx hb dJ4_toString_0e30d_3 rfl ?_
  refine lv_aload_n hx hb dJ4_toString_0e30d_4 rfl (lv_at hl 0 rfl) ?_
  have hS0 := hS
  have hPc := hP.sub (ws' := [(q_100, .inr (0, [.null, .int 0, .int 0, .int 0])), (h, .inr (1, [.ref v, .int 0, .int ml, .int (nI n)])), (v, .inl (cB, cp, .inl f))]) [2, 0, 1] rfl
  have hDc := hD.sub (ws' := [(q_100, .inr (0, [.null, .int 0, .int 0, .int 0])), (h, .inr (1, [.ref v, .int 0, .int ml, .int (nI n)])), (v, .inl (cB, cp, .inl f))]) [2, 0, 1] (by decide) rfl
  have hKc := hK.sub (tys' := [(cB, .byte)]) [0] rfl
  have hFc := va_free (wc := [(q_100, .inr (0, [.null, .int 0, .int 0, .int 0])), (h, .inr (1, [.ref v, .int 0, .int ml, .int (nI n)])), (v, .inl (cB, cp, .inl f))]) hD hS hA [2, 0, 1] rfl
  refine va_callv (va_runI (As := [.ref h]) (rest := [.ref q_100]) ⟨hx, hb, hml, hown, hts⟩ (kJ0_init_81219 l dC dI H.size q_100 h v 0 0 0 ml cB n cp f hn hm hf) (cwI 1 hts gJ4_toString_0e30d_J0_init_81219 rfl rfl rfl (hts (.initialized RJ0) (by decide +kernel)) (hts (.methodLink RJ4 137 yJ0_init_81219) (by decide +kernel)) (hts (.instanceMethod yJ0_init_81219) (by decide +kernel)) rfl (by decide +kernel) ⟨Nat.le_of_ble_eq_true rfl, Nat.le_of_ble_eq_true rfl⟩) ⟨fun a U g mk q => by obtain ⟨q0, q1, qP, qK, qD, qE0⟩ := q; exact ⟨q0, q1, qP, va_K.moved (u := U) (U := U.calling g mk a) (Vm.Alike.refl U.vm) qK, qD, jz.call qE0⟩, fun U hU hW => ⟨rfl, by rw [hU], by rw [hU]; exact hPc, va_K.moved hW.alike hKc, hDc.weaken (fun _ _ _ _ => trivial), jz.pass hZ hS hFc hW hU⟩⟩ rfl rfl hl.1 rfl (lv_room (Nat.le_of_ble_eq_true rfl)) dJ4_toString_0e30d_5 ⟨(by show 0 + 1 + 1 ≤ 2; omega), (by show 0 + 4 + n ≤ (4 + n); omega)⟩) hS (fun q _ h => hFc q h) hFc (fun u t H1 locs ht hvm hg hB hz1 hk1 hS => ?_)
  obtain ⟨v2, cA, g⟩ := u
  try dsimp only at hB
  try dsimp only at hg
  obtain ⟨hfr, hP1, hK1, hD1⟩ := hB
  rw [ht] at hP1
  have hK1 := va_K.moved hvm.symm hK1
  obtain ⟨hP, hD⟩ := va_join (wr := []) (w1 := [(q_100, .inr (0, [.ref v2, .int 0, .int 0, .int 0])), (v2, .inl (cA, n, .inl g)), (h, .inr (1, [.ref v, .int 0, .int ml, .int (nI n)])), (v, .inl (cB, cp, .inl f))]) hP hD [2, 0, 1] [] rfl rfl (by decide) (by decide) hk1 hFc hP1 hD1
  have hK := (hK.sub (tys' := []) [] rfl).app hK1
  generalize H1 = H at hP hS ⊢
  have hP : va_P (dC, dI) vwCl [(q_100, .inr (0, [.ref v2, .int 0, .int 0, .int 0])), (v2, .inl (cA, n, .inl g)), (h, .inr (1, [.ref v, .int 0, .int ml, .int (nI n)])), (v, .inl (cB, cp, .inl f))] H := hP
  have hD : va_D A [(q_100, .inr (0, [.ref v2, .int 0, .int 0, .int 0])), (v2, .inl (cA, n, .inl g)), (h, .inr (1, [.ref v, .int 0, .int ml, .int (nI n)])), (v, .inl (cB, cp, .inl f))] := hD
  have hK : va_K (dC, dI) vwCl [(cA, .byte), (cB, .byte)] s := hK
  have hfr := Nat.le_trans hS0.1 hfr
  have hP9 := hP.sub (ws' := [(q_100, .inr (0, [.ref v2, .int 0, .int 0, .int 0])), (v2, .inl (cA, n, .inl g)), (h, .inr (1, [.ref v, .int 0, .int ml, .int (nI n)])), (v, .inl (cB, cp, .inl f))]) [0, 1, 2, 3] rfl
  have hD9 := hD.sub (ws' := [(q_100, .inr (0, [.ref v2, .int 0, .int 0, .int 0])), (v2, .inl (cA, n, .inl g)), (h, .inr (1, [.ref v, .int 0, .int ml, .int (nI n)])), (v, .inl (cB, cp, .inl f))]) [0, 1, 2, 3] (by decide) rfl
  have hK9 := hK.sub (tys' := [(cA, .byte), (cB, .byte)]) [0, 1] rfl
  refine W.widen (k := 2) (n := 4 + n) (by omega) (by omega) ?_
  exact W.aret (v := .ref q_100) hx hb hr (Or.inl ⟨_, rfl⟩) (Or.inr ⟨_, rfl⟩) (fun t ht hW => ⟨⟨(v2, cA, g), q_100, rfl, hg, ⟨hfr1, hfr⟩, by rw [ht]; exact hP9, va_K.moved hW.alike hK9, hD9⟩, hS.F ht⟩) hS.2.2 dJ4_toString_0e30d_8
