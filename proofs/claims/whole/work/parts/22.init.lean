/-! The three objects that the law makes. -/
def jo (U : State) : Prop := va_AO "Signrope$Text" U
theorem jo.call {U : State} {g : JFrame} {mk : MethodId} {a : Array Value} (h : jo U) : jo (U.calling g mk a) := va_AO.moved (u := U) (U := U.calling g mk a) (Vm.Alike.refl U.vm) h
theorem jo.pass {s U : State} (h : jo s) (hW : s.WarmedH U.vm) : jo U := va_AO.moved hW.alike h
def jmp (comp : ClassId) (x : Class) : Bool := match x.kind with | .array component _ => component == comp | _ => false
theorem jm_idx (vm : Vm) (comp : ClassId) : (vm.bare.classes.findIdx? (jmp comp)) = (vm.classes.findIdx? (jmp comp)) := by
  simp only [Vm.bare, Array.findIdx?_map]
  rfl
def jm (U : State) : Prop := va_AOA .int U
theorem jm_spec {U : State} (h : jm U) : ∃ comp c k, U.vm.findClass (FieldType.array .int).toString = some comp ∧ U.vm.classes.findIdx? (jmp comp) = some c ∧ U.vm.classes[c]? = some k ∧ k.kind = .array comp (.array .int) ∧ U.vm.findClass ("[" ++ (FieldType.array .int).toString) = some c := by
  have h : (Cond.arrayOver (.array .int)).holds #[] U none U [] = true := h
  simp only [Cond.holds, Cond.value, beq_iff_eq] at h
  cases hc : U.vm.findClass (FieldType.array .int).toString with
  | none => simp [hc] at h
  | some comp =>
    simp only [hc, Option.bind_some, Option.bind_eq_some_iff, Option.map_eq_some_iff] at h
    obtain ⟨c, hi, k, hk, hb⟩ := h
    obtain ⟨hlt, hp, -⟩ := Array.findIdx?_eq_some_iff_getElem.mp hi
    have hkk : U.vm.classes[c] = k := (Array.getElem?_eq_some_iff.mp hk).2
    rw [hkk] at hp
    cases hkind : k.kind with
    | array component ty =>
      rw [hkind] at hb hp
      simp at hb hp
      exact ⟨comp, c, k, rfl, hi, hk, by rw [hkind, hp, hb.1], hb.2⟩
    | _ => rw [hkind] at hb; simp at hb
theorem jm.moved {u U : State} (hvm : u.vm.Alike U.vm) (h : jm u) : jm U := by
  obtain ⟨comp, c, k, h1, h2, h3, h4, h5⟩ := jm_spec h
  obtain ⟨k', hk', he⟩ := hvm.2.2 _ _ h3
  have hi : U.vm.classes.findIdx? (jmp comp) = some c := by
    rw [← jm_idx]
    first | rw [hvm.bare_eq] | rw [← hvm.bare_eq]
    rw [jm_idx]
    exact h2
  have hkind : k'.kind = .array comp (.array .int) := by rw [he]; exact h4
  have f1 : U.vm.findClass (FieldType.array .int).toString = some comp := by rw [hvm.findClass]; exact h1
  have f2 : U.vm.findClass ("[" ++ (FieldType.array .int).toString) = some c := by rw [hvm.findClass]; exact h5
  show (Cond.arrayOver (.array .int)).holds #[] U none U [] = true
  simp only [Cond.holds, Cond.value, beq_iff_eq]
  rw [f1, Option.bind_some]
  refine (congrArg (fun o : Option Nat => o.bind (fun c => (U.vm.classes[c]?).map fun (k : Class) => match k.kind with | .array _ ty => decide (ty = FieldType.array .int) && decide (U.vm.findClass ("[" ++ (FieldType.array .int).toString) = some c) | _ => false)) hi).trans ?_
  simp [hk', hkind, f2]
theorem jm.call {U : State} {g : JFrame} {mk : MethodId} {a : Array Value} (h : jm U) : jm (U.calling g mk a) := jm.moved (u := U) (U := U.calling g mk a) (Vm.Alike.refl U.vm) h
theorem jm.pass {s U : State} (h : jm s) (hW : s.WarmedH U.vm) : jm U := jm.moved hW.alike h
set_option maxHeartbeats 4000000 in
set_option maxRecDepth 100000 in
/-- Out() -/
theorem kX2_init (l : Launch) (dC : Nat → ClassId) (dI : Nat → Nat → Nat) (sz : Nat) (h so : Nat) (x : Int64) (q : Value) : Met l yX2_init wsX2_init ({ frames := 1, cells := 0, slots := 0, locals := 12 }) (va_Pc [.ref h] (fun U => U.heap.size = sz ∧ va_P (dC, dI) vwCl [(h, .inr (6, [.long x, q]))] U.heap ∧ va_K (dC, dI) vwCl [] U ∧ va_D (fun _ => True) [(h, .inr (6, [.long x, q]))])) (va_Qv (fun (u : Unit) => True) (fun (u : Unit) (t : State) => va_P (dC, dI) vwCl [(h, .inr (6, [.long x, q]))] t.heap ∧ va_K (dC, dI) vwCl [] t ∧ va_D (va_A [(h, .inr (6, [.long x, q]))] sz) [(h, .inr (6, [.long x, q]))]) (va_A [(h, .inr (6, [.long x, q]))] sz)) 0 0 (va_A [(h, .inr (6, [.long x, q]))] sz) := by
  refine Met.ofW (cc := cX2_init) (maxL := 1) (ret := none) (by decide) rfl ?_
  intro p e s m args below meth c s₁ B hml hv
  obtain ⟨rfl, hsz, hP, hK, hD0⟩ := hv
  have hx := B.exec
  have hb := B.bytes
  have hr := B.returns
  have hts := atoms_spec (ws := wsX2_init) B.pre
  have hown : s.vm.findClass RX2 = some m.cls := findClass_of_methodNamed B.named
  have hlocks := B.notSynchronized
  have hin : meth.name = "<init>" := (name_of_methodNamed B.named B.method).1
  subst hsz
  have hD := hD0.self (sz := s.heap.size)
  generalize hAe : va_A [(h, .inr (6, [.long x, q]))] s.heap.size = A at hD ⊢
  have hA : ∀ q : Nat, s.heap.size ≤ q → A q := fun q h => by rw [← hAe]; exact Or.inr h
  have hS : va_S A s.heap s.heap [] := va_S.rf
  have hP : va_P (dC, dI) vwCl [(h, .inr (6, [.long x, q]))] s.heap := hP
  have hl := lv_entry ([.ref h]) (n := 1) (Nat.le_of_ble_eq_true rfl)
  rw [lg_entry_eq]
  generalize (lg_sl ([.ref h]) ++ List.replicate (1 - (lg_sl ([.ref h])).length) Slot.unset).toArray = ls at hl ⊢
  have hl : lv_has ls 1 [(0, .ref h)] := hl
  refine lv_aload_n hx hb dX2_init_0 rfl (lv_at hl 0 rfl) ?_
  refine W.objInit hx hb hown (hts (.methodLink RX2 1 objectInit) (by decide +kernel)) (hts (.instanceMethod objectInit) (by decide +kernel)) (hts _ (by decide +kernel)) rfl (by rw [hml]; exact hl.1) rfl dX2_init_1 (Nat.le_of_ble_eq_true rfl) (Nat.le_of_ble_eq_true rfl) ?_
  refine W.eq (g2 := F0 m 4 ls []) rfl ?_
  have hP9 := hP.sub (ws' := [(h, .inr (6, [.long x, q]))]) [0] rfl
  have hD9 := hD.sub (ws' := [(h, .inr (6, [.long x, q]))]) [0] (by decide) rfl
  have hK9 := hK.sub (tys' := []) [] rfl
  exact W.vret hx hb hr (fun t ht hW => ⟨⟨(), rfl, trivial, by rw [ht]; exact hP9, va_K.moved hW.alike hK9, hD9⟩, hS.F ht⟩) hS.2.2 dX2_init_4
set_option maxHeartbeats 4000000 in
set_option maxRecDepth 100000 in
/-- Signrope() -/
theorem kX1_init (l : Launch) (dC : Nat → ClassId) (dI : Nat → Nat → Nat) (sz : Nat) (hX : Nat) (kn rf ac : Int32) : Met l yX1_init wsX1_init ({ frames := 2, cells := 17, slots := 3860, locals := 32 }) (va_Pc [.ref hX] (fun U => U.heap.size = sz ∧ va_P (dC, dI) vwCl [(hX, .inr (5, [.null, .null, .null, .null, .null, .int kn, .int rf, .int ac]))] U.heap ∧ va_K (dC, dI) vwCl [] U ∧ va_D (fun _ => True) [(hX, .inr (5, [.null, .null, .null, .null, .null, .int kn, .int rf, .int ac]))] ∧ jo U)) (va_Qv (fun (u : Nat × Nat × Nat × Nat × Nat × Nat × Nat × ClassId × ClassId × (Nat → Option Nat)) => match u with | (rp, u1, u2, u3, u4, t0, b0, cR, cC, fR) => fR 0 = some t0) (fun (u : Nat × Nat × Nat × Nat × Nat × Nat × Nat × ClassId × ClassId × (Nat → Option Nat)) (t : State) => match u with | (rp, u1, u2, u3, u4, t0, b0, cR, cC, fR) => va_P (dC, dI) vwCl [(hX, .inr (5, [.ref rp, .ref u1, .ref u2, .ref u3, .ref u4, .int kn, .int rf, .int ac])), (rp, .inl (cR, 4, .inr (.inr (.inr (.inr fR))))), (t0, .inr (4, [.ref b0, .int (nI 0)])), (b0, .inl (cC, 480, .inl (fun _ => 0)))] t.heap ∧ va_K (dC, dI) vwCl [(cR, .object "Signrope$Text"), (cC, .char)] t ∧ va_D (va_A [(hX, .inr (5, [.null, .null, .null, .null, .null, .int kn, .int rf, .int ac]))] sz) [(hX, .inr (5, [.ref rp, .ref u1, .ref u2, .ref u3, .ref u4, .int kn, .int rf, .int ac])), (rp, .inl (cR, 4, .inr (.inr (.inr (.inr fR))))), (t0, .inr (4, [.ref b0, .int (nI 0)])), (b0, .inl (cC, 480, .inl (fun _ => 0)))]) (va_A [(hX, .inr (5, [.null, .null, .null, .null, .null, .int kn, .int rf, .int ac]))] sz)) 17 3860 (va_A [(hX, .inr (5, [.null, .null, .null, .null, .null, .int kn, .int rf, .int ac]))] sz) := by
  refine Met.ofW (cc := cX1_init) (maxL := 2) (ret := none) (by decide) rfl ?_
  intro p e s m args below meth c s₁ B hml hv
  obtain ⟨rfl, hsz, hP, hK, hD0, hJ⟩ := hv
  have hx := B.exec
  have hb := B.bytes
  have hr := B.returns
  have hts := atoms_spec (ws := wsX1_init) B.pre
  have hown : s.vm.findClass RX1 = some m.cls := findClass_of_methodNamed B.named
  have hlocks := B.notSynchronized
  have hin : meth.name = "<init>" := (name_of_methodNamed B.named B.method).1
  subst hsz
  have hD := hD0.self (sz := s.heap.size)
  generalize hAe : va_A [(hX, .inr (5, [.null, .null, .null, .null, .null, .int kn, .int rf, .int ac]))] s.heap.size = A at hD ⊢
  have hA : ∀ q : Nat, s.heap.size ≤ q → A q := fun q h => by rw [← hAe]; exact Or.inr h
  have hS : va_S A s.heap s.heap [] := va_S.rf
  have hP : va_P (dC, dI) vwCl [(hX, .inr (5, [.null, .null, .null, .null, .null, .int kn, .int rf, .int ac]))] s.heap := hP
  have hl := lv_entry ([.ref hX]) (n := 2) (Nat.le_of_ble_eq_true rfl)
  rw [lg_entry_eq]
  generalize (lg_sl ([.ref hX]) ++ List.replicate (2 - (lg_sl ([.ref hX])).length) Slot.unset).toArray = ls at hl ⊢
  have hl : lv_has ls 2 [(0, .ref hX)] := hl
  refine lv_aload_n hx hb dX1_init_0 rfl (lv_at hl 0 rfl) ?_
  refine W.objInit hx hb hown (hts (.methodLink RX1 3 objectInit) (by decide +kernel)) (hts (.instanceMethod objectInit) (by decide +kernel)) (hts _ (by decide +kernel)) rfl (by rw [hml]; exact hl.1) rfl dX1_init_1 (Nat.le_of_ble_eq_true rfl) (Nat.le_of_ble_eq_true rfl) ?_
  refine W.eq (g2 := F0 m 4 ls []) rfl ?_
  refine lv_aload_n hx hb dX1_init_4 rfl (lv_at hl 0 rfl) ?_
  refine lv_iconst (v := 4) hx hb dX1_init_5 (by decide) ?_
  refine va_newq (N' := 4) hx hb hown (hts (.classLink RX1 9 RX0) (by decide +kernel)) hJ hK hP hD hS hA (show ¬ nI 4 < 0 from nI_pos (by omega)) (show (nI 4).toNatClampNeg = 4 from nI_clamp (by omega)) (by omega) (by show 0 + 1 ≤ 17; omega) (by show 0 + 4 ≤ 3860; omega) dX1_init_6 (fun q_260 cA_261 H hK hP hD hS => ?_)
  have hP : va_P (dC, dI) vwCl [(hX, .inr (5, [.null, .null, .null, .null, .null, .int kn, .int rf, .int ac])), (q_260, .inl (cA_261, 4, .inr (.inr (.inr (.inr (fun _ => none))))))] H := hP
  have hD : va_D A [(hX, .inr (5, [.null, .null, .null, .null, .null, .int kn, .int rf, .int ac])), (q_260, .inl (cA_261, 4, .inr (.inr (.inr (.inr (fun _ => none))))))] := hD
  have hK : va_K (dC, dI) vwCl [(cA_261, .object "Signrope$Text")] s := hK
  refine va_putF (D := (dC, dI)) (ci := 5) (v := .ref q_260) (ty := (.array (.object "Signrope$Text"))) (C := RX1) (T := TX1) (N := 8) hx hb hts (by decide +kernel) tyX1 tyX1_ok nmX1 hown hK hP hD hS 0 rfl rfl 0 (by decide) (hts (.fieldLink RX1 11 "Signrope" "ropes" "[LSignrope$Text;") (by decide +kernel)) (fun _ h9 => h9) rfl hin rfl (by decide +kernel) rfl rfl (Nat.le_of_ble_eq_true rfl) dX1_init_9 (fun H locs hP hD hS => ?_)
  have hP : va_P (dC, dI) vwCl [(hX, .inr (5, [.ref q_260, .null, .null, .null, .null, .int kn, .int rf, .int ac])), (q_260, .inl (cA_261, 4, .inr (.inr (.inr (.inr (fun _ => none))))))] H := hP
  have hD : va_D A [(hX, .inr (5, [.ref q_260, .null, .null, .null, .null, .int kn, .int rf, .int ac])), (q_260, .inl (cA_261, 4, .inr (.inr (.inr (.inr (fun _ => none))))))] := hD
  refine lv_iconst (v := 0) hx hb dX1_init_12 (by decide) ?_
  refine lv_istore_n (lv' := [(1, .int 0), (0, .ref hX)]) hx hb dX1_init_13 rfl hl (by decide) rfl (fun ls hl => ?_)
  refine lv_iload_n hx hb dX1_init_14 rfl (lv_at hl 0 rfl) ?_
  refine lv_iconst (v := 4) hx hb dX1_init_15 (by decide) ?_
  refine lv_icmp_ge (tgt := 38) hx hb dX1_init_16 (by decide) (fun c_262 => absurd c_262 (by decide)) (fun c_262 => ?_)
  refine lv_aload_n hx hb dX1_init_19 rfl (lv_at hl 1 rfl) ?_
  refine va_get (D := (dC, dI)) (ci := 5) (v := .ref q_260) (C := RX1) (T := TX1) (N := 8) hx hb hts (by decide +kernel) hown hK hP 0 rfl rfl 0 (by decide) (hts (.fieldLink RX1 11 "Signrope" "ropes" "[LSignrope$Text;") (by decide +kernel)) (fun _ h9 => h9) rfl dX1_init_20 ?_
  refine lv_iload_n hx hb dX1_init_23 rfl (lv_at hl 0 rfl) ?_
  refine va_new (ci := 4) (fs := [.null, .int 0]) (C := RX0) (T := TX0) (N := 2) hx hb hts (by decide +kernel) tyX0 tyX0_ok hown (hts (.classLink RX1 9 RX0) (by decide +kernel)) (hts (.instantiable RX0 2) (by decide +kernel)) (hts (.initialized RX0) (by decide +kernel)) hK hP hD hS hA rfl (fun j hj => by rcases (show j = 0 ∨ j = 1 by omega) with rfl | rfl <;> rfl) (by show 0 + 1 + 1 ≤ 17; omega) (by show 0 + 4 + 2 ≤ 3860; omega) dX1_init_24 (fun q_263 H hP hD hS => ?_)
  have hP : va_P (dC, dI) vwCl [(hX, .inr (5, [.ref q_260, .null, .null, .null, .null, .int kn, .int rf, .int ac])), (q_260, .inl (cA_261, 4, .inr (.inr (.inr (.inr (fun _ => none)))))), (q_263, .inr (4, [.null, .int 0]))] H := hP
  have hD : va_D A [(hX, .inr (5, [.ref q_260, .null, .null, .null, .null, .int kn, .int rf, .int ac])), (q_260, .inl (cA_261, 4, .inr (.inr (.inr (.inr (fun _ => none)))))), (q_263, .inr (4, [.null, .int 0]))] := hD
  refine lv_dup hx hb dX1_init_27 rfl ?_
  have hPc := hP.sub (ws' := [(q_263, .inr (4, [.null, .int 0]))]) [2] rfl
  have hDc := hD.sub (ws' := [(q_263, .inr (4, [.null, .int 0]))]) [2] (by decide) rfl
  have hKc := hK.sub (tys' := []) [] rfl
  have hFc := va_free (wc := [(q_263, .inr (4, [.null, .int 0]))]) hD hS hA [2] rfl
  refine va_callv (va_runI (As := []) (rest := [.ref q_263, .int 0, .ref q_260]) ⟨hx, hb, hml, hown, hts⟩ (kX0_init l dC dI H.size q_263 0) (cwI 0 hts gX1_init_X0_init rfl rfl rfl (hts (.initialized RX0) (by decide +kernel)) (hts (.methodLink RX1 15 yX0_init) (by decide +kernel)) (hts (.instanceMethod yX0_init) (by decide +kernel)) rfl (by decide +kernel) ⟨Nat.le_of_ble_eq_true rfl, Nat.le_of_ble_eq_true rfl⟩) ⟨fun a U g mk q => by obtain ⟨q0, q1, qP, qK, qD⟩ := q; exact ⟨q0, q1, qP, va_K.moved (u := U) (U := U.calling g mk a) (Vm.Alike.refl U.vm) qK, qD⟩, fun U hU hW => ⟨rfl, by rw [hU], by rw [hU]; exact hPc, va_K.moved hW.alike hKc, hDc.weaken (fun _ _ _ _ => trivial)⟩⟩ rfl rfl hl.1 rfl (lv_room (Nat.le_of_ble_eq_true rfl)) dX1_init_28 ⟨(by show 0 + 1 + 1 + 1 ≤ 17; omega), (by show 0 + 4 + 2 + 480 ≤ 3860; omega)⟩) hS (fun q _ h => hFc q h) hFc (fun u t H1 locs ht hvm hw_266 hB hz1 hk1 hS => ?_)
  obtain ⟨b_264, c_265⟩ := u
  try dsimp only at hB
  try dsimp only at hw_266
  obtain ⟨-, hP1, hK1, hD1⟩ := hB
  rw [ht] at hP1
  have hK1 := va_K.moved hvm.symm hK1
  obtain ⟨hP, hD⟩ := va_join (wr := [(hX, .inr (5, [.ref q_260, .null, .null, .null, .null, .int kn, .int rf, .int ac])), (q_260, .inl (cA_261, 4, .inr (.inr (.inr (.inr (fun _ => none))))))]) (w1 := [(q_263, .inr (4, [.ref b_264, .int 0])), (b_264, .inl (c_265, 480, .inl (fun _ => 0)))]) hP hD [2] [0, 1] rfl rfl (by decide) (by decide) hk1 hFc hP1 hD1
  have hK := (hK.sub (tys' := [(cA_261, .object "Signrope$Text")]) [0] rfl).app hK1
  generalize H1 = H at hP hS ⊢
  have hP : va_P (dC, dI) vwCl [(hX, .inr (5, [.ref q_260, .null, .null, .null, .null, .int kn, .int rf, .int ac])), (q_260, .inl (cA_261, 4, .inr (.inr (.inr (.inr (fun _ => none)))))), (q_263, .inr (4, [.ref b_264, .int 0])), (b_264, .inl (c_265, 480, .inl (fun _ => 0)))] H := hP
  have hD : va_D A [(hX, .inr (5, [.ref q_260, .null, .null, .null, .null, .int kn, .int rf, .int ac])), (q_260, .inl (cA_261, 4, .inr (.inr (.inr (.inr (fun _ => none)))))), (q_263, .inr (4, [.ref b_264, .int 0])), (b_264, .inl (c_265, 480, .inl (fun _ => 0)))] := hD
  have hK : va_K (dC, dI) vwCl [(cA_261, .object "Signrope$Text"), (c_265, .char)] s := hK
  have hin_268 : vp_in 0 4 := by rw [show (0 : Int32) = nI 0 from rfl]; exact vp_in_nI (by omega) (by omega)
  refine va_astq hx hb hK hP hD hS 1 0 2 4 rfl rfl rfl rfl hin_268 dX1_init_31 (fun H locs hP hD hS => ?_)
  obtain ⟨fT_269, efT_269⟩ : ∃ z, z = va_up (fun _ => none) (0 : Int32).toNatClampNeg (some q_263) := ⟨_, rfl⟩
  have hP : va_P (dC, dI) vwCl [(hX, .inr (5, [.ref q_260, .null, .null, .null, .null, .int kn, .int rf, .int ac])), (q_260, .inl (cA_261, 4, .inr (.inr (.inr (.inr fT_269))))), (q_263, .inr (4, [.ref b_264, .int 0])), (b_264, .inl (c_265, 480, .inl (fun _ => 0)))] H := by rw [efT_269]; exact hP
  have hD : va_D A [(hX, .inr (5, [.ref q_260, .null, .null, .null, .null, .int kn, .int rf, .int ac])), (q_260, .inl (cA_261, 4, .inr (.inr (.inr (.inr fT_269))))), (q_263, .inr (4, [.ref b_264, .int 0])), (b_264, .inl (c_265, 480, .inl (fun _ => 0)))] := by rw [efT_269]; exact hD
  have gfT_269 : ∀ z, fT_269 z = if z = 0 then some q_263 else (fun _ => none) z := by intro z; rw [efT_269, show (0 : Int32).toNatClampNeg = 0 from rfl]; rfl
  obtain ⟨x_270, ex_270⟩ : ∃ y : Int32, y = 0 + (1) := ⟨_, rfl⟩
  refine lv_iinc (v := x_270) (lv' := [(1, .int x_270), (0, .ref hX)]) hx hb dX1_init_32 hl (k := 0) rfl (by rw [ex_270]; rfl) (by decide) rfl (fun ls hl => ?_)
  have ei : x_270 = nI 1 := by rw [ex_270, show (0 : Int32) = nI 0 from rfl]; rfl
  refine lv_goto (tgt := 14) hx hb dX1_init_35 (by decide) ?_
  refine lv_iload_n hx hb dX1_init_14 rfl (lv_at hl 0 rfl) ?_
  refine lv_iconst (v := 4) hx hb dX1_init_15 (by decide) ?_
  refine lv_icmp_ge (tgt := 38) hx hb dX1_init_16 (by decide) (fun c_271 => absurd c_271 (by rw [ei]; decide)) (fun c_271 => ?_)
  refine lv_aload_n hx hb dX1_init_19 rfl (lv_at hl 1 rfl) ?_
  refine va_get (D := (dC, dI)) (ci := 5) (v := .ref q_260) (C := RX1) (T := TX1) (N := 8) hx hb hts (by decide +kernel) hown hK hP 0 rfl rfl 0 (by decide) (hts (.fieldLink RX1 11 "Signrope" "ropes" "[LSignrope$Text;") (by decide +kernel)) (fun _ h9 => h9) rfl dX1_init_20 ?_
  refine lv_iload_n hx hb dX1_init_23 rfl (lv_at hl 0 rfl) ?_
  refine va_new (ci := 4) (fs := [.null, .int 0]) (C := RX0) (T := TX0) (N := 2) hx hb hts (by decide +kernel) tyX0 tyX0_ok hown (hts (.classLink RX1 9 RX0) (by decide +kernel)) (hts (.instantiable RX0 2) (by decide +kernel)) (hts (.initialized RX0) (by decide +kernel)) hK hP hD hS hA rfl (fun j hj => by rcases (show j = 0 ∨ j = 1 by omega) with rfl | rfl <;> rfl) (by show 0 + 1 + 1 + 1 + 1 ≤ 17; omega) (by show 0 + 4 + 2 + 480 + 2 ≤ 3860; omega) dX1_init_24 (fun q_272 H hP hD hS => ?_)
  have hP : va_P (dC, dI) vwCl [(hX, .inr (5, [.ref q_260, .null, .null, .null, .null, .int kn, .int rf, .int ac])), (q_260, .inl (cA_261, 4, .inr (.inr (.inr (.inr fT_269))))), (q_263, .inr (4, [.ref b_264, .int 0])), (b_264, .inl (c_265, 480, .inl (fun _ => 0))), (q_272, .inr (4, [.null, .int 0]))] H := hP
  have hD : va_D A [(hX, .inr (5, [.ref q_260, .null, .null, .null, .null, .int kn, .int rf, .int ac])), (q_260, .inl (cA_261, 4, .inr (.inr (.inr (.inr fT_269))))), (q_263, .inr (4, [.ref b_264, .int 0])), (b_264, .inl (c_265, 480, .inl (fun _ => 0))), (q_272, .inr (4, [.null, .int 0]))] := hD
  refine lv_dup hx hb dX1_init_27 rfl ?_
  have hPc := hP.sub (ws' := [(q_272, .inr (4, [.null, .int 0]))]) [4] rfl
  have hDc := hD.sub (ws' := [(q_272, .inr (4, [.null, .int 0]))]) [4] (by decide) rfl
  have hKc := hK.sub (tys' := []) [] rfl
  have hFc := va_free (wc := [(q_272, .inr (4, [.null, .int 0]))]) hD hS hA [4] rfl
  refine va_callv (va_runI (As := []) (rest := [.ref q_272, .int x_270, .ref q_260]) ⟨hx, hb, hml, hown, hts⟩ (kX0_init l dC dI H.size q_272 0) (cwI 0 hts gX1_init_X0_init rfl rfl rfl (hts (.initialized RX0) (by decide +kernel)) (hts (.methodLink RX1 15 yX0_init) (by decide +kernel)) (hts (.instanceMethod yX0_init) (by decide +kernel)) rfl (by decide +kernel) ⟨Nat.le_of_ble_eq_true rfl, Nat.le_of_ble_eq_true rfl⟩) ⟨fun a U g mk q => by obtain ⟨q0, q1, qP, qK, qD⟩ := q; exact ⟨q0, q1, qP, va_K.moved (u := U) (U := U.calling g mk a) (Vm.Alike.refl U.vm) qK, qD⟩, fun U hU hW => ⟨rfl, by rw [hU], by rw [hU]; exact hPc, va_K.moved hW.alike hKc, hDc.weaken (fun _ _ _ _ => trivial)⟩⟩ rfl rfl hl.1 rfl (lv_room (Nat.le_of_ble_eq_true rfl)) dX1_init_28 ⟨(by show 0 + 1 + 1 + 1 + 1 + 1 ≤ 17; omega), (by show 0 + 4 + 2 + 480 + 2 + 480 ≤ 3860; omega)⟩) hS (fun q _ h => hFc q h) hFc (fun u t H1 locs ht hvm hw_275 hB hz1 hk1 hS => ?_)
  obtain ⟨b_273, c_274⟩ := u
  try dsimp only at hB
  try dsimp only at hw_275
  obtain ⟨-, hP1, hK1, hD1⟩ := hB
  rw [ht] at hP1
  have hK1 := va_K.moved hvm.symm hK1
  obtain ⟨hP, hD⟩ := va_join (wr := [(hX, .inr (5, [.ref q_260, .null, .null, .null, .null, .int kn, .int rf, .int ac])), (q_260, .inl (cA_261, 4, .inr (.inr (.inr (.inr fT_269))))), (q_263, .inr (4, [.ref b_264, .int 0])), (b_264, .inl (c_265, 480, .inl (fun _ => 0)))]) (w1 := [(q_272, .inr (4, [.ref b_273, .int 0])), (b_273, .inl (c_274, 480, .inl (fun _ => 0)))]) hP hD [4] [0, 1, 2, 3] rfl rfl (by decide) (by decide) hk1 hFc hP1 hD1
  have hK := (hK.sub (tys' := [(cA_261, .object "Signrope$Text"), (c_265, .char)]) [0, 1] rfl).app hK1
  generalize H1 = H at hP hS ⊢
  have hP : va_P (dC, dI) vwCl [(hX, .inr (5, [.ref q_260, .null, .null, .null, .null, .int kn, .int rf, .int ac])), (q_260, .inl (cA_261, 4, .inr (.inr (.inr (.inr fT_269))))), (q_263, .inr (4, [.ref b_264, .int 0])), (b_264, .inl (c_265, 480, .inl (fun _ => 0))), (q_272, .inr (4, [.ref b_273, .int 0])), (b_273, .inl (c_274, 480, .inl (fun _ => 0)))] H := hP
  have hD : va_D A [(hX, .inr (5, [.ref q_260, .null, .null, .null, .null, .int kn, .int rf, .int ac])), (q_260, .inl (cA_261, 4, .inr (.inr (.inr (.inr fT_269))))), (q_263, .inr (4, [.ref b_264, .int 0])), (b_264, .inl (c_265, 480, .inl (fun _ => 0))), (q_272, .inr (4, [.ref b_273, .int 0])), (b_273, .inl (c_274, 480, .inl (fun _ => 0)))] := hD
  have hK : va_K (dC, dI) vwCl [(cA_261, .object "Signrope$Text"), (c_265, .char), (c_274, .char)] s := hK
  have hin_277 : vp_in x_270 4 := by rw [show x_270 = nI 1 from ei]; exact vp_in_nI (by omega) (by omega)
  refine va_astq hx hb hK hP hD hS 1 0 4 4 rfl rfl rfl rfl hin_277 dX1_init_31 (fun H locs hP hD hS => ?_)
  obtain ⟨fT_278, efT_278⟩ : ∃ z, z = va_up fT_269 (x_270).toNatClampNeg (some q_272) := ⟨_, rfl⟩
  have hP : va_P (dC, dI) vwCl [(hX, .inr (5, [.ref q_260, .null, .null, .null, .null, .int kn, .int rf, .int ac])), (q_260, .inl (cA_261, 4, .inr (.inr (.inr (.inr fT_278))))), (q_263, .inr (4, [.ref b_264, .int 0])), (b_264, .inl (c_265, 480, .inl (fun _ => 0))), (q_272, .inr (4, [.ref b_273, .int 0])), (b_273, .inl (c_274, 480, .inl (fun _ => 0)))] H := by rw [efT_278]; exact hP
  have hD : va_D A [(hX, .inr (5, [.ref q_260, .null, .null, .null, .null, .int kn, .int rf, .int ac])), (q_260, .inl (cA_261, 4, .inr (.inr (.inr (.inr fT_278))))), (q_263, .inr (4, [.ref b_264, .int 0])), (b_264, .inl (c_265, 480, .inl (fun _ => 0))), (q_272, .inr (4, [.ref b_273, .int 0])), (b_273, .inl (c_274, 480, .inl (fun _ => 0)))] := by rw [efT_278]; exact hD
  have gfT_278 : ∀ z, fT_278 z = if z = 1 then some q_272 else fT_269 z := by intro z; rw [efT_278, show (x_270).toNatClampNeg = 1 from by rw [ei]; rfl]; rfl
  obtain ⟨x_279, ex_279⟩ : ∃ y : Int32, y = x_270 + (1) := ⟨_, rfl⟩
  refine lv_iinc (v := x_279) (lv' := [(1, .int x_279), (0, .ref hX)]) hx hb dX1_init_32 hl (k := 0) rfl (by rw [ex_279]; rfl) (by decide) rfl (fun ls hl => ?_)
  have ei : x_279 = nI 2 := by rw [ex_279, ei]; rfl
  refine lv_goto (tgt := 14) hx hb dX1_init_35 (by decide) ?_
  refine lv_iload_n hx hb dX1_init_14 rfl (lv_at hl 0 rfl) ?_
  refine lv_iconst (v := 4) hx hb dX1_init_15 (by decide) ?_
  refine lv_icmp_ge (tgt := 38) hx hb dX1_init_16 (by decide) (fun c_280 => absurd c_280 (by rw [ei]; decide)) (fun c_280 => ?_)
  refine lv_aload_n hx hb dX1_init_19 rfl (lv_at hl 1 rfl) ?_
  refine va_get (D := (dC, dI)) (ci := 5) (v := .ref q_260) (C := RX1) (T := TX1) (N := 8) hx hb hts (by decide +kernel) hown hK hP 0 rfl rfl 0 (by decide) (hts (.fieldLink RX1 11 "Signrope" "ropes" "[LSignrope$Text;") (by decide +kernel)) (fun _ h9 => h9) rfl dX1_init_20 ?_
  refine lv_iload_n hx hb dX1_init_23 rfl (lv_at hl 0 rfl) ?_
  refine va_new (ci := 4) (fs := [.null, .int 0]) (C := RX0) (T := TX0) (N := 2) hx hb hts (by decide +kernel) tyX0 tyX0_ok hown (hts (.classLink RX1 9 RX0) (by decide +kernel)) (hts (.instantiable RX0 2) (by decide +kernel)) (hts (.initialized RX0) (by decide +kernel)) hK hP hD hS hA rfl (fun j hj => by rcases (show j = 0 ∨ j = 1 by omega) with rfl | rfl <;> rfl) (by show 0 + 1 + 1 + 1 + 1 + 1 + 1 ≤ 17; omega) (by show 0 + 4 + 2 + 480 + 2 + 480 + 2 ≤ 3860; omega) dX1_init_24 (fun q_281 H hP hD hS => ?_)
  have hP : va_P (dC, dI) vwCl [(hX, .inr (5, [.ref q_260, .null, .null, .null, .null, .int kn, .int rf, .int ac])), (q_260, .inl (cA_261, 4, .inr (.inr (.inr (.inr fT_278))))), (q_263, .inr (4, [.ref b_264, .int 0])), (b_264, .inl (c_265, 480, .inl (fun _ => 0))), (q_272, .inr (4, [.ref b_273, .int 0])), (b_273, .inl (c_274, 480, .inl (fun _ => 0))), (q_281, .inr (4, [.null, .int 0]))] H := hP
  have hD : va_D A [(hX, .inr (5, [.ref q_260, .null, .null, .null, .null, .int kn, .int rf, .int ac])), (q_260, .inl (cA_261, 4, .inr (.inr (.inr (.inr fT_278))))), (q_263, .inr (4, [.ref b_264, .int 0])), (b_264, .inl (c_265, 480, .inl (fun _ => 0))), (q_272, .inr (4, [.ref b_273, .int 0])), (b_273, .inl (c_274, 480, .inl (fun _ => 0))), (q_281, .inr (4, [.null, .int 0]))] := hD
  refine lv_dup hx hb dX1_init_27 rfl ?_
  have hPc := hP.sub (ws' := [(q_281, .inr (4, [.null, .int 0]))]) [6] rfl
  have hDc := hD.sub (ws' := [(q_281, .inr (4, [.null, .int 0]))]) [6] (by decide) rfl
  have hKc := hK.sub (tys' := []) [] rfl
  have hFc := va_free (wc := [(q_281, .inr (4, [.null, .int 0]))]) hD hS hA [6] rfl
  refine va_callv (va_runI (As := []) (rest := [.ref q_281, .int x_279, .ref q_260]) ⟨hx, hb, hml, hown, hts⟩ (kX0_init l dC dI H.size q_281 0) (cwI 0 hts gX1_init_X0_init rfl rfl rfl (hts (.initialized RX0) (by decide +kernel)) (hts (.methodLink RX1 15 yX0_init) (by decide +kernel)) (hts (.instanceMethod yX0_init) (by decide +kernel)) rfl (by decide +kernel) ⟨Nat.le_of_ble_eq_true rfl, Nat.le_of_ble_eq_true rfl⟩) ⟨fun a U g mk q => by obtain ⟨q0, q1, qP, qK, qD⟩ := q; exact ⟨q0, q1, qP, va_K.moved (u := U) (U := U.calling g mk a) (Vm.Alike.refl U.vm) qK, qD⟩, fun U hU hW => ⟨rfl, by rw [hU], by rw [hU]; exact hPc, va_K.moved hW.alike hKc, hDc.weaken (fun _ _ _ _ => trivial)⟩⟩ rfl rfl hl.1 rfl (lv_room (Nat.le_of_ble_eq_true rfl)) dX1_init_28 ⟨(by show 0 + 1 + 1 + 1 + 1 + 1 + 1 + 1 ≤ 17; omega), (by show 0 + 4 + 2 + 480 + 2 + 480 + 2 + 480 ≤ 3860; omega)⟩) hS (fun q _ h => hFc q h) hFc (fun u t H1 locs ht hvm hw_284 hB hz1 hk1 hS => ?_)
  obtain ⟨b_282, c_283⟩ := u
  try dsimp only at hB
  try dsimp only at hw_284
  obtain ⟨-, hP1, hK1, hD1⟩ := hB
  rw [ht] at hP1
  have hK1 := va_K.moved hvm.symm hK1
  obtain ⟨hP, hD⟩ := va_join (wr := [(hX, .inr (5, [.ref q_260, .null, .null, .null, .null, .int kn, .int rf, .int ac])), (q_260, .inl (cA_261, 4, .inr (.inr (.inr (.inr fT_278))))), (q_263, .inr (4, [.ref b_264, .int 0])), (b_264, .inl (c_265, 480, .inl (fun _ => 0))), (q_272, .inr (4, [.ref b_273, .int 0])), (b_273, .inl (c_274, 480, .inl (fun _ => 0)))]) (w1 := [(q_281, .inr (4, [.ref b_282, .int 0])), (b_282, .inl (c_283, 480, .inl (fun _ => 0)))]) hP hD [6] [0, 1, 2, 3, 4, 5] rfl rfl (by decide) (by decide) hk1 hFc hP1 hD1
  have hK := (hK.sub (tys' := [(cA_261, .object "Signrope$Text"), (c_265, .char), (c_274, .char)]) [0, 1, 2] rfl).app hK1
  generalize H1 = H at hP hS ⊢
  have hP : va_P (dC, dI) vwCl [(hX, .inr (5, [.ref q_260, .null, .null, .null, .null, .int kn, .int rf, .int ac])), (q_260, .inl (cA_261, 4, .inr (.inr (.inr (.inr fT_278))))), (q_263, .inr (4, [.ref b_264, .int 0])), (b_264, .inl (c_265, 480, .inl (fun _ => 0))), (q_272, .inr (4, [.ref b_273, .int 0])), (b_273, .inl (c_274, 480, .inl (fun _ => 0))), (q_281, .inr (4, [.ref b_282, .int 0])), (b_282, .inl (c_283, 480, .inl (fun _ => 0)))] H := hP
  have hD : va_D A [(hX, .inr (5, [.ref q_260, .null, .null, .null, .null, .int kn, .int rf, .int ac])), (q_260, .inl (cA_261, 4, .inr (.inr (.inr (.inr fT_278))))), (q_263, .inr (4, [.ref b_264, .int 0])), (b_264, .inl (c_265, 480, .inl (fun _ => 0))), (q_272, .inr (4, [.ref b_273, .int 0])), (b_273, .inl (c_274, 480, .inl (fun _ => 0))), (q_281, .inr (4, [.ref b_282, .int 0])), (b_282, .inl (c_283, 480, .inl (fun _ => 0)))] := hD
  have hK : va_K (dC, dI) vwCl [(cA_261, .object "Signrope$Text"), (c_265, .char), (c_274, .char), (c_283, .char)] s := hK
  have hin_286 : vp_in x_279 4 := by rw [show x_279 = nI 2 from ei]; exact vp_in_nI (by omega) (by omega)
  refine va_astq hx hb hK hP hD hS 1 0 6 4 rfl rfl rfl rfl hin_286 dX1_init_31 (fun H locs hP hD hS => ?_)
  obtain ⟨fT_287, efT_287⟩ : ∃ z, z = va_up fT_278 (x_279).toNatClampNeg (some q_281) := ⟨_, rfl⟩
  have hP : va_P (dC, dI) vwCl [(hX, .inr (5, [.ref q_260, .null, .null, .null, .null, .int kn, .int rf, .int ac])), (q_260, .inl (cA_261, 4, .inr (.inr (.inr (.inr fT_287))))), (q_263, .inr (4, [.ref b_264, .int 0])), (b_264, .inl (c_265, 480, .inl (fun _ => 0))), (q_272, .inr (4, [.ref b_273, .int 0])), (b_273, .inl (c_274, 480, .inl (fun _ => 0))), (q_281, .inr (4, [.ref b_282, .int 0])), (b_282, .inl (c_283, 480, .inl (fun _ => 0)))] H := by rw [efT_287]; exact hP
  have hD : va_D A [(hX, .inr (5, [.ref q_260, .null, .null, .null, .null, .int kn, .int rf, .int ac])), (q_260, .inl (cA_261, 4, .inr (.inr (.inr (.inr fT_287))))), (q_263, .inr (4, [.ref b_264, .int 0])), (b_264, .inl (c_265, 480, .inl (fun _ => 0))), (q_272, .inr (4, [.ref b_273, .int 0])), (b_273, .inl (c_274, 480, .inl (fun _ => 0))), (q_281, .inr (4, [.ref b_282, .int 0])), (b_282, .inl (c_283, 480, .inl (fun _ => 0)))] := by rw [efT_287]; exact hD
  have gfT_287 : ∀ z, fT_287 z = if z = 2 then some q_281 else fT_278 z := by intro z; rw [efT_287, show (x_279).toNatClampNeg = 2 from by rw [ei]; rfl]; rfl
  obtain ⟨x_288, ex_288⟩ : ∃ y : Int32, y = x_279 + (1) := ⟨_, rfl⟩
  refine lv_iinc (v := x_288) (lv' := [(1, .int x_288), (0, .ref hX)]) hx hb dX1_init_32 hl (k := 0) rfl (by rw [ex_288]; rfl) (by decide) rfl (fun ls hl => ?_)
  have ei : x_288 = nI 3 := by rw [ex_288, ei]; rfl
  refine lv_goto (tgt := 14) hx hb dX1_init_35 (by decide) ?_
  refine lv_iload_n hx hb dX1_init_14 rfl (lv_at hl 0 rfl) ?_
  refine lv_iconst (v := 4) hx hb dX1_init_15 (by decide) ?_
  refine lv_icmp_ge (tgt := 38) hx hb dX1_init_16 (by decide) (fun c_289 => absurd c_289 (by rw [ei]; decide)) (fun c_289 => ?_)
  refine lv_aload_n hx hb dX1_init_19 rfl (lv_at hl 1 rfl) ?_
  refine va_get (D := (dC, dI)) (ci := 5) (v := .ref q_260) (C := RX1) (T := TX1) (N := 8) hx hb hts (by decide +kernel) hown hK hP 0 rfl rfl 0 (by decide) (hts (.fieldLink RX1 11 "Signrope" "ropes" "[LSignrope$Text;") (by decide +kernel)) (fun _ h9 => h9) rfl dX1_init_20 ?_
  refine lv_iload_n hx hb dX1_init_23 rfl (lv_at hl 0 rfl) ?_
  refine va_new (ci := 4) (fs := [.null, .int 0]) (C := RX0) (T := TX0) (N := 2) hx hb hts (by decide +kernel) tyX0 tyX0_ok hown (hts (.classLink RX1 9 RX0) (by decide +kernel)) (hts (.instantiable RX0 2) (by decide +kernel)) (hts (.initialized RX0) (by decide +kernel)) hK hP hD hS hA rfl (fun j hj => by rcases (show j = 0 ∨ j = 1 by omega) with rfl | rfl <;> rfl) (by show 0 + 1 + 1 + 1 + 1 + 1 + 1 + 1 + 1 ≤ 17; omega) (by show 0 + 4 + 2 + 480 + 2 + 480 + 2 + 480 + 2 ≤ 3860; omega) dX1_init_24 (fun q_290 H hP hD hS => ?_)
  have hP : va_P (dC, dI) vwCl [(hX, .inr (5, [.ref q_260, .null, .null, .null, .null, .int kn, .int rf, .int ac])), (q_260, .inl (cA_261, 4, .inr (.inr (.inr (.inr fT_287))))), (q_263, .inr (4, [.ref b_264, .int 0])), (b_264, .inl (c_265, 480, .inl (fun _ => 0))), (q_272, .inr (4, [.ref b_273, .int 0])), (b_273, .inl (c_274, 480, .inl (fun _ => 0))), (q_281, .inr (4, [.ref b_282, .int 0])), (b_282, .inl (c_283, 480, .inl (fun _ => 0))), (q_290, .inr (4, [.null, .int 0]))] H := hP
  have hD : va_D A [(hX, .inr (5, [.ref q_260, .null, .null, .null, .null, .int kn, .int rf, .int ac])), (q_260, .inl (cA_261, 4, .inr (.inr (.inr (.inr fT_287))))), (q_263, .inr (4, [.ref b_264, .int 0])), (b_264, .inl (c_265, 480, .inl (fun _ => 0))), (q_272, .inr (4, [.ref b_273, .int 0])), (b_273, .inl (c_274, 480, .inl (fun _ => 0))), (q_281, .inr (4, [.ref b_282, .int 0])), (b_282, .inl (c_283, 480, .inl (fun _ => 0))), (q_290, .inr (4, [.null, .int 0]))] := hD
  refine lv_dup hx hb dX1_init_27 rfl ?_
  have hPc := hP.sub (ws' := [(q_290, .inr (4, [.null, .int 0]))]) [8] rfl
  have hDc := hD.sub (ws' := [(q_290, .inr (4, [.null, .int 0]))]) [8] (by decide) rfl
  have hKc := hK.sub (tys' := []) [] rfl
  have hFc := va_free (wc := [(q_290, .inr (4, [.null, .int 0]))]) hD hS hA [8] rfl
  refine va_callv (va_runI (As := []) (rest := [.ref q_290, .int x_288, .ref q_260]) ⟨hx, hb, hml, hown, hts⟩ (kX0_init l dC dI H.size q_290 0) (cwI 0 hts gX1_init_X0_init rfl rfl rfl (hts (.initialized RX0) (by decide +kernel)) (hts (.methodLink RX1 15 yX0_init) (by decide +kernel)) (hts (.instanceMethod yX0_init) (by decide +kernel)) rfl (by decide +kernel) ⟨Nat.le_of_ble_eq_true rfl, Nat.le_of_ble_eq_true rfl⟩) ⟨fun a U g mk q => by obtain ⟨q0, q1, qP, qK, qD⟩ := q; exact ⟨q0, q1, qP, va_K.moved (u := U) (U := U.calling g mk a) (Vm.Alike.refl U.vm) qK, qD⟩, fun U hU hW => ⟨rfl, by rw [hU], by rw [hU]; exact hPc, va_K.moved hW.alike hKc, hDc.weaken (fun _ _ _ _ => trivial)⟩⟩ rfl rfl hl.1 rfl (lv_room (Nat.le_of_ble_eq_true rfl)) dX1_init_28 ⟨(by show 0 + 1 + 1 + 1 + 1 + 1 + 1 + 1 + 1 + 1 ≤ 17; omega), (by show 0 + 4 + 2 + 480 + 2 + 480 + 2 + 480 + 2 + 480 ≤ 3860; omega)⟩) hS (fun q _ h => hFc q h) hFc (fun u t H1 locs ht hvm hw_293 hB hz1 hk1 hS => ?_)
  obtain ⟨b_291, c_292⟩ := u
  try dsimp only at hB
  try dsimp only at hw_293
  obtain ⟨-, hP1, hK1, hD1⟩ := hB
  rw [ht] at hP1
  have hK1 := va_K.moved hvm.symm hK1
  obtain ⟨hP, hD⟩ := va_join (wr := [(hX, .inr (5, [.ref q_260, .null, .null, .null, .null, .int kn, .int rf, .int ac])), (q_260, .inl (cA_261, 4, .inr (.inr (.inr (.inr fT_287))))), (q_263, .inr (4, [.ref b_264, .int 0])), (b_264, .inl (c_265, 480, .inl (fun _ => 0))), (q_272, .inr (4, [.ref b_273, .int 0])), (b_273, .inl (c_274, 480, .inl (fun _ => 0))), (q_281, .inr (4, [.ref b_282, .int 0])), (b_282, .inl (c_283, 480, .inl (fun _ => 0)))]) (w1 := [(q_290, .inr (4, [.ref b_291, .int 0])), (b_291, .inl (c_292, 480, .inl (fun _ => 0)))]) hP hD [8] [0, 1, 2, 3, 4, 5, 6, 7] rfl rfl (by decide) (by decide) hk1 hFc hP1 hD1
  have hK := (hK.sub (tys' := [(cA_261, .object "Signrope$Text"), (c_265, .char), (c_274, .char), (c_283, .char)]) [0, 1, 2, 3] rfl).app hK1
  generalize H1 = H at hP hS ⊢
  have hP : va_P (dC, dI) vwCl [(hX, .inr (5, [.ref q_260, .null, .null, .null, .null, .int kn, .int rf, .int ac])), (q_260, .inl (cA_261, 4, .inr (.inr (.inr (.inr fT_287))))), (q_263, .inr (4, [.ref b_264, .int 0])), (b_264, .inl (c_265, 480, .inl (fun _ => 0))), (q_272, .inr (4, [.ref b_273, .int 0])), (b_273, .inl (c_274, 480, .inl (fun _ => 0))), (q_281, .inr (4, [.ref b_282, .int 0])), (b_282, .inl (c_283, 480, .inl (fun _ => 0))), (q_290, .inr (4, [.ref b_291, .int 0])), (b_291, .inl (c_292, 480, .inl (fun _ => 0)))] H := hP
  have hD : va_D A [(hX, .inr (5, [.ref q_260, .null, .null, .null, .null, .int kn, .int rf, .int ac])), (q_260, .inl (cA_261, 4, .inr (.inr (.inr (.inr fT_287))))), (q_263, .inr (4, [.ref b_264, .int 0])), (b_264, .inl (c_265, 480, .inl (fun _ => 0))), (q_272, .inr (4, [.ref b_273, .int 0])), (b_273, .inl (c_274, 480, .inl (fun _ => 0))), (q_281, .inr (4, [.ref b_282, .int 0])), (b_282, .inl (c_283, 480, .inl (fun _ => 0))), (q_290, .inr (4, [.ref b_291, .int 0])), (b_291, .inl (c_292, 480, .inl (fun _ => 0)))] := hD
  have hK : va_K (dC, dI) vwCl [(cA_261, .object "Signrope$Text"), (c_265, .char), (c_274, .char), (c_283, .char), (c_292, .char)] s := hK
  have hin_295 : vp_in x_288 4 := by rw [show x_288 = nI 3 from ei]; exact vp_in_nI (by omega) (by omega)
  refine va_astq hx hb hK hP hD hS 1 0 8 4 rfl rfl rfl rfl hin_295 dX1_init_31 (fun H locs hP hD hS => ?_)
  obtain ⟨fT_296, efT_296⟩ : ∃ z, z = va_up fT_287 (x_288).toNatClampNeg (some q_290) := ⟨_, rfl⟩
  have hP : va_P (dC, dI) vwCl [(hX, .inr (5, [.ref q_260, .null, .null, .null, .null, .int kn, .int rf, .int ac])), (q_260, .inl (cA_261, 4, .inr (.inr (.inr (.inr fT_296))))), (q_263, .inr (4, [.ref b_264, .int 0])), (b_264, .inl (c_265, 480, .inl (fun _ => 0))), (q_272, .inr (4, [.ref b_273, .int 0])), (b_273, .inl (c_274, 480, .inl (fun _ => 0))), (q_281, .inr (4, [.ref b_282, .int 0])), (b_282, .inl (c_283, 480, .inl (fun _ => 0))), (q_290, .inr (4, [.ref b_291, .int 0])), (b_291, .inl (c_292, 480, .inl (fun _ => 0)))] H := by rw [efT_296]; exact hP
  have hD : va_D A [(hX, .inr (5, [.ref q_260, .null, .null, .null, .null, .int kn, .int rf, .int ac])), (q_260, .inl (cA_261, 4, .inr (.inr (.inr (.inr fT_296))))), (q_263, .inr (4, [.ref b_264, .int 0])), (b_264, .inl (c_265, 480, .inl (fun _ => 0))), (q_272, .inr (4, [.ref b_273, .int 0])), (b_273, .inl (c_274, 480, .inl (fun _ => 0))), (q_281, .inr (4, [.ref b_282, .int 0])), (b_282, .inl (c_283, 480, .inl (fun _ => 0))), (q_290, .inr (4, [.ref b_291, .int 0])), (b_291, .inl (c_292, 480, .inl (fun _ => 0)))] := by rw [efT_296]; exact hD
  have gfT_296 : ∀ z, fT_296 z = if z = 3 then some q_290 else fT_287 z := by intro z; rw [efT_296, show (x_288).toNatClampNeg = 3 from by rw [ei]; rfl]; rfl
  obtain ⟨x_297, ex_297⟩ : ∃ y : Int32, y = x_288 + (1) := ⟨_, rfl⟩
  refine lv_iinc (v := x_297) (lv' := [(1, .int x_297), (0, .ref hX)]) hx hb dX1_init_32 hl (k := 0) rfl (by rw [ex_297]; rfl) (by decide) rfl (fun ls hl => ?_)
  have ei : x_297 = nI 4 := by rw [ex_297, ei]; rfl
  refine lv_goto (tgt := 14) hx hb dX1_init_35 (by decide) ?_
  refine lv_iload_n hx hb dX1_init_14 rfl (lv_at hl 0 rfl) ?_
  refine lv_iconst (v := 4) hx hb dX1_init_15 (by decide) ?_
  refine lv_icmp_ge (tgt := 38) hx hb dX1_init_16 (by decide) (fun c_298 => ?_) (fun c_298 => absurd (by rw [ei]; decide) c_298)
  refine lv_aload_n hx hb dX1_init_38 rfl (lv_at hl 1 rfl) ?_
  refine va_new (ci := 4) (fs := [.null, .int 0]) (C := RX0) (T := TX0) (N := 2) hx hb hts (by decide +kernel) tyX0 tyX0_ok hown (hts (.classLink RX1 9 RX0) (by decide +kernel)) (hts (.instantiable RX0 2) (by decide +kernel)) (hts (.initialized RX0) (by decide +kernel)) hK hP hD hS hA rfl (fun j hj => by rcases (show j = 0 ∨ j = 1 by omega) with rfl | rfl <;> rfl) (by show 0 + 1 + 1 + 1 + 1 + 1 + 1 + 1 + 1 + 1 + 1 ≤ 17; omega) (by show 0 + 4 + 2 + 480 + 2 + 480 + 2 + 480 + 2 + 480 + 2 ≤ 3860; omega) dX1_init_39 (fun q_299 H hP hD hS => ?_)
  have hP : va_P (dC, dI) vwCl [(hX, .inr (5, [.ref q_260, .null, .null, .null, .null, .int kn, .int rf, .int ac])), (q_260, .inl (cA_261, 4, .inr (.inr (.inr (.inr fT_296))))), (q_263, .inr (4, [.ref b_264, .int 0])), (b_264, .inl (c_265, 480, .inl (fun _ => 0))), (q_272, .inr (4, [.ref b_273, .int 0])), (b_273, .inl (c_274, 480, .inl (fun _ => 0))), (q_281, .inr (4, [.ref b_282, .int 0])), (b_282, .inl (c_283, 480, .inl (fun _ => 0))), (q_290, .inr (4, [.ref b_291, .int 0])), (b_291, .inl (c_292, 480, .inl (fun _ => 0))), (q_299, .inr (4, [.null, .int 0]))] H := hP
  have hD : va_D A [(hX, .inr (5, [.ref q_260, .null, .null, .null, .null, .int kn, .int rf, .int ac])), (q_260, .inl (cA_261, 4, .inr (.inr (.inr (.inr fT_296))))), (q_263, .inr (4, [.ref b_264, .int 0])), (b_264, .inl (c_265, 480, .inl (fun _ => 0))), (q_272, .inr (4, [.ref b_273, .int 0])), (b_273, .inl (c_274, 480, .inl (fun _ => 0))), (q_281, .inr (4, [.ref b_282, .int 0])), (b_282, .inl (c_283, 480, .inl (fun _ => 0))), (q_290, .inr (4, [.ref b_291, .int 0])), (b_291, .inl (c_292, 480, .inl (fun _ => 0))), (q_299, .inr (4, [.null, .int 0]))] := hD
  refine lv_dup hx hb dX1_init_42 rfl ?_
  have hPc := hP.sub (ws' := [(q_299, .inr (4, [.null, .int 0]))]) [10] rfl
  have hDc := hD.sub (ws' := [(q_299, .inr (4, [.null, .int 0]))]) [10] (by decide) rfl
  have hKc := hK.sub (tys' := []) [] rfl
  have hFc := va_free (wc := [(q_299, .inr (4, [.null, .int 0]))]) hD hS hA [10] rfl
  refine va_callv (va_runI (As := []) (rest := [.ref q_299, .ref hX]) ⟨hx, hb, hml, hown, hts⟩ (kX0_init l dC dI H.size q_299 0) (cwI 0 hts gX1_init_X0_init rfl rfl rfl (hts (.initialized RX0) (by decide +kernel)) (hts (.methodLink RX1 15 yX0_init) (by decide +kernel)) (hts (.instanceMethod yX0_init) (by decide +kernel)) rfl (by decide +kernel) ⟨Nat.le_of_ble_eq_true rfl, Nat.le_of_ble_eq_true rfl⟩) ⟨fun a U g mk q => by obtain ⟨q0, q1, qP, qK, qD⟩ := q; exact ⟨q0, q1, qP, va_K.moved (u := U) (U := U.calling g mk a) (Vm.Alike.refl U.vm) qK, qD⟩, fun U hU hW => ⟨rfl, by rw [hU], by rw [hU]; exact hPc, va_K.moved hW.alike hKc, hDc.weaken (fun _ _ _ _ => trivial)⟩⟩ rfl rfl hl.1 rfl (lv_room (Nat.le_of_ble_eq_true rfl)) dX1_init_43 ⟨(by show 0 + 1 + 1 + 1 + 1 + 1 + 1 + 1 + 1 + 1 + 1 + 1 ≤ 17; omega), (by show 0 + 4 + 2 + 480 + 2 + 480 + 2 + 480 + 2 + 480 + 2 + 480 ≤ 3860; omega)⟩) hS (fun q _ h => hFc q h) hFc (fun u t H1 locs ht hvm hw_302 hB hz1 hk1 hS => ?_)
  obtain ⟨b_300, c_301⟩ := u
  try dsimp only at hB
  try dsimp only at hw_302
  obtain ⟨-, hP1, hK1, hD1⟩ := hB
  rw [ht] at hP1
  have hK1 := va_K.moved hvm.symm hK1
  obtain ⟨hP, hD⟩ := va_join (wr := [(hX, .inr (5, [.ref q_260, .null, .null, .null, .null, .int kn, .int rf, .int ac])), (q_260, .inl (cA_261, 4, .inr (.inr (.inr (.inr fT_296))))), (q_263, .inr (4, [.ref b_264, .int 0])), (b_264, .inl (c_265, 480, .inl (fun _ => 0))), (q_272, .inr (4, [.ref b_273, .int 0])), (b_273, .inl (c_274, 480, .inl (fun _ => 0))), (q_281, .inr (4, [.ref b_282, .int 0])), (b_282, .inl (c_283, 480, .inl (fun _ => 0))), (q_290, .inr (4, [.ref b_291, .int 0])), (b_291, .inl (c_292, 480, .inl (fun _ => 0)))]) (w1 := [(q_299, .inr (4, [.ref b_300, .int 0])), (b_300, .inl (c_301, 480, .inl (fun _ => 0)))]) hP hD [10] [0, 1, 2, 3, 4, 5, 6, 7, 8, 9] rfl rfl (by decide) (by decide) hk1 hFc hP1 hD1
  have hK := (hK.sub (tys' := [(cA_261, .object "Signrope$Text"), (c_265, .char), (c_274, .char), (c_283, .char), (c_292, .char)]) [0, 1, 2, 3, 4] rfl).app hK1
  generalize H1 = H at hP hS ⊢
  have hP : va_P (dC, dI) vwCl [(hX, .inr (5, [.ref q_260, .null, .null, .null, .null, .int kn, .int rf, .int ac])), (q_260, .inl (cA_261, 4, .inr (.inr (.inr (.inr fT_296))))), (q_263, .inr (4, [.ref b_264, .int 0])), (b_264, .inl (c_265, 480, .inl (fun _ => 0))), (q_272, .inr (4, [.ref b_273, .int 0])), (b_273, .inl (c_274, 480, .inl (fun _ => 0))), (q_281, .inr (4, [.ref b_282, .int 0])), (b_282, .inl (c_283, 480, .inl (fun _ => 0))), (q_290, .inr (4, [.ref b_291, .int 0])), (b_291, .inl (c_292, 480, .inl (fun _ => 0))), (q_299, .inr (4, [.ref b_300, .int 0])), (b_300, .inl (c_301, 480, .inl (fun _ => 0)))] H := hP
  have hD : va_D A [(hX, .inr (5, [.ref q_260, .null, .null, .null, .null, .int kn, .int rf, .int ac])), (q_260, .inl (cA_261, 4, .inr (.inr (.inr (.inr fT_296))))), (q_263, .inr (4, [.ref b_264, .int 0])), (b_264, .inl (c_265, 480, .inl (fun _ => 0))), (q_272, .inr (4, [.ref b_273, .int 0])), (b_273, .inl (c_274, 480, .inl (fun _ => 0))), (q_281, .inr (4, [.ref b_282, .int 0])), (b_282, .inl (c_283, 480, .inl (fun _ => 0))), (q_290, .inr (4, [.ref b_291, .int 0])), (b_291, .inl (c_292, 480, .inl (fun _ => 0))), (q_299, .inr (4, [.ref b_300, .int 0])), (b_300, .inl (c_301, 480, .inl (fun _ => 0)))] := hD
  have hK : va_K (dC, dI) vwCl [(cA_261, .object "Signrope$Text"), (c_265, .char), (c_274, .char), (c_283, .char), (c_292, .char), (c_301, .char)] s := hK
  refine va_putF (D := (dC, dI)) (ci := 5) (v := .ref q_299) (ty := (.object "Signrope$Text")) (C := RX1) (T := TX1) (N := 8) hx hb hts (by decide +kernel) tyX1 tyX1_ok nmX1 hown hK hP hD hS 0 rfl rfl 1 (by decide) (hts (.fieldLink RX1 16 "Signrope" "piece" "LSignrope$Text;") (by decide +kernel)) (fun _ h9 => h9) rfl hin rfl (by decide +kernel) rfl rfl (Nat.le_of_ble_eq_true rfl) dX1_init_46 (fun H locs hP hD hS => ?_)
  have hP : va_P (dC, dI) vwCl [(hX, .inr (5, [.ref q_260, .ref q_299, .null, .null, .null, .int kn, .int rf, .int ac])), (q_260, .inl (cA_261, 4, .inr (.inr (.inr (.inr fT_296))))), (q_263, .inr (4, [.ref b_264, .int 0])), (b_264, .inl (c_265, 480, .inl (fun _ => 0))), (q_272, .inr (4, [.ref b_273, .int 0])), (b_273, .inl (c_274, 480, .inl (fun _ => 0))), (q_281, .inr (4, [.ref b_282, .int 0])), (b_282, .inl (c_283, 480, .inl (fun _ => 0))), (q_290, .inr (4, [.ref b_291, .int 0])), (b_291, .inl (c_292, 480, .inl (fun _ => 0))), (q_299, .inr (4, [.ref b_300, .int 0])), (b_300, .inl (c_301, 480, .inl (fun _ => 0)))] H := hP
  have hD : va_D A [(hX, .inr (5, [.ref q_260, .ref q_299, .null, .null, .null, .int kn, .int rf, .int ac])), (q_260, .inl (cA_261, 4, .inr (.inr (.inr (.inr fT_296))))), (q_263, .inr (4, [.ref b_264, .int 0])), (b_264, .inl (c_265, 480, .inl (fun _ => 0))), (q_272, .inr (4, [.ref b_273, .int 0])), (b_273, .inl (c_274, 480, .inl (fun _ => 0))), (q_281, .inr (4, [.ref b_282, .int 0])), (b_282, .inl (c_283, 480, .inl (fun _ => 0))), (q_290, .inr (4, [.ref b_291, .int 0])), (b_291, .inl (c_292, 480, .inl (fun _ => 0))), (q_299, .inr (4, [.ref b_300, .int 0])), (b_300, .inl (c_301, 480, .inl (fun _ => 0)))] := hD
  refine lv_aload_n hx hb dX1_init_49 rfl (lv_at hl 1 rfl) ?_
  refine va_new (ci := 4) (fs := [.null, .int 0]) (C := RX0) (T := TX0) (N := 2) hx hb hts (by decide +kernel) tyX0 tyX0_ok hown (hts (.classLink RX1 9 RX0) (by decide +kernel)) (hts (.instantiable RX0 2) (by decide +kernel)) (hts (.initialized RX0) (by decide +kernel)) hK hP hD hS hA rfl (fun j hj => by rcases (show j = 0 ∨ j = 1 by omega) with rfl | rfl <;> rfl) (by show 0 + 1 + 1 + 1 + 1 + 1 + 1 + 1 + 1 + 1 + 1 + 1 + 1 ≤ 17; omega) (by show 0 + 4 + 2 + 480 + 2 + 480 + 2 + 480 + 2 + 480 + 2 + 480 + 2 ≤ 3860; omega) dX1_init_50 (fun q_304 H hP hD hS => ?_)
  have hP : va_P (dC, dI) vwCl [(hX, .inr (5, [.ref q_260, .ref q_299, .null, .null, .null, .int kn, .int rf, .int ac])), (q_260, .inl (cA_261, 4, .inr (.inr (.inr (.inr fT_296))))), (q_263, .inr (4, [.ref b_264, .int 0])), (b_264, .inl (c_265, 480, .inl (fun _ => 0))), (q_272, .inr (4, [.ref b_273, .int 0])), (b_273, .inl (c_274, 480, .inl (fun _ => 0))), (q_281, .inr (4, [.ref b_282, .int 0])), (b_282, .inl (c_283, 480, .inl (fun _ => 0))), (q_290, .inr (4, [.ref b_291, .int 0])), (b_291, .inl (c_292, 480, .inl (fun _ => 0))), (q_299, .inr (4, [.ref b_300, .int 0])), (b_300, .inl (c_301, 480, .inl (fun _ => 0))), (q_304, .inr (4, [.null, .int 0]))] H := hP
  have hD : va_D A [(hX, .inr (5, [.ref q_260, .ref q_299, .null, .null, .null, .int kn, .int rf, .int ac])), (q_260, .inl (cA_261, 4, .inr (.inr (.inr (.inr fT_296))))), (q_263, .inr (4, [.ref b_264, .int 0])), (b_264, .inl (c_265, 480, .inl (fun _ => 0))), (q_272, .inr (4, [.ref b_273, .int 0])), (b_273, .inl (c_274, 480, .inl (fun _ => 0))), (q_281, .inr (4, [.ref b_282, .int 0])), (b_282, .inl (c_283, 480, .inl (fun _ => 0))), (q_290, .inr (4, [.ref b_291, .int 0])), (b_291, .inl (c_292, 480, .inl (fun _ => 0))), (q_299, .inr (4, [.ref b_300, .int 0])), (b_300, .inl (c_301, 480, .inl (fun _ => 0))), (q_304, .inr (4, [.null, .int 0]))] := hD
  refine lv_dup hx hb dX1_init_53 rfl ?_
  have hPc := hP.sub (ws' := [(q_304, .inr (4, [.null, .int 0]))]) [12] rfl
  have hDc := hD.sub (ws' := [(q_304, .inr (4, [.null, .int 0]))]) [12] (by decide) rfl
  have hKc := hK.sub (tys' := []) [] rfl
  have hFc := va_free (wc := [(q_304, .inr (4, [.null, .int 0]))]) hD hS hA [12] rfl
  refine va_callv (va_runI (As := []) (rest := [.ref q_304, .ref hX]) ⟨hx, hb, hml, hown, hts⟩ (kX0_init l dC dI H.size q_304 0) (cwI 0 hts gX1_init_X0_init rfl rfl rfl (hts (.initialized RX0) (by decide +kernel)) (hts (.methodLink RX1 15 yX0_init) (by decide +kernel)) (hts (.instanceMethod yX0_init) (by decide +kernel)) rfl (by decide +kernel) ⟨Nat.le_of_ble_eq_true rfl, Nat.le_of_ble_eq_true rfl⟩) ⟨fun a U g mk q => by obtain ⟨q0, q1, qP, qK, qD⟩ := q; exact ⟨q0, q1, qP, va_K.moved (u := U) (U := U.calling g mk a) (Vm.Alike.refl U.vm) qK, qD⟩, fun U hU hW => ⟨rfl, by rw [hU], by rw [hU]; exact hPc, va_K.moved hW.alike hKc, hDc.weaken (fun _ _ _ _ => trivial)⟩⟩ rfl rfl hl.1 rfl (lv_room (Nat.le_of_ble_eq_true rfl)) dX1_init_54 ⟨(by show 0 + 1 + 1 + 1 + 1 + 1 + 1 + 1 + 1 + 1 + 1 + 1 + 1 + 1 ≤ 17; omega), (by show 0 + 4 + 2 + 480 + 2 + 480 + 2 + 480 + 2 + 480 + 2 + 480 + 2 + 480 ≤ 3860; omega)⟩) hS (fun q _ h => hFc q h) hFc (fun u t H1 locs ht hvm hw_307 hB hz1 hk1 hS => ?_)
  obtain ⟨b_305, c_306⟩ := u
  try dsimp only at hB
  try dsimp only at hw_307
  obtain ⟨-, hP1, hK1, hD1⟩ := hB
  rw [ht] at hP1
  have hK1 := va_K.moved hvm.symm hK1
  obtain ⟨hP, hD⟩ := va_join (wr := [(hX, .inr (5, [.ref q_260, .ref q_299, .null, .null, .null, .int kn, .int rf, .int ac])), (q_260, .inl (cA_261, 4, .inr (.inr (.inr (.inr fT_296))))), (q_263, .inr (4, [.ref b_264, .int 0])), (b_264, .inl (c_265, 480, .inl (fun _ => 0))), (q_272, .inr (4, [.ref b_273, .int 0])), (b_273, .inl (c_274, 480, .inl (fun _ => 0))), (q_281, .inr (4, [.ref b_282, .int 0])), (b_282, .inl (c_283, 480, .inl (fun _ => 0))), (q_290, .inr (4, [.ref b_291, .int 0])), (b_291, .inl (c_292, 480, .inl (fun _ => 0))), (q_299, .inr (4, [.ref b_300, .int 0])), (b_300, .inl (c_301, 480, .inl (fun _ => 0)))]) (w1 := [(q_304, .inr (4, [.ref b_305, .int 0])), (b_305, .inl (c_306, 480, .inl (fun _ => 0)))]) hP hD [12] [0, 1, 2, 3, 4, 5, 6, 7, 8, 9, 10, 11] rfl rfl (by decide) (by decide) hk1 hFc hP1 hD1
  have hK := (hK.sub (tys' := [(cA_261, .object "Signrope$Text"), (c_265, .char), (c_274, .char), (c_283, .char), (c_292, .char), (c_301, .char)]) [0, 1, 2, 3, 4, 5] rfl).app hK1
  generalize H1 = H at hP hS ⊢
  have hP : va_P (dC, dI) vwCl [(hX, .inr (5, [.ref q_260, .ref q_299, .null, .null, .null, .int kn, .int rf, .int ac])), (q_260, .inl (cA_261, 4, .inr (.inr (.inr (.inr fT_296))))), (q_263, .inr (4, [.ref b_264, .int 0])), (b_264, .inl (c_265, 480, .inl (fun _ => 0))), (q_272, .inr (4, [.ref b_273, .int 0])), (b_273, .inl (c_274, 480, .inl (fun _ => 0))), (q_281, .inr (4, [.ref b_282, .int 0])), (b_282, .inl (c_283, 480, .inl (fun _ => 0))), (q_290, .inr (4, [.ref b_291, .int 0])), (b_291, .inl (c_292, 480, .inl (fun _ => 0))), (q_299, .inr (4, [.ref b_300, .int 0])), (b_300, .inl (c_301, 480, .inl (fun _ => 0))), (q_304, .inr (4, [.ref b_305, .int 0])), (b_305, .inl (c_306, 480, .inl (fun _ => 0)))] H := hP
  have hD : va_D A [(hX, .inr (5, [.ref q_260, .ref q_299, .null, .null, .null, .int kn, .int rf, .int ac])), (q_260, .inl (cA_261, 4, .inr (.inr (.inr (.inr fT_296))))), (q_263, .inr (4, [.ref b_264, .int 0])), (b_264, .inl (c_265, 480, .inl (fun _ => 0))), (q_272, .inr (4, [.ref b_273, .int 0])), (b_273, .inl (c_274, 480, .inl (fun _ => 0))), (q_281, .inr (4, [.ref b_282, .int 0])), (b_282, .inl (c_283, 480, .inl (fun _ => 0))), (q_290, .inr (4, [.ref b_291, .int 0])), (b_291, .inl (c_292, 480, .inl (fun _ => 0))), (q_299, .inr (4, [.ref b_300, .int 0])), (b_300, .inl (c_301, 480, .inl (fun _ => 0))), (q_304, .inr (4, [.ref b_305, .int 0])), (b_305, .inl (c_306, 480, .inl (fun _ => 0)))] := hD
  have hK : va_K (dC, dI) vwCl [(cA_261, .object "Signrope$Text"), (c_265, .char), (c_274, .char), (c_283, .char), (c_292, .char), (c_301, .char), (c_306, .char)] s := hK
  refine va_putF (D := (dC, dI)) (ci := 5) (v := .ref q_304) (ty := (.object "Signrope$Text")) (C := RX1) (T := TX1) (N := 8) hx hb hts (by decide +kernel) tyX1 tyX1_ok nmX1 hown hK hP hD hS 0 rfl rfl 2 (by decide) (hts (.fieldLink RX1 20 "Signrope" "turned" "LSignrope$Text;") (by decide +kernel)) (fun _ h9 => h9) rfl hin rfl (by decide +kernel) rfl rfl (Nat.le_of_ble_eq_true rfl) dX1_init_57 (fun H locs hP hD hS => ?_)
  have hP : va_P (dC, dI) vwCl [(hX, .inr (5, [.ref q_260, .ref q_299, .ref q_304, .null, .null, .int kn, .int rf, .int ac])), (q_260, .inl (cA_261, 4, .inr (.inr (.inr (.inr fT_296))))), (q_263, .inr (4, [.ref b_264, .int 0])), (b_264, .inl (c_265, 480, .inl (fun _ => 0))), (q_272, .inr (4, [.ref b_273, .int 0])), (b_273, .inl (c_274, 480, .inl (fun _ => 0))), (q_281, .inr (4, [.ref b_282, .int 0])), (b_282, .inl (c_283, 480, .inl (fun _ => 0))), (q_290, .inr (4, [.ref b_291, .int 0])), (b_291, .inl (c_292, 480, .inl (fun _ => 0))), (q_299, .inr (4, [.ref b_300, .int 0])), (b_300, .inl (c_301, 480, .inl (fun _ => 0))), (q_304, .inr (4, [.ref b_305, .int 0])), (b_305, .inl (c_306, 480, .inl (fun _ => 0)))] H := hP
  have hD : va_D A [(hX, .inr (5, [.ref q_260, .ref q_299, .ref q_304, .null, .null, .int kn, .int rf, .int ac])), (q_260, .inl (cA_261, 4, .inr (.inr (.inr (.inr fT_296))))), (q_263, .inr (4, [.ref b_264, .int 0])), (b_264, .inl (c_265, 480, .inl (fun _ => 0))), (q_272, .inr (4, [.ref b_273, .int 0])), (b_273, .inl (c_274, 480, .inl (fun _ => 0))), (q_281, .inr (4, [.ref b_282, .int 0])), (b_282, .inl (c_283, 480, .inl (fun _ => 0))), (q_290, .inr (4, [.ref b_291, .int 0])), (b_291, .inl (c_292, 480, .inl (fun _ => 0))), (q_299, .inr (4, [.ref b_300, .int 0])), (b_300, .inl (c_301, 480, .inl (fun _ => 0))), (q_304, .inr (4, [.ref b_305, .int 0])), (b_305, .inl (c_306, 480, .inl (fun _ => 0)))] := hD
  refine lv_aload_n hx hb dX1_init_60 rfl (lv_at hl 1 rfl) ?_
  refine va_new (ci := 4) (fs := [.null, .int 0]) (C := RX0) (T := TX0) (N := 2) hx hb hts (by decide +kernel) tyX0 tyX0_ok hown (hts (.classLink RX1 9 RX0) (by decide +kernel)) (hts (.instantiable RX0 2) (by decide +kernel)) (hts (.initialized RX0) (by decide +kernel)) hK hP hD hS hA rfl (fun j hj => by rcases (show j = 0 ∨ j = 1 by omega) with rfl | rfl <;> rfl) (by show 0 + 1 + 1 + 1 + 1 + 1 + 1 + 1 + 1 + 1 + 1 + 1 + 1 + 1 + 1 ≤ 17; omega) (by show 0 + 4 + 2 + 480 + 2 + 480 + 2 + 480 + 2 + 480 + 2 + 480 + 2 + 480 + 2 ≤ 3860; omega) dX1_init_61 (fun q_309 H hP hD hS => ?_)
  have hP : va_P (dC, dI) vwCl [(hX, .inr (5, [.ref q_260, .ref q_299, .ref q_304, .null, .null, .int kn, .int rf, .int ac])), (q_260, .inl (cA_261, 4, .inr (.inr (.inr (.inr fT_296))))), (q_263, .inr (4, [.ref b_264, .int 0])), (b_264, .inl (c_265, 480, .inl (fun _ => 0))), (q_272, .inr (4, [.ref b_273, .int 0])), (b_273, .inl (c_274, 480, .inl (fun _ => 0))), (q_281, .inr (4, [.ref b_282, .int 0])), (b_282, .inl (c_283, 480, .inl (fun _ => 0))), (q_290, .inr (4, [.ref b_291, .int 0])), (b_291, .inl (c_292, 480, .inl (fun _ => 0))), (q_299, .inr (4, [.ref b_300, .int 0])), (b_300, .inl (c_301, 480, .inl (fun _ => 0))), (q_304, .inr (4, [.ref b_305, .int 0])), (b_305, .inl (c_306, 480, .inl (fun _ => 0))), (q_309, .inr (4, [.null, .int 0]))] H := hP
  have hD : va_D A [(hX, .inr (5, [.ref q_260, .ref q_299, .ref q_304, .null, .null, .int kn, .int rf, .int ac])), (q_260, .inl (cA_261, 4, .inr (.inr (.inr (.inr fT_296))))), (q_263, .inr (4, [.ref b_264, .int 0])), (b_264, .inl (c_265, 480, .inl (fun _ => 0))), (q_272, .inr (4, [.ref b_273, .int 0])), (b_273, .inl (c_274, 480, .inl (fun _ => 0))), (q_281, .inr (4, [.ref b_282, .int 0])), (b_282, .inl (c_283, 480, .inl (fun _ => 0))), (q_290, .inr (4, [.ref b_291, .int 0])), (b_291, .inl (c_292, 480, .inl (fun _ => 0))), (q_299, .inr (4, [.ref b_300, .int 0])), (b_300, .inl (c_301, 480, .inl (fun _ => 0))), (q_304, .inr (4, [.ref b_305, .int 0])), (b_305, .inl (c_306, 480, .inl (fun _ => 0))), (q_309, .inr (4, [.null, .int 0]))] := hD
  refine lv_dup hx hb dX1_init_64 rfl ?_
  have hPc := hP.sub (ws' := [(q_309, .inr (4, [.null, .int 0]))]) [14] rfl
  have hDc := hD.sub (ws' := [(q_309, .inr (4, [.null, .int 0]))]) [14] (by decide) rfl
  have hKc := hK.sub (tys' := []) [] rfl
  have hFc := va_free (wc := [(q_309, .inr (4, [.null, .int 0]))]) hD hS hA [14] rfl
  refine va_callv (va_runI (As := []) (rest := [.ref q_309, .ref hX]) ⟨hx, hb, hml, hown, hts⟩ (kX0_init l dC dI H.size q_309 0) (cwI 0 hts gX1_init_X0_init rfl rfl rfl (hts (.initialized RX0) (by decide +kernel)) (hts (.methodLink RX1 15 yX0_init) (by decide +kernel)) (hts (.instanceMethod yX0_init) (by decide +kernel)) rfl (by decide +kernel) ⟨Nat.le_of_ble_eq_true rfl, Nat.le_of_ble_eq_true rfl⟩) ⟨fun a U g mk q => by obtain ⟨q0, q1, qP, qK, qD⟩ := q; exact ⟨q0, q1, qP, va_K.moved (u := U) (U := U.calling g mk a) (Vm.Alike.refl U.vm) qK, qD⟩, fun U hU hW => ⟨rfl, by rw [hU], by rw [hU]; exact hPc, va_K.moved hW.alike hKc, hDc.weaken (fun _ _ _ _ => trivial)⟩⟩ rfl rfl hl.1 rfl (lv_room (Nat.le_of_ble_eq_true rfl)) dX1_init_65 ⟨(by show 0 + 1 + 1 + 1 + 1 + 1 + 1 + 1 + 1 + 1 + 1 + 1 + 1 + 1 + 1 + 1 ≤ 17; omega), (by show 0 + 4 + 2 + 480 + 2 + 480 + 2 + 480 + 2 + 480 + 2 + 480 + 2 + 480 + 2 + 480 ≤ 3860; omega)⟩) hS (fun q _ h => hFc q h) hFc (fun u t H1 locs ht hvm hw_312 hB hz1 hk1 hS => ?_)
  obtain ⟨b_310, c_311⟩ := u
  try dsimp only at hB
  try dsimp only at hw_312
  obtain ⟨-, hP1, hK1, hD1⟩ := hB
  rw [ht] at hP1
  have hK1 := va_K.moved hvm.symm hK1
  obtain ⟨hP, hD⟩ := va_join (wr := [(hX, .inr (5, [.ref q_260, .ref q_299, .ref q_304, .null, .null, .int kn, .int rf, .int ac])), (q_260, .inl (cA_261, 4, .inr (.inr (.inr (.inr fT_296))))), (q_263, .inr (4, [.ref b_264, .int 0])), (b_264, .inl (c_265, 480, .inl (fun _ => 0))), (q_272, .inr (4, [.ref b_273, .int 0])), (b_273, .inl (c_274, 480, .inl (fun _ => 0))), (q_281, .inr (4, [.ref b_282, .int 0])), (b_282, .inl (c_283, 480, .inl (fun _ => 0))), (q_290, .inr (4, [.ref b_291, .int 0])), (b_291, .inl (c_292, 480, .inl (fun _ => 0))), (q_299, .inr (4, [.ref b_300, .int 0])), (b_300, .inl (c_301, 480, .inl (fun _ => 0))), (q_304, .inr (4, [.ref b_305, .int 0])), (b_305, .inl (c_306, 480, .inl (fun _ => 0)))]) (w1 := [(q_309, .inr (4, [.ref b_310, .int 0])), (b_310, .inl (c_311, 480, .inl (fun _ => 0)))]) hP hD [14] [0, 1, 2, 3, 4, 5, 6, 7, 8, 9, 10, 11, 12, 13] rfl rfl (by decide) (by decide) hk1 hFc hP1 hD1
  have hK := (hK.sub (tys' := [(cA_261, .object "Signrope$Text"), (c_265, .char), (c_274, .char), (c_283, .char), (c_292, .char), (c_301, .char), (c_306, .char)]) [0, 1, 2, 3, 4, 5, 6] rfl).app hK1
  generalize H1 = H at hP hS ⊢
  have hP : va_P (dC, dI) vwCl [(hX, .inr (5, [.ref q_260, .ref q_299, .ref q_304, .null, .null, .int kn, .int rf, .int ac])), (q_260, .inl (cA_261, 4, .inr (.inr (.inr (.inr fT_296))))), (q_263, .inr (4, [.ref b_264, .int 0])), (b_264, .inl (c_265, 480, .inl (fun _ => 0))), (q_272, .inr (4, [.ref b_273, .int 0])), (b_273, .inl (c_274, 480, .inl (fun _ => 0))), (q_281, .inr (4, [.ref b_282, .int 0])), (b_282, .inl (c_283, 480, .inl (fun _ => 0))), (q_290, .inr (4, [.ref b_291, .int 0])), (b_291, .inl (c_292, 480, .inl (fun _ => 0))), (q_299, .inr (4, [.ref b_300, .int 0])), (b_300, .inl (c_301, 480, .inl (fun _ => 0))), (q_304, .inr (4, [.ref b_305, .int 0])), (b_305, .inl (c_306, 480, .inl (fun _ => 0))), (q_309, .inr (4, [.ref b_310, .int 0])), (b_310, .inl (c_311, 480, .inl (fun _ => 0)))] H := hP
  have hD : va_D A [(hX, .inr (5, [.ref q_260, .ref q_299, .ref q_304, .null, .null, .int kn, .int rf, .int ac])), (q_260, .inl (cA_261, 4, .inr (.inr (.inr (.inr fT_296))))), (q_263, .inr (4, [.ref b_264, .int 0])), (b_264, .inl (c_265, 480, .inl (fun _ => 0))), (q_272, .inr (4, [.ref b_273, .int 0])), (b_273, .inl (c_274, 480, .inl (fun _ => 0))), (q_281, .inr (4, [.ref b_282, .int 0])), (b_282, .inl (c_283, 480, .inl (fun _ => 0))), (q_290, .inr (4, [.ref b_291, .int 0])), (b_291, .inl (c_292, 480, .inl (fun _ => 0))), (q_299, .inr (4, [.ref b_300, .int 0])), (b_300, .inl (c_301, 480, .inl (fun _ => 0))), (q_304, .inr (4, [.ref b_305, .int 0])), (b_305, .inl (c_306, 480, .inl (fun _ => 0))), (q_309, .inr (4, [.ref b_310, .int 0])), (b_310, .inl (c_311, 480, .inl (fun _ => 0)))] := hD
  have hK : va_K (dC, dI) vwCl [(cA_261, .object "Signrope$Text"), (c_265, .char), (c_274, .char), (c_283, .char), (c_292, .char), (c_301, .char), (c_306, .char), (c_311, .char)] s := hK
  refine va_putF (D := (dC, dI)) (ci := 5) (v := .ref q_309) (ty := (.object "Signrope$Text")) (C := RX1) (T := TX1) (N := 8) hx hb hts (by decide +kernel) tyX1 tyX1_ok nmX1 hown hK hP hD hS 0 rfl rfl 3 (by decide) (hts (.fieldLink RX1 23 "Signrope" "joined" "LSignrope$Text;") (by decide +kernel)) (fun _ h9 => h9) rfl hin rfl (by decide +kernel) rfl rfl (Nat.le_of_ble_eq_true rfl) dX1_init_68 (fun H locs hP hD hS => ?_)
  have hP : va_P (dC, dI) vwCl [(hX, .inr (5, [.ref q_260, .ref q_299, .ref q_304, .ref q_309, .null, .int kn, .int rf, .int ac])), (q_260, .inl (cA_261, 4, .inr (.inr (.inr (.inr fT_296))))), (q_263, .inr (4, [.ref b_264, .int 0])), (b_264, .inl (c_265, 480, .inl (fun _ => 0))), (q_272, .inr (4, [.ref b_273, .int 0])), (b_273, .inl (c_274, 480, .inl (fun _ => 0))), (q_281, .inr (4, [.ref b_282, .int 0])), (b_282, .inl (c_283, 480, .inl (fun _ => 0))), (q_290, .inr (4, [.ref b_291, .int 0])), (b_291, .inl (c_292, 480, .inl (fun _ => 0))), (q_299, .inr (4, [.ref b_300, .int 0])), (b_300, .inl (c_301, 480, .inl (fun _ => 0))), (q_304, .inr (4, [.ref b_305, .int 0])), (b_305, .inl (c_306, 480, .inl (fun _ => 0))), (q_309, .inr (4, [.ref b_310, .int 0])), (b_310, .inl (c_311, 480, .inl (fun _ => 0)))] H := hP
  have hD : va_D A [(hX, .inr (5, [.ref q_260, .ref q_299, .ref q_304, .ref q_309, .null, .int kn, .int rf, .int ac])), (q_260, .inl (cA_261, 4, .inr (.inr (.inr (.inr fT_296))))), (q_263, .inr (4, [.ref b_264, .int 0])), (b_264, .inl (c_265, 480, .inl (fun _ => 0))), (q_272, .inr (4, [.ref b_273, .int 0])), (b_273, .inl (c_274, 480, .inl (fun _ => 0))), (q_281, .inr (4, [.ref b_282, .int 0])), (b_282, .inl (c_283, 480, .inl (fun _ => 0))), (q_290, .inr (4, [.ref b_291, .int 0])), (b_291, .inl (c_292, 480, .inl (fun _ => 0))), (q_299, .inr (4, [.ref b_300, .int 0])), (b_300, .inl (c_301, 480, .inl (fun _ => 0))), (q_304, .inr (4, [.ref b_305, .int 0])), (b_305, .inl (c_306, 480, .inl (fun _ => 0))), (q_309, .inr (4, [.ref b_310, .int 0])), (b_310, .inl (c_311, 480, .inl (fun _ => 0)))] := hD
  refine lv_aload_n hx hb dX1_init_71 rfl (lv_at hl 1 rfl) ?_
  refine va_new (ci := 4) (fs := [.null, .int 0]) (C := RX0) (T := TX0) (N := 2) hx hb hts (by decide +kernel) tyX0 tyX0_ok hown (hts (.classLink RX1 9 RX0) (by decide +kernel)) (hts (.instantiable RX0 2) (by decide +kernel)) (hts (.initialized RX0) (by decide +kernel)) hK hP hD hS hA rfl (fun j hj => by rcases (show j = 0 ∨ j = 1 by omega) with rfl | rfl <;> rfl) (by show 0 + 1 + 1 + 1 + 1 + 1 + 1 + 1 + 1 + 1 + 1 + 1 + 1 + 1 + 1 + 1 + 1 ≤ 17; omega) (by show 0 + 4 + 2 + 480 + 2 + 480 + 2 + 480 + 2 + 480 + 2 + 480 + 2 + 480 + 2 + 480 + 2 ≤ 3860; omega) dX1_init_72 (fun q_314 H hP hD hS => ?_)
  have hP : va_P (dC, dI) vwCl [(hX, .inr (5, [.ref q_260, .ref q_299, .ref q_304, .ref q_309, .null, .int kn, .int rf, .int ac])), (q_260, .inl (cA_261, 4, .inr (.inr (.inr (.inr fT_296))))), (q_263, .inr (4, [.ref b_264, .int 0])), (b_264, .inl (c_265, 480, .inl (fun _ => 0))), (q_272, .inr (4, [.ref b_273, .int 0])), (b_273, .inl (c_274, 480, .inl (fun _ => 0))), (q_281, .inr (4, [.ref b_282, .int 0])), (b_282, .inl (c_283, 480, .inl (fun _ => 0))), (q_290, .inr (4, [.ref b_291, .int 0])), (b_291, .inl (c_292, 480, .inl (fun _ => 0))), (q_299, .inr (4, [.ref b_300, .int 0])), (b_300, .inl (c_301, 480, .inl (fun _ => 0))), (q_304, .inr (4, [.ref b_305, .int 0])), (b_305, .inl (c_306, 480, .inl (fun _ => 0))), (q_309, .inr (4, [.ref b_310, .int 0])), (b_310, .inl (c_311, 480, .inl (fun _ => 0))), (q_314, .inr (4, [.null, .int 0]))] H := hP
  have hD : va_D A [(hX, .inr (5, [.ref q_260, .ref q_299, .ref q_304, .ref q_309, .null, .int kn, .int rf, .int ac])), (q_260, .inl (cA_261, 4, .inr (.inr (.inr (.inr fT_296))))), (q_263, .inr (4, [.ref b_264, .int 0])), (b_264, .inl (c_265, 480, .inl (fun _ => 0))), (q_272, .inr (4, [.ref b_273, .int 0])), (b_273, .inl (c_274, 480, .inl (fun _ => 0))), (q_281, .inr (4, [.ref b_282, .int 0])), (b_282, .inl (c_283, 480, .inl (fun _ => 0))), (q_290, .inr (4, [.ref b_291, .int 0])), (b_291, .inl (c_292, 480, .inl (fun _ => 0))), (q_299, .inr (4, [.ref b_300, .int 0])), (b_300, .inl (c_301, 480, .inl (fun _ => 0))), (q_304, .inr (4, [.ref b_305, .int 0])), (b_305, .inl (c_306, 480, .inl (fun _ => 0))), (q_309, .inr (4, [.ref b_310, .int 0])), (b_310, .inl (c_311, 480, .inl (fun _ => 0))), (q_314, .inr (4, [.null, .int 0]))] := hD
  refine lv_dup hx hb dX1_init_75 rfl ?_
  have hPc := hP.sub (ws' := [(q_314, .inr (4, [.null, .int 0]))]) [16] rfl
  have hDc := hD.sub (ws' := [(q_314, .inr (4, [.null, .int 0]))]) [16] (by decide) rfl
  have hKc := hK.sub (tys' := []) [] rfl
  have hFc := va_free (wc := [(q_314, .inr (4, [.null, .int 0]))]) hD hS hA [16] rfl
  refine va_callv (va_runI (As := []) (rest := [.ref q_314, .ref hX]) ⟨hx, hb, hml, hown, hts⟩ (kX0_init l dC dI H.size q_314 0) (cwI 0 hts gX1_init_X0_init rfl rfl rfl (hts (.initialized RX0) (by decide +kernel)) (hts (.methodLink RX1 15 yX0_init) (by decide +kernel)) (hts (.instanceMethod yX0_init) (by decide +kernel)) rfl (by decide +kernel) ⟨Nat.le_of_ble_eq_true rfl, Nat.le_of_ble_eq_true rfl⟩) ⟨fun a U g mk q => by obtain ⟨q0, q1, qP, qK, qD⟩ := q; exact ⟨q0, q1, qP, va_K.moved (u := U) (U := U.calling g mk a) (Vm.Alike.refl U.vm) qK, qD⟩, fun U hU hW => ⟨rfl, by rw [hU], by rw [hU]; exact hPc, va_K.moved hW.alike hKc, hDc.weaken (fun _ _ _ _ => trivial)⟩⟩ rfl rfl hl.1 rfl (lv_room (Nat.le_of_ble_eq_true rfl)) dX1_init_76 ⟨(by show 0 + 1 + 1 + 1 + 1 + 1 + 1 + 1 + 1 + 1 + 1 + 1 + 1 + 1 + 1 + 1 + 1 + 1 ≤ 17; omega), (by show 0 + 4 + 2 + 480 + 2 + 480 + 2 + 480 + 2 + 480 + 2 + 480 + 2 + 480 + 2 + 480 + 2 + 480 ≤ 3860; omega)⟩) hS (fun q _ h => hFc q h) hFc (fun u t H1 locs ht hvm hw_317 hB hz1 hk1 hS => ?_)
  obtain ⟨b_315, c_316⟩ := u
  try dsimp only at hB
  try dsimp only at hw_317
  obtain ⟨-, hP1, hK1, hD1⟩ := hB
  rw [ht] at hP1
  have hK1 := va_K.moved hvm.symm hK1
  obtain ⟨hP, hD⟩ := va_join (wr := [(hX, .inr (5, [.ref q_260, .ref q_299, .ref q_304, .ref q_309, .null, .int kn, .int rf, .int ac])), (q_260, .inl (cA_261, 4, .inr (.inr (.inr (.inr fT_296))))), (q_263, .inr (4, [.ref b_264, .int 0])), (b_264, .inl (c_265, 480, .inl (fun _ => 0))), (q_272, .inr (4, [.ref b_273, .int 0])), (b_273, .inl (c_274, 480, .inl (fun _ => 0))), (q_281, .inr (4, [.ref b_282, .int 0])), (b_282, .inl (c_283, 480, .inl (fun _ => 0))), (q_290, .inr (4, [.ref b_291, .int 0])), (b_291, .inl (c_292, 480, .inl (fun _ => 0))), (q_299, .inr (4, [.ref b_300, .int 0])), (b_300, .inl (c_301, 480, .inl (fun _ => 0))), (q_304, .inr (4, [.ref b_305, .int 0])), (b_305, .inl (c_306, 480, .inl (fun _ => 0))), (q_309, .inr (4, [.ref b_310, .int 0])), (b_310, .inl (c_311, 480, .inl (fun _ => 0)))]) (w1 := [(q_314, .inr (4, [.ref b_315, .int 0])), (b_315, .inl (c_316, 480, .inl (fun _ => 0)))]) hP hD [16] [0, 1, 2, 3, 4, 5, 6, 7, 8, 9, 10, 11, 12, 13, 14, 15] rfl rfl (by decide) (by decide) hk1 hFc hP1 hD1
  have hK := (hK.sub (tys' := [(cA_261, .object "Signrope$Text"), (c_265, .char), (c_274, .char), (c_283, .char), (c_292, .char), (c_301, .char), (c_306, .char), (c_311, .char)]) [0, 1, 2, 3, 4, 5, 6, 7] rfl).app hK1
  generalize H1 = H at hP hS ⊢
  have hP : va_P (dC, dI) vwCl [(hX, .inr (5, [.ref q_260, .ref q_299, .ref q_304, .ref q_309, .null, .int kn, .int rf, .int ac])), (q_260, .inl (cA_261, 4, .inr (.inr (.inr (.inr fT_296))))), (q_263, .inr (4, [.ref b_264, .int 0])), (b_264, .inl (c_265, 480, .inl (fun _ => 0))), (q_272, .inr (4, [.ref b_273, .int 0])), (b_273, .inl (c_274, 480, .inl (fun _ => 0))), (q_281, .inr (4, [.ref b_282, .int 0])), (b_282, .inl (c_283, 480, .inl (fun _ => 0))), (q_290, .inr (4, [.ref b_291, .int 0])), (b_291, .inl (c_292, 480, .inl (fun _ => 0))), (q_299, .inr (4, [.ref b_300, .int 0])), (b_300, .inl (c_301, 480, .inl (fun _ => 0))), (q_304, .inr (4, [.ref b_305, .int 0])), (b_305, .inl (c_306, 480, .inl (fun _ => 0))), (q_309, .inr (4, [.ref b_310, .int 0])), (b_310, .inl (c_311, 480, .inl (fun _ => 0))), (q_314, .inr (4, [.ref b_315, .int 0])), (b_315, .inl (c_316, 480, .inl (fun _ => 0)))] H := hP
  have hD : va_D A [(hX, .inr (5, [.ref q_260, .ref q_299, .ref q_304, .ref q_309, .null, .int kn, .int rf, .int ac])), (q_260, .inl (cA_261, 4, .inr (.inr (.inr (.inr fT_296))))), (q_263, .inr (4, [.ref b_264, .int 0])), (b_264, .inl (c_265, 480, .inl (fun _ => 0))), (q_272, .inr (4, [.ref b_273, .int 0])), (b_273, .inl (c_274, 480, .inl (fun _ => 0))), (q_281, .inr (4, [.ref b_282, .int 0])), (b_282, .inl (c_283, 480, .inl (fun _ => 0))), (q_290, .inr (4, [.ref b_291, .int 0])), (b_291, .inl (c_292, 480, .inl (fun _ => 0))), (q_299, .inr (4, [.ref b_300, .int 0])), (b_300, .inl (c_301, 480, .inl (fun _ => 0))), (q_304, .inr (4, [.ref b_305, .int 0])), (b_305, .inl (c_306, 480, .inl (fun _ => 0))), (q_309, .inr (4, [.ref b_310, .int 0])), (b_310, .inl (c_311, 480, .inl (fun _ => 0))), (q_314, .inr (4, [.ref b_315, .int 0])), (b_315, .inl (c_316, 480, .inl (fun _ => 0)))] := hD
  have hK : va_K (dC, dI) vwCl [(cA_261, .object "Signrope$Text"), (c_265, .char), (c_274, .char), (c_283, .char), (c_292, .char), (c_301, .char), (c_306, .char), (c_311, .char), (c_316, .char)] s := hK
  refine va_putF (D := (dC, dI)) (ci := 5) (v := .ref q_314) (ty := (.object "Signrope$Text")) (C := RX1) (T := TX1) (N := 8) hx hb hts (by decide +kernel) tyX1 tyX1_ok nmX1 hown hK hP hD hS 0 rfl rfl 4 (by decide) (hts (.fieldLink RX1 26 "Signrope" "anew" "LSignrope$Text;") (by decide +kernel)) (fun _ h9 => h9) rfl hin rfl (by decide +kernel) rfl rfl (Nat.le_of_ble_eq_true rfl) dX1_init_79 (fun H locs hP hD hS => ?_)
  have hP : va_P (dC, dI) vwCl [(hX, .inr (5, [.ref q_260, .ref q_299, .ref q_304, .ref q_309, .ref q_314, .int kn, .int rf, .int ac])), (q_260, .inl (cA_261, 4, .inr (.inr (.inr (.inr fT_296))))), (q_263, .inr (4, [.ref b_264, .int 0])), (b_264, .inl (c_265, 480, .inl (fun _ => 0))), (q_272, .inr (4, [.ref b_273, .int 0])), (b_273, .inl (c_274, 480, .inl (fun _ => 0))), (q_281, .inr (4, [.ref b_282, .int 0])), (b_282, .inl (c_283, 480, .inl (fun _ => 0))), (q_290, .inr (4, [.ref b_291, .int 0])), (b_291, .inl (c_292, 480, .inl (fun _ => 0))), (q_299, .inr (4, [.ref b_300, .int 0])), (b_300, .inl (c_301, 480, .inl (fun _ => 0))), (q_304, .inr (4, [.ref b_305, .int 0])), (b_305, .inl (c_306, 480, .inl (fun _ => 0))), (q_309, .inr (4, [.ref b_310, .int 0])), (b_310, .inl (c_311, 480, .inl (fun _ => 0))), (q_314, .inr (4, [.ref b_315, .int 0])), (b_315, .inl (c_316, 480, .inl (fun _ => 0)))] H := hP
  have hD : va_D A [(hX, .inr (5, [.ref q_260, .ref q_299, .ref q_304, .ref q_309, .ref q_314, .int kn, .int rf, .int ac])), (q_260, .inl (cA_261, 4, .inr (.inr (.inr (.inr fT_296))))), (q_263, .inr (4, [.ref b_264, .int 0])), (b_264, .inl (c_265, 480, .inl (fun _ => 0))), (q_272, .inr (4, [.ref b_273, .int 0])), (b_273, .inl (c_274, 480, .inl (fun _ => 0))), (q_281, .inr (4, [.ref b_282, .int 0])), (b_282, .inl (c_283, 480, .inl (fun _ => 0))), (q_290, .inr (4, [.ref b_291, .int 0])), (b_291, .inl (c_292, 480, .inl (fun _ => 0))), (q_299, .inr (4, [.ref b_300, .int 0])), (b_300, .inl (c_301, 480, .inl (fun _ => 0))), (q_304, .inr (4, [.ref b_305, .int 0])), (b_305, .inl (c_306, 480, .inl (fun _ => 0))), (q_309, .inr (4, [.ref b_310, .int 0])), (b_310, .inl (c_311, 480, .inl (fun _ => 0))), (q_314, .inr (4, [.ref b_315, .int 0])), (b_315, .inl (c_316, 480, .inl (fun _ => 0)))] := hD
  have hf0 : fT_296 0 = some q_263 := by rw [gfT_296, gfT_287, gfT_278, gfT_269]; rfl
  have hP9 := hP.sub (ws' := [(hX, .inr (5, [.ref q_260, .ref q_299, .ref q_304, .ref q_309, .ref q_314, .int kn, .int rf, .int ac])), (q_260, .inl (cA_261, 4, .inr (.inr (.inr (.inr fT_296))))), (q_263, .inr (4, [.ref b_264, .int 0])), (b_264, .inl (c_265, 480, .inl (fun _ => 0)))]) [0, 1, 2, 3] rfl
  have hD9 := hD.sub (ws' := [(hX, .inr (5, [.ref q_260, .ref q_299, .ref q_304, .ref q_309, .ref q_314, .int kn, .int rf, .int ac])), (q_260, .inl (cA_261, 4, .inr (.inr (.inr (.inr fT_296))))), (q_263, .inr (4, [.ref b_264, .int 0])), (b_264, .inl (c_265, 480, .inl (fun _ => 0)))]) [0, 1, 2, 3] (by decide) rfl
  have hK9 := hK.sub (tys' := [(cA_261, .object "Signrope$Text"), (c_265, .char)]) [0, 1] rfl
  refine W.widen (k := 17) (n := 3860) (by omega) (by omega) ?_
  exact W.vret hx hb hr (fun t ht hW => ⟨⟨(q_260, q_299, q_304, q_309, q_314, q_263, b_264, cA_261, c_265, fT_296), rfl, hf0, by rw [ht]; exact hP9, va_K.moved hW.alike hK9, hD9⟩, hS.F ht⟩) hS.2.2 dX1_init_82
set_option maxHeartbeats 4000000 in
set_option maxRecDepth 100000 in
/-- SignropeModel() -/
theorem kX3_init (l : Launch) (dC : Nat → ClassId) (dI : Nat → Nat → Nat) (sz : Nat) (hM : Nat) (th kn rf sp : Int32) : Met l yX3_init wsX3_init ({ frames := 1, cells := 5, slots := 4, locals := 12 }) (va_Pc [.ref hM] (fun U => U.heap.size = sz ∧ va_P (dC, dI) vwCl [(hM, .inr (7, [.int th, .null, .int kn, .int rf, .int sp]))] U.heap ∧ va_K (dC, dI) vwCl [] U ∧ va_D (fun _ => True) [(hM, .inr (7, [.int th, .null, .int kn, .int rf, .int sp]))] ∧ jm U ∧ ja U)) (va_Qv (fun (u : Nat × Nat × ClassId × ClassId × (Nat → Option Nat)) => match u with | (tx, r, cT, cI, fT) => fT 0 = some r) (fun (u : Nat × Nat × ClassId × ClassId × (Nat → Option Nat)) (t : State) => match u with | (tx, r, cT, cI, fT) => va_P (dC, dI) vwCl [(hM, .inr (7, [.int th, .ref tx, .int kn, .int rf, .int sp])), (tx, .inl (cT, 4, .inr (.inr (.inr (.inr fT))))), (r, .inl (cI, 0, .inl (fun _ => 0)))] t.heap ∧ va_K (dC, dI) vwCl [(cT, .array .int), (cI, .int)] t ∧ va_D (va_A [(hM, .inr (7, [.int th, .null, .int kn, .int rf, .int sp]))] sz) [(hM, .inr (7, [.int th, .ref tx, .int kn, .int rf, .int sp])), (tx, .inl (cT, 4, .inr (.inr (.inr (.inr fT))))), (r, .inl (cI, 0, .inl (fun _ => 0)))]) (va_A [(hM, .inr (7, [.int th, .null, .int kn, .int rf, .int sp]))] sz)) 5 4 (va_A [(hM, .inr (7, [.int th, .null, .int kn, .int rf, .int sp]))] sz) := by
  refine Met.ofW (cc := cX3_init) (maxL := 1) (ret := none) (by decide) rfl ?_
  intro p e s m args below meth c s₁ B hml hv
  obtain ⟨rfl, hsz, hP, hK, hD0, hC, hJ⟩ := hv
  have hx := B.exec
  have hb := B.bytes
  have hr := B.returns
  have hts := atoms_spec (ws := wsX3_init) B.pre
  have hown : s.vm.findClass RX3 = some m.cls := findClass_of_methodNamed B.named
  have hlocks := B.notSynchronized
  have hin : meth.name = "<init>" := (name_of_methodNamed B.named B.method).1
  subst hsz
  have hD := hD0.self (sz := s.heap.size)
  generalize hAe : va_A [(hM, .inr (7, [.int th, .null, .int kn, .int rf, .int sp]))] s.heap.size = A at hD ⊢
  have hA : ∀ q : Nat, s.heap.size ≤ q → A q := fun q h => by rw [← hAe]; exact Or.inr h
  have hS : va_S A s.heap s.heap [] := va_S.rf
  have hP : va_P (dC, dI) vwCl [(hM, .inr (7, [.int th, .null, .int kn, .int rf, .int sp]))] s.heap := hP
  have hl := lv_entry ([.ref hM]) (n := 1) (Nat.le_of_ble_eq_true rfl)
  rw [lg_entry_eq]
  generalize (lg_sl ([.ref hM]) ++ List.replicate (1 - (lg_sl ([.ref hM])).length) Slot.unset).toArray = ls at hl ⊢
  have hl : lv_has ls 1 [(0, .ref hM)] := hl
  refine lv_aload_n hx hb dX3_init_0 rfl (lv_at hl 0 rfl) ?_
  refine W.objInit hx hb hown (hts (.methodLink RX3 1 objectInit) (by decide +kernel)) (hts (.instanceMethod objectInit) (by decide +kernel)) (hts _ (by decide +kernel)) rfl (by rw [hml]; exact hl.1) rfl dX3_init_1 (Nat.le_of_ble_eq_true rfl) (Nat.le_of_ble_eq_true rfl) ?_
  refine W.eq (g2 := F0 m 4 ls []) rfl ?_
  refine lv_aload_n hx hb dX3_init_4 rfl (lv_at hl 0 rfl) ?_
  refine lv_iconst (v := 4) hx hb dX3_init_5 (by decide) ?_
  refine lv_iconst (v := 0) hx hb dX3_init_6 (by decide) ?_
  obtain ⟨comp, cJ, kJ, hj1, hj2, hj3, hj4⟩ := id hJ
  refine va_mna (ty := .int) (X := [(hM, .inr (7, [.int th, .null, .int kn, .int rf, .int sp]))]) (L := []) (f := fun _ => .inl (comp, 0, .inl (fun _ => 0))) (N' := 4) (K' := 0) (z := (0, .inl (fun _ => 0))) hx hb hown (hts (.classLink RX3 9 "[[I") (by decide +kernel)) hC (hts (.arrayClass .int) (by decide +kernel)) hj1 hK hP hD hS hA (show ¬ nI 4 < 0 from nI_pos (by omega)) (show ¬ nI 0 < 0 from nI_pos (by omega)) (show (nI 4).toNatClampNeg = 4 from nI_clamp (by omega)) (show (nI 0).toNatClampNeg = 0 from nI_clamp (by omega)) (by omega) (by omega) (by omega) (by decide) (by decide) (by show 0 + (1 + 4) ≤ 5; omega) (by show 0 + (4 + 4 * 0) ≤ 4; omega) (fun c9 => arrV_new c9 0 _) dX3_init_7 (fun q_319 r9 cA_320 H hinj hL hK hP hD hS => ?_)
  have epl : va_pl ([] ++ (List.range 4).map r9) (vr_up (fun _ => .inl (comp, 0, .inl (fun _ => 0))) ((List.range 4).map r9) (.inl (comp, (0, .inl (fun _ => 0))))) = [((r9 0), .inl (comp, 0, .inl (fun _ => 0))), ((r9 1), .inl (comp, 0, .inl (fun _ => 0))), ((r9 2), .inl (comp, 0, .inl (fun _ => 0))), ((r9 3), .inl (comp, 0, .inl (fun _ => 0)))] := by simp [va_pl, vr_up, List.range, List.range.loop]
  rw [epl] at hP hD
  have hP : va_P (dC, dI) vwCl [(hM, .inr (7, [.int th, .null, .int kn, .int rf, .int sp])), (q_319, .inl (cA_320, 4, .inr (.inr (.inr (.inr (fun i => if i < 4 then some (r9 i) else none)))))), ((r9 0), .inl (comp, 0, .inl (fun _ => 0))), ((r9 1), .inl (comp, 0, .inl (fun _ => 0))), ((r9 2), .inl (comp, 0, .inl (fun _ => 0))), ((r9 3), .inl (comp, 0, .inl (fun _ => 0)))] H := hP
  have hD : va_D A [(hM, .inr (7, [.int th, .null, .int kn, .int rf, .int sp])), (q_319, .inl (cA_320, 4, .inr (.inr (.inr (.inr (fun i => if i < 4 then some (r9 i) else none)))))), ((r9 0), .inl (comp, 0, .inl (fun _ => 0))), ((r9 1), .inl (comp, 0, .inl (fun _ => 0))), ((r9 2), .inl (comp, 0, .inl (fun _ => 0))), ((r9 3), .inl (comp, 0, .inl (fun _ => 0)))] := hD
  have hAI : ArrOfT s comp .int := by
    obtain ⟨c9, k9, comp9, a1, a2, a3⟩ := Cond.arrayClass_spec (hts (.arrayClass .int) (by decide +kernel))
    obtain rfl : comp = c9 := Option.some.inj (hj1.symm.trans a1)
    exact fun n z => ⟨(fun q hq => by cases hq), k9, a2, comp9, a3⟩
  have hK : va_K (dC, dI) vwCl [(cA_320, .array .int), (comp, .int)] s := ⟨hK.1, fun k q9 h9 => by
    match k, h9 with
    | 0, h9 => exact hK.2 0 q9 h9
    | 1, h9 => cases h9; exact ⟨hAI, hj1⟩
    | k + 2, h9 => simp at h9⟩
  refine va_putF (D := (dC, dI)) (ci := 7) (v := .ref q_319) (ty := (.array (.array .int))) (C := RX3) (T := TX3) (N := 5) hx hb hts (by decide +kernel) tyX3 tyX3_ok nmX3 hown hK hP hD hS 0 rfl rfl 1 (by decide) (hts (.fieldLink RX3 11 "SignropeModel" "texts" "[[I") (by decide +kernel)) (fun _ h9 => h9) rfl hin rfl (by decide +kernel) rfl rfl (Nat.le_of_ble_eq_true rfl) dX3_init_11 (fun H locs hP hD hS => ?_)
  have hP : va_P (dC, dI) vwCl [(hM, .inr (7, [.int th, .ref q_319, .int kn, .int rf, .int sp])), (q_319, .inl (cA_320, 4, .inr (.inr (.inr (.inr (fun i => if i < 4 then some (r9 i) else none)))))), ((r9 0), .inl (comp, 0, .inl (fun _ => 0))), ((r9 1), .inl (comp, 0, .inl (fun _ => 0))), ((r9 2), .inl (comp, 0, .inl (fun _ => 0))), ((r9 3), .inl (comp, 0, .inl (fun _ => 0)))] H := hP
  have hD : va_D A [(hM, .inr (7, [.int th, .ref q_319, .int kn, .int rf, .int sp])), (q_319, .inl (cA_320, 4, .inr (.inr (.inr (.inr (fun i => if i < 4 then some (r9 i) else none)))))), ((r9 0), .inl (comp, 0, .inl (fun _ => 0))), ((r9 1), .inl (comp, 0, .inl (fun _ => 0))), ((r9 2), .inl (comp, 0, .inl (fun _ => 0))), ((r9 3), .inl (comp, 0, .inl (fun _ => 0)))] := hD
  have hP9 := hP.sub (ws' := [(hM, .inr (7, [.int th, .ref q_319, .int kn, .int rf, .int sp])), (q_319, .inl (cA_320, 4, .inr (.inr (.inr (.inr (fun i => if i < 4 then some (r9 i) else none)))))), ((r9 0), .inl (comp, 0, .inl (fun _ => 0)))]) [0, 1, 2] rfl
  have hD9 := hD.sub (ws' := [(hM, .inr (7, [.int th, .ref q_319, .int kn, .int rf, .int sp])), (q_319, .inl (cA_320, 4, .inr (.inr (.inr (.inr (fun i => if i < 4 then some (r9 i) else none)))))), ((r9 0), .inl (comp, 0, .inl (fun _ => 0)))]) [0, 1, 2] (by decide) rfl
  have hK9 := hK.sub (tys' := [(cA_320, .array .int), (comp, .int)]) [0, 1] rfl
  refine W.widen (k := 5) (n := 4) (by omega) (by omega) ?_
  exact W.vret hx hb hr (fun t ht hW => ⟨⟨(q_319, r9 0, cA_320, comp, (fun i => if i < 4 then some (r9 i) else none)), rfl, rfl, by rw [ht]; exact hP9, va_K.moved hW.alike hK9, hD9⟩, hS.F ht⟩) hS.2.2 dX3_init_14
