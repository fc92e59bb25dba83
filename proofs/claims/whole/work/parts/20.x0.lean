/-! Signrope$Text: its making, resize, written. -/
theorem fit_tc {f : Nat → Int32} {tc : Nat → Nat} {k i : Nat} (hf : ∀ j, j < k → f j = nI (tc j) ∧ tc j < 256) (hk : k ≤ 480) (hi : i < (nI k).toNatClampNeg) : fits .char (.int (f ((nI 0).toNatClampNeg + i))) = true := by
  rw [nI_clamp (by omega)] at hi
  rw [nI_clamp (n := 0) (by omega), Nat.zero_add, (hf i hi).1]
  exact (pk_charN (by have := (hf i hi).2; omega)).2
set_option maxHeartbeats 4000000 in
set_option maxRecDepth 100000 in
/-- Text() -/
theorem kX0_init (l : Launch) (dC : Nat → ClassId) (dI : Nat → Nat → Nat) (sz : Nat) (h : Nat) (x : Int32) : Met l yX0_init wsX0_init ({ frames := 1, cells := 1, slots := 480, locals := 12 }) (va_Pc [.ref h] (fun U => U.heap.size = sz ∧ va_P (dC, dI) vwCl [(h, .inr (4, [.null, .int x]))] U.heap ∧ va_K (dC, dI) vwCl [] U ∧ va_D (fun _ => True) [(h, .inr (4, [.null, .int x]))])) (va_Qv (fun (u : Nat × ClassId) => match u with | (b, cC) => True) (fun (u : Nat × ClassId) (t : State) => match u with | (b, cC) => sz ≤ b ∧ va_P (dC, dI) vwCl [(h, .inr (4, [.ref b, .int x])), (b, .inl (cC, 480, .inl (fun _ => 0)))] t.heap ∧ va_K (dC, dI) vwCl [(cC, .char)] t ∧ va_D (va_A [(h, .inr (4, [.null, .int x]))] sz) [(h, .inr (4, [.ref b, .int x])), (b, .inl (cC, 480, .inl (fun _ => 0)))]) (va_A [(h, .inr (4, [.null, .int x]))] sz)) 1 480 (va_A [(h, .inr (4, [.null, .int x]))] sz) := by
  refine Met.ofW (cc := cX0_init) (maxL := 1) (ret := none) (by decide) rfl ?_
  intro p e s m args below meth c s₁ B hml hv
  obtain ⟨rfl, hsz, hP, hK, hD0⟩ := hv
  have hx := B.exec
  have hb := B.bytes
  have hr := B.returns
  have hts := atoms_spec (ws := wsX0_init) B.pre
  have hown : s.vm.findClass RX0 = some m.cls := findClass_of_methodNamed B.named
  have hlocks := B.notSynchronized
  have hin : meth.name = "<init>" := (name_of_methodNamed B.named B.method).1
  subst hsz
  have hD := hD0.self (sz := s.heap.size)
  generalize hAe : va_A [(h, .inr (4, [.null, .int x]))] s.heap.size = A at hD ⊢
  have hA : ∀ q : Nat, s.heap.size ≤ q → A q := fun q h => by rw [← hAe]; exact Or.inr h
  have hS : va_S A s.heap s.heap [] := va_S.rf
  have hP : va_P (dC, dI) vwCl [(h, .inr (4, [.null, .int x]))] s.heap := hP
  have hl := lv_entry ([.ref h]) (n := 1) (Nat.le_of_ble_eq_true rfl)
  rw [lg_entry_eq]
  generalize (lg_sl ([.ref h]) ++ List.replicate (1 - (lg_sl ([.ref h])).length) Slot.unset).toArray = ls at hl ⊢
  have hl : lv_has ls 1 [(0, .ref h)] := hl
  refine lv_aload_n hx hb dX0_init_0 rfl (lv_at hl 0 rfl) ?_
  refine W.objInit hx hb hown (hts (.methodLink RX0 3 objectInit) (by decide +kernel)) (hts (.instanceMethod objectInit) (by decide +kernel)) (hts _ (by decide +kernel)) rfl (by rw [hml]; exact hl.1) rfl dX0_init_1 (Nat.le_of_ble_eq_true rfl) (Nat.le_of_ble_eq_true rfl) ?_
  refine W.eq (g2 := F0 m 4 ls []) rfl ?_
  refine lv_aload_n hx hb dX0_init_4 rfl (lv_at hl 0 rfl) ?_
  refine lv_sipush (v := 480) hx hb dX0_init_5 (by decide) ?_
  refine va_newa (atype := .char) (ty := .char) (N' := 480) (a0 := (480, .inl (fun _ => 0))) hx hb (hts (.arrayClass .char) (by decide +kernel)) rfl hK hP hD hS hA (fun _ => rfl) (show ¬ nI 480 < 0 from nI_pos (by omega)) (show (nI 480).toNatClampNeg = 480 from nI_clamp (by omega)) (by show 480 * 2 ≤ 536870912; omega) (by show 0 + 1 ≤ 1; omega) (by show 0 + 480 ≤ 480; omega) dX0_init_8 (fun q_228 cA_229 H hK hP hD hS => ?_)
  have hP : va_P (dC, dI) vwCl [(h, .inr (4, [.null, .int x])), (q_228, .inl (cA_229, 480, .inl (fun _ => 0)))] H := hP
  have hD : va_D A [(h, .inr (4, [.null, .int x])), (q_228, .inl (cA_229, 480, .inl (fun _ => 0)))] := hD
  have hK : va_K (dC, dI) vwCl [(cA_229, .char)] s := hK
  have hfr : s.heap.size ≤ q_228 := va_new_ge hAe hD 1 [0] rfl rfl (by decide)
  refine va_putF (D := (dC, dI)) (ci := 4) (v := .ref q_228) (ty := (.array .char)) (C := RX0) (T := TX0) (N := 2) hx hb hts (by decide +kernel) tyX0 tyX0_ok nmX0 hown hK hP hD hS 0 rfl rfl 0 (by decide) (hts (.fieldLink RX0 9 "Signrope$Text" "signs" "[C") (by decide +kernel)) (fun _ h9 => h9) rfl hin rfl (by decide +kernel) rfl rfl (Nat.le_of_ble_eq_true rfl) dX0_init_10 (fun H locs hP hD hS => ?_)
  have hP : va_P (dC, dI) vwCl [(h, .inr (4, [.ref q_228, .int x])), (q_228, .inl (cA_229, 480, .inl (fun _ => 0)))] H := hP
  have hD : va_D A [(h, .inr (4, [.ref q_228, .int x])), (q_228, .inl (cA_229, 480, .inl (fun _ => 0)))] := hD
  have hP9 := hP.sub (ws' := [(h, .inr (4, [.ref q_228, .int x])), (q_228, .inl (cA_229, 480, .inl (fun _ => 0)))]) [0, 1] rfl
  have hD9 := hD.sub (ws' := [(h, .inr (4, [.ref q_228, .int x])), (q_228, .inl (cA_229, 480, .inl (fun _ => 0)))]) [0, 1] (by decide) rfl
  have hK9 := hK.sub (tys' := [(cA_229, .char)]) [0] rfl
  refine W.widen (k := 1) (n := 480) (by omega) (by omega) ?_
  exact W.vret hx hb hr (fun t ht hW => ⟨⟨(q_228, cA_229), rfl, trivial, hfr, by rw [ht]; exact hP9, va_K.moved hW.alike hK9, hD9⟩, hS.F ht⟩) hS.2.2 dX0_init_13
set_option maxHeartbeats 4000000 in
set_option maxRecDepth 100000 in
/-- Text.resize(L) -/
theorem kX0_resize (l : Launch) (dC : Nat → ClassId) (dI : Nat → Nat → Nat) (sz : Nat) (h b : Nat) (cC : ClassId) (k : Nat) (f : Nat → Int32) (L : Nat) (hL : L ≤ 480) (hk : k ≤ 480) : Met l yX0_resize wsX0_resize ({ frames := 0, cells := 0, slots := 0, locals := 0 }) (va_Pc [.ref h, .int (nI L)] (fun U => U.heap.size = sz ∧ va_P (dC, dI) vwCl [(h, .inr (4, [.ref b, .int (nI k)])), (b, .inl (cC, 480, .inl f))] U.heap ∧ va_K (dC, dI) vwCl [(cC, .char)] U ∧ va_D (fun _ => True) [(h, .inr (4, [.ref b, .int (nI k)])), (b, .inl (cC, 480, .inl f))])) (va_Qv (fun (u : Nat → Int32) => match u with | g => ∀ j, j < L → g j = if j < k then f j else 0) (fun (u : Nat → Int32) (t : State) => match u with | g => va_P (dC, dI) vwCl [(h, .inr (4, [.ref b, .int (nI L)])), (b, .inl (cC, 480, .inl g))] t.heap ∧ va_K (dC, dI) vwCl [(cC, .char)] t ∧ va_D (va_A [(h, .inr (4, [.ref b, .int (nI k)])), (b, .inl (cC, 480, .inl f))] sz) [(h, .inr (4, [.ref b, .int (nI L)])), (b, .inl (cC, 480, .inl g))]) (va_A [(h, .inr (4, [.ref b, .int (nI k)])), (b, .inl (cC, 480, .inl f))] sz)) 0 0 (va_A [(h, .inr (4, [.ref b, .int (nI k)])), (b, .inl (cC, 480, .inl f))] sz) := by
  refine Met.ofW (cc := cX0_resize) (maxL := 3) (ret := none) (by decide) rfl ?_
  intro p e s m args below meth c s₁ B hml hv
  obtain ⟨rfl, hsz, hP, hK, hD0⟩ := hv
  have hx := B.exec
  have hb := B.bytes
  have hr := B.returns
  have hts := atoms_spec (ws := wsX0_resize) B.pre
  have hown : s.vm.findClass RX0 = some m.cls := findClass_of_methodNamed B.named
  have hlocks := B.notSynchronized
  subst hsz
  have hD := hD0.self (sz := s.heap.size)
  generalize hAe : va_A [(h, .inr (4, [.ref b, .int (nI k)])), (b, .inl (cC, 480, .inl f))] s.heap.size = A at hD ⊢
  have hA : ∀ q : Nat, s.heap.size ≤ q → A q := fun q h => by rw [← hAe]; exact Or.inr h
  have hS : va_S A s.heap s.heap [] := va_S.rf
  have hP : va_P (dC, dI) vwCl [(h, .inr (4, [.ref b, .int (nI k)])), (b, .inl (cC, 480, .inl f))] s.heap := hP
  have hl := lv_entry ([.ref h, .int (nI L)]) (n := 3) (Nat.le_of_ble_eq_true rfl)
  rw [lg_entry_eq]
  generalize (lg_sl ([.ref h, .int (nI L)]) ++ List.replicate (3 - (lg_sl ([.ref h, .int (nI L)])).length) Slot.unset).toArray = ls at hl ⊢
  have hl : lv_has ls 3 [(0, .ref h), (1, .int (nI L))] := hl
  refine lv_iload_n hx hb dX0_resize_0 rfl (lv_at hl 1 rfl) ?_
  refine lv_if_lt (tgt := 11) hx hb dX0_resize_1 (by decide) (fun c_230 => absurd c_230 (nI_pos (by omega))) (fun c_230 => ?_)
  refine lv_iload_n hx hb dX0_resize_4 rfl (lv_at hl 1 rfl) ?_
  refine lv_sipush (v := 480) hx hb dX0_resize_5 (by decide) ?_
  refine lv_icmp_le (tgt := 12) hx hb dX0_resize_8 (by decide) (fun c_231 => ?_) (fun c_231 => absurd (show nI L ≤ nI 480 from nI_le (by omega) (by omega)) c_231)
  refine lv_aload_n hx hb dX0_resize_12 rfl (lv_at hl 0 rfl) ?_
  refine va_get (D := (dC, dI)) (ci := 4) (v := .int (nI k)) (C := RX0) (T := TX0) (N := 2) hx hb hts (by decide +kernel) hown hK hP 0 rfl rfl 1 (by decide) (hts (.fieldLink RX0 15 "Signrope$Text" "size" "I") (by decide +kernel)) (fun _ h9 => h9) rfl dX0_resize_13 ?_
  refine lv_istore_n (lv' := [(2, .int (nI k)), (0, .ref h), (1, .int (nI L))]) hx hb dX0_resize_16 rfl hl (by decide) rfl (fun ls hl => ?_)
  have loop : ∀ (d i : Nat), L - i = d → k ≤ i → i ≤ 480 → (k < i → i ≤ L) → ∀ (g : Nat → Int32) (H : Heap) (locs : List Loc), (∀ j, j < i → g j = if j < k then f j else 0) → va_P (dC, dI) vwCl [(h, .inr (4, [.ref b, .int (nI k)])), (b, .inl (cC, 480, .inl g))] H → va_D A [(h, .inr (4, [.ref b, .int (nI k)])), (b, .inl (cC, 480, .inl g))] → va_S A s.heap H locs → ∀ ls, lv_has ls 3 [(0, .ref h), (1, .int (nI L)), (2, .int (nI i))] → W p l e (headSpec wsX0_resize ({ frames := 0, cells := 0, slots := 0, locals := 0 })).room s m [.ref h, .int (nI L)].toArray below meth c H locs 0 0 (MQ below (va_Qv (fun (u : Nat → Int32) => match u with | g => ∀ j, j < L → g j = if j < k then f j else 0) (fun (u : Nat → Int32) (t : State) => match u with | g => va_P (dC, dI) vwCl [(h, .inr (4, [.ref b, .int (nI L)])), (b, .inl (cC, 480, .inl g))] t.heap ∧ va_K (dC, dI) vwCl [(cC, .char)] t ∧ va_D A [(h, .inr (4, [.ref b, .int (nI L)])), (b, .inl (cC, 480, .inl g))]) A) [.ref h, .int (nI L)].toArray s 0 0 A) (F0 m 17 ls []) := by
    intro d
    induction d with
    | zero =>
      intro i hid hki hi4 hiL g H locs hg hP hD hS ls hl
      refine lv_iload_n hx hb dX0_resize_17 rfl (lv_at hl 2 rfl) ?_
      refine lv_iload_n hx hb dX0_resize_18 rfl (lv_at hl 1 rfl) ?_
      refine lv_icmp_ge (tgt := 35) hx hb dX0_resize_19 (by decide) (fun c_232 => ?_) (fun c_232 => absurd (nI_le (by omega) (by omega)) c_232)
      refine lv_aload_n hx hb dX0_resize_35 rfl (lv_at hl 0 rfl) ?_
      refine lv_iload_n hx hb dX0_resize_36 rfl (lv_at hl 1 rfl) ?_
      refine va_put (D := (dC, dI)) (ci := 4) (v := .int (nI L)) (ty := .int) (C := RX0) (T := TX0) (N := 2) hx hb hts (by decide +kernel) tyX0 tyX0_ok nmX0 hown hK hP hD hS 0 rfl rfl 1 (by decide) (hts (.fieldLink RX0 15 "Signrope$Text" "size" "I") (by decide +kernel)) (fun _ h9 => h9) rfl (by decide +kernel) rfl rfl (Nat.le_of_ble_eq_true rfl) dX0_resize_37 (fun H locs hP hD hS => ?_)
      have hP : va_P (dC, dI) vwCl [(h, .inr (4, [.ref b, .int (nI L)])), (b, .inl (cC, 480, .inl g))] H := hP
      have hD : va_D A [(h, .inr (4, [.ref b, .int (nI L)])), (b, .inl (cC, 480, .inl g))] := hD
      have hP9 := hP.sub (ws' := [(h, .inr (4, [.ref b, .int (nI L)])), (b, .inl (cC, 480, .inl g))]) [0, 1] rfl
      have hD9 := hD.sub (ws' := [(h, .inr (4, [.ref b, .int (nI L)])), (b, .inl (cC, 480, .inl g))]) [0, 1] (by decide) rfl
      have hK9 := hK.sub (tys' := [(cC, .char)]) [0] rfl
      exact W.vret hx hb hr (fun t ht hW => ⟨⟨g, rfl, (fun j hj => hg j (by omega)), by rw [ht]; exact hP9, va_K.moved hW.alike hK9, hD9⟩, hS.F ht⟩) hS.2.2 dX0_resize_40
    | succ d ih =>
      intro i hid hki hi4 hiL g H locs hg hP hD hS ls hl
      have hlt : i < L := by omega
      refine lv_iload_n hx hb dX0_resize_17 rfl (lv_at hl 2 rfl) ?_
      refine lv_iload_n hx hb dX0_resize_18 rfl (lv_at hl 1 rfl) ?_
      refine lv_icmp_ge (tgt := 35) hx hb dX0_resize_19 (by decide) (fun c_233 => absurd c_233 (nI_ge hlt (by omega))) (fun c_233 => ?_)
      refine lv_aload_n hx hb dX0_resize_22 rfl (lv_at hl 0 rfl) ?_
      refine va_get (D := (dC, dI)) (ci := 4) (v := .ref b) (C := RX0) (T := TX0) (N := 2) hx hb hts (by decide +kernel) hown hK hP 0 rfl rfl 0 (by decide) (hts (.fieldLink RX0 9 "Signrope$Text" "signs" "[C") (by decide +kernel)) (fun _ h9 => h9) rfl dX0_resize_23 ?_
      refine lv_iload_n hx hb dX0_resize_26 rfl (lv_at hl 2 rfl) ?_
      refine lv_iconst (v := 0) hx hb dX0_resize_27 (by decide) ?_
      have hin_234 : vp_in (nI i) 480 := vp_in_nI (by omega) (by omega)
      refine va_cast hx hb hK hP hD hS 1 0 rfl rfl hin_234 dX0_resize_28 (fun H locs hP hD hS => ?_)
      obtain ⟨f_235, ef_235⟩ : ∃ z, z = upd g (nI i).toNatClampNeg (vp_nar .char 0) := ⟨_, rfl⟩
      have hP : va_P (dC, dI) vwCl [(h, .inr (4, [.ref b, .int (nI k)])), (b, .inl (cC, 480, .inl f_235))] H := by rw [ef_235]; exact hP
      have hD : va_D A [(h, .inr (4, [.ref b, .int (nI k)])), (b, .inl (cC, 480, .inl f_235))] := by rw [ef_235]; exact hD
      obtain ⟨x_236, ex_236⟩ : ∃ y : Int32, y = (nI i) + (1) := ⟨_, rfl⟩
      refine lv_iinc (v := x_236) (lv' := [(2, .int x_236), (0, .ref h), (1, .int (nI L))]) hx hb dX0_resize_29 hl (k := 2) rfl (by rw [ex_236]; rfl) (by decide) rfl (fun ls hl => ?_)
      have ey : x_236 = nI (i + 1) := by rw [ex_236]; exact nI_1 i
      rw [ey] at hl
      refine lv_goto (tgt := 17) hx hb dX0_resize_32 (by decide) ?_
      have hg2 : ∀ j, j < i + 1 → f_235 j = if j < k then f j else 0 := by
        intro j hj
        rw [ef_235, nI_clamp (by omega)]
        by_cases e : j = i
        · rw [e, pk_us, if_neg (by omega)]; rfl
        · rw [pk_un e]; exact hg j (by omega)
      exact ih (i + 1) (by omega) (by omega) (by omega) (by omega) f_235 H locs hg2 hP hD hS ls (lv_sub hl [1, 2, 0] rfl)
  exact loop (L - k) k rfl (Nat.le_refl _) hk (fun h => absurd h (Nat.lt_irrefl _)) f s.heap [] (fun j hj => (if_pos hj).symm) hP hD hS ls (lv_sub hl [1, 2, 0] rfl)
set_option maxHeartbeats 4000000 in
set_option maxRecDepth 100000 in
/-- Text.written(0, k) -/
theorem kX0_written (l : Launch) (dC : Nat → ClassId) (dI : Nat → Nat → Nat) (sz : Nat) (h b : Nat) (cC : ClassId) (k : Nat) (f : Nat → Int32) (tc : Nat → Nat) (hk1 : 1 ≤ k) (hk : k ≤ 480) (hf : ∀ j, j < k → f j = nI (tc j) ∧ tc j < 256) : Met l yX0_written wsX0_written ({ frames := 4, cells := 3, slots := k + 4 + k, locals := 97 }) (va_Pc [.ref h, .int (nI 0), .int (nI k)] (fun U => U.heap.size = sz ∧ va_P (dC, dI) vwCl [(h, .inr (4, [.ref b, .int (nI k)])), (b, .inl (cC, 480, .inl f))] U.heap ∧ va_K (dC, dI) vwCl [(cC, .char)] U ∧ va_D (fun _ => True) [(h, .inr (4, [.ref b, .int (nI k)])), (b, .inl (cC, 480, .inl f))] ∧ jz (va_A [(h, .inr (4, [.ref b, .int (nI k)])), (b, .inl (cC, 480, .inl f))] sz) U U.heap)) (va_Qr (fun (u : Nat × ClassId × (Nat → Int32)) => match u with | (v2, cA, g) => sb_Fit g ∧ ∀ j, j < k → g j = sb_b (tc j)) (fun (u : Nat × ClassId × (Nat → Int32)) (ra : Nat) (t : State) => match u with | (v2, cA, g) => va_P (dC, dI) vwCl [(h, .inr (4, [.ref b, .int (nI k)])), (b, .inl (cC, 480, .inl f)), (ra, .inr (0, [.ref v2, .int 0, .int 0, .int 0])), (v2, .inl (cA, k, .inl g))] t.heap ∧ va_K (dC, dI) vwCl [(cC, .char), (cA, .byte)] t ∧ va_D (va_A [(h, .inr (4, [.ref b, .int (nI k)])), (b, .inl (cC, 480, .inl f))] sz) [(h, .inr (4, [.ref b, .int (nI k)])), (b, .inl (cC, 480, .inl f)), (ra, .inr (0, [.ref v2, .int 0, .int 0, .int 0])), (v2, .inl (cA, k, .inl g))]) (va_A [(h, .inr (4, [.ref b, .int (nI k)])), (b, .inl (cC, 480, .inl f))] sz)) 3 (k + 4 + k) (va_A [(h, .inr (4, [.ref b, .int (nI k)])), (b, .inl (cC, 480, .inl f))] sz) := by
  refine Met.ofW (cc := cX0_written) (maxL := 4) (ret := (some (.object "java/lang/String"))) (by decide) rfl ?_
  intro p e s m args below meth c s₁ B hml hv
  obtain ⟨rfl, hsz, hP, hK, hD0, hZ⟩ := hv
  have hx := B.exec
  have hb := B.bytes
  have hr := B.returns
  have hts := atoms_spec (ws := wsX0_written) B.pre
  have hown : s.vm.findClass RX0 = some m.cls := findClass_of_methodNamed B.named
  have hlocks := B.notSynchronized
  subst hsz
  have hD := hD0.self (sz := s.heap.size)
  generalize hAe : va_A [(h, .inr (4, [.ref b, .int (nI k)])), (b, .inl (cC, 480, .inl f))] s.heap.size = A at hD hZ ⊢
  have hA : ∀ q : Nat, s.heap.size ≤ q → A q := fun q h => by rw [← hAe]; exact Or.inr h
  have hS : va_S A s.heap s.heap [] := va_S.rf
  have hP : va_P (dC, dI) vwCl [(h, .inr (4, [.ref b, .int (nI k)])), (b, .inl (cC, 480, .inl f))] s.heap := hP
  have hl := lv_entry ([.ref h, .int (nI 0), .int (nI k)]) (n := 4) (Nat.le_of_ble_eq_true rfl)
  rw [lg_entry_eq]
  generalize (lg_sl ([.ref h, .int (nI 0), .int (nI k)]) ++ List.replicate (4 - (lg_sl ([.ref h, .int (nI 0), .int (nI k)])).length) Slot.unset).toArray = ls at hl ⊢
  have hl : lv_has ls 4 [(0, .ref h), (1, .int (nI 0)), (2, .int (nI k))] := hl
  refine lv_iload_n hx hb dX0_written_0 rfl (lv_at hl 1 rfl) ?_
  refine lv_if_lt (tgt := 17) hx hb dX0_written_1 (by decide) (fun c_237 => absurd c_237 (nI_pos (by omega))) (fun c_237 => ?_)
  refine lv_iload_n hx hb dX0_written_4 rfl (lv_at hl 1 rfl) ?_
  refine lv_iload_n hx hb dX0_written_5 rfl (lv_at hl 2 rfl) ?_
  refine lv_icmp_gt (tgt := 17) hx hb dX0_written_6 (by decide) (fun c_238 => absurd c_238 (nI_nlt (by omega) (by omega))) (fun c_238 => ?_)
  refine lv_iload_n hx hb dX0_written_9 rfl (lv_at hl 2 rfl) ?_
  refine lv_aload_n hx hb dX0_written_10 rfl (lv_at hl 0 rfl) ?_
  refine va_get (D := (dC, dI)) (ci := 4) (v := .int (nI k)) (C := RX0) (T := TX0) (N := 2) hx hb hts (by decide +kernel) hown hK hP 0 rfl rfl 1 (by decide) (hts (.fieldLink RX0 15 "Signrope$Text" "size" "I") (by decide +kernel)) (fun _ h9 => h9) rfl dX0_written_11 ?_
  refine lv_icmp_le (tgt := 20) hx hb dX0_written_14 (by decide) (fun c_239 => ?_) (fun c_239 => absurd (nI_le (Nat.le_refl _) (by omega)) c_239)
  refine lv_iload_n hx hb dX0_written_20 rfl (lv_at hl 2 rfl) ?_
  refine lv_iload_n hx hb dX0_written_21 rfl (lv_at hl 1 rfl) ?_
  refine lv_isub hx hb dX0_written_22 ?_
  refine lv_topi (fun x_240 ex_240 => ?_)
  have ex : x_240 = nI k := by rw [ex_240]; exact pk_sub (a := k) (b := 0) (by omega)
  rw [ex]
  refine va_newa (atype := .char) (ty := .char) (N' := k) (a0 := (k, .inl (fun _ => 0))) hx hb (hts (.arrayClass .char) (by decide +kernel)) rfl hK hP hD hS hA (fun _ => rfl) (nI_pos (by omega)) (nI_clamp (by omega)) (by show k * 2 ≤ 536870912; omega) (by show 0 + 1 ≤ 3; omega) (by show 0 + k ≤ (k + 4 + k); omega) dX0_written_23 (fun q_241 cA_242 H hK hP hD hS => ?_)
  have hP : va_P (dC, dI) vwCl [(h, .inr (4, [.ref b, .int (nI k)])), (b, .inl (cC, 480, .inl f)), (q_241, .inl (cA_242, k, .inl (fun _ => 0)))] H := hP
  have hD : va_D A [(h, .inr (4, [.ref b, .int (nI k)])), (b, .inl (cC, 480, .inl f)), (q_241, .inl (cA_242, k, .inl (fun _ => 0)))] := hD
  have hK : va_K (dC, dI) vwCl [(cC, .char), (cA_242, .char)] s := hK
  refine lv_astore_n (lv' := [(3, .ref q_241), (0, .ref h), (1, .int (nI 0)), (2, .int (nI k))]) hx hb dX0_written_25 rfl hl (by decide) rfl (fun ls hl => ?_)
  refine lv_aload_n hx hb dX0_written_26 rfl (lv_at hl 1 rfl) ?_
  refine va_get (D := (dC, dI)) (ci := 4) (v := .ref b) (C := RX0) (T := TX0) (N := 2) hx hb hts (by decide +kernel) hown hK hP 0 rfl rfl 0 (by decide) (hts (.fieldLink RX0 9 "Signrope$Text" "signs" "[C") (by decide +kernel)) (fun _ h9 => h9) rfl dX0_written_27 ?_
  refine lv_iload_n hx hb dX0_written_30 rfl (lv_at hl 2 rfl) ?_
  refine lv_aload_n hx hb dX0_written_31 rfl (lv_at hl 0 rfl) ?_
  refine lv_iconst (v := 0) hx hb dX0_written_32 (by decide) ?_
  refine lv_aload_n hx hb dX0_written_33 rfl (lv_at hl 0 rfl) ?_
  refine va_alen hx hb hK hP 2 1 rfl rfl (v := nI k) rfl dX0_written_34 ?_
  refine va_copyi (sp := nI 0) (dp := nI 0) (n := nI k) hx hb (by rw [hml]; exact hl.1.symm) hown (hts (.methodLink RX0 33 arraycopyName) (by decide +kernel)) (hts (.native arraycopyName) (by decide +kernel)) (hts (.static arraycopyName) (by decide +kernel)) (hts (.initialized "java/lang/System") (by decide +kernel)) hK hP hD hS 1 2 0 1 rfl rfl rfl rfl rfl (nI_pos (by omega)) (nI_pos (by omega)) (nI_pos (by omega)) (cl_le (by omega) (by omega) (by omega)) (cl_le (by omega) (by omega) (by omega)) (fun i hi => fit_tc hf hk hi) (Nat.le_of_ble_eq_true rfl) (Nat.le_of_ble_eq_true rfl) dX0_written_35 (fun H locs hP hD hS => ?_)
  rw [cp_cl (a := 0) (b := 0) (c := k) (by omega) (by omega) (by omega)] at hP hD
  obtain ⟨f_243, ef_243⟩ : ∃ z, z = va_cpy f (fun _ => 0) 0 0 k := ⟨_, rfl⟩
  have hP : va_P (dC, dI) vwCl [(h, .inr (4, [.ref b, .int (nI k)])), (b, .inl (cC, 480, .inl f)), (q_241, .inl (cA_242, k, .inl f_243))] H := by rw [ef_243]; exact hP
  have hD : va_D A [(h, .inr (4, [.ref b, .int (nI k)])), (b, .inl (cC, 480, .inl f)), (q_241, .inl (cA_242, k, .inl f_243))] := by rw [ef_243]; exact hD
  refine va_new (ci := 0) (fs := [.null, .int 0, .int 0, .int 0]) (C := RJ0) (T := TJ0) (N := 4) hx hb hts (by decide +kernel) tyJ0 tyJ0_ok hown (hts (.classLink RX0 20 RJ0) (by decide +kernel)) (hts (.instantiable RJ0 4) (by decide +kernel)) (hts (.initialized RJ0) (by decide +kernel)) hK hP hD hS hA rfl (fun j hj => by rcases (show j = 0 ∨ j = 1 ∨ j = 2 ∨ j = 3 by omega) with rfl | rfl | rfl | rfl <;> rfl) (by show 0 + 1 + 1 ≤ 3; omega) (by show 0 + k + 4 ≤ (k + 4 + k); omega) dX0_written_38 (fun q_244 H hP hD hS => ?_)
  have hP : va_P (dC, dI) vwCl [(h, .inr (4, [.ref b, .int (nI k)])), (b, .inl (cC, 480, .inl f)), (q_241, .inl (cA_242, k, .inl f_243)), (q_244, .inr (0, [.null, .int 0, .int 0, .int 0]))] H := hP
  have hD : va_D A [(h, .inr (4, [.ref b, .int (nI k)])), (b, .inl (cC, 480, .inl f)), (q_241, .inl (cA_242, k, .inl f_243)), (q_244, .inr (0, [.null, .int 0, .int 0, .int 0]))] := hD
  refine lv_dup hx hb dX0_written_41 rfl ?_
  refine lv_aload_n hx hb dX0_written_42 rfl (lv_at hl 0 rfl) ?_
  have hfg : ∀ j, j < k → f_243 j = nI (tc j) ∧ tc j < 256 := fun j hj => by rw [ef_243, sb_cpy0 hj]; exact hf j hj
  have hPc := hP.sub (ws' := [(q_244, .inr (0, [.null, .int 0, .int 0, .int 0])), (q_241, .inl (cA_242, k, .inl f_243))]) [3, 2] rfl
  have hDc := hD.sub (ws' := [(q_244, .inr (0, [.null, .int 0, .int 0, .int 0])), (q_241, .inl (cA_242, k, .inl f_243))]) [3, 2] (by decide) rfl
  have hKc := hK.sub (tys' := [(cA_242, .char)]) [1] rfl
  have hFc := va_free (wc := [(q_244, .inr (0, [.null, .int 0, .int 0, .int 0])), (q_241, .inl (cA_242, k, .inl f_243))]) hD hS hA [3, 2] rfl
  refine va_callv (va_runI (As := [.ref q_241]) (rest := [.ref q_244]) ⟨hx, hb, hml, hown, hts⟩ (kJ0_init_905df l dC dI H.size q_244 q_241 0 0 0 cA_242 k f_243 tc hk1 (by omega) hfg) (cwI 1 hts gX0_written_J0_init_905df rfl rfl rfl (hts (.initialized RJ0) (by decide +kernel)) (hts (.methodLink RX0 70 yJ0_init_905df) (by decide +kernel)) (hts (.instanceMethod yJ0_init_905df) (by decide +kernel)) rfl (by decide +kernel) ⟨Nat.le_of_ble_eq_true rfl, Nat.le_of_ble_eq_true rfl⟩) ⟨fun a U g mk q => by obtain ⟨q0, q1, qP, qK, qD, qE0⟩ := q; exact ⟨q0, q1, qP, va_K.moved (u := U) (U := U.calling g mk a) (Vm.Alike.refl U.vm) qK, qD, jz.call qE0⟩, fun U hU hW => ⟨rfl, by rw [hU], by rw [hU]; exact hPc, va_K.moved hW.alike hKc, hDc.weaken (fun _ _ _ _ => trivial), jz.pass hZ hS hFc hW hU⟩⟩ rfl rfl hl.1 rfl (lv_room (Nat.le_of_ble_eq_true rfl)) dX0_written_43 ⟨(by show 0 + 1 + 1 + 1 ≤ 3; omega), (by show 0 + k + 4 + k ≤ (k + 4 + k); omega)⟩) hS (fun q _ h => hFc q h) hFc (fun u t H1 locs ht hvm hg hB hz1 hk1 hS => ?_)
  obtain ⟨v2, cA, g⟩ := u
  try dsimp only at hB
  try dsimp only at hg
  obtain ⟨hfr, hP1, hK1, hD1⟩ := hB
  rw [ht] at hP1
  have hK1 := va_K.moved hvm.symm hK1
  obtain ⟨hP, hD⟩ := va_join (wr := [(h, .inr (4, [.ref b, .int (nI k)])), (b, .inl (cC, 480, .inl f))]) (w1 := [(q_244, .inr (0, [.ref v2, .int 0, .int 0, .int 0])), (v2, .inl (cA, k, .inl g)), (q_241, .inl (cA_242, k, .inl f_243))]) hP hD [3, 2] [0, 1] rfl rfl (by decide) (by decide) hk1 hFc hP1 hD1
  have hK := (hK.sub (tys' := [(cC, .char)]) [0] rfl).app hK1
  generalize H1 = H at hP hS ⊢
  have hP : va_P (dC, dI) vwCl [(h, .inr (4, [.ref b, .int (nI k)])), (b, .inl (cC, 480, .inl f)), (q_244, .inr (0, [.ref v2, .int 0, .int 0, .int 0])), (v2, .inl (cA, k, .inl g)), (q_241, .inl (cA_242, k, .inl f_243))] H := hP
  have hD : va_D A [(h, .inr (4, [.ref b, .int (nI k)])), (b, .inl (cC, 480, .inl f)), (q_244, .inr (0, [.ref v2, .int 0, .int 0, .int 0])), (v2, .inl (cA, k, .inl g)), (q_241, .inl (cA_242, k, .inl f_243))] := hD
  have hK : va_K (dC, dI) vwCl [(cC, .char), (cA, .byte), (cA_242, .char)] s := hK
  have hP9 := hP.sub (ws' := [(h, .inr (4, [.ref b, .int (nI k)])), (b, .inl (cC, 480, .inl f)), (q_244, .inr (0, [.ref v2, .int 0, .int 0, .int 0])), (v2, .inl (cA, k, .inl g))]) [0, 1, 2, 3] rfl
  have hD9 := hD.sub (ws' := [(h, .inr (4, [.ref b, .int (nI k)])), (b, .inl (cC, 480, .inl f)), (q_244, .inr (0, [.ref v2, .int 0, .int 0, .int 0])), (v2, .inl (cA, k, .inl g))]) [0, 1, 2, 3] (by decide) rfl
  have hK9 := hK.sub (tys' := [(cC, .char), (cA, .byte)]) [0, 1] rfl
  refine W.widen (k := 3) (n := k + 4 + k) (by omega) (by omega) ?_
  exact W.aret (v := .ref q_244) hx hb hr (Or.inl ⟨_, rfl⟩) (Or.inr ⟨_, rfl⟩) (fun t ht hW => ⟨⟨(v2, cA, g), q_244, rfl, hg, by rw [ht]; exact hP9, va_K.moved hW.alike hK9, hD9⟩, hS.F ht⟩) hS.2.2 dX0_written_46
