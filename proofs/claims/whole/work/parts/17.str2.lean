/-! String(char[]) and String.equals, as the JDK has them, over signs below 256. -/
set_option maxHeartbeats 4000000 in
set_option maxRecDepth 100000 in
/-- StringUTF16.compress(char[], 0, byte[], 0, k) -/
theorem kJ2_compress_fe38e (l : Launch) (dC : Nat → ClassId) (dI : Nat → Nat → Nat) (sz : Nat) (va vb : Nat) (cC cB : ClassId) (na nb k : Nat) (fa fb : Nat → Int32) (tc : Nat → Nat) (hna : k ≤ na) (hnb : k ≤ nb) (hna2 : na ≤ 65536) (hnb2 : nb ≤ 65536) (hk : k ≤ 65536) (hfa : ∀ j, j < k → fa j = nI (tc j) ∧ tc j < 256) (hfb : sb_Fit fb) : Met l yJ2_compress_fe38e wsJ2_compress_fe38e ({ frames := 0, cells := 0, slots := 0, locals := 0 }) (va_Pc [.ref va, .int (nI 0), .ref vb, .int (nI 0), .int (nI k)] (fun U => U.heap.size = sz ∧ va_P (dC, dI) vwCl [(va, .inl (cC, na, .inl fa)), (vb, .inl (cB, nb, .inl fb))] U.heap ∧ va_K (dC, dI) vwCl [(cC, .char), (cB, .byte)] U ∧ va_D (fun _ => True) [(va, .inl (cC, na, .inl fa)), (vb, .inl (cB, nb, .inl fb))])) (va_Qi (fun (r : Int32) (u : Nat → Int32) => match u with | g => r = nI k ∧ sb_Fit g ∧ ∀ j, j < k → g j = sb_b (tc j)) (fun (u : Nat → Int32) (t : State) => match u with | g => va_P (dC, dI) vwCl [(va, .inl (cC, na, .inl fa)), (vb, .inl (cB, nb, .inl g))] t.heap ∧ va_K (dC, dI) vwCl [(cC, .char), (cB, .byte)] t ∧ va_D (va_A [(va, .inl (cC, na, .inl fa)), (vb, .inl (cB, nb, .inl fb))] sz) [(va, .inl (cC, na, .inl fa)), (vb, .inl (cB, nb, .inl g))]) (va_A [(va, .inl (cC, na, .inl fa)), (vb, .inl (cB, nb, .inl fb))] sz)) 0 0 (va_A [(va, .inl (cC, na, .inl fa)), (vb, .inl (cB, nb, .inl fb))] sz) := by
  refine Met.ofW (cc := cJ2_compress_fe38e) (maxL := 7) (ret := (some .int)) (by decide) rfl ?_
  intro p e s m args below meth c s₁ B hml hv
  obtain ⟨rfl, hsz, hP, hK, hD0⟩ := hv
  have hx := B.exec
  have hb := B.bytes
  have hr := B.returns
  have hts := atoms_spec (ws := wsJ2_compress_fe38e) B.pre
  have hown : s.vm.findClass RJ2 = some m.cls := findClass_of_methodNamed B.named
  have hlocks := B.notSynchronized
  subst hsz
  have hD := hD0.self (sz := s.heap.size)
  generalize hAe : va_A [(va, .inl (cC, na, .inl fa)), (vb, .inl (cB, nb, .inl fb))] s.heap.size = A at hD ⊢
  have hA : ∀ q : Nat, s.heap.size ≤ q → A q := fun q h => by rw [← hAe]; exact Or.inr h
  have hS : va_S A s.heap s.heap [] := va_S.rf
  have hP : va_P (dC, dI) vwCl [(va, .inl (cC, na, .inl fa)), (vb, .inl (cB, nb, .inl fb))] s.heap := hP
  have hl := lv_entry ([.ref va, .int (nI 0), .ref vb, .int (nI 0), .int (nI k)]) (n := 7) (Nat.le_of_ble_eq_true rfl)
  rw [lg_entry_eq]
  generalize (lg_sl ([.ref va, .int (nI 0), .ref vb, .int (nI 0), .int (nI k)]) ++ List.replicate (7 - (lg_sl ([.ref va, .int (nI 0), .ref vb, .int (nI 0), .int (nI k)])).length) Slot.unset).toArray = ls at hl ⊢
  have hl : lv_has ls 7 [(0, .ref va), (1, .int (nI 0)), (2, .ref vb), (3, .int (nI 0)), (4, .int (nI k))] := hl
  refine lv_iconst (v := 0) hx hb dJ2_compress_fe38e_0 (by decide) ?_
  refine lv_istore (lv' := [(5, .int 0), (0, .ref va), (1, .int (nI 0)), (2, .ref vb), (3, .int (nI 0)), (4, .int (nI k))]) hx hb dJ2_compress_fe38e_1 hl (by decide) rfl (fun ls hl => ?_)
  have loop : ∀ (d i : Nat), i + d = k → ∀ (g : Nat → Int32) (H : Heap) (locs : List Loc), (sb_Fit g ∧ ∀ j, j < i → g j = sb_b (tc j)) → va_P (dC, dI) vwCl [(va, .inl (cC, na, .inl fa)), (vb, .inl (cB, nb, .inl g))] H → va_D A [(va, .inl (cC, na, .inl fa)), (vb, .inl (cB, nb, .inl g))] → va_S A s.heap H locs → ∀ ls, lv_has ls 7 [(0, .ref va), (1, .int (nI i)), (2, .ref vb), (3, .int (nI i)), (4, .int (nI k)), (5, .int (nI i))] → W p l e (headSpec wsJ2_compress_fe38e ({ frames := 0, cells := 0, slots := 0, locals := 0 })).room s m [.ref va, .int (nI 0), .ref vb, .int (nI 0), .int (nI k)].toArray below meth c H locs 0 0 (MQ below (va_Qi (fun (r : Int32) (u : Nat → Int32) => match u with | g => r = nI k ∧ sb_Fit g ∧ ∀ j, j < k → g j = sb_b (tc j)) (fun (u : Nat → Int32) (t : State) => match u with | g => va_P (dC, dI) vwCl [(va, .inl (cC, na, .inl fa)), (vb, .inl (cB, nb, .inl g))] t.heap ∧ va_K (dC, dI) vwCl [(cC, .char), (cB, .byte)] t ∧ va_D A [(va, .inl (cC, na, .inl fa)), (vb, .inl (cB, nb, .inl g))]) A) [.ref va, .int (nI 0), .ref vb, .int (nI 0), .int (nI k)].toArray s 0 0 A) (F0 m 3 ls []) := by
    intro d
    induction d with
    | zero =>
      intro i hid g H locs hg hP hD hS ls hl
      refine lv_iload hx hb dJ2_compress_fe38e_3 (lv_at hl 5 rfl) ?_
      refine lv_iload hx hb dJ2_compress_fe38e_5 (lv_at hl 4 rfl) ?_
      refine lv_icmp_ge (tgt := 44) hx hb dJ2_compress_fe38e_7 (by decide) (fun c_196 => ?_) (fun c_196 => absurd (nI_le (by omega) (by omega)) c_196)
      refine lv_iload hx hb dJ2_compress_fe38e_44 (lv_at hl 4 rfl) ?_
      have hP9 := hP.sub (ws' := [(va, .inl (cC, na, .inl fa)), (vb, .inl (cB, nb, .inl g))]) [0, 1] rfl
      have hD9 := hD.sub (ws' := [(va, .inl (cC, na, .inl fa)), (vb, .inl (cB, nb, .inl g))]) [0, 1] (by decide) rfl
      have hK9 := hK.sub (tys' := [(cC, .char), (cB, .byte)]) [0, 1] rfl
      exact W.iret (v := nI k) hx hb hr (fun t ht hW => ⟨⟨nI k, g, rfl, ⟨rfl, hg.1, fun j hj => hg.2 j (by omega)⟩, by rw [ht]; exact hP9, va_K.moved hW.alike hK9, hD9⟩, hS.F ht⟩) hS.2.2 dJ2_compress_fe38e_46
    | succ d ih =>
      intro i hid g H locs hg hP hD hS ls hl
      have hlt : i < k := by omega
      have hc := hfa i hlt
      refine lv_iload hx hb dJ2_compress_fe38e_3 (lv_at hl 5 rfl) ?_
      refine lv_iload hx hb dJ2_compress_fe38e_5 (lv_at hl 4 rfl) ?_
      refine lv_icmp_ge (tgt := 44) hx hb dJ2_compress_fe38e_7 (by decide) (fun c_197 => absurd c_197 (nI_ge hlt (by omega))) (fun c_197 => ?_)
      refine lv_aload_n hx hb dJ2_compress_fe38e_10 rfl (lv_at hl 0 rfl) ?_
      refine lv_iload_n hx hb dJ2_compress_fe38e_11 rfl (lv_at hl 1 rfl) ?_
      have hin_198 : vp_in (nI i) na := vp_in_nI (by omega) (by omega)
      refine va_cald hx hb hK hP 0 0 rfl rfl hin_198 dJ2_compress_fe38e_12 ?_
      refine lv_topi (fun x_199 ex_199 => ?_)
      have ex : x_199 = nI (tc i) := by rw [ex_199, nI_clamp (by omega)]; exact hc.1
      rw [ex]
      refine lv_istore (lv' := [(6, .int (nI (tc i))), (0, .ref va), (1, .int (nI i)), (2, .ref vb), (3, .int (nI i)), (4, .int (nI k)), (5, .int (nI i))]) hx hb dJ2_compress_fe38e_13 hl (by decide) rfl (fun ls hl => ?_)
      refine lv_iload hx hb dJ2_compress_fe38e_15 (lv_at hl 0 rfl) ?_
      refine lv_sipush (v := 255) hx hb dJ2_compress_fe38e_17 (by decide) ?_
      refine lv_icmp_le (tgt := 26) hx hb dJ2_compress_fe38e_20 (by decide) (fun c_200 => ?_) (fun c_200 => absurd (show nI (tc i) ≤ nI 255 from nI_le (by omega) (by decide)) c_200)
      refine lv_aload_n hx hb dJ2_compress_fe38e_26 rfl (lv_at hl 3 rfl) ?_
      refine lv_iload_n hx hb dJ2_compress_fe38e_27 rfl (lv_at hl 4 rfl) ?_
      refine lv_iload hx hb dJ2_compress_fe38e_28 (lv_at hl 0 rfl) ?_
      obtain ⟨x_201, ex_201⟩ : ∃ z : Int32, (nI (tc i)).toInt8.toInt32 = z := ⟨_, rfl⟩
      refine lv_i2b (v := x_201) hx hb dJ2_compress_fe38e_30 ex_201 ?_
      have hin_202 : vp_in (nI i) nb := vp_in_nI (by omega) (by omega)
      refine va_bast hx hb hK hP hD hS 1 1 rfl rfl hin_202 dJ2_compress_fe38e_31 (fun H locs hP hD hS => ?_)
      obtain ⟨f_203, ef_203⟩ : ∃ z, z = upd g (nI i).toNatClampNeg (vp_nar .byte x_201) := ⟨_, rfl⟩
      have hP : va_P (dC, dI) vwCl [(va, .inl (cC, na, .inl fa)), (vb, .inl (cB, nb, .inl f_203))] H := by rw [ef_203]; exact hP
      have hD : va_D A [(va, .inl (cC, na, .inl fa)), (vb, .inl (cB, nb, .inl f_203))] := by rw [ef_203]; exact hD
      obtain ⟨x_204, ex_204⟩ : ∃ y : Int32, y = (nI i) + (1) := ⟨_, rfl⟩
      refine lv_iinc (v := x_204) (lv' := [(1, .int x_204), (6, .int (nI (tc i))), (0, .ref va), (2, .ref vb), (3, .int (nI i)), (4, .int (nI k)), (5, .int (nI i))]) hx hb dJ2_compress_fe38e_32 hl (k := 2) rfl (by rw [ex_204]; rfl) (by decide) rfl (fun ls hl => ?_)
      obtain ⟨x_205, ex_205⟩ : ∃ y : Int32, y = (nI i) + (1) := ⟨_, rfl⟩
      refine lv_iinc (v := x_205) (lv' := [(3, .int x_205), (1, .int x_204), (6, .int (nI (tc i))), (0, .ref va), (2, .ref vb), (4, .int (nI k)), (5, .int (nI i))]) hx hb dJ2_compress_fe38e_35 hl (k := 4) rfl (by rw [ex_205]; rfl) (by decide) rfl (fun ls hl => ?_)
      obtain ⟨x_206, ex_206⟩ : ∃ y : Int32, y = (nI i) + (1) := ⟨_, rfl⟩
      refine lv_iinc (v := x_206) (lv' := [(5, .int x_206), (3, .int x_205), (1, .int x_204), (6, .int (nI (tc i))), (0, .ref va), (2, .ref vb), (4, .int (nI k))]) hx hb dJ2_compress_fe38e_38 hl (k := 6) rfl (by rw [ex_206]; rfl) (by decide) rfl (fun ls hl => ?_)
      have ey1 : x_204 = nI (i + 1) := by rw [ex_204]; exact nI_1 i
      have ey3 : x_205 = nI (i + 1) := by rw [ex_205]; exact nI_1 i
      have ey5 : x_206 = nI (i + 1) := by rw [ex_206]; exact nI_1 i
      rw [ey1, ey3, ey5] at hl
      refine lv_goto (tgt := 3) hx hb dJ2_compress_fe38e_41 (by decide) ?_
      have hg2 : sb_Fit f_203 ∧ ∀ j, j < i + 1 → f_203 j = sb_b (tc j) := by
        refine ⟨by rw [ef_203]; exact sb_fitU hg.1 (by rw [← ex_201, pk_vb]; exact pk_fb _), fun j hj => ?_⟩
        rw [ef_203, nI_clamp (by omega)]
        by_cases e : j = i
        · rw [e, pk_us, ← ex_201, pk_vb]; rfl
        · rw [pk_un e]; exact hg.2 j (by omega)
      exact ih (i + 1) (by omega) f_203 H locs hg2 hP hD hS ls (lv_sub hl [4, 2, 5, 1, 6, 0] rfl)
  exact loop k 0 (by omega) fb s.heap [] ⟨hfb, fun j hj => absurd hj (Nat.not_lt_zero j)⟩ hP hD hS ls (lv_sub hl [1, 2, 3, 4, 5, 0] rfl)
set_option maxHeartbeats 4000000 in
set_option maxRecDepth 100000 in
/-- StringUTF16.compress(char[], 0, k) -/
theorem kJ2_compress_dfd3c (l : Launch) (dC : Nat → ClassId) (dI : Nat → Nat → Nat) (sz : Nat) (va : Nat) (cC : ClassId) (na k : Nat) (fa : Nat → Int32) (tc : Nat → Nat) (hna : k ≤ na) (hna2 : na ≤ 65536) (hk : k ≤ 65536) (hfa : ∀ j, j < k → fa j = nI (tc j) ∧ tc j < 256) : Met l yJ2_compress_dfd3c wsJ2_compress_dfd3c ({ frames := 1, cells := 1, slots := k, locals := 26 }) (va_Pc [.ref va, .int (nI 0), .int (nI k)] (fun U => U.heap.size = sz ∧ va_P (dC, dI) vwCl [(va, .inl (cC, na, .inl fa))] U.heap ∧ va_K (dC, dI) vwCl [(cC, .char)] U ∧ va_D (fun _ => True) [(va, .inl (cC, na, .inl fa))])) (va_Qr (fun (u : ClassId × (Nat → Int32)) => match u with | (cB, g) => sb_Fit g ∧ ∀ j, j < k → g j = sb_b (tc j)) (fun (u : ClassId × (Nat → Int32)) (ra : Nat) (t : State) => match u with | (cB, g) => sz ≤ ra ∧ va_P (dC, dI) vwCl [(va, .inl (cC, na, .inl fa)), (ra, .inl (cB, k, .inl g))] t.heap ∧ va_K (dC, dI) vwCl [(cC, .char), (cB, .byte)] t ∧ va_D (va_A [(va, .inl (cC, na, .inl fa))] sz) [(va, .inl (cC, na, .inl fa)), (ra, .inl (cB, k, .inl g))]) (va_A [(va, .inl (cC, na, .inl fa))] sz)) 1 k (va_A [(va, .inl (cC, na, .inl fa))] sz) := by
  refine Met.ofW (cc := cJ2_compress_dfd3c) (maxL := 6) (ret := (some (.array .byte))) (by decide) rfl ?_
  intro p e s m args below meth c s₁ B hml hv
  obtain ⟨rfl, hsz, hP, hK, hD0⟩ := hv
  have hx := B.exec
  have hb := B.bytes
  have hr := B.returns
  have hts := atoms_spec (ws := wsJ2_compress_dfd3c) B.pre
  have hown : s.vm.findClass RJ2 = some m.cls := findClass_of_methodNamed B.named
  have hlocks := B.notSynchronized
  subst hsz
  have hD := hD0.self (sz := s.heap.size)
  generalize hAe : va_A [(va, .inl (cC, na, .inl fa))] s.heap.size = A at hD ⊢
  have hA : ∀ q : Nat, s.heap.size ≤ q → A q := fun q h => by rw [← hAe]; exact Or.inr h
  have hS : va_S A s.heap s.heap [] := va_S.rf
  have hP : va_P (dC, dI) vwCl [(va, .inl (cC, na, .inl fa))] s.heap := hP
  have hl := lv_entry ([.ref va, .int (nI 0), .int (nI k)]) (n := 6) (Nat.le_of_ble_eq_true rfl)
  rw [lg_entry_eq]
  generalize (lg_sl ([.ref va, .int (nI 0), .int (nI k)]) ++ List.replicate (6 - (lg_sl ([.ref va, .int (nI 0), .int (nI k)])).length) Slot.unset).toArray = ls at hl ⊢
  have hl : lv_has ls 6 [(0, .ref va), (1, .int (nI 0)), (2, .int (nI k))] := hl
  refine lv_iload_n hx hb dJ2_compress_dfd3c_0 rfl (lv_at hl 2 rfl) ?_
  refine va_newa (atype := .byte) (ty := .byte) (N' := k) (a0 := (k, .inl (fun _ => 0))) hx hb (hts (.arrayClass .byte) (by decide +kernel)) rfl hK hP hD hS hA (fun _ => rfl) (nI_pos (by omega)) (nI_clamp (by omega)) (by show k * 1 ≤ 536870912; omega) (by show 0 + 1 ≤ 1; omega) (by show 0 + k ≤ k; omega) dJ2_compress_dfd3c_1 (fun q_207 cA_208 H hK hP hD hS => ?_)
  have hP : va_P (dC, dI) vwCl [(va, .inl (cC, na, .inl fa)), (q_207, .inl (cA_208, k, .inl (fun _ => 0)))] H := hP
  have hD : va_D A [(va, .inl (cC, na, .inl fa)), (q_207, .inl (cA_208, k, .inl (fun _ => 0)))] := hD
  have hK : va_K (dC, dI) vwCl [(cC, .char), (cA_208, .byte)] s := hK
  have hfr : s.heap.size ≤ q_207 := va_new_ge hAe hD 1 [0] rfl rfl (by decide)
  refine lv_astore_n (lv' := [(3, .ref q_207), (0, .ref va), (1, .int (nI 0)), (2, .int (nI k))]) hx hb dJ2_compress_dfd3c_3 rfl hl (by decide) rfl (fun ls hl => ?_)
  refine lv_aload_n hx hb dJ2_compress_dfd3c_4 rfl (lv_at hl 1 rfl) ?_
  refine lv_iload_n hx hb dJ2_compress_dfd3c_5 rfl (lv_at hl 2 rfl) ?_
  refine lv_aload_n hx hb dJ2_compress_dfd3c_6 rfl (lv_at hl 0 rfl) ?_
  refine lv_iconst (v := 0) hx hb dJ2_compress_dfd3c_7 (by decide) ?_
  refine lv_iload_n hx hb dJ2_compress_dfd3c_8 rfl (lv_at hl 3 rfl) ?_
  have hPc := hP.sub (ws' := [(va, .inl (cC, na, .inl fa)), (q_207, .inl (cA_208, k, .inl (fun _ => 0)))]) [0, 1] rfl
  have hDc := hD.sub (ws' := [(va, .inl (cC, na, .inl fa)), (q_207, .inl (cA_208, k, .inl (fun _ => 0)))]) [0, 1] (by decide) rfl
  have hKc := hK.sub (tys' := [(cC, .char), (cA_208, .byte)]) [0, 1] rfl
  have hFc := va_free (wc := [(va, .inl (cC, na, .inl fa)), (q_207, .inl (cA_208, k, .inl (fun _ => 0)))]) hD hS hA [0, 1] rfl
  refine va_calli (va_runS (As := [.ref va, .int (nI 0), .ref q_207, .int (nI 0), .int (nI k)]) (rest := []) ⟨hx, hb, hml, hown, hts⟩ (kJ2_compress_fe38e l dC dI H.size va q_207 cC cA_208 na k k fa (fun _ => 0) tc hna (Nat.le_refl _) hna2 hk hk hfa sb_fit0) (va_cwS 5 hts gJ2_compress_dfd3c_J2_compress_fe38e rfl rfl rfl (by decide +kernel) ⟨Nat.le_of_ble_eq_true rfl, Nat.le_of_ble_eq_true rfl⟩) ⟨fun a U g mk q => by obtain ⟨q0, q1, qP, qK, qD⟩ := q; exact ⟨q0, q1, qP, va_K.moved (u := U) (U := U.calling g mk a) (Vm.Alike.refl U.vm) qK, qD⟩, fun U hU hW => ⟨rfl, by rw [hU], by rw [hU]; exact hPc, va_K.moved hW.alike hKc, hDc.weaken (fun _ _ _ _ => trivial)⟩⟩ rfl rfl hl.1 rfl (lv_room (Nat.le_of_ble_eq_true rfl)) dJ2_compress_dfd3c_9 ⟨(by show 0 + 1 + 0 ≤ 1; omega), (by show 0 + k + 0 ≤ k; omega)⟩) hS (fun q _ h => hFc q h) hFc (fun r_209 g t H1 locs ht hvm hg hB hz1 hk1 hS => ?_)
  try dsimp only at hB
  try dsimp only at hg
  obtain ⟨hP1, hK1, hD1⟩ := hB
  rw [ht] at hP1
  have hK1 := va_K.moved hvm.symm hK1
  obtain ⟨hP, hD⟩ := va_join (wr := []) (w1 := [(va, .inl (cC, na, .inl fa)), (q_207, .inl (cA_208, k, .inl g))]) hP hD [0, 1] [] rfl rfl (by decide) (by decide) hk1 hFc hP1 hD1
  have hK := (hK.sub (tys' := []) [] rfl).app hK1
  generalize H1 = H at hP hS ⊢
  have hP : va_P (dC, dI) vwCl [(va, .inl (cC, na, .inl fa)), (q_207, .inl (cA_208, k, .inl g))] H := hP
  have hD : va_D A [(va, .inl (cC, na, .inl fa)), (q_207, .inl (cA_208, k, .inl g))] := hD
  have hK : va_K (dC, dI) vwCl [(cC, .char), (cA_208, .byte)] s := hK
  refine lv_istore (lv' := [(4, .int r_209), (3, .ref q_207), (0, .ref va), (1, .int (nI 0)), (2, .int (nI k))]) hx hb dJ2_compress_dfd3c_12 hl (by decide) rfl (fun ls hl => ?_)
  refine lv_iload hx hb dJ2_compress_dfd3c_14 (lv_at hl 0 rfl) ?_
  refine lv_iload_n hx hb dJ2_compress_dfd3c_16 rfl (lv_at hl 4 rfl) ?_
  refine lv_icmp_eq (tgt := 57) hx hb dJ2_compress_dfd3c_17 (by decide) (fun c_210 => ?_) (fun c_210 => absurd (hg.1) c_210)
  refine lv_aload_n hx hb dJ2_compress_dfd3c_57 rfl (lv_at hl 1 rfl) ?_
  have hP9 := hP.sub (ws' := [(va, .inl (cC, na, .inl fa)), (q_207, .inl (cA_208, k, .inl g))]) [0, 1] rfl
  have hD9 := hD.sub (ws' := [(va, .inl (cC, na, .inl fa)), (q_207, .inl (cA_208, k, .inl g))]) [0, 1] (by decide) rfl
  have hK9 := hK.sub (tys' := [(cC, .char), (cA_208, .byte)]) [0, 1] rfl
  refine W.widen (k := 1) (n := k) (by omega) (by omega) ?_
  exact W.aret (v := .ref q_207) hx hb hr (Or.inr ⟨_, rfl⟩) (Or.inr ⟨_, rfl⟩) (fun t ht hW => ⟨⟨(cA_208, g), q_207, rfl, hg.2, hfr, by rw [ht]; exact hP9, va_K.moved hW.alike hK9, hD9⟩, hS.F ht⟩) hS.2.2 dJ2_compress_dfd3c_58
set_option maxHeartbeats 4000000 in
set_option maxRecDepth 100000 in
/-- StringUTF16.coderFromArrayLen of a Latin-1 row -/
theorem kJ2_coderFromArrayLen_85cad (l : Launch) (dC : Nat → ClassId) (dI : Nat → Nat → Nat) (sz : Nat) (v : Nat) (cB : ClassId) (k : Nat) (f : Nat → Int32) (hk : k ≤ 65536) : Met l yJ2_coderFromArrayLen_85cad wsJ2_coderFromArrayLen_85cad ({ frames := 0, cells := 0, slots := 0, locals := 0 }) (va_Pc [.ref v, .int (nI k)] (fun U => U.heap.size = sz ∧ va_P (dC, dI) vwCl [(v, .inl (cB, k, .inl f))] U.heap ∧ va_K (dC, dI) vwCl [(cB, .byte)] U ∧ va_D (fun _ => True) [(v, .inl (cB, k, .inl f))])) (va_Qi (fun (r : Int32) (u : Unit) => r = 0) (fun (u : Unit) (t : State) => va_P (dC, dI) vwCl [(v, .inl (cB, k, .inl f))] t.heap ∧ va_K (dC, dI) vwCl [(cB, .byte)] t ∧ va_D (va_A [(v, .inl (cB, k, .inl f))] sz) [(v, .inl (cB, k, .inl f))]) (va_A [(v, .inl (cB, k, .inl f))] sz)) 0 0 (va_A [(v, .inl (cB, k, .inl f))] sz) := by
  refine Met.ofW (cc := cJ2_coderFromArrayLen_85cad) (maxL := 2) (ret := (some .byte)) (by decide) rfl ?_
  intro p e s m args below meth c s₁ B hml hv
  obtain ⟨rfl, hsz, hP, hK, hD0⟩ := hv
  have hx := B.exec
  have hb := B.bytes
  have hr := B.returns
  have hts := atoms_spec (ws := wsJ2_coderFromArrayLen_85cad) B.pre
  have hown : s.vm.findClass RJ2 = some m.cls := findClass_of_methodNamed B.named
  have hlocks := B.notSynchronized
  subst hsz
  have hD := hD0.self (sz := s.heap.size)
  generalize hAe : va_A [(v, .inl (cB, k, .inl f))] s.heap.size = A at hD ⊢
  have hA : ∀ q : Nat, s.heap.size ≤ q → A q := fun q h => by rw [← hAe]; exact Or.inr h
  have hS : va_S A s.heap s.heap [] := va_S.rf
  have hP : va_P (dC, dI) vwCl [(v, .inl (cB, k, .inl f))] s.heap := hP
  have hl := lv_entry ([.ref v, .int (nI k)]) (n := 2) (Nat.le_of_ble_eq_true rfl)
  rw [lg_entry_eq]
  generalize (lg_sl ([.ref v, .int (nI k)]) ++ List.replicate (2 - (lg_sl ([.ref v, .int (nI k)])).length) Slot.unset).toArray = ls at hl ⊢
  have hl : lv_has ls 2 [(0, .ref v), (1, .int (nI k))] := hl
  refine lv_iload_n hx hb dJ2_coderFromArrayLen_85cad_0 rfl (lv_at hl 1 rfl) ?_
  refine lv_aload_n hx hb dJ2_coderFromArrayLen_85cad_1 rfl (lv_at hl 0 rfl) ?_
  refine va_alen hx hb hK hP 0 0 rfl rfl (v := nI k) rfl dJ2_coderFromArrayLen_85cad_2 ?_
  refine lv_isub hx hb dJ2_coderFromArrayLen_85cad_3 ?_
  refine lv_topi (fun x_211 ex_211 => ?_)
  refine lv_bipush (v := 31) hx hb dJ2_coderFromArrayLen_85cad_4 (by decide) ?_
  have ex : x_211 = 0 := by rw [ex_211]; exact Int32.sub_self _
  rw [ex]
  refine lv_iushr (v := 0) hx hb dJ2_coderFromArrayLen_85cad_6 (by decide) ?_
  obtain ⟨x_212, ex_212⟩ : ∃ z : Int32, (0 : Int32).toInt8.toInt32 = z := ⟨_, rfl⟩
  refine lv_i2b (v := x_212) hx hb dJ2_coderFromArrayLen_85cad_7 ex_212 ?_
  have e0 : x_212 = 0 := by rw [← ex_212]; decide
  have hP9 := hP.sub (ws' := [(v, .inl (cB, k, .inl f))]) [0] rfl
  have hD9 := hD.sub (ws' := [(v, .inl (cB, k, .inl f))]) [0] (by decide) rfl
  have hK9 := hK.sub (tys' := [(cB, .byte)]) [0] rfl
  exact W.zret (v := x_212) hx hb hr (by rw [e0]; rfl) (fun t ht hW => ⟨⟨x_212, (), rfl, e0, by rw [ht]; exact hP9, va_K.moved hW.alike hK9, hD9⟩, hS.F ht⟩) hS.2.2 dJ2_coderFromArrayLen_85cad_8
set_option maxHeartbeats 4000000 in
set_option maxRecDepth 100000 in
/-- String(char[]) of signs below 256 -/
theorem kJ0_init_bb550 (l : Launch) (dC : Nat → ClassId) (dI : Nat → Nat → Nat) (sz : Nat) (h2 va : Nat) (cd hh hz : Int32) (cC : ClassId) (k : Nat) (fa : Nat → Int32) (tc : Nat → Nat) (hk1 : 1 ≤ k) (hk : k ≤ 65536) (hfa : ∀ j, j < k → fa j = nI (tc j) ∧ tc j < 256) : Met l yJ0_init_bb550 wsJ0_init_bb550 ({ frames := 2, cells := 1, slots := k, locals := 51 }) (va_Pc [.ref h2, .ref va, .int (nI 0), .int (nI k), .null] (fun U => U.heap.size = sz ∧ va_P (dC, dI) vwCl [(h2, .inr (0, [.null, .int cd, .int hh, .int hz])), (va, .inl (cC, k, .inl fa))] U.heap ∧ va_K (dC, dI) vwCl [(cC, .char)] U ∧ va_D (fun _ => True) [(h2, .inr (0, [.null, .int cd, .int hh, .int hz])), (va, .inl (cC, k, .inl fa))] ∧ jz (va_A [(h2, .inr (0, [.null, .int cd, .int hh, .int hz])), (va, .inl (cC, k, .inl fa))] sz) U U.heap)) (va_Qv (fun (u : Nat × ClassId × (Nat → Int32)) => match u with | (v2, cA, g) => sb_Fit g ∧ ∀ j, j < k → g j = sb_b (tc j)) (fun (u : Nat × ClassId × (Nat → Int32)) (t : State) => match u with | (v2, cA, g) => sz ≤ v2 ∧ va_P (dC, dI) vwCl [(h2, .inr (0, [.ref v2, .int 0, .int hh, .int hz])), (v2, .inl (cA, k, .inl g)), (va, .inl (cC, k, .inl fa))] t.heap ∧ va_K (dC, dI) vwCl [(cA, .byte), (cC, .char)] t ∧ va_D (va_A [(h2, .inr (0, [.null, .int cd, .int hh, .int hz])), (va, .inl (cC, k, .inl fa))] sz) [(h2, .inr (0, [.ref v2, .int 0, .int hh, .int hz])), (v2, .inl (cA, k, .inl g)), (va, .inl (cC, k, .inl fa))]) (va_A [(h2, .inr (0, [.null, .int cd, .int hh, .int hz])), (va, .inl (cC, k, .inl fa))] sz)) 1 k (va_A [(h2, .inr (0, [.null, .int cd, .int hh, .int hz])), (va, .inl (cC, k, .inl fa))] sz) := by
  refine Met.ofW (cc := cJ0_init_bb550) (maxL := 6) (ret := none) (by decide) rfl ?_
  intro p e s m args below meth c s₁ B hml hv
  obtain ⟨rfl, hsz, hP, hK, hD0, hZ⟩ := hv
  have hx := B.exec
  have hb := B.bytes
  have hr := B.returns
  have hts := atoms_spec (ws := wsJ0_init_bb550) B.pre
  have hown : s.vm.findClass RJ0 = some m.cls := findClass_of_methodNamed B.named
  have hlocks := B.notSynchronized
  have hin : meth.name = "<init>" := (name_of_methodNamed B.named B.method).1
  subst hsz
  have hD := hD0.self (sz := s.heap.size)
  generalize hAe : va_A [(h2, .inr (0, [.null, .int cd, .int hh, .int hz])), (va, .inl (cC, k, .inl fa))] s.heap.size = A at hD hZ ⊢
  have hA : ∀ q : Nat, s.heap.size ≤ q → A q := fun q h => by rw [← hAe]; exact Or.inr h
  have hS : va_S A s.heap s.heap [] := va_S.rf
  have hP : va_P (dC, dI) vwCl [(h2, .inr (0, [.null, .int cd, .int hh, .int hz])), (va, .inl (cC, k, .inl fa))] s.heap := hP
  have hl := lv_entry ([.ref h2, .ref va, .int (nI 0), .int (nI k), .null]) (n := 6) (Nat.le_of_ble_eq_true rfl)
  rw [lg_entry_eq]
  generalize (lg_sl ([.ref h2, .ref va, .int (nI 0), .int (nI k), .null]) ++ List.replicate (6 - (lg_sl ([.ref h2, .ref va, .int (nI 0), .int (nI k), .null])).length) Slot.unset).toArray = ls at hl ⊢
  have hl : lv_has ls 6 [(0, .ref h2), (1, .ref va), (2, .int (nI 0)), (3, .int (nI k)), (4, .null)] := hl
  refine lv_aload_n hx hb dJ0_init_bb550_0 rfl (lv_at hl 0 rfl) ?_
  refine W.objInit hx hb hown (hts (.methodLink RJ0 1 objectInit) (by decide +kernel)) (hts (.instanceMethod objectInit) (by decide +kernel)) (hts _ (by decide +kernel)) rfl (by rw [hml]; exact hl.1) rfl dJ0_init_bb550_1 (Nat.le_of_ble_eq_true rfl) (Nat.le_of_ble_eq_true rfl) ?_
  refine W.eq (g2 := F0 m 4 ls []) rfl ?_
  refine lv_iload_n hx hb dJ0_init_bb550_4 rfl (lv_at hl 3 rfl) ?_
  refine lv_if_ne (tgt := 27) hx hb dJ0_init_bb550_5 (by decide) (fun c_213 => ?_) (fun c_213 => absurd c_213 (nI_ne0 (by omega) (by omega)))
  refine va_gets (C := "java/lang/String") (n := "COMPACT_STRINGS") (d := "Z") (v := .int 1) hx hb hZ.1 hS hown (hts (.fieldLink RJ0 38 "java/lang/String" "COMPACT_STRINGS" "Z") (by decide +kernel)) (fun _ h9 => h9) dJ0_init_bb550_27 ?_
  refine lv_if_eq (tgt := 58) hx hb dJ0_init_bb550_30 (by decide) (fun c_214 => absurd c_214 (by decide)) (fun c_214 => ?_)
  refine lv_aload_n hx hb dJ0_init_bb550_33 rfl (lv_at hl 1 rfl) ?_
  refine lv_iload_n hx hb dJ0_init_bb550_34 rfl (lv_at hl 2 rfl) ?_
  refine lv_iload_n hx hb dJ0_init_bb550_35 rfl (lv_at hl 3 rfl) ?_
  have hS0 := hS
  have hPc := hP.sub (ws' := [(va, .inl (cC, k, .inl fa))]) [1] rfl
  have hDc := hD.sub (ws' := [(va, .inl (cC, k, .inl fa))]) [1] (by decide) rfl
  have hKc := hK.sub (tys' := [(cC, .char)]) [0] rfl
  have hFc := va_free (wc := [(va, .inl (cC, k, .inl fa))]) hD hS hA [1] rfl
  refine va_callr (va_runS (As := [.ref va, .int (nI 0), .int (nI k)]) (rest := []) ⟨hx, hb, hml, hown, hts⟩ (kJ2_compress_dfd3c l dC dI s.heap.size va cC k k fa tc (Nat.le_refl _) hk hk hfa) (va_cwS 3 hts gJ0_init_bb550_J2_compress_dfd3c rfl rfl rfl (by decide +kernel) ⟨Nat.le_of_ble_eq_true rfl, Nat.le_of_ble_eq_true rfl⟩) ⟨fun a U g mk q => by obtain ⟨q0, q1, qP, qK, qD⟩ := q; exact ⟨q0, q1, qP, va_K.moved (u := U) (U := U.calling g mk a) (Vm.Alike.refl U.vm) qK, qD⟩, fun U hU hW => ⟨rfl, by rw [hU], by rw [hU]; exact hPc, va_K.moved hW.alike hKc, hDc.weaken (fun _ _ _ _ => trivial)⟩⟩ rfl rfl hl.1 rfl (lv_room (Nat.le_of_ble_eq_true rfl)) dJ0_init_bb550_36 ⟨(by show 0 + 1 ≤ 1; omega), (by show 0 + k ≤ k; omega)⟩) hS (fun q _ h => hFc q h) hFc (fun u r_215 t H1 locs ht hvm hg hB hz1 hk1 hS => ?_)
  obtain ⟨cA, g⟩ := u
  try dsimp only at hB
  try dsimp only at hg
  obtain ⟨hfr, hP1, hK1, hD1⟩ := hB
  rw [ht] at hP1
  have hK1 := va_K.moved hvm.symm hK1
  obtain ⟨hP, hD⟩ := va_join (wr := [(h2, .inr (0, [.null, .int cd, .int hh, .int hz]))]) (w1 := [(va, .inl (cC, k, .inl fa)), (r_215, .inl (cA, k, .inl g))]) hP hD [1] [0] rfl rfl (by decide) (by decide) hk1 hFc hP1 hD1
  have hK := (hK.sub (tys' := []) [] rfl).app hK1
  generalize H1 = H at hP hS ⊢
  have hP : va_P (dC, dI) vwCl [(h2, .inr (0, [.null, .int cd, .int hh, .int hz])), (va, .inl (cC, k, .inl fa)), (r_215, .inl (cA, k, .inl g))] H := hP
  have hD : va_D A [(h2, .inr (0, [.null, .int cd, .int hh, .int hz])), (va, .inl (cC, k, .inl fa)), (r_215, .inl (cA, k, .inl g))] := hD
  have hK : va_K (dC, dI) vwCl [(cC, .char), (cA, .byte)] s := hK
  have hfr := Nat.le_trans hS0.1 hfr
  refine lv_astore (lv' := [(5, .ref r_215), (0, .ref h2), (1, .ref va), (2, .int (nI 0)), (3, .int (nI k)), (4, .null)]) hx hb dJ0_init_bb550_39 hl (by decide) rfl (fun ls hl => ?_)
  refine lv_aload_n hx hb dJ0_init_bb550_41 rfl (lv_at hl 1 rfl) ?_
  refine lv_aload hx hb dJ0_init_bb550_42 (lv_at hl 0 rfl) ?_
  refine lv_iload_n hx hb dJ0_init_bb550_44 rfl (lv_at hl 4 rfl) ?_
  have hPc := hP.sub (ws' := [(r_215, .inl (cA, k, .inl g))]) [2] rfl
  have hDc := hD.sub (ws' := [(r_215, .inl (cA, k, .inl g))]) [2] (by decide) rfl
  have hKc := hK.sub (tys' := [(cA, .byte)]) [1] rfl
  have hFc := va_free (wc := [(r_215, .inl (cA, k, .inl g))]) hD hS hA [2] rfl
  refine va_calli (va_runS (As := [.ref r_215, .int (nI k)]) (rest := [.ref h2]) ⟨hx, hb, hml, hown, hts⟩ (kJ2_coderFromArrayLen_85cad l dC dI H.size r_215 cA k g hk) (va_cwS 2 hts gJ0_init_bb550_J2_coderFromArrayLen_85cad rfl rfl rfl (by decide +kernel) ⟨Nat.le_of_ble_eq_true rfl, Nat.le_of_ble_eq_true rfl⟩) ⟨fun a U g mk q => by obtain ⟨q0, q1, qP, qK, qD⟩ := q; exact ⟨q0, q1, qP, va_K.moved (u := U) (U := U.calling g mk a) (Vm.Alike.refl U.vm) qK, qD⟩, fun U hU hW => ⟨rfl, by rw [hU], by rw [hU]; exact hPc, va_K.moved hW.alike hKc, hDc.weaken (fun _ _ _ _ => trivial)⟩⟩ rfl rfl hl.1 rfl (lv_room (Nat.le_of_ble_eq_true rfl)) dJ0_init_bb550_45 ⟨(by show 0 + 1 + 0 ≤ 1; omega), (by show 0 + k + 0 ≤ k; omega)⟩) hS (fun q _ h => hFc q h) hFc (fun r_216 u t H1 locs ht hvm hcd hB hz1 hk1 hS => ?_)
  try dsimp only at hB
  try dsimp only at hcd
  obtain ⟨hP1, hK1, hD1⟩ := hB
  rw [ht] at hP1
  have hK1 := va_K.moved hvm.symm hK1
  obtain ⟨hP, hD⟩ := va_join (wr := [(h2, .inr (0, [.null, .int cd, .int hh, .int hz])), (va, .inl (cC, k, .inl fa))]) (w1 := [(r_215, .inl (cA, k, .inl g))]) hP hD [2] [0, 1] rfl rfl (by decide) (by decide) hk1 hFc hP1 hD1
  have hK := (hK.sub (tys' := [(cC, .char)]) [0] rfl).app hK1
  generalize H1 = H at hP hS ⊢
  have hP : va_P (dC, dI) vwCl [(h2, .inr (0, [.null, .int cd, .int hh, .int hz])), (va, .inl (cC, k, .inl fa)), (r_215, .inl (cA, k, .inl g))] H := hP
  have hD : va_D A [(h2, .inr (0, [.null, .int cd, .int hh, .int hz])), (va, .inl (cC, k, .inl fa)), (r_215, .inl (cA, k, .inl g))] := hD
  have hK : va_K (dC, dI) vwCl [(cC, .char), (cA, .byte)] s := hK
  subst hcd
  refine va_putF (D := (dC, dI)) (ci := 0) (v := .int 0) (ty := .byte) (C := RJ0) (T := TJ0) (N := 4) hx hb hts (by decide +kernel) tyJ0 tyJ0_ok nmJ0 hown hK hP hD hS 0 rfl rfl 1 (by decide) (hts (.fieldLink RJ0 15 "java/lang/String" "coder" "B") (by decide +kernel)) (fun _ h9 => h9) rfl hin rfl (by decide +kernel) rfl rfl (Nat.le_of_ble_eq_true rfl) dJ0_init_bb550_48 (fun H locs hP hD hS => ?_)
  have hP : va_P (dC, dI) vwCl [(h2, .inr (0, [.null, .int 0, .int hh, .int hz])), (va, .inl (cC, k, .inl fa)), (r_215, .inl (cA, k, .inl g))] H := hP
  have hD : va_D A [(h2, .inr (0, [.null, .int 0, .int hh, .int hz])), (va, .inl (cC, k, .inl fa)), (r_215, .inl (cA, k, .inl g))] := hD
  refine lv_aload_n hx hb dJ0_init_bb550_51 rfl (lv_at hl 1 rfl) ?_
  refine lv_aload hx hb dJ0_init_bb550_52 (lv_at hl 0 rfl) ?_
  refine va_putF (D := (dC, dI)) (ci := 0) (v := .ref r_215) (ty := (.array .byte)) (C := RJ0) (T := TJ0) (N := 4) hx hb hts (by decide +kernel) tyJ0 tyJ0_ok nmJ0 hown hK hP hD hS 0 rfl rfl 0 (by decide) (hts (.fieldLink RJ0 9 "java/lang/String" "value" "[B") (by decide +kernel)) (fun _ h9 => h9) rfl hin rfl (by decide +kernel) rfl rfl (Nat.le_of_ble_eq_true rfl) dJ0_init_bb550_54 (fun H locs hP hD hS => ?_)
  have hP : va_P (dC, dI) vwCl [(h2, .inr (0, [.ref r_215, .int 0, .int hh, .int hz])), (va, .inl (cC, k, .inl fa)), (r_215, .inl (cA, k, .inl g))] H := hP
  have hD : va_D A [(h2, .inr (0, [.ref r_215, .int 0, .int hh, .int hz])), (va, .inl (cC, k, .inl fa)), (r_215, .inl (cA, k, .inl g))] := hD
  have hP9 := hP.sub (ws' := [(h2, .inr (0, [.ref r_215, .int 0, .int hh, .int hz])), (r_215, .inl (cA, k, .inl g)), (va, .inl (cC, k, .inl fa))]) [0, 2, 1] rfl
  have hD9 := hD.sub (ws' := [(h2, .inr (0, [.ref r_215, .int 0, .int hh, .int hz])), (r_215, .inl (cA, k, .inl g)), (va, .inl (cC, k, .inl fa))]) [0, 2, 1] (by decide) rfl
  have hK9 := hK.sub (tys' := [(cA, .byte), (cC, .char)]) [1, 0] rfl
  refine W.widen (k := 1) (n := k) (by omega) (by omega) ?_
  exact W.vret hx hb hr (fun t ht hW => ⟨⟨(r_215, cA, g), rfl, hg, hfr, by rw [ht]; exact hP9, va_K.moved hW.alike hK9, hD9⟩, hS.F ht⟩) hS.2.2 dJ0_init_bb550_57
set_option maxHeartbeats 4000000 in
set_option maxRecDepth 100000 in
/-- String(char[]) of signs below 256 -/
theorem kJ0_init_905df (l : Launch) (dC : Nat → ClassId) (dI : Nat → Nat → Nat) (sz : Nat) (h2 va : Nat) (cd hh hz : Int32) (cC : ClassId) (k : Nat) (fa : Nat → Int32) (tc : Nat → Nat) (hk1 : 1 ≤ k) (hk : k ≤ 65536) (hfa : ∀ j, j < k → fa j = nI (tc j) ∧ tc j < 256) : Met l yJ0_init_905df wsJ0_init_905df ({ frames := 3, cells := 1, slots := k, locals := 76 }) (va_Pc [.ref h2, .ref va] (fun U => U.heap.size = sz ∧ va_P (dC, dI) vwCl [(h2, .inr (0, [.null, .int cd, .int hh, .int hz])), (va, .inl (cC, k, .inl fa))] U.heap ∧ va_K (dC, dI) vwCl [(cC, .char)] U ∧ va_D (fun _ => True) [(h2, .inr (0, [.null, .int cd, .int hh, .int hz])), (va, .inl (cC, k, .inl fa))] ∧ jz (va_A [(h2, .inr (0, [.null, .int cd, .int hh, .int hz])), (va, .inl (cC, k, .inl fa))] sz) U U.heap)) (va_Qv (fun (u : Nat × ClassId × (Nat → Int32)) => match u with | (v2, cA, g) => sb_Fit g ∧ ∀ j, j < k → g j = sb_b (tc j)) (fun (u : Nat × ClassId × (Nat → Int32)) (t : State) => match u with | (v2, cA, g) => sz ≤ v2 ∧ va_P (dC, dI) vwCl [(h2, .inr (0, [.ref v2, .int 0, .int hh, .int hz])), (v2, .inl (cA, k, .inl g)), (va, .inl (cC, k, .inl fa))] t.heap ∧ va_K (dC, dI) vwCl [(cA, .byte), (cC, .char)] t ∧ va_D (va_A [(h2, .inr (0, [.null, .int cd, .int hh, .int hz])), (va, .inl (cC, k, .inl fa))] sz) [(h2, .inr (0, [.ref v2, .int 0, .int hh, .int hz])), (v2, .inl (cA, k, .inl g)), (va, .inl (cC, k, .inl fa))]) (va_A [(h2, .inr (0, [.null, .int cd, .int hh, .int hz])), (va, .inl (cC, k, .inl fa))] sz)) 1 k (va_A [(h2, .inr (0, [.null, .int cd, .int hh, .int hz])), (va, .inl (cC, k, .inl fa))] sz) := by
  refine Met.ofW (cc := cJ0_init_905df) (maxL := 2) (ret := none) (by decide) rfl ?_
  intro p e s m args below meth c s₁ B hml hv
  obtain ⟨rfl, hsz, hP, hK, hD0, hZ⟩ := hv
  have hx := B.exec
  have hb := B.bytes
  have hr := B.returns
  have hts := atoms_spec (ws := wsJ0_init_905df) B.pre
  have hown : s.vm.findClass RJ0 = some m.cls := findClass_of_methodNamed B.named
  have hlocks := B.notSynchronized
  have hin : meth.name = "<init>" := (name_of_methodNamed B.named B.method).1
  subst hsz
  have hD := hD0.self (sz := s.heap.size)
  generalize hAe : va_A [(h2, .inr (0, [.null, .int cd, .int hh, .int hz])), (va, .inl (cC, k, .inl fa))] s.heap.size = A at hD hZ ⊢
  have hA : ∀ q : Nat, s.heap.size ≤ q → A q := fun q h => by rw [← hAe]; exact Or.inr h
  have hS : va_S A s.heap s.heap [] := va_S.rf
  have hP : va_P (dC, dI) vwCl [(h2, .inr (0, [.null, .int cd, .int hh, .int hz])), (va, .inl (cC, k, .inl fa))] s.heap := hP
  have hl := lv_entry ([.ref h2, .ref va]) (n := 2) (Nat.le_of_ble_eq_true rfl)
  rw [lg_entry_eq]
  generalize (lg_sl ([.ref h2, .ref va]) ++ List.replicate (2 - (lg_sl ([.ref h2, .ref va])).length) Slot.unset).toArray = ls at hl ⊢
  have hl : lv_has ls 2 [(0, .ref h2), (1, .ref va)] := hl
  refine lv_aload_n hx hb dJ0_init_905df_0 rfl (lv_at hl 0 rfl) ?_
  refine lv_aload_n hx hb dJ0_init_905df_1 rfl (lv_at hl 1 rfl) ?_
  refine lv_iconst (v := 0) hx hb dJ0_init_905df_2 (by decide) ?_
  refine lv_aload_n hx hb dJ0_init_905df_3 rfl (lv_at hl 1 rfl) ?_
  refine va_alen hx hb hK hP 1 0 rfl rfl (v := nI k) rfl dJ0_init_905df_4 ?_
  refine lv_null hx hb dJ0_init_905df_5 ?_
  have hS0 := hS
  have hPc := hP.sub (ws' := [(h2, .inr (0, [.null, .int cd, .int hh, .int hz])), (va, .inl (cC, k, .inl fa))]) [0, 1] rfl
  have hDc := hD.sub (ws' := [(h2, .inr (0, [.null, .int cd, .int hh, .int hz])), (va, .inl (cC, k, .inl fa))]) [0, 1] (by decide) rfl
  have hKc := hK.sub (tys' := [(cC, .char)]) [0] rfl
  have hFc := va_free (wc := [(h2, .inr (0, [.null, .int cd, .int hh, .int hz])), (va, .inl (cC, k, .inl fa))]) hD hS hA [0, 1] rfl
  refine va_callv (va_runI (As := [.ref va, .int (nI 0), .int (nI k), .null]) (rest := []) ⟨hx, hb, hml, hown, hts⟩ (kJ0_init_bb550 l dC dI s.heap.size h2 va cd hh hz cC k fa tc hk1 hk hfa) (cwI 4 hts gJ0_init_905df_J0_init_bb550 rfl rfl rfl (hts (.initialized RJ0) (by decide +kernel)) (hts (.methodLink RJ0 27 yJ0_init_bb550) (by decide +kernel)) (hts (.instanceMethod yJ0_init_bb550) (by decide +kernel)) rfl (by decide +kernel) ⟨Nat.le_of_ble_eq_true rfl, Nat.le_of_ble_eq_true rfl⟩) ⟨fun a U g mk q => by obtain ⟨q0, q1, qP, qK, qD, qE0⟩ := q; exact ⟨q0, q1, qP, va_K.moved (u := U) (U := U.calling g mk a) (Vm.Alike.refl U.vm) qK, qD, jz.call qE0⟩, fun U hU hW => ⟨rfl, by rw [hU], by rw [hU]; exact hPc, va_K.moved hW.alike hKc, hDc.weaken (fun _ _ _ _ => trivial), jz.pass hZ hS hFc hW hU⟩⟩ rfl rfl hl.1 rfl (lv_room (Nat.le_of_ble_eq_true rfl)) dJ0_init_905df_6 ⟨(by show 0 + 1 ≤ 1; omega), (by show 0 + k ≤ k; omega)⟩) hS (fun q _ h => hFc q h) hFc (fun u t H1 locs ht hvm hg hB hz1 hk1 hS => ?_)
  obtain ⟨v2, cA, g⟩ := u
  try dsimp only at hB
  try dsimp only at hg
  obtain ⟨hfr, hP1, hK1, hD1⟩ := hB
  rw [ht] at hP1
  have hK1 := va_K.moved hvm.symm hK1
  obtain ⟨hP, hD⟩ := va_join (wr := []) (w1 := [(h2, .inr (0, [.ref v2, .int 0, .int hh, .int hz])), (v2, .inl (cA, k, .inl g)), (va, .inl (cC, k, .inl fa))]) hP hD [0, 1] [] rfl rfl (by decide) (by decide) hk1 hFc hP1 hD1
  have hK := (hK.sub (tys' := []) [] rfl).app hK1
  generalize H1 = H at hP hS ⊢
  have hP : va_P (dC, dI) vwCl [(h2, .inr (0, [.ref v2, .int 0, .int hh, .int hz])), (v2, .inl (cA, k, .inl g)), (va, .inl (cC, k, .inl fa))] H := hP
  have hD : va_D A [(h2, .inr (0, [.ref v2, .int 0, .int hh, .int hz])), (v2, .inl (cA, k, .inl g)), (va, .inl (cC, k, .inl fa))] := hD
  have hK : va_K (dC, dI) vwCl [(cA, .byte), (cC, .char)] s := hK
  have hfr := Nat.le_trans hS0.1 hfr
  have hP9 := hP.sub (ws' := [(h2, .inr (0, [.ref v2, .int 0, .int hh, .int hz])), (v2, .inl (cA, k, .inl g)), (va, .inl (cC, k, .inl fa))]) [0, 1, 2] rfl
  have hD9 := hD.sub (ws' := [(h2, .inr (0, [.ref v2, .int 0, .int hh, .int hz])), (v2, .inl (cA, k, .inl g)), (va, .inl (cC, k, .inl fa))]) [0, 1, 2] (by decide) rfl
  have hK9 := hK.sub (tys' := [(cA, .byte), (cC, .char)]) [0, 1] rfl
  refine W.widen (k := 1) (n := k) (by omega) (by omega) ?_
  exact W.vret hx hb hr (fun t ht hW => ⟨⟨(v2, cA, g), rfl, hg, hfr, by rw [ht]; exact hP9, va_K.moved hW.alike hK9, hD9⟩, hS.F ht⟩) hS.2.2 dJ0_init_905df_9
