/-! SignropeModel.splice, setLength, text, where nothing is refused. -/
set_option maxHeartbeats 4000000 in
set_option maxRecDepth 100000 in
/-- splice, not refused -/
theorem kX3_splice (l : Launch) (dC : Nat → ClassId) (dI : Nat → Nat → Nat) (sz : Nat) (hM tx : Nat) (kn rf sp : Int32) (cT cI cP : ClassId) (fT : Nat → Option Nat) (j r k : Nat) (f : Nat → Int32) (a b pr w : Nat) (pf : Nat → Int32) (wh : Int32) (hj : j < 4) (hT : fT j = some r) (hab : a ≤ b) (hbk : b ≤ k) (hk : k ≤ 240) (hw : w ≤ 65536) (hlen : k - (b - a) + w ≤ 240) : Met l yX3_splice wsX3_splice ({ frames := 1, cells := 3, slots := a + (k - b) + (k - (b - a) + w), locals := 28 }) (va_Pc [.ref hM, .int (nI j), .int (nI a), .int (nI b), .ref pr, .int wh] (fun U => U.heap.size = sz ∧ va_P (dC, dI) vwCl [(hM, .inr (7, [.int 0, .ref tx, .int kn, .int rf, .int sp])), (tx, .inl (cT, 4, .inr (.inr (.inr (.inr fT))))), (r, .inl (cI, k, .inl f)), (pr, .inl (cP, w, .inl pf))] U.heap ∧ va_K (dC, dI) vwCl [(cT, .array .int), (cI, .int), (cP, .int)] U ∧ va_D (fun _ => True) [(hM, .inr (7, [.int 0, .ref tx, .int kn, .int rf, .int sp])), (tx, .inl (cT, 4, .inr (.inr (.inr (.inr fT))))), (r, .inl (cI, k, .inl f)), (pr, .inl (cP, w, .inl pf))] ∧ ja U)) (va_Qi (fun (r : Int32) (u : Nat × ClassId × (Nat → Int32)) => match u with | (rn, cA, g) => r = nI (k - (b - a) + w) ∧ ∀ i, i < k - (b - a) + w → g i = cat3 a w f pf (fun z => f (b + z)) i) (fun (u : Nat × ClassId × (Nat → Int32)) (t : State) => match u with | (rn, cA, g) => sz ≤ rn ∧ va_P (dC, dI) vwCl [(hM, .inr (7, [.int 0, .ref tx, .int kn, .int rf, .int (sp + 1)])), (tx, .inl (cT, 4, .inr (.inr (.inr (.inr (va_up fT j (some rn))))))), (rn, .inl (cA, k - (b - a) + w, .inl g)), (r, .inl (cI, k, .inl f)), (pr, .inl (cP, w, .inl pf))] t.heap ∧ va_K (dC, dI) vwCl [(cT, .array .int), (cA, .int), (cI, .int), (cP, .int)] t ∧ va_D (va_A [(hM, .inr (7, [.int 0, .ref tx, .int kn, .int rf, .int sp])), (tx, .inl (cT, 4, .inr (.inr (.inr (.inr fT))))), (r, .inl (cI, k, .inl f)), (pr, .inl (cP, w, .inl pf))] sz) [(hM, .inr (7, [.int 0, .ref tx, .int kn, .int rf, .int (sp + 1)])), (tx, .inl (cT, 4, .inr (.inr (.inr (.inr (va_up fT j (some rn))))))), (rn, .inl (cA, k - (b - a) + w, .inl g)), (r, .inl (cI, k, .inl f)), (pr, .inl (cP, w, .inl pf))]) (va_A [(hM, .inr (7, [.int 0, .ref tx, .int kn, .int rf, .int sp])), (tx, .inl (cT, 4, .inr (.inr (.inr (.inr fT))))), (r, .inl (cI, k, .inl f)), (pr, .inl (cP, w, .inl pf))] sz)) 3 (a + (k - b) + (k - (b - a) + w)) (va_A [(hM, .inr (7, [.int 0, .ref tx, .int kn, .int rf, .int sp])), (tx, .inl (cT, 4, .inr (.inr (.inr (.inr fT))))), (r, .inl (cI, k, .inl f)), (pr, .inl (cP, w, .inl pf))] sz) := by
  refine Met.ofW (cc := cX3_splice) (maxL := 7) (ret := (some .int)) (by decide) rfl ?_
  intro p e s m args below meth c s₁ B hml hv
  obtain ⟨rfl, hsz, hP, hK, hD0, hJ⟩ := hv
  have hx := B.exec
  have hb := B.bytes
  have hr := B.returns
  have hts := atoms_spec (ws := wsX3_splice) B.pre
  have hown : s.vm.findClass RX3 = some m.cls := findClass_of_methodNamed B.named
  have hlocks := B.notSynchronized
  subst hsz
  have hD := hD0.self (sz := s.heap.size)
  generalize hAe : va_A [(hM, .inr (7, [.int 0, .ref tx, .int kn, .int rf, .int sp])), (tx, .inl (cT, 4, .inr (.inr (.inr (.inr fT))))), (r, .inl (cI, k, .inl f)), (pr, .inl (cP, w, .inl pf))] s.heap.size = A at hD ⊢
  have hA : ∀ q : Nat, s.heap.size ≤ q → A q := fun q h => by rw [← hAe]; exact Or.inr h
  have hS : va_S A s.heap s.heap [] := va_S.rf
  have hP : va_P (dC, dI) vwCl [(hM, .inr (7, [.int 0, .ref tx, .int kn, .int rf, .int sp])), (tx, .inl (cT, 4, .inr (.inr (.inr (.inr fT))))), (r, .inl (cI, k, .inl f)), (pr, .inl (cP, w, .inl pf))] s.heap := hP
  have hl := lv_entry ([.ref hM, .int (nI j), .int (nI a), .int (nI b), .ref pr, .int wh]) (n := 7) (Nat.le_of_ble_eq_true rfl)
  rw [lg_entry_eq]
  generalize (lg_sl ([.ref hM, .int (nI j), .int (nI a), .int (nI b), .ref pr, .int wh]) ++ List.replicate (7 - (lg_sl ([.ref hM, .int (nI j), .int (nI a), .int (nI b), .ref pr, .int wh])).length) Slot.unset).toArray = ls at hl ⊢
  have hl : lv_has ls 7 [(0, .ref hM), (1, .int (nI j)), (2, .int (nI a)), (3, .int (nI b)), (4, .ref pr), (5, .int wh)] := hl
  refine lv_aload_n hx hb dX3_splice_0 rfl (lv_at hl 0 rfl) ?_
  refine va_get (D := (dC, dI)) (ci := 7) (v := .ref tx) (C := RX3) (T := TX3) (N := 5) hx hb hts (by decide +kernel) hown hK hP 0 rfl rfl 1 (by decide) (hts (.fieldLink RX3 11 "SignropeModel" "texts" "[[I") (by decide +kernel)) (fun _ h9 => h9) rfl dX3_splice_1 ?_
  refine lv_iload_n hx hb dX3_splice_4 rfl (lv_at hl 1 rfl) ?_
  have hin_164 : vp_in (nI j) 4 := vp_in_nI hj (by omega)
  refine va_aldA hx hb hK hP 1 0 rfl rfl hin_164 dX3_splice_5 ?_
  rw [show fT (nI j).toNatClampNeg = some r from (by rw [nI_clamp (by omega)]; exact hT)]
  refine lv_astore (lv' := [(6, .ref r), (0, .ref hM), (1, .int (nI j)), (2, .int (nI a)), (3, .int (nI b)), (4, .ref pr), (5, .int wh)]) hx hb dX3_splice_6 hl (by decide) rfl (fun ls hl => ?_)
  refine lv_aload_n hx hb dX3_splice_8 rfl (lv_at hl 1 rfl) ?_
  refine lv_aload hx hb dX3_splice_9 (lv_at hl 0 rfl) ?_
  refine va_alen hx hb hK hP 2 1 rfl rfl (v := nI k) rfl dX3_splice_11 ?_
  refine lv_iload_n hx hb dX3_splice_12 rfl (lv_at hl 4 rfl) ?_
  refine lv_iload_n hx hb dX3_splice_13 rfl (lv_at hl 3 rfl) ?_
  refine lv_isub hx hb dX3_splice_14 ?_
  refine lv_topi (fun x_165 ex_165 => ?_)
  have e1 : x_165 = nI (b - a) := by rw [ex_165]; exact pk_sub hab
  refine lv_isub hx hb dX3_splice_15 ?_
  refine lv_topi (fun x_166 ex_166 => ?_)
  have e2 : x_166 = nI (k - (b - a)) := by rw [ex_166, e1]; exact pk_sub (by omega)
  refine lv_aload hx hb dX3_splice_16 (lv_at hl 5 rfl) ?_
  refine va_alen hx hb hK hP 3 2 rfl rfl (v := nI w) rfl dX3_splice_18 ?_
  refine lv_iadd hx hb dX3_splice_19 ?_
  refine lv_topi (fun x_167 ex_167 => ?_)
  have e3 : x_167 = nI (k - (b - a) + w) := by rw [ex_167, e2]; exact nI_add _ w
  refine lv_sipush (v := 240) hx hb dX3_splice_20 (by decide) ?_
  refine lv_icmp_le (tgt := 30) hx hb dX3_splice_23 (by decide) (fun c_168 => ?_) (fun c_168 => absurd (by rw [e3]; exact (show nI (k - (b - a) + w) ≤ nI 240 from nI_le (by omega) (by omega))) c_168)
  refine lv_iconst (v := 0) hx hb dX3_splice_30 (by decide) ?_
  refine lv_iload hx hb dX3_splice_31 (lv_at hl 6 rfl) ?_
  have hPc := hP.sub (ws' := [(hM, .inr (7, [.int 0, .ref tx, .int kn, .int rf, .int sp]))]) [0] rfl
  have hDc := hD.sub (ws' := [(hM, .inr (7, [.int 0, .ref tx, .int kn, .int rf, .int sp]))]) [0] (by decide) rfl
  have hKc := hK.sub (tys' := []) [] rfl
  have hFc := va_free (wc := [(hM, .inr (7, [.int 0, .ref tx, .int kn, .int rf, .int sp]))]) hD hS hA [0] rfl
  refine va_calli (va_runV (As := [.int 0, .int wh]) (rest := []) ⟨hx, hb, hml, hown, hts⟩ (kX3_refuse l dC dI s.heap.size hM tx 0 kn rf sp 0 wh) (cwV 2 hts gX3_splice_X3_refuse rfl rfl rfl (by decide +kernel) ⟨Nat.le_of_ble_eq_true rfl, Nat.le_of_ble_eq_true rfl⟩) ⟨fun a U g mk q => by obtain ⟨q0, q1, qP, qK, qD⟩ := q; exact ⟨q0, q1, qP, va_K.moved (u := U) (U := U.calling g mk a) (Vm.Alike.refl U.vm) qK, qD⟩, va_recv hKc hPc (ci := 7) (q0 := 0) rfl rfl, fun U hU hW => ⟨rfl, by rw [hU], by rw [hU]; exact hPc, va_K.moved hW.alike hKc, hDc.weaken (fun _ _ _ _ => trivial)⟩⟩ rfl rfl hl.1 rfl (lv_room (Nat.le_of_ble_eq_true rfl)) dX3_splice_33 ⟨(by show 0 + 0 ≤ 3; omega), (by show 0 + 0 ≤ (a + (k - b) + (k - (b - a) + w)); omega)⟩) hS (fun q _ h => hFc q h) hFc (fun r_169 t2 t H1 locs ht hvm hr1 hB hz1 hk1 hS => ?_)
  try dsimp only at hB
  try dsimp only at hr1
  obtain ⟨hP1, hK1, hD1⟩ := hB
  rw [ht] at hP1
  have hK1 := va_K.moved hvm.symm hK1
  obtain ⟨hP, hD⟩ := va_join (wr := [(tx, .inl (cT, 4, .inr (.inr (.inr (.inr fT))))), (r, .inl (cI, k, .inl f)), (pr, .inl (cP, w, .inl pf))]) (w1 := [(hM, .inr (7, [.int t2, .ref tx, .int kn, .int rf, .int sp]))]) hP hD [0] [1, 2, 3] rfl rfl (by decide) (by decide) hk1 hFc hP1 hD1
  have hK := (hK.sub (tys' := [(cT, .array .int), (cI, .int), (cP, .int)]) [0, 1, 2] rfl).app hK1
  generalize H1 = H at hP hS ⊢
  have hP : va_P (dC, dI) vwCl [(tx, .inl (cT, 4, .inr (.inr (.inr (.inr fT))))), (r, .inl (cI, k, .inl f)), (pr, .inl (cP, w, .inl pf)), (hM, .inr (7, [.int t2, .ref tx, .int kn, .int rf, .int sp]))] H := hP
  have hD : va_D A [(tx, .inl (cT, 4, .inr (.inr (.inr (.inr fT))))), (r, .inl (cI, k, .inl f)), (pr, .inl (cP, w, .inl pf)), (hM, .inr (7, [.int t2, .ref tx, .int kn, .int rf, .int sp]))] := hD
  have hK : va_K (dC, dI) vwCl [(cT, .array .int), (cI, .int), (cP, .int)] s := hK
  obtain ⟨et2, er⟩ := hr1
  have et3 : t2 = 0 := et2
  subst et3
  refine lv_if_eq (tgt := 41) hx hb dX3_splice_36 (by decide) (fun c_170 => ?_) (fun c_170 => absurd (by rw [er]; decide) c_170)
  refine lv_aload_n hx hb dX3_splice_41 rfl (lv_at hl 1 rfl) ?_
  refine va_get (D := (dC, dI)) (ci := 7) (v := .ref tx) (C := RX3) (T := TX3) (N := 5) hx hb hts (by decide +kernel) hown hK hP 3 rfl rfl 1 (by decide) (hts (.fieldLink RX3 11 "SignropeModel" "texts" "[[I") (by decide +kernel)) (fun _ h9 => h9) rfl dX3_splice_42 ?_
  refine lv_iload_n hx hb dX3_splice_45 rfl (lv_at hl 2 rfl) ?_
  refine lv_aload hx hb dX3_splice_46 (lv_at hl 0 rfl) ?_
  refine lv_iconst (v := 0) hx hb dX3_splice_48 (by decide) ?_
  refine lv_iload_n hx hb dX3_splice_49 rfl (lv_at hl 3 rfl) ?_
  have hS0 := hS
  have hPc := hP.sub (ws' := [(r, .inl (cI, k, .inl f))]) [1] rfl
  have hDc := hD.sub (ws' := [(r, .inl (cI, k, .inl f))]) [1] (by decide) rfl
  have hKc := hK.sub (tys' := [(cI, .int)]) [1] rfl
  have hFc := va_free (wc := [(r, .inl (cI, k, .inl f))]) hD hS hA [1] rfl
  refine va_callr (va_runS (As := [.ref r, .int (nI 0), .int (nI a)]) (rest := [.int (nI j), .ref tx]) ⟨hx, hb, hml, hown, hts⟩ (kX3_part l dC dI H.size r cI k f 0 a (by omega) (by omega) (by omega)) (va_cwS 3 hts gX3_splice_X3_part rfl rfl rfl (by decide +kernel) ⟨Nat.le_of_ble_eq_true rfl, Nat.le_of_ble_eq_true rfl⟩) ⟨fun a U g mk q => by obtain ⟨q0, q1, qP, qK, qD⟩ := q; exact ⟨q0, q1, qP, va_K.moved (u := U) (U := U.calling g mk a) (Vm.Alike.refl U.vm) qK, qD⟩, fun U hU hW => ⟨rfl, by rw [hU], by rw [hU]; exact hPc, va_K.moved hW.alike hKc, hDc.weaken (fun _ _ _ _ => trivial)⟩⟩ rfl rfl hl.1 rfl (lv_room (Nat.le_of_ble_eq_true rfl)) dX3_splice_50 ⟨(by show 0 + 0 + 1 ≤ 3; omega), (by show 0 + 0 + (a - 0) ≤ (a + (k - b) + (k - (b - a) + w)); omega)⟩) hS (fun q _ h => hFc q h) hFc (fun u r_171 t H1 locs ht hvm hgh hB hz1 hk1 hS => ?_)
  obtain ⟨cH, gh⟩ := u
  try dsimp only at hB
  try dsimp only at hgh
  obtain ⟨hfr1, hP1, hK1, hD1⟩ := hB
  rw [ht] at hP1
  have hK1 := va_K.moved hvm.symm hK1
  obtain ⟨hP, hD⟩ := va_join (wr := [(tx, .inl (cT, 4, .inr (.inr (.inr (.inr fT))))), (pr, .inl (cP, w, .inl pf)), (hM, .inr (7, [.int 0, .ref tx, .int kn, .int rf, .int sp]))]) (w1 := [(r, .inl (cI, k, .inl f)), (r_171, .inl (cH, a - 0, .inl gh))]) hP hD [1] [0, 2, 3] rfl rfl (by decide) (by decide) hk1 hFc hP1 hD1
  have hK := (hK.sub (tys' := [(cT, .array .int), (cP, .int)]) [0, 2] rfl).app hK1
  generalize H1 = H at hP hS ⊢
  have hP : va_P (dC, dI) vwCl [(tx, .inl (cT, 4, .inr (.inr (.inr (.inr fT))))), (pr, .inl (cP, w, .inl pf)), (hM, .inr (7, [.int 0, .ref tx, .int kn, .int rf, .int sp])), (r, .inl (cI, k, .inl f)), (r_171, .inl (cH, a - 0, .inl gh))] H := hP
  have hD : va_D A [(tx, .inl (cT, 4, .inr (.inr (.inr (.inr fT))))), (pr, .inl (cP, w, .inl pf)), (hM, .inr (7, [.int 0, .ref tx, .int kn, .int rf, .int sp])), (r, .inl (cI, k, .inl f)), (r_171, .inl (cH, a - 0, .inl gh))] := hD
  have hK : va_K (dC, dI) vwCl [(cT, .array .int), (cP, .int), (cI, .int), (cH, .int)] s := hK
  refine lv_aload hx hb dX3_splice_53 (lv_at hl 5 rfl) ?_
  refine lv_aload hx hb dX3_splice_55 (lv_at hl 0 rfl) ?_
  refine lv_iload_n hx hb dX3_splice_57 rfl (lv_at hl 4 rfl) ?_
  refine lv_aload hx hb dX3_splice_58 (lv_at hl 0 rfl) ?_
  refine va_alen hx hb hK hP 3 2 rfl rfl (v := nI k) rfl dX3_splice_60 ?_
  have hS1 := hS
  have hPc := hP.sub (ws' := [(r, .inl (cI, k, .inl f))]) [3] rfl
  have hDc := hD.sub (ws' := [(r, .inl (cI, k, .inl f))]) [3] (by decide) rfl
  have hKc := hK.sub (tys' := [(cI, .int)]) [2] rfl
  have hFc := va_free (wc := [(r, .inl (cI, k, .inl f))]) hD hS hA [3] rfl
  refine va_callr (va_runS (As := [.ref r, .int (nI b), .int (nI k)]) (rest := [.ref pr, .ref r_171, .int (nI j), .ref tx]) ⟨hx, hb, hml, hown, hts⟩ (kX3_part l dC dI H.size r cI k f b k hbk (Nat.le_refl _) (by omega)) (va_cwS 3 hts gX3_splice_X3_part rfl rfl rfl (by decide +kernel) ⟨Nat.le_of_ble_eq_true rfl, Nat.le_of_ble_eq_true rfl⟩) ⟨fun a U g mk q => by obtain ⟨q0, q1, qP, qK, qD⟩ := q; exact ⟨q0, q1, qP, va_K.moved (u := U) (U := U.calling g mk a) (Vm.Alike.refl U.vm) qK, qD⟩, fun U hU hW => ⟨rfl, by rw [hU], by rw [hU]; exact hPc, va_K.moved hW.alike hKc, hDc.weaken (fun _ _ _ _ => trivial)⟩⟩ rfl rfl hl.1 rfl (lv_room (Nat.le_of_ble_eq_true rfl)) dX3_splice_61 ⟨(by show 0 + 0 + 1 + 1 ≤ 3; omega), (by show 0 + 0 + (a - 0) + (k - b) ≤ (a + (k - b) + (k - (b - a) + w)); omega)⟩) hS (fun q _ h => hFc q h) hFc (fun u r_172 t H1 locs ht hvm hgl hB hz1 hk1 hS => ?_)
  obtain ⟨cL, gl⟩ := u
  try dsimp only at hB
  try dsimp only at hgl
  obtain ⟨hfr2, hP1, hK1, hD1⟩ := hB
  rw [ht] at hP1
  have hK1 := va_K.moved hvm.symm hK1
  obtain ⟨hP, hD⟩ := va_join (wr := [(tx, .inl (cT, 4, .inr (.inr (.inr (.inr fT))))), (pr, .inl (cP, w, .inl pf)), (hM, .inr (7, [.int 0, .ref tx, .int kn, .int rf, .int sp])), (r_171, .inl (cH, a - 0, .inl gh))]) (w1 := [(r, .inl (cI, k, .inl f)), (r_172, .inl (cL, k - b, .inl gl))]) hP hD [3] [0, 1, 2, 4] rfl rfl (by decide) (by decide) hk1 hFc hP1 hD1
  have hK := (hK.sub (tys' := [(cT, .array .int), (cP, .int), (cH, .int)]) [0, 1, 3] rfl).app hK1
  generalize H1 = H at hP hS ⊢
  have hP : va_P (dC, dI) vwCl [(tx, .inl (cT, 4, .inr (.inr (.inr (.inr fT))))), (pr, .inl (cP, w, .inl pf)), (hM, .inr (7, [.int 0, .ref tx, .int kn, .int rf, .int sp])), (r_171, .inl (cH, a - 0, .inl gh)), (r, .inl (cI, k, .inl f)), (r_172, .inl (cL, k - b, .inl gl))] H := hP
  have hD : va_D A [(tx, .inl (cT, 4, .inr (.inr (.inr (.inr fT))))), (pr, .inl (cP, w, .inl pf)), (hM, .inr (7, [.int 0, .ref tx, .int kn, .int rf, .int sp])), (r_171, .inl (cH, a - 0, .inl gh)), (r, .inl (cI, k, .inl f)), (r_172, .inl (cL, k - b, .inl gl))] := hD
  have hK : va_K (dC, dI) vwCl [(cT, .array .int), (cP, .int), (cH, .int), (cI, .int), (cL, .int)] s := hK
  have hS2 := hS
  have hPc := hP.sub (ws' := [(r_171, .inl (cH, a - 0, .inl gh)), (pr, .inl (cP, w, .inl pf)), (r_172, .inl (cL, k - b, .inl gl))]) [3, 1, 5] rfl
  have hDc := hD.sub (ws' := [(r_171, .inl (cH, a - 0, .inl gh)), (pr, .inl (cP, w, .inl pf)), (r_172, .inl (cL, k - b, .inl gl))]) [3, 1, 5] (by decide) rfl
  have hKc := hK.sub (tys' := [(cH, .int), (cP, .int), (cL, .int)]) [2, 1, 4] rfl
  have hFc := va_free (wc := [(r_171, .inl (cH, a - 0, .inl gh)), (pr, .inl (cP, w, .inl pf)), (r_172, .inl (cL, k - b, .inl gl))]) hD hS hA [3, 1, 5] rfl
  refine va_callr (va_runS (As := [.ref r_171, .ref pr, .ref r_172]) (rest := [.int (nI j), .ref tx]) ⟨hx, hb, hml, hown, hts⟩ (kX3_joined l dC dI H.size r_171 pr r_172 cH cP cL (a - 0) w (k - b) gh pf gl (by omega)) (va_cwS 3 hts gX3_splice_X3_joined rfl rfl rfl (by decide +kernel) ⟨Nat.le_of_ble_eq_true rfl, Nat.le_of_ble_eq_true rfl⟩) ⟨fun a U g mk q => by obtain ⟨q0, q1, qP, qK, qD⟩ := q; exact ⟨q0, q1, qP, va_K.moved (u := U) (U := U.calling g mk a) (Vm.Alike.refl U.vm) qK, qD⟩, fun U hU hW => ⟨rfl, by rw [hU], by rw [hU]; exact hPc, va_K.moved hW.alike hKc, hDc.weaken (fun _ _ _ _ => trivial)⟩⟩ rfl rfl hl.1 rfl (lv_room (Nat.le_of_ble_eq_true rfl)) dX3_splice_64 ⟨(by show 0 + 0 + 1 + 1 + 1 ≤ 3; omega), (by show 0 + 0 + (a - 0) + (k - b) + (a - 0 + w + (k - b)) ≤ (a + (k - b) + (k - (b - a) + w)); omega)⟩) hS (fun q _ h => hFc q h) hFc (fun u r_173 t H1 locs ht hvm hg hB hz1 hk1 hS => ?_)
  obtain ⟨cA, g⟩ := u
  try dsimp only at hB
  try dsimp only at hg
  obtain ⟨hfr3, hP1, hK1, hD1⟩ := hB
  rw [ht] at hP1
  have hK1 := va_K.moved hvm.symm hK1
  obtain ⟨hP, hD⟩ := va_join (wr := [(tx, .inl (cT, 4, .inr (.inr (.inr (.inr fT))))), (hM, .inr (7, [.int 0, .ref tx, .int kn, .int rf, .int sp])), (r, .inl (cI, k, .inl f))]) (w1 := [(r_171, .inl (cH, a - 0, .inl gh)), (pr, .inl (cP, w, .inl pf)), (r_172, .inl (cL, k - b, .inl gl)), (r_173, .inl (cA, a - 0 + w + (k - b), .inl g))]) hP hD [3, 1, 5] [0, 2, 4] rfl rfl (by decide) (by decide) hk1 hFc hP1 hD1
  have hK := (hK.sub (tys' := [(cT, .array .int), (cI, .int)]) [0, 3] rfl).app hK1
  generalize H1 = H at hP hS ⊢
  have hP : va_P (dC, dI) vwCl [(tx, .inl (cT, 4, .inr (.inr (.inr (.inr fT))))), (hM, .inr (7, [.int 0, .ref tx, .int kn, .int rf, .int sp])), (r, .inl (cI, k, .inl f)), (r_171, .inl (cH, a - 0, .inl gh)), (pr, .inl (cP, w, .inl pf)), (r_172, .inl (cL, k - b, .inl gl)), (r_173, .inl (cA, a - 0 + w + (k - b), .inl g))] H := hP
  have hD : va_D A [(tx, .inl (cT, 4, .inr (.inr (.inr (.inr fT))))), (hM, .inr (7, [.int 0, .ref tx, .int kn, .int rf, .int sp])), (r, .inl (cI, k, .inl f)), (r_171, .inl (cH, a - 0, .inl gh)), (pr, .inl (cP, w, .inl pf)), (r_172, .inl (cL, k - b, .inl gl)), (r_173, .inl (cA, a - 0 + w + (k - b), .inl g))] := hD
  have hK : va_K (dC, dI) vwCl [(cT, .array .int), (cI, .int), (cH, .int), (cP, .int), (cL, .int), (cA, .int)] s := hK
  have hfr := Nat.le_trans hS2.1 hfr3
  have hin_174 : vp_in (nI j) 4 := vp_in_nI hj (by omega)
  refine va_astA hx hb hJ hK hP hD hS 0 0 6 5 rfl rfl rfl rfl hin_174 dX3_splice_67 (fun H locs hP hD hS => ?_)
  rw [nI_clamp (n := j) (by omega)] at hP hD
  have hP : va_P (dC, dI) vwCl [(tx, .inl (cT, 4, .inr (.inr (.inr (.inr (va_up fT j (some r_173))))))), (hM, .inr (7, [.int 0, .ref tx, .int kn, .int rf, .int sp])), (r, .inl (cI, k, .inl f)), (r_171, .inl (cH, a - 0, .inl gh)), (pr, .inl (cP, w, .inl pf)), (r_172, .inl (cL, k - b, .inl gl)), (r_173, .inl (cA, a - 0 + w + (k - b), .inl g))] H := hP
  have hD : va_D A [(tx, .inl (cT, 4, .inr (.inr (.inr (.inr (va_up fT j (some r_173))))))), (hM, .inr (7, [.int 0, .ref tx, .int kn, .int rf, .int sp])), (r, .inl (cI, k, .inl f)), (r_171, .inl (cH, a - 0, .inl gh)), (pr, .inl (cP, w, .inl pf)), (r_172, .inl (cL, k - b, .inl gl)), (r_173, .inl (cA, a - 0 + w + (k - b), .inl g))] := hD
  refine lv_aload_n hx hb dX3_splice_68 rfl (lv_at hl 1 rfl) ?_
  refine lv_dup hx hb dX3_splice_69 rfl ?_
  refine va_get (D := (dC, dI)) (ci := 7) (v := .int sp) (C := RX3) (T := TX3) (N := 5) hx hb hts (by decide +kernel) hown hK hP 1 rfl rfl 4 (by decide) (hts (.fieldLink RX3 109 "SignropeModel" "spliced" "I") (by decide +kernel)) (fun _ h9 => h9) rfl dX3_splice_70 ?_
  refine lv_iconst (v := 1) hx hb dX3_splice_73 (by decide) ?_
  refine lv_iadd hx hb dX3_splice_74 ?_
  refine lv_topi (fun x_175 ex_175 => ?_)
  refine va_put (D := (dC, dI)) (ci := 7) (v := .int x_175) (ty := .int) (C := RX3) (T := TX3) (N := 5) hx hb hts (by decide +kernel) tyX3 tyX3_ok nmX3 hown hK hP hD hS 1 rfl rfl 4 (by decide) (hts (.fieldLink RX3 109 "SignropeModel" "spliced" "I") (by decide +kernel)) (fun _ h9 => h9) rfl (by decide +kernel) rfl rfl (Nat.le_of_ble_eq_true rfl) dX3_splice_75 (fun H locs hP hD hS => ?_)
  have hP : va_P (dC, dI) vwCl [(tx, .inl (cT, 4, .inr (.inr (.inr (.inr (va_up fT j (some r_173))))))), (hM, .inr (7, [.int 0, .ref tx, .int kn, .int rf, .int x_175])), (r, .inl (cI, k, .inl f)), (r_171, .inl (cH, a - 0, .inl gh)), (pr, .inl (cP, w, .inl pf)), (r_172, .inl (cL, k - b, .inl gl)), (r_173, .inl (cA, a - 0 + w + (k - b), .inl g))] H := hP
  have hD : va_D A [(tx, .inl (cT, 4, .inr (.inr (.inr (.inr (va_up fT j (some r_173))))))), (hM, .inr (7, [.int 0, .ref tx, .int kn, .int rf, .int x_175])), (r, .inl (cI, k, .inl f)), (r_171, .inl (cH, a - 0, .inl gh)), (pr, .inl (cP, w, .inl pf)), (r_172, .inl (cL, k - b, .inl gl)), (r_173, .inl (cA, a - 0 + w + (k - b), .inl g))] := hD
  refine lv_aload_n hx hb dX3_splice_78 rfl (lv_at hl 1 rfl) ?_
  refine lv_iload_n hx hb dX3_splice_79 rfl (lv_at hl 2 rfl) ?_
  rw [ex_175] at hP hD
  rw [show a - 0 + w + (k - b) = k - (b - a) + w by omega] at hP hD
  have hPc := hP.sub (ws' := [(hM, .inr (7, [.int 0, .ref tx, .int kn, .int rf, .int (sp + 1)])), (tx, .inl (cT, 4, .inr (.inr (.inr (.inr (va_up fT j (some r_173))))))), (r_173, .inl (cA, k - (b - a) + w, .inl g))]) [1, 0, 6] rfl
  have hDc := hD.sub (ws' := [(hM, .inr (7, [.int 0, .ref tx, .int kn, .int rf, .int (sp + 1)])), (tx, .inl (cT, 4, .inr (.inr (.inr (.inr (va_up fT j (some r_173))))))), (r_173, .inl (cA, k - (b - a) + w, .inl g))]) [1, 0, 6] (by decide) rfl
  have hKc := hK.sub (tys' := [(cT, .array .int), (cA, .int)]) [0, 5] rfl
  have hFc := va_free (wc := [(hM, .inr (7, [.int 0, .ref tx, .int kn, .int rf, .int (sp + 1)])), (tx, .inl (cT, 4, .inr (.inr (.inr (.inr (va_up fT j (some r_173))))))), (r_173, .inl (cA, k - (b - a) + w, .inl g))]) hD hS hA [1, 0, 6] rfl
  refine va_calli (va_runV (As := [.int (nI j)]) (rest := []) ⟨hx, hb, hml, hown, hts⟩ (kX3_many l dC dI H.size hM tx 0 kn rf (sp + 1) cT cA (va_up fT j (some r_173)) j r_173 (k - (b - a) + w) g hj (by simp [va_up])) (cwV 1 hts gX3_splice_X3_many rfl rfl rfl (by decide +kernel) ⟨Nat.le_of_ble_eq_true rfl, Nat.le_of_ble_eq_true rfl⟩) ⟨fun a U g mk q => by obtain ⟨q0, q1, qP, qK, qD⟩ := q; exact ⟨q0, q1, qP, va_K.moved (u := U) (U := U.calling g mk a) (Vm.Alike.refl U.vm) qK, qD⟩, va_recv hKc hPc (ci := 7) (q0 := 0) rfl rfl, fun U hU hW => ⟨rfl, by rw [hU], by rw [hU]; exact hPc, va_K.moved hW.alike hKc, hDc.weaken (fun _ _ _ _ => trivial)⟩⟩ rfl rfl hl.1 rfl (lv_room (Nat.le_of_ble_eq_true rfl)) dX3_splice_80 ⟨(by show 0 + 0 + 1 + 1 + 1 + 0 ≤ 3; omega), (by show 0 + 0 + (a - 0) + (k - b) + (a - 0 + w + (k - b)) + 0 ≤ (a + (k - b) + (k - (b - a) + w)); omega)⟩) hS (fun q _ h => hFc q h) hFc (fun r_176 u t H1 locs ht hvm hmany hB hz1 hk1 hS => ?_)
  try dsimp only at hB
  try dsimp only at hmany
  obtain ⟨hP1, hK1, hD1⟩ := hB
  rw [ht] at hP1
  have hK1 := va_K.moved hvm.symm hK1
  obtain ⟨hP, hD⟩ := va_join (wr := [(r, .inl (cI, k, .inl f)), (r_171, .inl (cH, a - 0, .inl gh)), (pr, .inl (cP, w, .inl pf)), (r_172, .inl (cL, k - b, .inl gl))]) (w1 := [(hM, .inr (7, [.int 0, .ref tx, .int kn, .int rf, .int (sp + 1)])), (tx, .inl (cT, 4, .inr (.inr (.inr (.inr (va_up fT j (some r_173))))))), (r_173, .inl (cA, k - (b - a) + w, .inl g))]) hP hD [1, 0, 6] [2, 3, 4, 5] rfl rfl (by decide) (by decide) hk1 hFc hP1 hD1
  have hK := (hK.sub (tys' := [(cI, .int), (cH, .int), (cP, .int), (cL, .int)]) [1, 2, 3, 4] rfl).app hK1
  generalize H1 = H at hP hS ⊢
  have hP : va_P (dC, dI) vwCl [(r, .inl (cI, k, .inl f)), (r_171, .inl (cH, a - 0, .inl gh)), (pr, .inl (cP, w, .inl pf)), (r_172, .inl (cL, k - b, .inl gl)), (hM, .inr (7, [.int 0, .ref tx, .int kn, .int rf, .int (sp + 1)])), (tx, .inl (cT, 4, .inr (.inr (.inr (.inr (va_up fT j (some r_173))))))), (r_173, .inl (cA, k - (b - a) + w, .inl g))] H := hP
  have hD : va_D A [(r, .inl (cI, k, .inl f)), (r_171, .inl (cH, a - 0, .inl gh)), (pr, .inl (cP, w, .inl pf)), (r_172, .inl (cL, k - b, .inl gl)), (hM, .inr (7, [.int 0, .ref tx, .int kn, .int rf, .int (sp + 1)])), (tx, .inl (cT, 4, .inr (.inr (.inr (.inr (va_up fT j (some r_173))))))), (r_173, .inl (cA, k - (b - a) + w, .inl g))] := hD
  have hK : va_K (dC, dI) vwCl [(cI, .int), (cH, .int), (cP, .int), (cL, .int), (cT, .array .int), (cA, .int)] s := hK
  have hgc : ∀ i, i < k - (b - a) + w → g i = cat3 a w f pf (fun z => f (b + z)) i := by
    intro i hi
    rw [hg i (by omega)]
    unfold cat3
    rw [show a - 0 = a by omega]
    by_cases q1 : i < a
    · rw [if_pos q1, if_pos q1, hgh i (by omega), Nat.zero_add]
    · rw [if_neg q1, if_neg q1]
      by_cases q2 : i < a + w
      · rw [if_pos q2, if_pos q2]
      · rw [if_neg q2, if_neg q2, hgl _ (by omega)]
  have hP9 := hP.sub (ws' := [(hM, .inr (7, [.int 0, .ref tx, .int kn, .int rf, .int (sp + 1)])), (tx, .inl (cT, 4, .inr (.inr (.inr (.inr (va_up fT j (some r_173))))))), (r_173, .inl (cA, k - (b - a) + w, .inl g)), (r, .inl (cI, k, .inl f)), (pr, .inl (cP, w, .inl pf))]) [4, 5, 6, 0, 2] rfl
  have hD9 := hD.sub (ws' := [(hM, .inr (7, [.int 0, .ref tx, .int kn, .int rf, .int (sp + 1)])), (tx, .inl (cT, 4, .inr (.inr (.inr (.inr (va_up fT j (some r_173))))))), (r_173, .inl (cA, k - (b - a) + w, .inl g)), (r, .inl (cI, k, .inl f)), (pr, .inl (cP, w, .inl pf))]) [4, 5, 6, 0, 2] (by decide) rfl
  have hK9 := hK.sub (tys' := [(cT, .array .int), (cA, .int), (cI, .int), (cP, .int)]) [4, 5, 0, 2] rfl
  refine W.widen (k := 3) (n := a + (k - b) + (k - (b - a) + w)) (by omega) (by omega) ?_
  exact W.iret (v := r_176) hx hb hr (fun t ht hW => ⟨⟨r_176, (r_173, cA, g), rfl, ⟨hmany, hgc⟩, hfr, by rw [ht]; exact hP9, va_K.moved hW.alike hK9, hD9⟩, hS.F ht⟩) hS.2.2 dX3_splice_83
