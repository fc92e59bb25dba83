abbrev roomB : Room := { frames := 2048, cells := 804415, slots := 140000000, locals := 84000 }
theorem A01 {sz q : Nat} (h : va_A [] sz q) : sz ≤ q := by
  rcases h with ⟨k, e, hk⟩ | h
  · simp at hk
  · exact h
theorem A00 {sz q : Nat} (h : q < sz) : ¬ va_A [] sz q := fun h9 => by have := A01 h9; omega
theorem A0 {wc : va_W} {sz q : Nat} (h : va_A [] sz q) : va_A wc sz q := Or.inr (A01 h)
theorem rs.k9 {h v w P lo : Nat} {f : Nat → Int32} {s : State} {H H1 : Heap} {wc : va_W} (q : rs h v w f (fun x => x < P ∨ H.size ≤ x) s H) (hz : H.size ≤ H1.size) (hk : ∀ q : Nat, q < H.size → ¬ va_A wc H.size q → H1[q]? = H[q]?) (hw : ∀ a ∈ wc.map (fun x => x.1), a < lo) (hlp : lo ≤ P) : rs h v w f (fun x => x < P ∨ H1.size ≤ x) s H1 :=
  (rs.kept q (fun a h1 h2 => hk a h1 (nA hw (Nat.le_trans hlp (Nat.not_lt.mp (fun h => h2 (Or.inl h)))) h1))).narrow (fun x h => h.imp id (Nat.le_trans hz))
theorem rs.k8 {h v w : Nat} {f : Nat → Int32} {s : State} {H H1 : Heap} (q : rs h v w f (fun x => H.size ≤ x) s H) (hz : H.size ≤ H1.size) (hk : ∀ q : Nat, q < H.size → ¬ va_A [] H.size q → H1[q]? = H[q]?) : rs h v w f (fun x => H1.size ≤ x) s H1 :=
  (rs.kept q (fun a h1 _ => hk a h1 (A00 h1))).narrow (fun x h => Nat.le_trans hz h)
set_option maxHeartbeats 4000000 in
set_option maxRecDepth 100000 in
/-- thrown(): nothing written -/
theorem kX3_thrown0 (l : Launch) (dC : Nat → ClassId) (dI : Nat → Nat → Nat) (sz : Nat) (hM tx : Nat) (th kn rf sp : Int32) : Met l yX3_thrown wsX3_thrown ({ frames := 0, cells := 0, slots := 0, locals := 0 }) (va_Pc [.ref hM] (fun U => U.heap.size = sz ∧ va_P (dC, dI) vwCl [(hM, .inr (7, [.int th, .ref tx, .int kn, .int rf, .int sp]))] U.heap ∧ va_K (dC, dI) vwCl [] U ∧ va_D (fun _ => True) [(hM, .inr (7, [.int th, .ref tx, .int kn, .int rf, .int sp]))])) (va_Qi (fun (r : Int32) (u : Unit) => r = th) (fun (u : Unit) (t : State) => va_P (dC, dI) vwCl [(hM, .inr (7, [.int th, .ref tx, .int kn, .int rf, .int sp]))] t.heap ∧ va_K (dC, dI) vwCl [] t ∧ va_D (va_A [(hM, .inr (7, [.int th, .ref tx, .int kn, .int rf, .int sp]))] sz) [(hM, .inr (7, [.int th, .ref tx, .int kn, .int rf, .int sp]))]) (va_A [] sz)) 0 0 (va_A [] sz) := by
  refine Met.ofW (cc := cX3_thrown) (maxL := 1) (ret := (some .int)) (by decide) rfl ?_
  intro p e s m args below meth c s₁ B hml hv
  obtain ⟨rfl, hsz, hP, hK, hD0⟩ := hv
  have hx := B.exec
  have hb := B.bytes
  have hr := B.returns
  have hts := atoms_spec (ws := wsX3_thrown) B.pre
  have hown : s.vm.findClass RX3 = some m.cls := findClass_of_methodNamed B.named
  have hlocks := B.notSynchronized
  subst hsz
  have hD := hD0.self (sz := s.heap.size)
  generalize hAe : va_A [(hM, .inr (7, [.int th, .ref tx, .int kn, .int rf, .int sp]))] s.heap.size = A at hD ⊢
  have hA : ∀ q : Nat, s.heap.size ≤ q → A q := fun q h => by rw [← hAe]; exact Or.inr h
  have hS : va_S (va_A [] s.heap.size) s.heap s.heap [] := va_S.rf
  have hP : va_P (dC, dI) vwCl [(hM, .inr (7, [.int th, .ref tx, .int kn, .int rf, .int sp]))] s.heap := hP
  have hl := lv_entry ([.ref hM]) (n := 1) (Nat.le_of_ble_eq_true rfl)
  rw [lg_entry_eq]
  generalize (lg_sl ([.ref hM]) ++ List.replicate (1 - (lg_sl ([.ref hM])).length) Slot.unset).toArray = ls at hl ⊢
  have hl : lv_has ls 1 [(0, .ref hM)] := hl
  refine lv_aload_n hx hb dX3_thrown_0 rfl (lv_at hl 0 rfl) ?_
  refine va_get (D := (dC, dI)) (ci := 7) (v := .int th) (C := RX3) (T := TX3) (N := 5) hx hb hts (by decide +kernel) hown hK hP 0 rfl rfl 0 (by decide) (hts (.fieldLink RX3 14 "SignropeModel" "thrown" "I") (by decide +kernel)) (fun _ h9 => h9) rfl dX3_thrown_1 ?_
  have hP9 := hP.sub (ws' := [(hM, .inr (7, [.int th, .ref tx, .int kn, .int rf, .int sp]))]) [0] rfl
  have hD9 := hD.sub (ws' := [(hM, .inr (7, [.int th, .ref tx, .int kn, .int rf, .int sp]))]) [0] (by decide) rfl
  have hK9 := hK.sub (tys' := []) [] rfl
  exact W.iret (v := th) hx hb hr (fun t ht hW => ⟨⟨th, (), rfl, rfl, by rw [ht]; exact hP9, va_K.moved hW.alike hK9, hD9⟩, hS.F ht⟩) hS.2.2 dX3_thrown_4
set_option maxHeartbeats 4000000 in
set_option maxRecDepth 100000 in
theorem law_text {p : Program} {l : Launch} {e : Env} {s : State} {m : MethodId} {below : List Frame} {meth : Method} {c : Code} {Q : State → Prop} (dC : Nat → ClassId) (dI : Nat → Nat → Nat) {b : Nat} {xs : Nat → Int32} (hx : p.tables.exec = Jvm.exec) (hb : c.code = cL_law) (hml : c.maxLocals = 7) (hown : s.vm.findClass RL = some m.cls) (hts : ∀ w ∈ wsL_law, w.before #[Value.ref b] s = true) {A : Nat → Prop} (hA : ∀ q, s.heap.size ≤ q → A q) (hbA : ¬ A b) (hScr : va_X b 3072 xs s s.heap) (hbl : b < s.heap.size) (hZ : jz A s s.heap) (q0 v0 : Nat) (b00 : Nat → Int32) (hb00 : sb_Fit b00) (hC : kc q0 s) (hQ : rs q0 v0 0 b00 A s s.heap) (hJn : jn 13 "n" "J" s) (hJs : jn 125 "s" "Ljava/lang/String;" s) (hJa : ja s) (hX rp u1 u2 u3 u4 : Nat) (kn rf ac : Int32) (cR : ClassId) (fR : Nat → Option Nat) (t0 b0 : Nat) (cC : ClassId) (hO : Nat) (x : Int64) (qv : Value) (hM tx : Nat) (km rm sp : Int32) (cT cI : ClassId) (fT : Nat → Option Nat) (r : Nat) (hR : fR 0 = some t0) (hT : fT 0 = some r) (i : Nat) (hi : i < 512) (fc fm : Nat → Int32) (hfc : ∀ j, j < 240 → fc j = 0) (hfm : ∀ j, j < 240 → fm j = 0) (hx0 : xs (6 * i) = 31) (hx1 : xs (6 * i + 1) = 0) (lo k : Nat) (hlt : hX < lo ∧ rp < lo ∧ t0 < lo ∧ b0 < lo ∧ hO < lo ∧ hM < lo ∧ tx < lo ∧ r < lo) {H : Heap} {locs : List Loc} {cells slots : Nat} (hcells : cells + 1443 ≤ 804415) (hslots : slots + 264484 ≤ 140000000) (hF : fam lo k H) (hlo : lo ≤ H.size) (hK : va_K (dC, dI) vwCl [(cR, .object "Signrope$Text"), (cC, .char), (cT, .array .int), (cI, .int)] s) (hP : va_P (dC, dI) vwCl [(hX, .inr (5, [.ref rp, .ref u1, .ref u2, .ref u3, .ref u4, .int kn, .int rf, .int ac])), (rp, .inl (cR, 4, .inr (.inr (.inr (.inr fR))))), (t0, .inr (4, [.ref b0, .int (nI 240)])), (b0, .inl (cC, 480, .inl fc)), (hO, .inr (6, [.long x, qv])), (hM, .inr (7, [.int 0, .ref tx, .int km, .int rm, .int sp])), (tx, .inl (cT, 4, .inr (.inr (.inr (.inr fT))))), (r, .inl (cI, 240, .inl fm))] H) (hD : va_D A [(hX, .inr (5, [.ref rp, .ref u1, .ref u2, .ref u3, .ref u4, .int kn, .int rf, .int ac])), (rp, .inl (cR, 4, .inr (.inr (.inr (.inr fR))))), (t0, .inr (4, [.ref b0, .int (nI 240)])), (b0, .inl (cC, 480, .inl fc)), (hO, .inr (6, [.long x, qv])), (hM, .inr (7, [.int 0, .ref tx, .int km, .int rm, .int sp])), (tx, .inl (cT, 4, .inr (.inr (.inr (.inr fT))))), (r, .inl (cI, 240, .inl fm))]) (hS : va_S A s.heap H locs) {ls : Array Slot} (hl : lv_has ls 7 [(4, .int (nI (6 * i))), (3, .ref hO), (2, .ref hM), (1, .ref hX), (0, .ref b)]) (kk : ∀ (H : Heap) (locs : List Loc) (ls : Array Slot) (qv : Value), va_P (dC, dI) vwCl [(hX, .inr (5, [.ref rp, .ref u1, .ref u2, .ref u3, .ref u4, .int kn, .int rf, .int ac])), (rp, .inl (cR, 4, .inr (.inr (.inr (.inr fR))))), (t0, .inr (4, [.ref b0, .int (nI 240)])), (b0, .inl (cC, 480, .inl fc)), (hO, .inr (6, [.long x, qv])), (hM, .inr (7, [.int 0, .ref tx, .int km, .int rm, .int sp])), (tx, .inl (cT, 4, .inr (.inr (.inr (.inr fT))))), (r, .inl (cI, 240, .inl fm))] H → va_D A [(hX, .inr (5, [.ref rp, .ref u1, .ref u2, .ref u3, .ref u4, .int kn, .int rf, .int ac])), (rp, .inl (cR, 4, .inr (.inr (.inr (.inr fR))))), (t0, .inr (4, [.ref b0, .int (nI 240)])), (b0, .inl (cC, 480, .inl fc)), (hO, .inr (6, [.long x, qv])), (hM, .inr (7, [.int 0, .ref tx, .int km, .int rm, .int sp])), (tx, .inl (cT, 4, .inr (.inr (.inr (.inr fT))))), (r, .inl (cI, 240, .inl fm))] → va_S A s.heap H locs → fam lo (k + 1) H → lo ≤ H.size → lv_has ls 7 [(4, .int (nI (6 * (i + 1)))), (3, .ref hO), (2, .ref hM), (1, .ref hX), (0, .ref b)] → W p l e roomB s m #[Value.ref b] below meth c H locs (cells + 1443) (slots + 264484) Q (F0 m 27 ls [])) : W p l e roomB s m #[Value.ref b] below meth c H locs cells slots Q (F0 m 27 ls []) := by -- intro p e s m args
  refine lv_iload hx hb dL_law_27 (lv_at hl 0 rfl) ?_
  refine lv_aload_n hx hb dL_law_29 rfl (lv_at hl 4 rfl) ?_
  refine va_slen hx hb hScr hbl hbA hS dL_law_30 ?_
  refine lv_bipush (v := 6) hx hb dL_law_31 (by decide) ?_
  refine lv_isub hx hb dL_law_33 ?_
  refine lv_topi (fun x_324 ex_324 => ?_)
  refine lv_icmp_gt (tgt := 3722) hx hb dL_law_34 (by decide) (fun c_325 => absurd c_325 (by rw [ex_324]; exact nI_nlt (a := 3066) (b := 6 * i) (by omega) (by omega))) (fun c_325 => ?_)
  refine lv_aload_n hx hb dL_law_37 rfl (lv_at hl 4 rfl) ?_
  refine lv_iload hx hb dL_law_38 (lv_at hl 0 rfl) ?_
  refine va_sld hx hb hScr hbl hbA hS (i := nI (6 * i)) (show vp_in (nI (6 * i)) 3072 from vp_in_nI (by omega) (by omega)) dL_law_40 ?_
  rw [show xs (nI (6 * i)).toNatClampNeg = 31 from by rw [nI_clamp (by omega)]; exact hx0]
  refine lv_bipush (v := 63) hx hb dL_law_41 (by decide) ?_
  refine lv_iand hx hb dL_law_43 ?_
  refine lv_topi (fun x_326 ex_326 => ?_)
  have hyx_326 : x_326 = 31 := by rw [ex_326]; decide
  rw [hyx_326]
  refine lv_tableIn (x := 31) (off := 2707) (tgt := 2751) hx hb dL_law_44 (by decide) (by decide) (by decide) (by decide) ?_
  refine lv_aload_n hx hb dL_law_2751 rfl (lv_at hl 3 rfl) ?_
  refine lv_aload_n hx hb dL_law_2752 rfl (lv_at hl 4 rfl) ?_
  refine lv_iload hx hb dL_law_2753 (lv_at hl 0 rfl) ?_
  refine lv_iconst (v := 1) hx hb dL_law_2755 (by decide) ?_
  refine lv_iadd hx hb dL_law_2756 ?_
  refine lv_topi (fun x_327 ex_327 => ?_)
  have ex_327 : x_327 = nI (6 * i + 1) := by rw [ex_327]; exact nI_add (6 * i) 1
  refine va_sld hx hb hScr hbl hbA hS (i := x_327) (show vp_in x_327 3072 from by rw [ex_327]; exact vp_in_nI (by omega) (by omega)) dL_law_2757 ?_
  rw [show xs (x_327).toNatClampNeg = 0 from by rw [ex_327, nI_clamp (by omega)]; exact hx1]
  refine lv_aload_n hx hb dL_law_2758 rfl (lv_at hl 1 rfl) ?_
  obtain ⟨Hp, eHp⟩ : ∃ z, z = H := ⟨_, rfl⟩
  have hPc := hP.sub (ws' := [(hX, .inr (5, [.ref rp, .ref u1, .ref u2, .ref u3, .ref u4, .int kn, .int rf, .int ac])), (rp, .inl (cR, 4, .inr (.inr (.inr (.inr fR))))), (t0, .inr (4, [.ref b0, .int (nI 240)])), (b0, .inl (cC, 480, .inl fc)), (hO, .inr (6, [.long x, qv]))]) [0, 1, 2, 3, 4] rfl
  have hDc := hD.sub (ws' := [(hX, .inr (5, [.ref rp, .ref u1, .ref u2, .ref u3, .ref u4, .int kn, .int rf, .int ac])), (rp, .inl (cR, 4, .inr (.inr (.inr (.inr fR))))), (t0, .inr (4, [.ref b0, .int (nI 240)])), (b0, .inl (cC, 480, .inl fc)), (hO, .inr (6, [.long x, qv]))]) [0, 1, 2, 3, 4] (by decide) rfl
  have hKc := hK.sub (tys' := [(cR, .object "Signrope$Text"), (cC, .char)]) [0, 1] rfl
  have hFc := va_free (wc := [(hX, .inr (5, [.ref rp, .ref u1, .ref u2, .ref u3, .ref u4, .int kn, .int rf, .int ac])), (rp, .inl (cR, 4, .inr (.inr (.inr (.inr fR))))), (t0, .inr (4, [.ref b0, .int (nI 240)])), (b0, .inl (cC, 480, .inl fc)), (hO, .inr (6, [.long x, qv]))]) hD hS hA [0, 1, 2, 3, 4] rfl
  refine va_calli (vx_runSW (As := [.ref hX, .int (nI 0), .ref hO]) (rest := []) ⟨hx, hb, hml, hown, hts⟩ (kL_text l dC dI H.size hX rp u1 u2 u3 u4 kn rf ac cR fR 0 t0 (by omega) hR b0 cC 240 fc hO x qv (fun _ => 0) (by omega) (by omega) (fun j hj => ⟨by rw [hfc j hj]; rfl, by omega⟩)) (vx_cwSW 3 hts gL_law_L_text rfl rfl rfl (by decide +kernel) ⟨Nat.le_of_ble_eq_true rfl, Nat.le_of_ble_eq_true rfl⟩) ⟨fun a U g mk q => by obtain ⟨q0, q1, qP, qK, qD, qE0, qE1⟩ := q; exact ⟨q0, q1, qP, va_K.moved (u := U) (U := U.calling g mk a) (Vm.Alike.refl U.vm) qK, qD, jz.call qE0, jn.call qE1⟩, fun U hU hW => ⟨rfl, by rw [hU], by rw [hU]; exact hPc, va_K.moved hW.alike hKc, hDc.weaken (fun _ _ _ _ => trivial), jz.pass hZ hS hFc hW hU, hJs.pass hW⟩⟩ rfl rfl hl.1 rfl (lv_room (Nat.le_of_ble_eq_true rfl)) dL_law_2759 ⟨(by show cells + 3 ≤ 804415; omega), (by show slots + (240 + 4 + 240) ≤ 140000000; omega)⟩) hS (fun q _ h => hFc q h) hFc (fun r_328 u t H1 locs ht hvm hg hB hz1 hk1 hS => ?_)
  obtain ⟨a2, v2, g⟩ := u
  try dsimp only at hB
  try dsimp only at hg
  obtain ⟨hR9, hP1, hK1, hD1⟩ := hB
  rw [ht] at hP1
  have hK1 := va_K.moved hvm.symm hK1
  obtain ⟨hP, hD⟩ := va_join (wr := [(hM, .inr (7, [.int 0, .ref tx, .int km, .int rm, .int sp])), (tx, .inl (cT, 4, .inr (.inr (.inr (.inr fT))))), (r, .inl (cI, 240, .inl fm))]) (w1 := [(hX, .inr (5, [.ref rp, .ref u1, .ref u2, .ref u3, .ref u4, .int kn, .int rf, .int ac])), (rp, .inl (cR, 4, .inr (.inr (.inr (.inr fR))))), (t0, .inr (4, [.ref b0, .int (nI 240)])), (b0, .inl (cC, 480, .inl fc)), (hO, .inr (6, [.long x, .ref a2]))]) hP hD [0, 1, 2, 3, 4] [5, 6, 7] rfl rfl (by decide) (by decide) hk1 hFc hP1 hD1
  have hK := (hK.sub (tys' := [(cT, .array .int), (cI, .int)]) [2, 3] rfl).app hK1
  have hlp := hlo
  have hF := hF.kept hz1 hk1 (by intro a ha; simp only [List.map_cons, List.map_nil, List.mem_cons, List.not_mem_nil, or_false] at ha; omega)
  have hlo := Nat.le_trans hlo hz1
  have hR9 := rs.at2 hR9 hvm ht
  generalize H1 = H at hP hS hF hlo hR9 ⊢
  have hP : va_P (dC, dI) vwCl [(hM, .inr (7, [.int 0, .ref tx, .int km, .int rm, .int sp])), (tx, .inl (cT, 4, .inr (.inr (.inr (.inr fT))))), (r, .inl (cI, 240, .inl fm)), (hX, .inr (5, [.ref rp, .ref u1, .ref u2, .ref u3, .ref u4, .int kn, .int rf, .int ac])), (rp, .inl (cR, 4, .inr (.inr (.inr (.inr fR))))), (t0, .inr (4, [.ref b0, .int (nI 240)])), (b0, .inl (cC, 480, .inl fc)), (hO, .inr (6, [.long x, .ref a2]))] H := hP
  have hD : va_D A [(hM, .inr (7, [.int 0, .ref tx, .int km, .int rm, .int sp])), (tx, .inl (cT, 4, .inr (.inr (.inr (.inr fT))))), (r, .inl (cI, 240, .inl fm)), (hX, .inr (5, [.ref rp, .ref u1, .ref u2, .ref u3, .ref u4, .int kn, .int rf, .int ac])), (rp, .inl (cR, 4, .inr (.inr (.inr (.inr fR))))), (t0, .inr (4, [.ref b0, .int (nI 240)])), (b0, .inl (cC, 480, .inl fc)), (hO, .inr (6, [.long x, .ref a2]))] := hD
  have hK : va_K (dC, dI) vwCl [(cT, .array .int), (cI, .int), (cR, .object "Signrope$Text"), (cC, .char)] s := hK
  refine lv_istore (lv' := [(5, .int r_328), (4, .int (nI (6 * i))), (3, .ref hO), (2, .ref hM), (1, .ref hX), (0, .ref b)]) hx hb dL_law_2762 hl (by decide) rfl (fun ls hl => ?_)
  refine lv_aload_n hx hb dL_law_2764 rfl (lv_at hl 3 rfl) ?_
  refine lv_aload_n hx hb dL_law_2765 rfl (lv_at hl 5 rfl) ?_
  refine lv_iload hx hb dL_law_2766 (lv_at hl 1 rfl) ?_
  refine lv_iconst (v := 1) hx hb dL_law_2768 (by decide) ?_
  refine lv_iadd hx hb dL_law_2769 ?_
  refine lv_topi (fun x_329 ex_329 => ?_)
  have ex_329 : x_329 = nI (6 * i + 1) := by rw [ex_329]; exact nI_add (6 * i) 1
  refine va_sld hx hb hScr hbl hbA hS (i := x_329) (show vp_in x_329 3072 from by rw [ex_329]; exact vp_in_nI (by omega) (by omega)) dL_law_2770 ?_
  rw [show xs (x_329).toNatClampNeg = 0 from by rw [ex_329, nI_clamp (by omega)]; exact hx1]
  have hPc := hP.sub (ws' := [(hM, .inr (7, [.int 0, .ref tx, .int km, .int rm, .int sp])), (tx, .inl (cT, 4, .inr (.inr (.inr (.inr fT))))), (r, .inl (cI, 240, .inl fm))]) [0, 1, 2] rfl
  have hDc := hD.sub (ws' := [(hM, .inr (7, [.int 0, .ref tx, .int km, .int rm, .int sp])), (tx, .inl (cT, 4, .inr (.inr (.inr (.inr fT))))), (r, .inl (cI, 240, .inl fm))]) [0, 1, 2] (by decide) rfl
  have hKc := hK.sub (tys' := [(cT, .array .int), (cI, .int)]) [0, 1] rfl
  have hFc := va_free (wc := [(hM, .inr (7, [.int 0, .ref tx, .int km, .int rm, .int sp])), (tx, .inl (cT, 4, .inr (.inr (.inr (.inr fT))))), (r, .inl (cI, 240, .inl fm))]) hD hS hA [0, 1, 2] rfl
  refine va_callr (va_runV (As := [.int (nI 0)]) (rest := []) ⟨hx, hb, hml, hown, hts⟩ (kX3_text l dC dI H.size hM tx 0 km rm sp cT cI fT 0 r 240 fm (fun _ => 0) q0 v0 b00 (by omega) hT (by omega) (fun j hj => ⟨by rw [hfm j hj]; rfl, by omega⟩) hb00) (cwV 1 hts gL_law_X3_text rfl rfl rfl (by decide +kernel) ⟨Nat.le_of_ble_eq_true rfl, Nat.le_of_ble_eq_true rfl⟩) ⟨fun a U g mk q => by obtain ⟨q0, q1, qP, qK, qD, qE0, qE1, qE2⟩ := q; exact ⟨q0, q1, qP, va_K.moved (u := U) (U := U.calling g mk a) (Vm.Alike.refl U.vm) qK, qD, jz.call qE0, kc.call qE1, rs.call qE2⟩, va_recv hKc hPc (ci := 7) (q0 := 0) rfl rfl, fun U hU hW => ⟨rfl, by rw [hU], by rw [hU]; exact hPc, va_K.moved hW.alike hKc, hDc.weaken (fun _ _ _ _ => trivial), jz.pass hZ hS hFc hW hU, hC.pass hW, rs.pass hQ hS hFc hW hU⟩⟩ rfl rfl hl.1 rfl (lv_room (Nat.le_of_ble_eq_true rfl)) dL_law_2771 ⟨(by show cells + 3 + (6 * 240) ≤ 804415; omega), (by show slots + (240 + 4 + 240) + (240 * (140 + 4 * 240)) ≤ 140000000; omega)⟩) hS (fun q _ h => hFc q h) hFc (fun u r_330 t H1 locs ht hvm hg2 hB hz1 hk1 hS => ?_)
  obtain ⟨v3, g2⟩ := u
  try dsimp only at hB
  try dsimp only at hg2
  obtain ⟨⟨hR8, hmd⟩, hP1, hK1, hD1⟩ := hB
  rw [ht] at hP1
  have hK1 := va_K.moved hvm.symm hK1
  obtain ⟨hP, hD⟩ := va_join (wr := [(hX, .inr (5, [.ref rp, .ref u1, .ref u2, .ref u3, .ref u4, .int kn, .int rf, .int ac])), (rp, .inl (cR, 4, .inr (.inr (.inr (.inr fR))))), (t0, .inr (4, [.ref b0, .int (nI 240)])), (b0, .inl (cC, 480, .inl fc)), (hO, .inr (6, [.long x, .ref a2]))]) (w1 := [(hM, .inr (7, [.int 0, .ref tx, .int km, .int rm, .int sp])), (tx, .inl (cT, 4, .inr (.inr (.inr (.inr fT))))), (r, .inl (cI, 240, .inl fm))]) hP hD [0, 1, 2] [3, 4, 5, 6, 7] rfl rfl (by decide) (by decide) hk1 hFc hP1 hD1
  have hK := (hK.sub (tys' := [(cR, .object "Signrope$Text"), (cC, .char)]) [2, 3] rfl).app hK1
  rw [ht] at hmd
  have hF := hF.next hlo hz1 hk1 (by intro a ha; simp only [List.map_cons, List.map_nil, List.mem_cons, List.not_mem_nil, or_false] at ha; omega) hmd
  have hR9 := hR9.k9 hz1 hk1 (lo := lo) (by intro a ha; simp only [List.map_cons, List.map_nil, List.mem_cons, List.not_mem_nil, or_false] at ha; omega) hlp
  have hlo := Nat.le_trans hlo hz1
  have hR8 := rs.at hR8 hvm ht
  generalize H1 = H at hP hS hF hlo hR9 hR8 ⊢
  have hP : va_P (dC, dI) vwCl [(hX, .inr (5, [.ref rp, .ref u1, .ref u2, .ref u3, .ref u4, .int kn, .int rf, .int ac])), (rp, .inl (cR, 4, .inr (.inr (.inr (.inr fR))))), (t0, .inr (4, [.ref b0, .int (nI 240)])), (b0, .inl (cC, 480, .inl fc)), (hO, .inr (6, [.long x, .ref a2])), (hM, .inr (7, [.int 0, .ref tx, .int km, .int rm, .int sp])), (tx, .inl (cT, 4, .inr (.inr (.inr (.inr fT))))), (r, .inl (cI, 240, .inl fm))] H := hP
  have hD : va_D A [(hX, .inr (5, [.ref rp, .ref u1, .ref u2, .ref u3, .ref u4, .int kn, .int rf, .int ac])), (rp, .inl (cR, 4, .inr (.inr (.inr (.inr fR))))), (t0, .inr (4, [.ref b0, .int (nI 240)])), (b0, .inl (cC, 480, .inl fc)), (hO, .inr (6, [.long x, .ref a2])), (hM, .inr (7, [.int 0, .ref tx, .int km, .int rm, .int sp])), (tx, .inl (cT, 4, .inr (.inr (.inr (.inr fT))))), (r, .inl (cI, 240, .inl fm))] := hD
  have hK : va_K (dC, dI) vwCl [(cR, .object "Signrope$Text"), (cC, .char), (cT, .array .int), (cI, .int)] s := hK
  refine lv_astore (lv' := [(6, .ref r_330), (5, .int r_328), (4, .int (nI (6 * i))), (3, .ref hO), (2, .ref hM), (1, .ref hX), (0, .ref b)]) hx hb dL_law_2774 hl (by decide) rfl (fun ls hl => ?_)
  refine lv_aload_n hx hb dL_law_2776 rfl (lv_at hl 4 rfl) ?_
  have hF0 : ∀ q, va_A [] H.size q → A q := va_free (wc := []) hD hS hA [] rfl
  have hPc := hP.sub (ws' := [(hM, .inr (7, [.int 0, .ref tx, .int km, .int rm, .int sp]))]) [5] rfl
  have hDc := hD.sub (ws' := [(hM, .inr (7, [.int 0, .ref tx, .int km, .int rm, .int sp]))]) [5] (by decide) rfl
  have hKc := hK.sub (tys' := []) [] rfl
  have hFc := va_free (wc := [(hM, .inr (7, [.int 0, .ref tx, .int km, .int rm, .int sp]))]) hD hS hA [5] rfl
  refine va_calli (va_runV (As := []) (rest := []) ⟨hx, hb, hml, hown, hts⟩ (kX3_thrown0 l dC dI H.size hM tx 0 km rm sp) (cwV 0 hts gL_law_X3_thrown rfl rfl rfl (by decide +kernel) ⟨Nat.le_of_ble_eq_true rfl, Nat.le_of_ble_eq_true rfl⟩) ⟨fun a U g mk q => by obtain ⟨q0, q1, qP, qK, qD⟩ := q; exact ⟨q0, q1, qP, va_K.moved (u := U) (U := U.calling g mk a) (Vm.Alike.refl U.vm) qK, qD⟩, va_recv hKc hPc (ci := 7) (q0 := 0) rfl rfl, fun U hU hW => ⟨rfl, by rw [hU], by rw [hU]; exact hPc, va_K.moved hW.alike hKc, hDc.weaken (fun _ _ _ _ => trivial)⟩⟩ rfl rfl hl.1 rfl (lv_room (Nat.le_of_ble_eq_true rfl)) dL_law_2777 ⟨(by show cells + 3 + (6 * 240) + 0 ≤ 804415; omega), (by show slots + (240 + 4 + 240) + (240 * (140 + 4 * 240)) + 0 ≤ 140000000; omega)⟩) hS (fun q _ h => hF0 q h) hF0 (fun r_332 u t H1 locs ht hvm ht_331 hB hz1 hk1 hS => ?_)
  try dsimp only at hB
  try dsimp only at ht_331
  obtain ⟨hP1, hK1, hD1⟩ := hB
  rw [ht] at hP1
  have hK1 := va_K.moved hvm.symm hK1
  obtain ⟨hP, hD⟩ := va_join (wr := [(hX, .inr (5, [.ref rp, .ref u1, .ref u2, .ref u3, .ref u4, .int kn, .int rf, .int ac])), (rp, .inl (cR, 4, .inr (.inr (.inr (.inr fR))))), (t0, .inr (4, [.ref b0, .int (nI 240)])), (b0, .inl (cC, 480, .inl fc)), (hO, .inr (6, [.long x, .ref a2])), (tx, .inl (cT, 4, .inr (.inr (.inr (.inr fT))))), (r, .inl (cI, 240, .inl fm))]) (w1 := [(hM, .inr (7, [.int 0, .ref tx, .int km, .int rm, .int sp]))]) hP hD [5] [0, 1, 2, 3, 4, 6, 7] rfl rfl (by decide) (by decide) (fun q h1 h2 => hk1 q h1 (fun h => h2 (A0 h))) hFc hP1 hD1
  have hK := (hK.sub (tys' := [(cR, .object "Signrope$Text"), (cC, .char), (cT, .array .int), (cI, .int)]) [0, 1, 2, 3] rfl).app hK1
  have hF := hF.kept hz1 hk1 (by intro a ha; simp at ha)
  have hR9 := hR9.k9 hz1 hk1 (lo := lo) (by intro a ha; simp at ha) hlp
  have hR8 := hR8.k8 hz1 hk1
  have hlo := Nat.le_trans hlo hz1
  generalize H1 = H at hP hS hF hlo hR9 hR8 ⊢
  have hP : va_P (dC, dI) vwCl [(hX, .inr (5, [.ref rp, .ref u1, .ref u2, .ref u3, .ref u4, .int kn, .int rf, .int ac])), (rp, .inl (cR, 4, .inr (.inr (.inr (.inr fR))))), (t0, .inr (4, [.ref b0, .int (nI 240)])), (b0, .inl (cC, 480, .inl fc)), (hO, .inr (6, [.long x, .ref a2])), (tx, .inl (cT, 4, .inr (.inr (.inr (.inr fT))))), (r, .inl (cI, 240, .inl fm)), (hM, .inr (7, [.int 0, .ref tx, .int km, .int rm, .int sp]))] H := hP
  have hD : va_D A [(hX, .inr (5, [.ref rp, .ref u1, .ref u2, .ref u3, .ref u4, .int kn, .int rf, .int ac])), (rp, .inl (cR, 4, .inr (.inr (.inr (.inr fR))))), (t0, .inr (4, [.ref b0, .int (nI 240)])), (b0, .inl (cC, 480, .inl fc)), (hO, .inr (6, [.long x, .ref a2])), (tx, .inl (cT, 4, .inr (.inr (.inr (.inr fT))))), (r, .inl (cI, 240, .inl fm)), (hM, .inr (7, [.int 0, .ref tx, .int km, .int rm, .int sp]))] := hD
  have hK : va_K (dC, dI) vwCl [(cR, .object "Signrope$Text"), (cC, .char), (cT, .array .int), (cI, .int)] s := hK
  refine lv_iload hx hb dL_law_2780 (lv_at hl 1 rfl) ?_
  refine lv_icmp_eq (tgt := 2787) hx hb dL_law_2782 (by decide) (fun c_333 => ?_) (fun c_333 => absurd (ht_331.trans hg.1.symm) c_333)
  refine lv_iload hx hb dL_law_2787 (lv_at hl 1 rfl) ?_
  refine lv_if_ne (tgt := 2806) hx hb dL_law_2789 (by decide) (fun c_334 => absurd c_334 (fun h => h hg.1)) (fun c_334 => ?_)
  refine lv_aload_n hx hb dL_law_2792 rfl (lv_at hl 3 rfl) ?_
  refine va_getN (D := (dC, dI)) (ci := 6) (v := .ref a2) (C := RX2) (T := TX2) (N := 2) hx hb hts (by decide +kernel) hown hK hP 4 rfl rfl 1 (by decide) (va_Nw.use rfl hJs) (fun _ h9 => h9) rfl dL_law_2793 ?_
  refine lv_aload hx hb dL_law_2796 (lv_at hl 0 rfl) ?_
  have hPc := hP.sub (ws' := []) [] rfl
  have hDc := hD.sub (ws' := []) [] (by decide) rfl
  have hKc := hK.sub (tys' := []) [] rfl
  have hFc := va_free (wc := []) hD hS hA [] rfl
  refine va_calli (va_runV (As := [.ref r_330]) (rest := []) ⟨hx, hb, hml, hown, hts⟩ (kJ0_equals_9ea2d l dC dI H.size a2 v2 r_330 v3 240 g g2 (by omega) (fun j hj => (hg.2.2 j hj).trans (hg2.2 j hj).symm)) (cwV 1 hts gL_law_J0_equals_9ea2d rfl rfl rfl (by decide +kernel) ⟨Nat.le_of_ble_eq_true rfl, Nat.le_of_ble_eq_true rfl⟩) ⟨fun a U g mk q => by obtain ⟨q0, q1, qP, qK, qD, qE0, qE1, qE2⟩ := q; exact ⟨q0, q1, qP, va_K.moved (u := U) (U := U.calling g mk a) (Vm.Alike.refl U.vm) qK, qD, jz.call qE0, rs.call qE1, rs.call qE2⟩, rs.recv2 (lo := H.size) (hR9.narrow (fun x h => Or.inr h)) (fun _ _ => rfl), fun U hU hW => ⟨rfl, by rw [hU], by rw [hU]; exact hPc, va_K.moved hW.alike hKc, hDc.weaken (fun _ _ _ _ => trivial), jz.pass hZ hS hFc hW hU, rs.go hR9 (fun x h => Or.inr (A01 h)) hW hU, rs.go hR8 (fun x h => A01 h) hW hU⟩⟩ rfl rfl hl.1 rfl (lv_room (Nat.le_of_ble_eq_true rfl)) dL_law_2798 ⟨(by show cells + 3 + (6 * 240) + 0 + 0 ≤ 804415; omega), (by show slots + (240 + 4 + 240) + (240 * (140 + 4 * 240)) + 0 + 0 ≤ 140000000; omega)⟩) hS (fun q _ h => hFc q h) hFc (fun r_335 u t H1 locs ht hvm hq hB hz1 hk1 hS => ?_)
  try dsimp only at hB
  try dsimp only at hq
  obtain ⟨hP1, hK1, hD1⟩ := hB
  rw [ht] at hP1
  have hK1 := va_K.moved hvm.symm hK1
  obtain ⟨hP, hD⟩ := va_join (wr := [(hX, .inr (5, [.ref rp, .ref u1, .ref u2, .ref u3, .ref u4, .int kn, .int rf, .int ac])), (rp, .inl (cR, 4, .inr (.inr (.inr (.inr fR))))), (t0, .inr (4, [.ref b0, .int (nI 240)])), (b0, .inl (cC, 480, .inl fc)), (hO, .inr (6, [.long x, .ref a2])), (tx, .inl (cT, 4, .inr (.inr (.inr (.inr fT))))), (r, .inl (cI, 240, .inl fm)), (hM, .inr (7, [.int 0, .ref tx, .int km, .int rm, .int sp]))]) (w1 := []) hP hD [] [0, 1, 2, 3, 4, 5, 6, 7] rfl rfl (by decide) (by decide) hk1 hFc hP1 hD1
  have hK := (hK.sub (tys' := [(cR, .object "Signrope$Text"), (cC, .char), (cT, .array .int), (cI, .int)]) [0, 1, 2, 3] rfl).app hK1
  have hF := hF.kept hz1 hk1 (by intro a ha; simp at ha)
  have hlo := Nat.le_trans hlo hz1
  generalize H1 = H at hP hS hF hlo ⊢
  have hP : va_P (dC, dI) vwCl [(hX, .inr (5, [.ref rp, .ref u1, .ref u2, .ref u3, .ref u4, .int kn, .int rf, .int ac])), (rp, .inl (cR, 4, .inr (.inr (.inr (.inr fR))))), (t0, .inr (4, [.ref b0, .int (nI 240)])), (b0, .inl (cC, 480, .inl fc)), (hO, .inr (6, [.long x, .ref a2])), (tx, .inl (cT, 4, .inr (.inr (.inr (.inr fT))))), (r, .inl (cI, 240, .inl fm)), (hM, .inr (7, [.int 0, .ref tx, .int km, .int rm, .int sp]))] H := hP
  have hD : va_D A [(hX, .inr (5, [.ref rp, .ref u1, .ref u2, .ref u3, .ref u4, .int kn, .int rf, .int ac])), (rp, .inl (cR, 4, .inr (.inr (.inr (.inr fR))))), (t0, .inr (4, [.ref b0, .int (nI 240)])), (b0, .inl (cC, 480, .inl fc)), (hO, .inr (6, [.long x, .ref a2])), (tx, .inl (cT, 4, .inr (.inr (.inr (.inr fT))))), (r, .inl (cI, 240, .inl fm)), (hM, .inr (7, [.int 0, .ref tx, .int km, .int rm, .int sp]))] := hD
  have hK : va_K (dC, dI) vwCl [(cR, .object "Signrope$Text"), (cC, .char), (cT, .array .int), (cI, .int)] s := hK
  refine lv_if_ne (tgt := 2806) hx hb dL_law_2801 (by decide) (fun c_336 => ?_) (fun c_336 => absurd c_336 (by rw [hq]; decide))
  refine lv_goto (tgt := 3716) hx hb dL_law_2806 (by decide) ?_
  obtain ⟨x_337, ex_337⟩ : ∃ y : Int32, y = (nI (6 * i)) + (6) := ⟨_, rfl⟩
  refine lv_iinc (v := x_337) (lv' := [(4, .int x_337), (6, .ref r_330), (5, .int r_328), (3, .ref hO), (2, .ref hM), (1, .ref hX), (0, .ref b)]) hx hb dL_law_3716 hl (k := 2) rfl (by rw [ex_337]; rfl) (by decide) rfl (fun ls hl => ?_)
  have ey : x_337 = nI (6 * (i + 1)) := by rw [ex_337]; exact nI_add (6 * i) 6
  rw [ey] at hl
  refine lv_goto (tgt := 27) hx hb dL_law_3719 (by decide) ?_
  have hP9 := hP.sub (ws' := [(hX, .inr (5, [.ref rp, .ref u1, .ref u2, .ref u3, .ref u4, .int kn, .int rf, .int ac])), (rp, .inl (cR, 4, .inr (.inr (.inr (.inr fR))))), (t0, .inr (4, [.ref b0, .int (nI 240)])), (b0, .inl (cC, 480, .inl fc)), (hO, .inr (6, [.long x, .ref a2])), (hM, .inr (7, [.int 0, .ref tx, .int km, .int rm, .int sp])), (tx, .inl (cT, 4, .inr (.inr (.inr (.inr fT))))), (r, .inl (cI, 240, .inl fm))]) [0, 1, 2, 3, 4, 7, 5, 6] rfl
  have hD9 := hD.sub (ws' := [(hX, .inr (5, [.ref rp, .ref u1, .ref u2, .ref u3, .ref u4, .int kn, .int rf, .int ac])), (rp, .inl (cR, 4, .inr (.inr (.inr (.inr fR))))), (t0, .inr (4, [.ref b0, .int (nI 240)])), (b0, .inl (cC, 480, .inl fc)), (hO, .inr (6, [.long x, .ref a2])), (hM, .inr (7, [.int 0, .ref tx, .int km, .int rm, .int sp])), (tx, .inl (cT, 4, .inr (.inr (.inr (.inr fT))))), (r, .inl (cI, 240, .inl fm))]) [0, 1, 2, 3, 4, 7, 5, 6] (by decide) rfl
  refine W.widen (k := cells + 1443) (n := slots + 264484) (by omega) (by omega) ?_
  exact kk H locs ls _ hP9 hD9 hS hF hlo (lv_sub hl [0, 3, 4, 5, 6] rfl)
