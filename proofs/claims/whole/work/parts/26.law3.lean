set_option maxHeartbeats 4000000 in
set_option maxRecDepth 100000 in
theorem law_start {p : Program} {l : Launch} {e : Env} {s : State} {m : MethodId} {below : List Frame} {meth : Method} {c : Code} {Q : State → Prop} (dC : Nat → ClassId) (dI : Nat → Nat → Nat) {b : Nat} {xs : Nat → Int32} (hx : p.tables.exec = Jvm.exec) (hb : c.code = cL_law) (hml : c.maxLocals = 7) (hown : s.vm.findClass RL = some m.cls) (hts : ∀ w ∈ wsL_law, w.before #[Value.ref b] s = true) {A : Nat → Prop} (hA : ∀ q, s.heap.size ≤ q → A q) (hbA : ¬ A b) (hScr : va_X b 3072 xs s s.heap) (hbl : b < s.heap.size) (hZ : jz A s s.heap) (q0 v0 : Nat) (b00 : Nat → Int32) (hb00 : sb_Fit b00) (hC : kc q0 s) (hQ : rs q0 v0 0 b00 A s s.heap) (hJn : jn 13 "n" "J" s) (hJs : jn 125 "s" "Ljava/lang/String;" s) (hJa : ja s)  {H : Heap} {locs : List Loc} {cells slots : Nat} (hcells : cells + 25 ≤ 804415) (hslots : slots + 3879 ≤ 140000000) (hJo : jo s) (hJm : jm s) (hJi : va_Nw (.methodLinkNest RL 172 yX2_init RL) s) (hK : va_K (dC, dI) vwCl [] s) (hP : va_P (dC, dI) vwCl [] H) (hD : va_D A []) (hS : va_S A s.heap H locs) {ls : Array Slot} (hl : lv_has ls 7 [(0, .ref b)]) (kk : ∀ (H : Heap) (locs : List Loc) (ls : Array Slot) (hX rp u1 u2 u3 u4 : Nat) (kn rf ac : Int32) (cR : ClassId) (fR : Nat → Option Nat) (t0 b0 : Nat) (cC : ClassId) (hO : Nat) (x : Int64) (qv : Value) (hM tx : Nat) (km rm sp : Int32) (cT cI : ClassId) (fT : Nat → Option Nat) (r : Nat), fR 0 = some t0 → fT 0 = some r → va_K (dC, dI) vwCl [(cR, .object "Signrope$Text"), (cC, .char), (cT, .array .int), (cI, .int)] s → va_P (dC, dI) vwCl [(hX, .inr (5, [.ref rp, .ref u1, .ref u2, .ref u3, .ref u4, .int kn, .int rf, .int ac])), (rp, .inl (cR, 4, .inr (.inr (.inr (.inr fR))))), (t0, .inr (4, [.ref b0, .int (nI 0)])), (b0, .inl (cC, 480, .inl (fun _ => 0))), (hO, .inr (6, [.long x, qv])), (hM, .inr (7, [.int 0, .ref tx, .int km, .int rm, .int sp])), (tx, .inl (cT, 4, .inr (.inr (.inr (.inr fT))))), (r, .inl (cI, 0, .inl (fun _ => 0)))] H → va_D A [(hX, .inr (5, [.ref rp, .ref u1, .ref u2, .ref u3, .ref u4, .int kn, .int rf, .int ac])), (rp, .inl (cR, 4, .inr (.inr (.inr (.inr fR))))), (t0, .inr (4, [.ref b0, .int (nI 0)])), (b0, .inl (cC, 480, .inl (fun _ => 0))), (hO, .inr (6, [.long x, qv])), (hM, .inr (7, [.int 0, .ref tx, .int km, .int rm, .int sp])), (tx, .inl (cT, 4, .inr (.inr (.inr (.inr fT))))), (r, .inl (cI, 0, .inl (fun _ => 0)))] → va_S A s.heap H locs → lv_has ls 7 [(4, .int (nI (6 * 0))), (3, .ref hO), (2, .ref hM), (1, .ref hX), (0, .ref b)] → W p l e roomB s m #[Value.ref b] below meth c H locs (cells + 25) (slots + 3879) Q (F0 m 27 ls [])) : W p l e roomB s m #[Value.ref b] below meth c H locs cells slots Q (F0 m 0 ls []) := by -- intro p e s m args
  refine va_new (ci := 5) (fs := [.null, .null, .null, .null, .null, .int 0, .int 0, .int 0]) (C := RX1) (T := TX1) (N := 8) hx hb hts (by decide +kernel) tyX1 tyX1_ok hown (hts (.classLink RL 8 RX1) (by decide +kernel)) (hts (.instantiable RX1 8) (by decide +kernel)) (hts (.initialized RX1) (by decide +kernel)) hK hP hD hS hA rfl (fun j hj => by rcases (show j = 0 ∨ j = 1 ∨ j = 2 ∨ j = 3 ∨ j = 4 ∨ j = 5 ∨ j = 6 ∨ j = 7 by omega) with rfl | rfl | rfl | rfl | rfl | rfl | rfl | rfl <;> rfl) (by show cells + 1 ≤ 804415; omega) (by show slots + 8 ≤ 140000000; omega) dL_law_0 (fun q_338 H hP hD hS => ?_)
  have hP : va_P (dC, dI) vwCl [(q_338, .inr (5, [.null, .null, .null, .null, .null, .int 0, .int 0, .int 0]))] H := hP
  have hD : va_D A [(q_338, .inr (5, [.null, .null, .null, .null, .null, .int 0, .int 0, .int 0]))] := hD
  refine lv_dup hx hb dL_law_3 rfl ?_
  have hPc := hP.sub (ws' := [(q_338, .inr (5, [.null, .null, .null, .null, .null, .int 0, .int 0, .int 0]))]) [0] rfl
  have hDc := hD.sub (ws' := [(q_338, .inr (5, [.null, .null, .null, .null, .null, .int 0, .int 0, .int 0]))]) [0] (by decide) rfl
  have hKc := hK.sub (tys' := []) [] rfl
  have hFc := va_free (wc := [(q_338, .inr (5, [.null, .null, .null, .null, .null, .int 0, .int 0, .int 0]))]) hD hS hA [0] rfl
  refine va_callv (va_runI (As := []) (rest := [.ref q_338]) ⟨hx, hb, hml, hown, hts⟩ (kX1_init l dC dI H.size q_338 0 0 0) (cwI 0 hts gL_law_X1_init rfl rfl rfl (hts (.initialized RX1) (by decide +kernel)) (hts (.methodLink RL 168 yX1_init) (by decide +kernel)) (hts (.instanceMethod yX1_init) (by decide +kernel)) rfl (by decide +kernel) ⟨Nat.le_of_ble_eq_true rfl, Nat.le_of_ble_eq_true rfl⟩) ⟨fun a U g mk q => by obtain ⟨q0, q1, qP, qK, qD, qE0⟩ := q; exact ⟨q0, q1, qP, va_K.moved (u := U) (U := U.calling g mk a) (Vm.Alike.refl U.vm) qK, qD, jo.call qE0⟩, fun U hU hW => ⟨rfl, by rw [hU], by rw [hU]; exact hPc, va_K.moved hW.alike hKc, hDc.weaken (fun _ _ _ _ => trivial), hJo.pass hW⟩⟩ rfl rfl hl.1 rfl (lv_room (Nat.le_of_ble_eq_true rfl)) dL_law_4 ⟨(by show cells + 1 + 17 ≤ 804415; omega), (by show slots + 8 + 3860 ≤ 140000000; omega)⟩) hS (fun q _ h => hFc q h) hFc (fun u t H1 locs ht hvm hfR hB hz1 hk1 hS => ?_)
  obtain ⟨rp, u1, u2, u3, u4, t0, b0, cR, cC, fR⟩ := u
  try dsimp only at hB
  try dsimp only at hfR
  obtain ⟨hP1, hK1, hD1⟩ := hB
  rw [ht] at hP1
  have hK1 := va_K.moved hvm.symm hK1
  obtain ⟨hP, hD⟩ := va_join (wr := []) (w1 := [(q_338, .inr (5, [.ref rp, .ref u1, .ref u2, .ref u3, .ref u4, .int 0, .int 0, .int 0])), (rp, .inl (cR, 4, .inr (.inr (.inr (.inr fR))))), (t0, .inr (4, [.ref b0, .int (nI 0)])), (b0, .inl (cC, 480, .inl (fun _ => 0)))]) hP hD [0] [] rfl rfl (by decide) (by decide) hk1 hFc hP1 hD1
  have hK := (hK.sub (tys' := []) [] rfl).app hK1
  generalize H1 = H at hP hS ⊢
  have hP : va_P (dC, dI) vwCl [(q_338, .inr (5, [.ref rp, .ref u1, .ref u2, .ref u3, .ref u4, .int 0, .int 0, .int 0])), (rp, .inl (cR, 4, .inr (.inr (.inr (.inr fR))))), (t0, .inr (4, [.ref b0, .int (nI 0)])), (b0, .inl (cC, 480, .inl (fun _ => 0)))] H := hP
  have hD : va_D A [(q_338, .inr (5, [.ref rp, .ref u1, .ref u2, .ref u3, .ref u4, .int 0, .int 0, .int 0])), (rp, .inl (cR, 4, .inr (.inr (.inr (.inr fR))))), (t0, .inr (4, [.ref b0, .int (nI 0)])), (b0, .inl (cC, 480, .inl (fun _ => 0)))] := hD
  have hK : va_K (dC, dI) vwCl [(cR, .object "Signrope$Text"), (cC, .char)] s := hK
  refine lv_astore_n (lv' := [(1, .ref q_338), (0, .ref b)]) hx hb dL_law_7 rfl hl (by decide) rfl (fun ls hl => ?_)
  refine va_new (ci := 7) (fs := [.int 0, .null, .int 0, .int 0, .int 0]) (C := RX3) (T := TX3) (N := 5) hx hb hts (by decide +kernel) tyX3 tyX3_ok hown (hts (.classLink RL 169 RX3) (by decide +kernel)) (hts (.instantiable RX3 5) (by decide +kernel)) (hts (.initialized RX3) (by decide +kernel)) hK hP hD hS hA rfl (fun j hj => by rcases (show j = 0 ∨ j = 1 ∨ j = 2 ∨ j = 3 ∨ j = 4 by omega) with rfl | rfl | rfl | rfl | rfl <;> rfl) (by show cells + 1 + 17 + 1 ≤ 804415; omega) (by show slots + 8 + 3860 + 5 ≤ 140000000; omega) dL_law_8 (fun q_340 H hP hD hS => ?_)
  have hP : va_P (dC, dI) vwCl [(q_338, .inr (5, [.ref rp, .ref u1, .ref u2, .ref u3, .ref u4, .int 0, .int 0, .int 0])), (rp, .inl (cR, 4, .inr (.inr (.inr (.inr fR))))), (t0, .inr (4, [.ref b0, .int (nI 0)])), (b0, .inl (cC, 480, .inl (fun _ => 0))), (q_340, .inr (7, [.int 0, .null, .int 0, .int 0, .int 0]))] H := hP
  have hD : va_D A [(q_338, .inr (5, [.ref rp, .ref u1, .ref u2, .ref u3, .ref u4, .int 0, .int 0, .int 0])), (rp, .inl (cR, 4, .inr (.inr (.inr (.inr fR))))), (t0, .inr (4, [.ref b0, .int (nI 0)])), (b0, .inl (cC, 480, .inl (fun _ => 0))), (q_340, .inr (7, [.int 0, .null, .int 0, .int 0, .int 0]))] := hD
  refine lv_dup hx hb dL_law_11 rfl ?_
  have hPc := hP.sub (ws' := [(q_340, .inr (7, [.int 0, .null, .int 0, .int 0, .int 0]))]) [4] rfl
  have hDc := hD.sub (ws' := [(q_340, .inr (7, [.int 0, .null, .int 0, .int 0, .int 0]))]) [4] (by decide) rfl
  have hKc := hK.sub (tys' := []) [] rfl
  have hFc := va_free (wc := [(q_340, .inr (7, [.int 0, .null, .int 0, .int 0, .int 0]))]) hD hS hA [4] rfl
  refine va_callv (va_runI (As := []) (rest := [.ref q_340]) ⟨hx, hb, hml, hown, hts⟩ (kX3_init l dC dI H.size q_340 0 0 0 0) (cwI 0 hts gL_law_X3_init rfl rfl rfl (hts (.initialized RX3) (by decide +kernel)) (hts (.methodLink RL 171 yX3_init) (by decide +kernel)) (hts (.instanceMethod yX3_init) (by decide +kernel)) rfl (by decide +kernel) ⟨Nat.le_of_ble_eq_true rfl, Nat.le_of_ble_eq_true rfl⟩) ⟨fun a U g mk q => by obtain ⟨q0, q1, qP, qK, qD, qE0, qE1⟩ := q; exact ⟨q0, q1, qP, va_K.moved (u := U) (U := U.calling g mk a) (Vm.Alike.refl U.vm) qK, qD, jm.call qE0, ja.call qE1⟩, fun U hU hW => ⟨rfl, by rw [hU], by rw [hU]; exact hPc, va_K.moved hW.alike hKc, hDc.weaken (fun _ _ _ _ => trivial), hJm.pass hW, hJa.pass hW⟩⟩ rfl rfl hl.1 rfl (lv_room (Nat.le_of_ble_eq_true rfl)) dL_law_12 ⟨(by show cells + 1 + 17 + 1 + 5 ≤ 804415; omega), (by show slots + 8 + 3860 + 5 + 4 ≤ 140000000; omega)⟩) hS (fun q _ h => hFc q h) hFc (fun u t H1 locs ht hvm hfT hB hz1 hk1 hS => ?_)
  obtain ⟨tx, r, cT, cI, fT⟩ := u
  try dsimp only at hB
  try dsimp only at hfT
  obtain ⟨hP1, hK1, hD1⟩ := hB
  rw [ht] at hP1
  have hK1 := va_K.moved hvm.symm hK1
  obtain ⟨hP, hD⟩ := va_join (wr := [(q_338, .inr (5, [.ref rp, .ref u1, .ref u2, .ref u3, .ref u4, .int 0, .int 0, .int 0])), (rp, .inl (cR, 4, .inr (.inr (.inr (.inr fR))))), (t0, .inr (4, [.ref b0, .int (nI 0)])), (b0, .inl (cC, 480, .inl (fun _ => 0)))]) (w1 := [(q_340, .inr (7, [.int 0, .ref tx, .int 0, .int 0, .int 0])), (tx, .inl (cT, 4, .inr (.inr (.inr (.inr fT))))), (r, .inl (cI, 0, .inl (fun _ => 0)))]) hP hD [4] [0, 1, 2, 3] rfl rfl (by decide) (by decide) hk1 hFc hP1 hD1
  have hK := (hK.sub (tys' := [(cR, .object "Signrope$Text"), (cC, .char)]) [0, 1] rfl).app hK1
  generalize H1 = H at hP hS ⊢
  have hP : va_P (dC, dI) vwCl [(q_338, .inr (5, [.ref rp, .ref u1, .ref u2, .ref u3, .ref u4, .int 0, .int 0, .int 0])), (rp, .inl (cR, 4, .inr (.inr (.inr (.inr fR))))), (t0, .inr (4, [.ref b0, .int (nI 0)])), (b0, .inl (cC, 480, .inl (fun _ => 0))), (q_340, .inr (7, [.int 0, .ref tx, .int 0, .int 0, .int 0])), (tx, .inl (cT, 4, .inr (.inr (.inr (.inr fT))))), (r, .inl (cI, 0, .inl (fun _ => 0)))] H := hP
  have hD : va_D A [(q_338, .inr (5, [.ref rp, .ref u1, .ref u2, .ref u3, .ref u4, .int 0, .int 0, .int 0])), (rp, .inl (cR, 4, .inr (.inr (.inr (.inr fR))))), (t0, .inr (4, [.ref b0, .int (nI 0)])), (b0, .inl (cC, 480, .inl (fun _ => 0))), (q_340, .inr (7, [.int 0, .ref tx, .int 0, .int 0, .int 0])), (tx, .inl (cT, 4, .inr (.inr (.inr (.inr fT))))), (r, .inl (cI, 0, .inl (fun _ => 0)))] := hD
  have hK : va_K (dC, dI) vwCl [(cR, .object "Signrope$Text"), (cC, .char), (cT, .array .int), (cI, .int)] s := hK
  refine lv_astore_n (lv' := [(2, .ref q_340), (1, .ref q_338), (0, .ref b)]) hx hb dL_law_15 rfl hl (by decide) rfl (fun ls hl => ?_)
  refine va_new (ci := 6) (fs := [.long 0, .null]) (C := RX2) (T := TX2) (N := 2) hx hb hts (by decide +kernel) tyX2 tyX2_ok hown (hts (.classLink RL 14 RX2) (by decide +kernel)) (hts (.instantiable RX2 2) (by decide +kernel)) (hts (.initialized RX2) (by decide +kernel)) hK hP hD hS hA rfl (fun j hj => by rcases (show j = 0 ∨ j = 1 by omega) with rfl | rfl <;> rfl) (by show cells + 1 + 17 + 1 + 5 + 1 ≤ 804415; omega) (by show slots + 8 + 3860 + 5 + 4 + 2 ≤ 140000000; omega) dL_law_16 (fun q_342 H hP hD hS => ?_)
  have hP : va_P (dC, dI) vwCl [(q_338, .inr (5, [.ref rp, .ref u1, .ref u2, .ref u3, .ref u4, .int 0, .int 0, .int 0])), (rp, .inl (cR, 4, .inr (.inr (.inr (.inr fR))))), (t0, .inr (4, [.ref b0, .int (nI 0)])), (b0, .inl (cC, 480, .inl (fun _ => 0))), (q_340, .inr (7, [.int 0, .ref tx, .int 0, .int 0, .int 0])), (tx, .inl (cT, 4, .inr (.inr (.inr (.inr fT))))), (r, .inl (cI, 0, .inl (fun _ => 0))), (q_342, .inr (6, [.long 0, .null]))] H := hP
  have hD : va_D A [(q_338, .inr (5, [.ref rp, .ref u1, .ref u2, .ref u3, .ref u4, .int 0, .int 0, .int 0])), (rp, .inl (cR, 4, .inr (.inr (.inr (.inr fR))))), (t0, .inr (4, [.ref b0, .int (nI 0)])), (b0, .inl (cC, 480, .inl (fun _ => 0))), (q_340, .inr (7, [.int 0, .ref tx, .int 0, .int 0, .int 0])), (tx, .inl (cT, 4, .inr (.inr (.inr (.inr fT))))), (r, .inl (cI, 0, .inl (fun _ => 0))), (q_342, .inr (6, [.long 0, .null]))] := hD
  refine lv_dup hx hb dL_law_19 rfl ?_
  have hPc := hP.sub (ws' := [(q_342, .inr (6, [.long 0, .null]))]) [7] rfl
  have hDc := hD.sub (ws' := [(q_342, .inr (6, [.long 0, .null]))]) [7] (by decide) rfl
  have hKc := hK.sub (tys' := []) [] rfl
  have hFc := va_free (wc := [(q_342, .inr (6, [.long 0, .null]))]) hD hS hA [7] rfl
  refine va_callv (va_runIN (As := []) (rest := [.ref q_342]) ⟨hx, hb, hml, hown, hts⟩ (kX2_init l dC dI H.size q_342 0 0 .null) ⟨va_cnB 0 hts gL_law_X2_init_n172 rfl rfl rfl hJi (hts (.initialized RX2) (by decide +kernel)) (by decide +kernel) ⟨Nat.le_of_ble_eq_true rfl, Nat.le_of_ble_eq_true rfl⟩, rfl, hts (.instanceMethod yX2_init) (by decide +kernel)⟩ ⟨fun a U g mk q => by obtain ⟨q0, q1, qP, qK, qD⟩ := q; exact ⟨q0, q1, qP, va_K.moved (u := U) (U := U.calling g mk a) (Vm.Alike.refl U.vm) qK, qD⟩, fun U hU hW => ⟨rfl, by rw [hU], by rw [hU]; exact hPc, va_K.moved hW.alike hKc, hDc.weaken (fun _ _ _ _ => trivial)⟩⟩ rfl rfl hl.1 rfl (lv_room (Nat.le_of_ble_eq_true rfl)) dL_law_20 ⟨(by show cells + 1 + 17 + 1 + 5 + 1 + 0 ≤ 804415; omega), (by show slots + 8 + 3860 + 5 + 4 + 2 + 0 ≤ 140000000; omega)⟩) hS (fun q _ h => hFc q h) hFc (fun u t H1 locs ht hvm hq hB hz1 hk1 hS => ?_)
  try dsimp only at hB
  try dsimp only at hq
  obtain ⟨hP1, hK1, hD1⟩ := hB
  rw [ht] at hP1
  have hK1 := va_K.moved hvm.symm hK1
  obtain ⟨hP, hD⟩ := va_join (wr := [(q_338, .inr (5, [.ref rp, .ref u1, .ref u2, .ref u3, .ref u4, .int 0, .int 0, .int 0])), (rp, .inl (cR, 4, .inr (.inr (.inr (.inr fR))))), (t0, .inr (4, [.ref b0, .int (nI 0)])), (b0, .inl (cC, 480, .inl (fun _ => 0))), (q_340, .inr (7, [.int 0, .ref tx, .int 0, .int 0, .int 0])), (tx, .inl (cT, 4, .inr (.inr (.inr (.inr fT))))), (r, .inl (cI, 0, .inl (fun _ => 0)))]) (w1 := [(q_342, .inr (6, [.long 0, .null]))]) hP hD [7] [0, 1, 2, 3, 4, 5, 6] rfl rfl (by decide) (by decide) hk1 hFc hP1 hD1
  have hK := (hK.sub (tys' := [(cR, .object "Signrope$Text"), (cC, .char), (cT, .array .int), (cI, .int)]) [0, 1, 2, 3] rfl).app hK1
  generalize H1 = H at hP hS ⊢
  have hP : va_P (dC, dI) vwCl [(q_338, .inr (5, [.ref rp, .ref u1, .ref u2, .ref u3, .ref u4, .int 0, .int 0, .int 0])), (rp, .inl (cR, 4, .inr (.inr (.inr (.inr fR))))), (t0, .inr (4, [.ref b0, .int (nI 0)])), (b0, .inl (cC, 480, .inl (fun _ => 0))), (q_340, .inr (7, [.int 0, .ref tx, .int 0, .int 0, .int 0])), (tx, .inl (cT, 4, .inr (.inr (.inr (.inr fT))))), (r, .inl (cI, 0, .inl (fun _ => 0))), (q_342, .inr (6, [.long 0, .null]))] H := hP
  have hD : va_D A [(q_338, .inr (5, [.ref rp, .ref u1, .ref u2, .ref u3, .ref u4, .int 0, .int 0, .int 0])), (rp, .inl (cR, 4, .inr (.inr (.inr (.inr fR))))), (t0, .inr (4, [.ref b0, .int (nI 0)])), (b0, .inl (cC, 480, .inl (fun _ => 0))), (q_340, .inr (7, [.int 0, .ref tx, .int 0, .int 0, .int 0])), (tx, .inl (cT, 4, .inr (.inr (.inr (.inr fT))))), (r, .inl (cI, 0, .inl (fun _ => 0))), (q_342, .inr (6, [.long 0, .null]))] := hD
  have hK : va_K (dC, dI) vwCl [(cR, .object "Signrope$Text"), (cC, .char), (cT, .array .int), (cI, .int)] s := hK
  refine lv_astore_n (lv' := [(3, .ref q_342), (2, .ref q_340), (1, .ref q_338), (0, .ref b)]) hx hb dL_law_23 rfl hl (by decide) rfl (fun ls hl => ?_)
  refine lv_iconst (v := 0) hx hb dL_law_24 (by decide) ?_
  refine lv_istore (lv' := [(4, .int 0), (3, .ref q_342), (2, .ref q_340), (1, .ref q_338), (0, .ref b)]) hx hb dL_law_25 hl (by decide) rfl (fun ls hl => ?_)
  have hP9 := hP.sub (ws' := [(q_338, .inr (5, [.ref rp, .ref u1, .ref u2, .ref u3, .ref u4, .int 0, .int 0, .int 0])), (rp, .inl (cR, 4, .inr (.inr (.inr (.inr fR))))), (t0, .inr (4, [.ref b0, .int (nI 0)])), (b0, .inl (cC, 480, .inl (fun _ => 0))), (q_342, .inr (6, [.long 0, .null])), (q_340, .inr (7, [.int 0, .ref tx, .int 0, .int 0, .int 0])), (tx, .inl (cT, 4, .inr (.inr (.inr (.inr fT))))), (r, .inl (cI, 0, .inl (fun _ => 0)))]) [0, 1, 2, 3, 7, 4, 5, 6] rfl
  have hD9 := hD.sub (ws' := [(q_338, .inr (5, [.ref rp, .ref u1, .ref u2, .ref u3, .ref u4, .int 0, .int 0, .int 0])), (rp, .inl (cR, 4, .inr (.inr (.inr (.inr fR))))), (t0, .inr (4, [.ref b0, .int (nI 0)])), (b0, .inl (cC, 480, .inl (fun _ => 0))), (q_342, .inr (6, [.long 0, .null])), (q_340, .inr (7, [.int 0, .ref tx, .int 0, .int 0, .int 0])), (tx, .inl (cT, 4, .inr (.inr (.inr (.inr fT))))), (r, .inl (cI, 0, .inl (fun _ => 0)))]) [0, 1, 2, 3, 7, 4, 5, 6] (by decide) rfl
  have hK9 := hK.sub (tys' := [(cR, .object "Signrope$Text"), (cC, .char), (cT, .array .int), (cI, .int)]) [0, 1, 2, 3] rfl
  refine W.widen (k := cells + 25) (n := slots + 3879) (by omega) (by omega) ?_
  exact kk H locs ls q_338 rp u1 u2 u3 u4 0 0 0 cR fR t0 b0 cC q_342 0 .null q_340 tx 0 0 0 cT cI fT r hfR hfT hK9 hP9 hD9 hS (lv_sub hl [0, 1, 2, 3, 4] rfl)
set_option maxHeartbeats 4000000 in
set_option maxRecDepth 100000 in
theorem law_setLength {p : Program} {l : Launch} {e : Env} {s : State} {m : MethodId} {below : List Frame} {meth : Method} {c : Code} {Q : State → Prop} (dC : Nat → ClassId) (dI : Nat → Nat → Nat) {b : Nat} {xs : Nat → Int32} (hx : p.tables.exec = Jvm.exec) (hb : c.code = cL_law) (hml : c.maxLocals = 7) (hown : s.vm.findClass RL = some m.cls) (hts : ∀ w ∈ wsL_law, w.before #[Value.ref b] s = true) {A : Nat → Prop} (hA : ∀ q, s.heap.size ≤ q → A q) (hbA : ¬ A b) (hScr : va_X b 3072 xs s s.heap) (hbl : b < s.heap.size) (hZ : jz A s s.heap) (q0 v0 : Nat) (b00 : Nat → Int32) (hb00 : sb_Fit b00) (hC : kc q0 s) (hQ : rs q0 v0 0 b00 A s s.heap) (hJn : jn 13 "n" "J" s) (hJs : jn 125 "s" "Ljava/lang/String;" s) (hJa : ja s) (hX rp u1 u2 u3 u4 : Nat) (kn rf ac : Int32) (cR : ClassId) (fR : Nat → Option Nat) (t0 b0 : Nat) (cC : ClassId) (hO : Nat) (x : Int64) (qv : Value) (hM tx : Nat) (km rm sp : Int32) (cT cI : ClassId) (fT : Nat → Option Nat) (r : Nat) (hR : fR 0 = some t0) (hT : fT 0 = some r) (hx0 : xs 0 = 30) (hx1 : xs 1 = 0) (hx2 : xs 2 = 240) {H : Heap} {locs : List Loc} {cells slots : Nat} (hcells : cells + 4 ≤ 804415) (hslots : slots + 1000 ≤ 140000000) (hK : va_K (dC, dI) vwCl [(cR, .object "Signrope$Text"), (cC, .char), (cT, .array .int), (cI, .int)] s) (hP : va_P (dC, dI) vwCl [(hX, .inr (5, [.ref rp, .ref u1, .ref u2, .ref u3, .ref u4, .int kn, .int rf, .int ac])), (rp, .inl (cR, 4, .inr (.inr (.inr (.inr fR))))), (t0, .inr (4, [.ref b0, .int (nI 0)])), (b0, .inl (cC, 480, .inl (fun _ => 0))), (hO, .inr (6, [.long x, qv])), (hM, .inr (7, [.int 0, .ref tx, .int km, .int rm, .int sp])), (tx, .inl (cT, 4, .inr (.inr (.inr (.inr fT))))), (r, .inl (cI, 0, .inl (fun _ => 0)))] H) (hD : va_D A [(hX, .inr (5, [.ref rp, .ref u1, .ref u2, .ref u3, .ref u4, .int kn, .int rf, .int ac])), (rp, .inl (cR, 4, .inr (.inr (.inr (.inr fR))))), (t0, .inr (4, [.ref b0, .int (nI 0)])), (b0, .inl (cC, 480, .inl (fun _ => 0))), (hO, .inr (6, [.long x, qv])), (hM, .inr (7, [.int 0, .ref tx, .int km, .int rm, .int sp])), (tx, .inl (cT, 4, .inr (.inr (.inr (.inr fT))))), (r, .inl (cI, 0, .inl (fun _ => 0)))]) (hS : va_S A s.heap H locs) {ls : Array Slot} (hl : lv_has ls 7 [(4, .int (nI (6 * 0))), (3, .ref hO), (2, .ref hM), (1, .ref hX), (0, .ref b)]) (kk : ∀ (H : Heap) (locs : List Loc) (ls : Array Slot) (ac sp : Int32) (x : Int64) (fc fm : Nat → Int32) (cI : ClassId) (fT : Nat → Option Nat) (r : Nat), fT 0 = some r → (∀ j, j < 240 → fc j = 0) → (∀ j, j < 240 → fm j = 0) → va_K (dC, dI) vwCl [(cR, .object "Signrope$Text"), (cC, .char), (cT, .array .int), (cI, .int)] s → va_P (dC, dI) vwCl [(hX, .inr (5, [.ref rp, .ref u1, .ref u2, .ref u3, .ref u4, .int kn, .int rf, .int ac])), (rp, .inl (cR, 4, .inr (.inr (.inr (.inr fR))))), (t0, .inr (4, [.ref b0, .int (nI 240)])), (b0, .inl (cC, 480, .inl fc)), (hO, .inr (6, [.long x, qv])), (hM, .inr (7, [.int 0, .ref tx, .int km, .int rm, .int sp])), (tx, .inl (cT, 4, .inr (.inr (.inr (.inr fT))))), (r, .inl (cI, 240, .inl fm))] H → va_D A [(hX, .inr (5, [.ref rp, .ref u1, .ref u2, .ref u3, .ref u4, .int kn, .int rf, .int ac])), (rp, .inl (cR, 4, .inr (.inr (.inr (.inr fR))))), (t0, .inr (4, [.ref b0, .int (nI 240)])), (b0, .inl (cC, 480, .inl fc)), (hO, .inr (6, [.long x, qv])), (hM, .inr (7, [.int 0, .ref tx, .int km, .int rm, .int sp])), (tx, .inl (cT, 4, .inr (.inr (.inr (.inr fT))))), (r, .inl (cI, 240, .inl fm))] → va_S A s.heap H locs → lv_has ls 7 [(4, .int (nI (6 * 1))), (3, .ref hO), (2, .ref hM), (1, .ref hX), (0, .ref b)] → W p l e roomB s m #[Value.ref b] below meth c H locs (cells + 4) (slots + 1000) Q (F0 m 27 ls [])) : W p l e roomB s m #[Value.ref b] below meth c H locs cells slots Q (F0 m 27 ls []) := by -- intro p e s m args
  obtain ⟨i, ei⟩ : ∃ i : Nat, i = 0 := ⟨0, rfl⟩
  have hi : i < 512 := by omega
  have hx0 : xs (6 * i) = 30 := by rw [ei]; exact hx0
  have hx1 : xs (6 * i + 1) = 0 := by rw [ei]; exact hx1
  have hx2 : xs (6 * i + 2) = 240 := by rw [ei]; exact hx2
  have hl : lv_has ls 7 [(4, .int (nI (6 * i))), (3, .ref hO), (2, .ref hM), (1, .ref hX), (0, .ref b)] := by rw [ei]; exact hl
  refine lv_iload hx hb dL_law_27 (lv_at hl 0 rfl) ?_
  refine lv_aload_n hx hb dL_law_29 rfl (lv_at hl 4 rfl) ?_
  refine va_slen hx hb hScr hbl hbA hS dL_law_30 ?_
  refine lv_bipush (v := 6) hx hb dL_law_31 (by decide) ?_
  refine lv_isub hx hb dL_law_33 ?_
  refine lv_topi (fun x_344 ex_344 => ?_)
  refine lv_icmp_gt (tgt := 3722) hx hb dL_law_34 (by decide) (fun c_345 => absurd c_345 (by rw [ex_344]; exact nI_nlt (a := 3066) (b := 6 * i) (by omega) (by omega))) (fun c_345 => ?_)
  refine lv_aload_n hx hb dL_law_37 rfl (lv_at hl 4 rfl) ?_
  refine lv_iload hx hb dL_law_38 (lv_at hl 0 rfl) ?_
  refine va_sld hx hb hScr hbl hbA hS (i := nI (6 * i)) (show vp_in (nI (6 * i)) 3072 from vp_in_nI (by omega) (by omega)) dL_law_40 ?_
  rw [show xs (nI (6 * i)).toNatClampNeg = 30 from by rw [nI_clamp (by omega)]; exact hx0]
  refine lv_bipush (v := 63) hx hb dL_law_41 (by decide) ?_
  refine lv_iand hx hb dL_law_43 ?_
  refine lv_topi (fun x_346 ex_346 => ?_)
  have hyx_346 : x_346 = 30 := by rw [ex_346]; decide
  rw [hyx_346]
  refine lv_tableIn (x := 30) (off := 2638) (tgt := 2682) hx hb dL_law_44 (by decide) (by decide) (by decide) (by decide) ?_
  refine lv_aload_n hx hb dL_law_2682 rfl (lv_at hl 3 rfl) ?_
  refine lv_aload_n hx hb dL_law_2683 rfl (lv_at hl 4 rfl) ?_
  refine lv_iload hx hb dL_law_2684 (lv_at hl 0 rfl) ?_
  refine lv_iconst (v := 1) hx hb dL_law_2686 (by decide) ?_
  refine lv_iadd hx hb dL_law_2687 ?_
  refine lv_topi (fun x_347 ex_347 => ?_)
  have ex_347 : x_347 = nI (6 * i + 1) := by rw [ex_347]; exact nI_add (6 * i) 1
  refine va_sld hx hb hScr hbl hbA hS (i := x_347) (show vp_in x_347 3072 from by rw [ex_347]; exact vp_in_nI (by omega) (by omega)) dL_law_2688 ?_
  rw [show xs (x_347).toNatClampNeg = 0 from by rw [ex_347, nI_clamp (by omega)]; exact hx1]
  refine lv_aload_n hx hb dL_law_2689 rfl (lv_at hl 4 rfl) ?_
  refine lv_iload hx hb dL_law_2690 (lv_at hl 0 rfl) ?_
  refine lv_iconst (v := 2) hx hb dL_law_2692 (by decide) ?_
  refine lv_iadd hx hb dL_law_2693 ?_
  refine lv_topi (fun x_348 ex_348 => ?_)
  have ex_348 : x_348 = nI (6 * i + 2) := by rw [ex_348]; exact nI_add (6 * i) 2
  refine va_sld hx hb hScr hbl hbA hS (i := x_348) (show vp_in x_348 3072 from by rw [ex_348]; exact vp_in_nI (by omega) (by omega)) dL_law_2694 ?_
  rw [show xs (x_348).toNatClampNeg = 240 from by rw [ex_348, nI_clamp (by omega)]; exact hx2]
  refine lv_aload_n hx hb dL_law_2695 rfl (lv_at hl 1 rfl) ?_
  have hPc := hP.sub (ws' := [(hX, .inr (5, [.ref rp, .ref u1, .ref u2, .ref u3, .ref u4, .int kn, .int rf, .int ac])), (rp, .inl (cR, 4, .inr (.inr (.inr (.inr fR))))), (t0, .inr (4, [.ref b0, .int (nI 0)])), (b0, .inl (cC, 480, .inl (fun _ => 0))), (hO, .inr (6, [.long x, qv]))]) [0, 1, 2, 3, 4] rfl
  have hDc := hD.sub (ws' := [(hX, .inr (5, [.ref rp, .ref u1, .ref u2, .ref u3, .ref u4, .int kn, .int rf, .int ac])), (rp, .inl (cR, 4, .inr (.inr (.inr (.inr fR))))), (t0, .inr (4, [.ref b0, .int (nI 0)])), (b0, .inl (cC, 480, .inl (fun _ => 0))), (hO, .inr (6, [.long x, qv]))]) [0, 1, 2, 3, 4] (by decide) rfl
  have hKc := hK.sub (tys' := [(cR, .object "Signrope$Text"), (cC, .char)]) [0, 1] rfl
  have hFc := va_free (wc := [(hX, .inr (5, [.ref rp, .ref u1, .ref u2, .ref u3, .ref u4, .int kn, .int rf, .int ac])), (rp, .inl (cR, 4, .inr (.inr (.inr (.inr fR))))), (t0, .inr (4, [.ref b0, .int (nI 0)])), (b0, .inl (cC, 480, .inl (fun _ => 0))), (hO, .inr (6, [.long x, qv]))]) hD hS hA [0, 1, 2, 3, 4] rfl
  refine va_calli (vx_runSW (As := [.ref hX, .int (nI 0), .int (nI 240), .ref hO]) (rest := []) ⟨hx, hb, hml, hown, hts⟩ (kL_setLength l dC dI H.size hX rp u1 u2 u3 u4 kn rf ac cR fR 0 t0 (by omega) hR b0 cC 0 (fun _ => 0) hO x qv 240 (by omega) (by omega)) (vx_cwSW 4 hts gL_law_L_setLength rfl rfl rfl (by decide +kernel) ⟨Nat.le_of_ble_eq_true rfl, Nat.le_of_ble_eq_true rfl⟩) ⟨fun a U g mk q => by obtain ⟨q0, q1, qP, qK, qD, qE0⟩ := q; exact ⟨q0, q1, qP, va_K.moved (u := U) (U := U.calling g mk a) (Vm.Alike.refl U.vm) qK, qD, jn.call qE0⟩, fun U hU hW => ⟨rfl, by rw [hU], by rw [hU]; exact hPc, va_K.moved hW.alike hKc, hDc.weaken (fun _ _ _ _ => trivial), hJn.pass hW⟩⟩ rfl rfl hl.1 rfl (lv_room (Nat.le_of_ble_eq_true rfl)) dL_law_2696 ⟨(by show cells + 0 ≤ 804415; omega), (by show slots + 0 ≤ 140000000; omega)⟩) hS (fun q _ h => hFc q h) hFc (fun r_349 g t H1 locs ht hvm hg hB hz1 hk1 hS => ?_)
  try dsimp only at hB
  try dsimp only at hg
  obtain ⟨hP1, hK1, hD1⟩ := hB
  rw [ht] at hP1
  have hK1 := va_K.moved hvm.symm hK1
  obtain ⟨hP, hD⟩ := va_join (wr := [(hM, .inr (7, [.int 0, .ref tx, .int km, .int rm, .int sp])), (tx, .inl (cT, 4, .inr (.inr (.inr (.inr fT))))), (r, .inl (cI, 0, .inl (fun _ => 0)))]) (w1 := [(hX, .inr (5, [.ref rp, .ref u1, .ref u2, .ref u3, .ref u4, .int kn, .int rf, .int (ac + 1)])), (rp, .inl (cR, 4, .inr (.inr (.inr (.inr fR))))), (t0, .inr (4, [.ref b0, .int (nI 240)])), (b0, .inl (cC, 480, .inl g)), (hO, .inr (6, [.long ((nI 0).toInt64), qv]))]) hP hD [0, 1, 2, 3, 4] [5, 6, 7] rfl rfl (by decide) (by decide) hk1 hFc hP1 hD1
  have hK := (hK.sub (tys' := [(cT, .array .int), (cI, .int)]) [2, 3] rfl).app hK1
  generalize H1 = H at hP hS ⊢
  have hP : va_P (dC, dI) vwCl [(hM, .inr (7, [.int 0, .ref tx, .int km, .int rm, .int sp])), (tx, .inl (cT, 4, .inr (.inr (.inr (.inr fT))))), (r, .inl (cI, 0, .inl (fun _ => 0))), (hX, .inr (5, [.ref rp, .ref u1, .ref u2, .ref u3, .ref u4, .int kn, .int rf, .int (ac + 1)])), (rp, .inl (cR, 4, .inr (.inr (.inr (.inr fR))))), (t0, .inr (4, [.ref b0, .int (nI 240)])), (b0, .inl (cC, 480, .inl g)), (hO, .inr (6, [.long ((nI 0).toInt64), qv]))] H := hP
  have hD : va_D A [(hM, .inr (7, [.int 0, .ref tx, .int km, .int rm, .int sp])), (tx, .inl (cT, 4, .inr (.inr (.inr (.inr fT))))), (r, .inl (cI, 0, .inl (fun _ => 0))), (hX, .inr (5, [.ref rp, .ref u1, .ref u2, .ref u3, .ref u4, .int kn, .int rf, .int (ac + 1)])), (rp, .inl (cR, 4, .inr (.inr (.inr (.inr fR))))), (t0, .inr (4, [.ref b0, .int (nI 240)])), (b0, .inl (cC, 480, .inl g)), (hO, .inr (6, [.long ((nI 0).toInt64), qv]))] := hD
  have hK : va_K (dC, dI) vwCl [(cT, .array .int), (cI, .int), (cR, .object "Signrope$Text"), (cC, .char)] s := hK
  refine lv_istore (lv' := [(5, .int r_349), (4, .int (nI (6 * i))), (3, .ref hO), (2, .ref hM), (1, .ref hX), (0, .ref b)]) hx hb dL_law_2699 hl (by decide) rfl (fun ls hl => ?_)
  refine lv_aload_n hx hb dL_law_2701 rfl (lv_at hl 3 rfl) ?_
  refine lv_aload_n hx hb dL_law_2702 rfl (lv_at hl 5 rfl) ?_
  refine lv_iload hx hb dL_law_2703 (lv_at hl 1 rfl) ?_
  refine lv_iconst (v := 1) hx hb dL_law_2705 (by decide) ?_
  refine lv_iadd hx hb dL_law_2706 ?_
  refine lv_topi (fun x_350 ex_350 => ?_)
  have ex_350 : x_350 = nI (6 * i + 1) := by rw [ex_350]; exact nI_add (6 * i) 1
  refine va_sld hx hb hScr hbl hbA hS (i := x_350) (show vp_in x_350 3072 from by rw [ex_350]; exact vp_in_nI (by omega) (by omega)) dL_law_2707 ?_
  rw [show xs (x_350).toNatClampNeg = 0 from by rw [ex_350, nI_clamp (by omega)]; exact hx1]
  refine lv_aload_n hx hb dL_law_2708 rfl (lv_at hl 5 rfl) ?_
  refine lv_iload hx hb dL_law_2709 (lv_at hl 1 rfl) ?_
  refine lv_iconst (v := 2) hx hb dL_law_2711 (by decide) ?_
  refine lv_iadd hx hb dL_law_2712 ?_
  refine lv_topi (fun x_351 ex_351 => ?_)
  have ex_351 : x_351 = nI (6 * i + 2) := by rw [ex_351]; exact nI_add (6 * i) 2
  refine va_sld hx hb hScr hbl hbA hS (i := x_351) (show vp_in x_351 3072 from by rw [ex_351]; exact vp_in_nI (by omega) (by omega)) dL_law_2713 ?_
  rw [show xs (x_351).toNatClampNeg = 240 from by rw [ex_351, nI_clamp (by omega)]; exact hx2]
  have hPc := hP.sub (ws' := [(hM, .inr (7, [.int 0, .ref tx, .int km, .int rm, .int sp])), (tx, .inl (cT, 4, .inr (.inr (.inr (.inr fT))))), (r, .inl (cI, 0, .inl (fun _ => 0)))]) [0, 1, 2] rfl
  have hDc := hD.sub (ws' := [(hM, .inr (7, [.int 0, .ref tx, .int km, .int rm, .int sp])), (tx, .inl (cT, 4, .inr (.inr (.inr (.inr fT))))), (r, .inl (cI, 0, .inl (fun _ => 0)))]) [0, 1, 2] (by decide) rfl
  have hKc := hK.sub (tys' := [(cT, .array .int), (cI, .int)]) [0, 1] rfl
  have hFc := va_free (wc := [(hM, .inr (7, [.int 0, .ref tx, .int km, .int rm, .int sp])), (tx, .inl (cT, 4, .inr (.inr (.inr (.inr fT))))), (r, .inl (cI, 0, .inl (fun _ => 0)))]) hD hS hA [0, 1, 2] rfl
  refine va_calli (va_runV (As := [.int (nI 0), .int (nI 240)]) (rest := []) ⟨hx, hb, hml, hown, hts⟩ (kX3_setLength l dC dI H.size hM tx 0 km rm sp cT cI fT 0 r 0 (fun _ => 0) 240 (by omega) hT (by omega) (by omega)) (cwV 2 hts gL_law_X3_setLength rfl rfl rfl (by decide +kernel) ⟨Nat.le_of_ble_eq_true rfl, Nat.le_of_ble_eq_true rfl⟩) ⟨fun a U g mk q => by obtain ⟨q0, q1, qP, qK, qD, qE0⟩ := q; exact ⟨q0, q1, qP, va_K.moved (u := U) (U := U.calling g mk a) (Vm.Alike.refl U.vm) qK, qD, ja.call qE0⟩, va_recv hKc hPc (ci := 7) (q0 := 0) rfl rfl, fun U hU hW => ⟨rfl, by rw [hU], by rw [hU]; exact hPc, va_K.moved hW.alike hKc, hDc.weaken (fun _ _ _ _ => trivial), hJa.pass hW⟩⟩ rfl rfl hl.1 rfl (lv_room (Nat.le_of_ble_eq_true rfl)) dL_law_2714 ⟨(by show cells + 0 + 4 ≤ 804415; omega), (by show slots + 0 + 1000 ≤ 140000000; omega)⟩) hS (fun q _ h => hFc q h) hFc (fun r_352 u t H1 locs ht hvm hg2 hB hz1 hk1 hS => ?_)
  obtain ⟨rn, cA, gm⟩ := u
  try dsimp only at hB
  try dsimp only at hg2
  obtain ⟨-, hP1, hK1, hD1⟩ := hB
  rw [ht] at hP1
  have hK1 := va_K.moved hvm.symm hK1
  obtain ⟨hP, hD⟩ := va_join (wr := [(hX, .inr (5, [.ref rp, .ref u1, .ref u2, .ref u3, .ref u4, .int kn, .int rf, .int (ac + 1)])), (rp, .inl (cR, 4, .inr (.inr (.inr (.inr fR))))), (t0, .inr (4, [.ref b0, .int (nI 240)])), (b0, .inl (cC, 480, .inl g)), (hO, .inr (6, [.long ((nI 0).toInt64), qv]))]) (w1 := [(hM, .inr (7, [.int 0, .ref tx, .int km, .int rm, .int (sp + 1)])), (tx, .inl (cT, 4, .inr (.inr (.inr (.inr (va_up fT 0 (some rn))))))), (rn, .inl (cA, 240, .inl gm))]) hP hD [0, 1, 2] [3, 4, 5, 6, 7] rfl rfl (by decide) (by decide) hk1 hFc hP1 hD1
  have hK := (hK.sub (tys' := [(cR, .object "Signrope$Text"), (cC, .char)]) [2, 3] rfl).app hK1
  generalize H1 = H at hP hS ⊢
  have hP : va_P (dC, dI) vwCl [(hX, .inr (5, [.ref rp, .ref u1, .ref u2, .ref u3, .ref u4, .int kn, .int rf, .int (ac + 1)])), (rp, .inl (cR, 4, .inr (.inr (.inr (.inr fR))))), (t0, .inr (4, [.ref b0, .int (nI 240)])), (b0, .inl (cC, 480, .inl g)), (hO, .inr (6, [.long ((nI 0).toInt64), qv])), (hM, .inr (7, [.int 0, .ref tx, .int km, .int rm, .int (sp + 1)])), (tx, .inl (cT, 4, .inr (.inr (.inr (.inr (va_up fT 0 (some rn))))))), (rn, .inl (cA, 240, .inl gm))] H := hP
  have hD : va_D A [(hX, .inr (5, [.ref rp, .ref u1, .ref u2, .ref u3, .ref u4, .int kn, .int rf, .int (ac + 1)])), (rp, .inl (cR, 4, .inr (.inr (.inr (.inr fR))))), (t0, .inr (4, [.ref b0, .int (nI 240)])), (b0, .inl (cC, 480, .inl g)), (hO, .inr (6, [.long ((nI 0).toInt64), qv])), (hM, .inr (7, [.int 0, .ref tx, .int km, .int rm, .int (sp + 1)])), (tx, .inl (cT, 4, .inr (.inr (.inr (.inr (va_up fT 0 (some rn))))))), (rn, .inl (cA, 240, .inl gm))] := hD
  have hK : va_K (dC, dI) vwCl [(cR, .object "Signrope$Text"), (cC, .char), (cT, .array .int), (cA, .int)] s := hK
  refine lv_istore (lv' := [(6, .int r_352), (5, .int r_349), (4, .int (nI (6 * i))), (3, .ref hO), (2, .ref hM), (1, .ref hX), (0, .ref b)]) hx hb dL_law_2717 hl (by decide) rfl (fun ls hl => ?_)
  refine lv_aload_n hx hb dL_law_2719 rfl (lv_at hl 4 rfl) ?_
  have hF0 : ∀ q, va_A [] H.size q → A q := va_free (wc := []) hD hS hA [] rfl
  have hPc := hP.sub (ws' := [(hM, .inr (7, [.int 0, .ref tx, .int km, .int rm, .int (sp + 1)]))]) [5] rfl
  have hDc := hD.sub (ws' := [(hM, .inr (7, [.int 0, .ref tx, .int km, .int rm, .int (sp + 1)]))]) [5] (by decide) rfl
  have hKc := hK.sub (tys' := []) [] rfl
  have hFc := va_free (wc := [(hM, .inr (7, [.int 0, .ref tx, .int km, .int rm, .int (sp + 1)]))]) hD hS hA [5] rfl
  refine va_calli (va_runV (As := []) (rest := []) ⟨hx, hb, hml, hown, hts⟩ (kX3_thrown0 l dC dI H.size hM tx 0 km rm (sp + 1)) (cwV 0 hts gL_law_X3_thrown rfl rfl rfl (by decide +kernel) ⟨Nat.le_of_ble_eq_true rfl, Nat.le_of_ble_eq_true rfl⟩) ⟨fun a U g mk q => by obtain ⟨q0, q1, qP, qK, qD⟩ := q; exact ⟨q0, q1, qP, va_K.moved (u := U) (U := U.calling g mk a) (Vm.Alike.refl U.vm) qK, qD⟩, va_recv hKc hPc (ci := 7) (q0 := 0) rfl rfl, fun U hU hW => ⟨rfl, by rw [hU], by rw [hU]; exact hPc, va_K.moved hW.alike hKc, hDc.weaken (fun _ _ _ _ => trivial)⟩⟩ rfl rfl hl.1 rfl (lv_room (Nat.le_of_ble_eq_true rfl)) dL_law_2720 ⟨(by show cells + 0 + 4 + 0 ≤ 804415; omega), (by show slots + 0 + 1000 + 0 ≤ 140000000; omega)⟩) hS (fun q _ h => hF0 q h) hF0 (fun r_354 u t H1 locs ht hvm ht_353 hB hz1 hk1 hS => ?_)
  try dsimp only at hB
  try dsimp only at ht_353
  obtain ⟨hP1, hK1, hD1⟩ := hB
  rw [ht] at hP1
  have hK1 := va_K.moved hvm.symm hK1
  obtain ⟨hP, hD⟩ := va_join (wr := [(hX, .inr (5, [.ref rp, .ref u1, .ref u2, .ref u3, .ref u4, .int kn, .int rf, .int (ac + 1)])), (rp, .inl (cR, 4, .inr (.inr (.inr (.inr fR))))), (t0, .inr (4, [.ref b0, .int (nI 240)])), (b0, .inl (cC, 480, .inl g)), (hO, .inr (6, [.long ((nI 0).toInt64), qv])), (tx, .inl (cT, 4, .inr (.inr (.inr (.inr (va_up fT 0 (some rn))))))), (rn, .inl (cA, 240, .inl gm))]) (w1 := [(hM, .inr (7, [.int 0, .ref tx, .int km, .int rm, .int (sp + 1)]))]) hP hD [5] [0, 1, 2, 3, 4, 6, 7] rfl rfl (by decide) (by decide) (fun q h1 h2 => hk1 q h1 (fun h => h2 (A0 h))) hFc hP1 hD1
  have hK := (hK.sub (tys' := [(cR, .object "Signrope$Text"), (cC, .char), (cT, .array .int), (cA, .int)]) [0, 1, 2, 3] rfl).app hK1
  generalize H1 = H at hP hS ⊢
  have hP : va_P (dC, dI) vwCl [(hX, .inr (5, [.ref rp, .ref u1, .ref u2, .ref u3, .ref u4, .int kn, .int rf, .int (ac + 1)])), (rp, .inl (cR, 4, .inr (.inr (.inr (.inr fR))))), (t0, .inr (4, [.ref b0, .int (nI 240)])), (b0, .inl (cC, 480, .inl g)), (hO, .inr (6, [.long ((nI 0).toInt64), qv])), (tx, .inl (cT, 4, .inr (.inr (.inr (.inr (va_up fT 0 (some rn))))))), (rn, .inl (cA, 240, .inl gm)), (hM, .inr (7, [.int 0, .ref tx, .int km, .int rm, .int (sp + 1)]))] H := hP
  have hD : va_D A [(hX, .inr (5, [.ref rp, .ref u1, .ref u2, .ref u3, .ref u4, .int kn, .int rf, .int (ac + 1)])), (rp, .inl (cR, 4, .inr (.inr (.inr (.inr fR))))), (t0, .inr (4, [.ref b0, .int (nI 240)])), (b0, .inl (cC, 480, .inl g)), (hO, .inr (6, [.long ((nI 0).toInt64), qv])), (tx, .inl (cT, 4, .inr (.inr (.inr (.inr (va_up fT 0 (some rn))))))), (rn, .inl (cA, 240, .inl gm)), (hM, .inr (7, [.int 0, .ref tx, .int km, .int rm, .int (sp + 1)]))] := hD
  have hK : va_K (dC, dI) vwCl [(cR, .object "Signrope$Text"), (cC, .char), (cT, .array .int), (cA, .int)] s := hK
  refine lv_iload hx hb dL_law_2723 (lv_at hl 1 rfl) ?_
  refine lv_icmp_eq (tgt := 2730) hx hb dL_law_2725 (by decide) (fun c_355 => ?_) (fun c_355 => absurd (ht_353.trans hg.1.symm) c_355)
  refine lv_iload hx hb dL_law_2730 (lv_at hl 1 rfl) ?_
  refine lv_if_ne (tgt := 2748) hx hb dL_law_2732 (by decide) (fun c_356 => absurd c_356 (fun h => h hg.1)) (fun c_356 => ?_)
  refine lv_aload_n hx hb dL_law_2735 rfl (lv_at hl 3 rfl) ?_
  refine va_getN (D := (dC, dI)) (ci := 6) (v := .long ((nI 0).toInt64)) (C := RX2) (T := TX2) (N := 2) hx hb hts (by decide +kernel) hown hK hP 4 rfl rfl 0 (by decide) (va_Nw.use rfl hJn) (fun _ h9 => h9) rfl dL_law_2736 ?_
  refine lv_iload hx hb dL_law_2739 (lv_at hl 0 rfl) ?_
  obtain ⟨x_357, ex_357⟩ : ∃ z : Int64, r_352.toInt64 = z := ⟨_, rfl⟩
  refine lv_i2l (v := x_357) hx hb dL_law_2741 ex_357 ?_
  refine W.lcmp hx hb dL_law_2742 ?_
  rw [show lg_cmp ((nI 0).toInt64) x_357 = 0 from by rw [← ex_357, hg2.1]; simp [lg_cmp]]
  refine lv_if_eq (tgt := 2748) hx hb dL_law_2743 (by decide) (fun c_358 => ?_) (fun c_358 => absurd (rfl) c_358)
  refine lv_goto (tgt := 3716) hx hb dL_law_2748 (by decide) ?_
  obtain ⟨x_359, ex_359⟩ : ∃ y : Int32, y = (nI (6 * i)) + (6) := ⟨_, rfl⟩
  refine lv_iinc (v := x_359) (lv' := [(4, .int x_359), (6, .int r_352), (5, .int r_349), (3, .ref hO), (2, .ref hM), (1, .ref hX), (0, .ref b)]) hx hb dL_law_3716 hl (k := 2) rfl (by rw [ex_359]; rfl) (by decide) rfl (fun ls hl => ?_)
  have ey : x_359 = nI (6 * 1) := by rw [ex_359, ei]; exact nI_add 0 6
  rw [ey] at hl
  refine lv_goto (tgt := 27) hx hb dL_law_3719 (by decide) ?_
  have hP9 := hP.sub (ws' := [(hX, .inr (5, [.ref rp, .ref u1, .ref u2, .ref u3, .ref u4, .int kn, .int rf, .int (ac + 1)])), (rp, .inl (cR, 4, .inr (.inr (.inr (.inr fR))))), (t0, .inr (4, [.ref b0, .int (nI 240)])), (b0, .inl (cC, 480, .inl g)), (hO, .inr (6, [.long ((nI 0).toInt64), qv])), (hM, .inr (7, [.int 0, .ref tx, .int km, .int rm, .int (sp + 1)])), (tx, .inl (cT, 4, .inr (.inr (.inr (.inr (va_up fT 0 (some rn))))))), (rn, .inl (cA, 240, .inl gm))]) [0, 1, 2, 3, 4, 7, 5, 6] rfl
  have hD9 := hD.sub (ws' := [(hX, .inr (5, [.ref rp, .ref u1, .ref u2, .ref u3, .ref u4, .int kn, .int rf, .int (ac + 1)])), (rp, .inl (cR, 4, .inr (.inr (.inr (.inr fR))))), (t0, .inr (4, [.ref b0, .int (nI 240)])), (b0, .inl (cC, 480, .inl g)), (hO, .inr (6, [.long ((nI 0).toInt64), qv])), (hM, .inr (7, [.int 0, .ref tx, .int km, .int rm, .int (sp + 1)])), (tx, .inl (cT, 4, .inr (.inr (.inr (.inr (va_up fT 0 (some rn))))))), (rn, .inl (cA, 240, .inl gm))]) [0, 1, 2, 3, 4, 7, 5, 6] (by decide) rfl
  have hK9 := hK.sub (tys' := [(cR, .object "Signrope$Text"), (cC, .char), (cT, .array .int), (cA, .int)]) [0, 1, 2, 3] rfl
  refine W.widen (k := cells + 4) (n := slots + 1000) (by omega) (by omega) ?_
  exact kk H locs ls (ac + 1) (sp + 1) _ g gm cA (va_up fT 0 (some rn)) rn (by simp [va_up]) (fun j hj => (hg.2 j hj).trans (if_neg (by omega))) (fun j hj => (hg2.2 j hj).trans (if_neg (by omega))) hK9 hP9 hD9 hS (lv_sub hl [0, 3, 4, 5, 6] rfl)
