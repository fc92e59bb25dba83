/-! SignropeModel.told: a text out of a row of codes, and what that makes. -/
def kc (q0 : Nat) (U : State) : Prop := vk_R RX3 32 "" q0 U
theorem kc.call {q0 : Nat} {U : State} {g : JFrame} {mk : MethodId} {a : Array Value} (h : kc q0 U) : kc q0 (U.calling g mk a) := vk_R.same rfl h
theorem kc.pass {q0 : Nat} {s U : State} (h : kc q0 s) (hW : s.WarmedH U.vm) : kc q0 U := vk_R.warm hW h
theorem capn_le {k cp b : Nat} (h : 2 * cp + 2 ≤ b) (h2 : k ≤ b) (h3 : cp ≤ b) : capn k cp ≤ b := by unfold capn; split <;> omega
set_option maxHeartbeats 4000000 in
set_option maxRecDepth 100000 in
/-- SignropeModel.told of a row of codes -/
theorem kX3_told (l : Launch) (dC : Nat → ClassId) (dI : Nat → Nat → Nat) (sz : Nat) (r : Nat) (cI : ClassId) (n : Nat) (f : Nat → Int32) (tc : Nat → Nat) (q0 v0 : Nat) (b0 : Nat → Int32) (hn : n ≤ 30000) (hf : ∀ j, j < n → f j = nI (tc j) ∧ tc j < 256) (hb00 : sb_Fit b0) : Met l yX3_told wsX3_told ({ frames := 6, cells := 6 * n, slots := n * (140 + 4 * n), locals := 171 }) (va_Pc [.ref r] (fun U => U.heap.size = sz ∧ va_P (dC, dI) vwCl [(r, .inl (cI, n, .inl f))] U.heap ∧ va_K (dC, dI) vwCl [(cI, .int)] U ∧ va_D (fun _ => True) [(r, .inl (cI, n, .inl f))] ∧ jz (va_A [(r, .inl (cI, n, .inl f))] sz) U U.heap ∧ kc q0 U ∧ rs q0 v0 0 b0 (va_A [(r, .inl (cI, n, .inl f))] sz) U U.heap)) (va_Qr (fun (u : Nat × (Nat → Int32)) => match u with | (v2, g) => sb_Fit g ∧ ∀ j, j < n → g j = sb_b (tc j)) (fun (u : Nat × (Nat → Int32)) (ra : Nat) (t : State) => match u with | (v2, g) => (rs ra v2 n g (fun x => t.heap.size ≤ x) t t.heap ∧ mades sz n t.heap) ∧ va_P (dC, dI) vwCl [(r, .inl (cI, n, .inl f))] t.heap ∧ va_K (dC, dI) vwCl [(cI, .int)] t ∧ va_D (va_A [(r, .inl (cI, n, .inl f))] sz) [(r, .inl (cI, n, .inl f))]) (va_A [(r, .inl (cI, n, .inl f))] sz)) (6 * n) (n * (140 + 4 * n)) (va_A [(r, .inl (cI, n, .inl f))] sz) := by
  refine Met.ofW (cc := cX3_told) (maxL := 6) (ret := (some (.object "java/lang/String"))) (by decide) rfl ?_
  intro p e s m args below meth c s₁ B hml hv
  obtain ⟨rfl, hsz, hP, hK, hD0, hZ, hC, hQ⟩ := hv
  have hx := B.exec
  have hb := B.bytes
  have hr := B.returns
  have hts := atoms_spec (ws := wsX3_told) B.pre
  have hown : s.vm.findClass RX3 = some m.cls := findClass_of_methodNamed B.named
  have hlocks := B.notSynchronized
  subst hsz
  have hD := hD0.self (sz := s.heap.size)
  generalize hAe : va_A [(r, .inl (cI, n, .inl f))] s.heap.size = A at hD hZ hC hQ ⊢
  have hA : ∀ q : Nat, s.heap.size ≤ q → A q := fun q h => by rw [← hAe]; exact Or.inr h
  have hS : va_S A s.heap s.heap [] := va_S.rf
  have hP : va_P (dC, dI) vwCl [(r, .inl (cI, n, .inl f))] s.heap := hP
  have hl := lv_entry ([.ref r]) (n := 6) (Nat.le_of_ble_eq_true rfl)
  rw [lg_entry_eq]
  generalize (lg_sl ([.ref r]) ++ List.replicate (6 - (lg_sl ([.ref r])).length) Slot.unset).toArray = ls at hl ⊢
  have hl : lv_has ls 6 [(0, .ref r)] := hl
  refine va_ldcS hx hb hown hC dX3_told_0 ?_
  refine lv_astore_n (lv' := [(1, .ref q0), (0, .ref r)]) hx hb dX3_told_2 rfl hl (by decide) rfl (fun ls hl => ?_)
  refine lv_aload_n hx hb dX3_told_3 rfl (lv_at hl 1 rfl) ?_
  refine lv_astore_n (lv' := [(2, .ref r), (1, .ref q0), (0, .ref r)]) hx hb dX3_told_4 rfl hl (by decide) rfl (fun ls hl => ?_)
  refine lv_aload_n hx hb dX3_told_5 rfl (lv_at hl 0 rfl) ?_
  refine va_alen hx hb hK hP 0 0 rfl rfl (v := nI n) rfl dX3_told_6 ?_
  refine lv_istore_n (lv' := [(3, .int (nI n)), (2, .ref r), (1, .ref q0), (0, .ref r)]) hx hb dX3_told_7 rfl hl (by decide) rfl (fun ls hl => ?_)
  refine lv_iconst (v := 0) hx hb dX3_told_8 (by decide) ?_
  refine lv_istore (lv' := [(4, .int 0), (3, .int (nI n)), (2, .ref r), (1, .ref q0), (0, .ref r)]) hx hb dX3_told_9 hl (by decide) rfl (fun ls hl => ?_)
  have loop : ∀ (d i : Nat), i + d = n → ∀ (md vd : Nat) (g : Nat → Int32) (Hs : Heap) (locs : List Loc) (cl sl : Nat), cl + 6 * d ≤ 6 * n → sl + d * (140 + 4 * n) ≤ n * (140 + 4 * n) → (sb_Fit g ∧ ∀ j, j < i → g j = sb_b (tc j)) → rs md vd i g (fun x => Hs.size ≤ x) s Hs → mades s.heap.size i Hs → va_K (dC, dI) vwCl [(cI, .int)] s → va_P (dC, dI) vwCl [(r, .inl (cI, n, .inl f))] Hs → va_D A [(r, .inl (cI, n, .inl f))] → va_S A s.heap Hs locs → ∀ ls, lv_has ls 6 [(0, .ref r), (1, .ref md), (2, .ref r), (3, .int (nI n)), (4, .int (nI i))] → W p l e (headSpec wsX3_told ({ frames := 6, cells := 6 * n, slots := n * (140 + 4 * n), locals := 171 })).room s m [.ref r].toArray below meth c Hs locs cl sl (MQ below (va_Qr (fun (u : Nat × (Nat → Int32)) => match u with | (v2, g) => sb_Fit g ∧ ∀ j, j < n → g j = sb_b (tc j)) (fun (u : Nat × (Nat → Int32)) (ra : Nat) (t : State) => match u with | (v2, g) => (rs ra v2 n g (fun x => t.heap.size ≤ x) t t.heap ∧ mades s.heap.size n t.heap) ∧ va_P (dC, dI) vwCl [(r, .inl (cI, n, .inl f))] t.heap ∧ va_K (dC, dI) vwCl [(cI, .int)] t ∧ va_D A [(r, .inl (cI, n, .inl f))]) A) [.ref r].toArray s (6 * n) (n * (140 + 4 * n)) A) (F0 m 11 ls []) := by
    clear hP hD hK hS hl ls
    intro d
    induction d with
    | zero =>
      intro i hid md vd g Hs locs cl sl hcl hsl hg hM hmd hK hP hD hS ls hl
      obtain rfl : n = i := by omega
      refine lv_iload hx hb dX3_told_11 (lv_at hl 4 rfl) ?_
      refine lv_iload_n hx hb dX3_told_13 rfl (lv_at hl 3 rfl) ?_
      refine lv_icmp_ge (tgt := 50) hx hb dX3_told_14 (by decide) (fun c_102 => ?_) (fun c_102 => absurd (nI_le (Nat.le_refl _) (by omega)) c_102)
      refine lv_aload_n hx hb dX3_told_50 rfl (lv_at hl 1 rfl) ?_
      have hP9 := hP.sub (ws' := [(r, .inl (cI, n, .inl f))]) [0] rfl
      have hD9 := hD.sub (ws' := [(r, .inl (cI, n, .inl f))]) [0] (by decide) rfl
      have hK9 := hK.sub (tys' := [(cI, .int)]) [0] rfl
      refine W.widen (k := 6 * n) (n := n * (140 + 4 * n)) (by omega) (by omega) ?_
      exact W.aret (v := .ref md) hx hb hr (Or.inl ⟨_, rfl⟩) (Or.inr ⟨_, rfl⟩) (fun t ht hW => ⟨⟨(vd, g), md, rfl, hg, ⟨by rw [ht]; exact rs.moved hW.alike hM, by rw [ht]; exact hmd⟩, by rw [ht]; exact hP9, va_K.moved hW.alike hK9, hD9⟩, hS.F ht⟩) hS.2.2 dX3_told_51
    | succ d ih =>
      intro i hid md vd g Hs locs cl sl hcl hsl hg hM hmd hK hP hD hS ls hl
      have hS0 := hS
      have hlt : i < n := by omega
      rw [Nat.succ_mul] at hsl
      refine lv_iload hx hb dX3_told_11 (lv_at hl 4 rfl) ?_
      refine lv_iload_n hx hb dX3_told_13 rfl (lv_at hl 3 rfl) ?_
      refine lv_icmp_ge (tgt := 50) hx hb dX3_told_14 (by decide) (fun c_103 => absurd c_103 (nI_ge hlt (by omega))) (fun c_103 => ?_)
      refine lv_aload_n hx hb dX3_told_17 rfl (lv_at hl 2 rfl) ?_
      refine lv_iload hx hb dX3_told_18 (lv_at hl 4 rfl) ?_
      have hin_104 : vp_in (nI i) n := vp_in_nI hlt (by omega)
      refine va_iald hx hb hK hP 0 0 rfl rfl hin_104 dX3_told_20 ?_
      refine lv_topi (fun x_105 ex_105 => ?_)
      have htc := hf i hlt
      have ex : x_105 = nI (tc i) := by rw [ex_105, nI_clamp (by omega)]; exact htc.1
      rw [ex]
      refine lv_istore (lv' := [(5, .int (nI (tc i))), (0, .ref r), (1, .ref md), (2, .ref r), (3, .int (nI n)), (4, .int (nI i))]) hx hb dX3_told_21 hl (by decide) rfl (fun ls hl => ?_)
      refine va_new2 (ci := 1) (fs := [.null, .int 0, .int 0, .int 0]) (C := RJ4) (T := TJ4) (N := 4) hx hb hts (by decide +kernel) tyJ4 tyJ4_ok hown (hts (.classLink RX3 34 RJ4) (by decide +kernel)) (hts (.instantiable RJ4 4) (by decide +kernel)) (hts (.initialized RJ4) (by decide +kernel)) hK hP hD hS hA rfl (fun j hj => by rcases (show j = 0 ∨ j = 1 ∨ j = 2 ∨ j = 3 by omega) with rfl | rfl | rfl | rfl <;> rfl) (by show cl + 1 ≤ 6 * n; omega) (by show sl + 4 ≤ n * (140 + 4 * n); omega) dX3_told_23 (fun q_106 H hP hD hS heq hag hsz => ?_)
      have hP : va_P (dC, dI) vwCl [(r, .inl (cI, n, .inl f)), (q_106, .inr (1, [.null, .int 0, .int 0, .int 0]))] H := hP
      have hD : va_D A [(r, .inl (cI, n, .inl f)), (q_106, .inr (1, [.null, .int 0, .int 0, .int 0]))] := hD
      have hsz : Hs.size ≤ H.size := by omega
      have hgq : Hs.size ≤ q_106 := by omega
      refine lv_dup hx hb dX3_told_26 rfl ?_
      have hPc := hP.sub (ws' := [(q_106, .inr (1, [.null, .int 0, .int 0, .int 0]))]) [1] rfl
      have hDc := hD.sub (ws' := [(q_106, .inr (1, [.null, .int 0, .int 0, .int 0]))]) [1] (by decide) rfl
      have hKc := hK.sub (tys' := []) [] rfl
      have hFc := va_free (wc := [(q_106, .inr (1, [.null, .int 0, .int 0, .int 0]))]) hD hS hA [1] rfl
      refine va_callv (va_runI (As := []) (rest := [.ref q_106]) ⟨hx, hb, hml, hown, hts⟩ (kJ4_init_da8c8 l dC dI H.size q_106 0 0 0) (cwI 0 hts gX3_told_J4_init_da8c8 rfl rfl rfl (hts (.initialized RJ4) (by decide +kernel)) (hts (.methodLink RX3 36 yJ4_init_da8c8) (by decide +kernel)) (hts (.instanceMethod yJ4_init_da8c8) (by decide +kernel)) rfl (by decide +kernel) ⟨Nat.le_of_ble_eq_true rfl, Nat.le_of_ble_eq_true rfl⟩) ⟨fun a U g mk q => by obtain ⟨q0, q1, qP, qK, qD, qE0⟩ := q; exact ⟨q0, q1, qP, va_K.moved (u := U) (U := U.calling g mk a) (Vm.Alike.refl U.vm) qK, qD, jz.call qE0⟩, fun U hU hW => ⟨rfl, by rw [hU], by rw [hU]; exact hPc, va_K.moved hW.alike hKc, hDc.weaken (fun _ _ _ _ => trivial), jz.pass hZ hS hFc hW hU⟩⟩ rfl rfl hl.1 rfl (lv_room (Nat.le_of_ble_eq_true rfl)) dX3_told_27 ⟨(by show cl + 1 + 1 ≤ (6 * n); omega), (by show sl + 4 + 16 ≤ (n * (140 + 4 * n)); omega)⟩) hS (fun q _ h => hFc q h) hFc (fun u t H1 locs ht hvm hw_107 hB hz1 hk1 hS => ?_)
      obtain ⟨v1, c1⟩ := u
      try dsimp only at hB
      try dsimp only at hw_107
      obtain ⟨hfr, hP1, hK1, hD1⟩ := hB
      rw [ht] at hP1
      have hK1 := va_K.moved hvm.symm hK1
      obtain ⟨hP, hD⟩ := va_join (wr := [(r, .inl (cI, n, .inl f))]) (w1 := [(q_106, .inr (1, [.ref v1, .int 0, .int 0, .int (nI 0)])), (v1, .inl (c1, 16, .inl (fun _ => 0)))]) hP hD [1] [0] rfl rfl (by decide) (by decide) hk1 hFc hP1 hD1
      have hK := (hK.sub (tys' := [(cI, .int)]) [0] rfl).app hK1
      have hgv : Hs.size ≤ v1 := Nat.le_trans hsz hfr
      have hag := ag_call (lo := Hs.size) hsz hag hk1 (by intro a ha; simp at ha; omega)
      have hsz := Nat.le_trans hsz hz1
      generalize H1 = H at hP hS hag hsz ⊢
      have hP : va_P (dC, dI) vwCl [(r, .inl (cI, n, .inl f)), (q_106, .inr (1, [.ref v1, .int 0, .int 0, .int (nI 0)])), (v1, .inl (c1, 16, .inl (fun _ => 0)))] H := hP
      have hD : va_D A [(r, .inl (cI, n, .inl f)), (q_106, .inr (1, [.ref v1, .int 0, .int 0, .int (nI 0)])), (v1, .inl (c1, 16, .inl (fun _ => 0)))] := hD
      have hK : va_K (dC, dI) vwCl [(cI, .int), (c1, .byte)] s := hK
      refine lv_aload_n hx hb dX3_told_30 rfl (lv_at hl 2 rfl) ?_
      have hc1 : capn (0 + i) 16 ≤ 34 + i := capn_le (by omega) (by omega) (by omega)
      have hPc := hP.sub (ws' := [(q_106, .inr (1, [.ref v1, .int 0, .int 0, .int (nI 0)])), (v1, .inl (c1, 16, .inl (fun _ => 0)))]) [1, 2] rfl
      have hDc := hD.sub (ws' := [(q_106, .inr (1, [.ref v1, .int 0, .int 0, .int (nI 0)])), (v1, .inl (c1, 16, .inl (fun _ => 0)))]) [1, 2] (by decide) rfl
      have hKc := hK.sub (tys' := [(c1, .byte)]) [1] rfl
      have hFc := va_free (wc := [(q_106, .inr (1, [.ref v1, .int 0, .int 0, .int (nI 0)])), (v1, .inl (c1, 16, .inl (fun _ => 0)))]) hD hS hA [1, 2] rfl
      refine va_callr (va_runV (As := [.ref md]) (rest := []) ⟨hx, hb, hml, hown, hts⟩ (rJ4_append_15ec4 l dC dI H.size q_106 v1 0 md vd i g c1 0 16 (fun _ => 0) (by omega) (by omega) (by omega) hg.1 sb_fit0) (cwV 1 hts gX3_told_J4_append_15ec4 rfl rfl rfl (by decide +kernel) ⟨Nat.le_of_ble_eq_true rfl, Nat.le_of_ble_eq_true rfl⟩) ⟨fun a U g mk q => by obtain ⟨q0, q1, qP, qK, qD, qE0, qE1⟩ := q; exact ⟨q0, q1, qP, va_K.moved (u := U) (U := U.calling g mk a) (Vm.Alike.refl U.vm) qK, qD, jz.call qE0, rs.call qE1⟩, va_recv hKc hPc (ci := 1) (q0 := 0) rfl rfl, fun U hU hW => ⟨rfl, by rw [hU], by rw [hU]; exact hPc, va_K.moved hW.alike hKc, hDc.weaken (fun _ _ _ _ => trivial), jz.pass hZ hS hFc hW hU, rs.pass2 hM hag (fun x hx => ge_A hsz (by intro a ha; simp at ha; omega) hx) hW hU⟩⟩ rfl rfl hl.1 rfl (lv_room (Nat.le_of_ble_eq_true rfl)) dX3_told_31 ⟨(by show cl + 1 + 1 + 1 ≤ (6 * n); omega), (by show sl + 4 + 16 + (capn (0 + i) 16) ≤ (n * (140 + 4 * n)); omega)⟩) hS (fun q _ h => hFc q h) hFc (fun u r_109 t H1 locs ht hvm hq hB hz1 hk1 hS => ?_)
      obtain ⟨v3, c3, m3, g3⟩ := u
      try dsimp only at hB
      try dsimp only at hq
      obtain ⟨⟨hra, hv3⟩, hP1, hK1, hD1⟩ := hB
      rw [ht] at hP1
      have hK1 := va_K.moved hvm.symm hK1
      obtain ⟨hP, hD⟩ := va_join (wr := [(r, .inl (cI, n, .inl f))]) (w1 := [(q_106, .inr (1, [.ref v3, .int 0, .int 0, .int (nI (0 + i))])), (v3, .inl (c3, m3, .inl g3))]) hP hD [1, 2] [0] rfl rfl (by decide) (by decide) hk1 hFc hP1 hD1
      have hK := (hK.sub (tys' := [(cI, .int)]) [0] rfl).app hK1
      have hgv3 : Hs.size ≤ v3 := by rcases hv3 with e | e <;> omega
      have hag := ag_call (lo := Hs.size) hsz hag hk1 (by intro a ha; simp at ha; omega)
      have hsz := Nat.le_trans hsz hz1
      generalize H1 = H at hP hS hag hsz ⊢
      have hP : va_P (dC, dI) vwCl [(r, .inl (cI, n, .inl f)), (q_106, .inr (1, [.ref v3, .int 0, .int 0, .int (nI (0 + i))])), (v3, .inl (c3, m3, .inl g3))] H := hP
      have hD : va_D A [(r, .inl (cI, n, .inl f)), (q_106, .inr (1, [.ref v3, .int 0, .int 0, .int (nI (0 + i))])), (v3, .inl (c3, m3, .inl g3))] := hD
      have hK : va_K (dC, dI) vwCl [(cI, .int), (c3, .byte)] s := hK
      have hra2 := hra.symm
      subst hra2
      obtain ⟨⟨hf3, -, hk3⟩, hq1, hq2, hcap⟩ := hq
      have hm3 : m3 ≤ 34 + i := by rcases hcap with ⟨e, -⟩ | ⟨e, -⟩ <;> omega
      have hc2 : capn (0 + i + 1) m3 ≤ 70 + 2 * i := capn_le (by omega) (by omega) (by omega)
      refine lv_iload hx hb dX3_told_34 (lv_at hl 0 rfl) ?_
      obtain ⟨x_110, ex_110⟩ : ∃ z : Int32, ((nI (tc i)).toUInt32 % 65536).toInt32 = z := ⟨_, rfl⟩
      refine lv_i2c (v := x_110) hx hb dX3_told_36 ex_110 ?_
      have ex : x_110 = nI (tc i) := by rw [← ex_110]; exact (sb_byte _ htc.2).2.1
      rw [ex]
      have hPc := hP.sub (ws' := [(q_106, .inr (1, [.ref v3, .int 0, .int 0, .int (nI (0 + i))])), (v3, .inl (c3, m3, .inl g3))]) [1, 2] rfl
      have hDc := hD.sub (ws' := [(q_106, .inr (1, [.ref v3, .int 0, .int 0, .int (nI (0 + i))])), (v3, .inl (c3, m3, .inl g3))]) [1, 2] (by decide) rfl
      have hKc := hK.sub (tys' := [(c3, .byte)]) [1] rfl
      have hFc := va_free (wc := [(q_106, .inr (1, [.ref v3, .int 0, .int 0, .int (nI (0 + i))])), (v3, .inl (c3, m3, .inl g3))]) hD hS hA [1, 2] rfl
      refine va_callr (va_runV (As := [.int (nI (tc i))]) (rest := []) ⟨hx, hb, hml, hown, hts⟩ (kJ4_append_cf468 l dC dI H.size q_106 v3 0 c3 (0 + i) m3 (tc i) g3 (by omega) (by omega) (by omega) htc.2 hf3) (cwV 1 hts gX3_told_J4_append_cf468 rfl rfl rfl (by decide +kernel) ⟨Nat.le_of_ble_eq_true rfl, Nat.le_of_ble_eq_true rfl⟩) ⟨fun a U g mk q => by obtain ⟨q0, q1, qP, qK, qD, qE0⟩ := q; exact ⟨q0, q1, qP, va_K.moved (u := U) (U := U.calling g mk a) (Vm.Alike.refl U.vm) qK, qD, jz.call qE0⟩, va_recv hKc hPc (ci := 1) (q0 := 0) rfl rfl, fun U hU hW => ⟨rfl, by rw [hU], by rw [hU]; exact hPc, va_K.moved hW.alike hKc, hDc.weaken (fun _ _ _ _ => trivial), jz.pass hZ hS hFc hW hU⟩⟩ rfl rfl hl.1 rfl (lv_room (Nat.le_of_ble_eq_true rfl)) dX3_told_37 ⟨(by show cl + 1 + 1 + 1 + 1 ≤ (6 * n); omega), (by show sl + 4 + 16 + (capn (0 + i) 16) + (capn (0 + i + 1) m3) ≤ (n * (140 + 4 * n)); omega)⟩) hS (fun q _ h => hFc q h) hFc (fun u r_111 t H1 locs ht hvm hq hB hz1 hk1 hS => ?_)
      obtain ⟨v4, c4, m4, g4⟩ := u
      try dsimp only at hB
      try dsimp only at hq
      obtain ⟨⟨hra, hv4⟩, hP1, hK1, hD1⟩ := hB
      rw [ht] at hP1
      have hK1 := va_K.moved hvm.symm hK1
      obtain ⟨hP, hD⟩ := va_join (wr := [(r, .inl (cI, n, .inl f))]) (w1 := [(q_106, .inr (1, [.ref v4, .int 0, .int 0, .int (nI (0 + i + 1))])), (v4, .inl (c4, m4, .inl g4))]) hP hD [1, 2] [0] rfl rfl (by decide) (by decide) hk1 hFc hP1 hD1
      have hK := (hK.sub (tys' := [(cI, .int)]) [0] rfl).app hK1
      have hgv4 : Hs.size ≤ v4 := by rcases hv4 with e | e <;> omega
      have hag := ag_call (lo := Hs.size) hsz hag hk1 (by intro a ha; simp at ha; omega)
      have hsz := Nat.le_trans hsz hz1
      generalize H1 = H at hP hS hag hsz ⊢
      have hP : va_P (dC, dI) vwCl [(r, .inl (cI, n, .inl f)), (q_106, .inr (1, [.ref v4, .int 0, .int 0, .int (nI (0 + i + 1))])), (v4, .inl (c4, m4, .inl g4))] H := hP
      have hD : va_D A [(r, .inl (cI, n, .inl f)), (q_106, .inr (1, [.ref v4, .int 0, .int 0, .int (nI (0 + i + 1))])), (v4, .inl (c4, m4, .inl g4))] := hD
      have hK : va_K (dC, dI) vwCl [(cI, .int), (c4, .byte)] s := hK
      have hra2 := hra.symm
      subst hra2
      obtain ⟨⟨hf4, hk4, hk5⟩, hq3, hq4, hcap⟩ := hq
      have hm4 : m4 ≤ 70 + 2 * i := by rcases hcap with ⟨e, -⟩ | ⟨e, -⟩ <;> omega
      have hPc := hP.sub (ws' := [(q_106, .inr (1, [.ref v4, .int 0, .int 0, .int (nI (0 + i + 1))])), (v4, .inl (c4, m4, .inl g4))]) [1, 2] rfl
      have hDc := hD.sub (ws' := [(q_106, .inr (1, [.ref v4, .int 0, .int 0, .int (nI (0 + i + 1))])), (v4, .inl (c4, m4, .inl g4))]) [1, 2] (by decide) rfl
      have hKc := hK.sub (tys' := [(c4, .byte)]) [1] rfl
      have hFc := va_free (wc := [(q_106, .inr (1, [.ref v4, .int 0, .int 0, .int (nI (0 + i + 1))])), (v4, .inl (c4, m4, .inl g4))]) hD hS hA [1, 2] rfl
      refine va_callr (va_runV (As := []) (rest := []) ⟨hx, hb, hml, hown, hts⟩ (kJ4_toString_0e30d l dC dI H.size q_106 v4 0 c4 (0 + i + 1) m4 g4 (by omega) (by omega) hf4) (cwV 0 hts gX3_told_J4_toString_0e30d rfl rfl rfl (by decide +kernel) ⟨Nat.le_of_ble_eq_true rfl, Nat.le_of_ble_eq_true rfl⟩) ⟨fun a U g mk q => by obtain ⟨q0, q1, qP, qK, qD, qE0⟩ := q; exact ⟨q0, q1, qP, va_K.moved (u := U) (U := U.calling g mk a) (Vm.Alike.refl U.vm) qK, qD, jz.call qE0⟩, va_recv hKc hPc (ci := 1) (q0 := 0) rfl rfl, fun U hU hW => ⟨rfl, by rw [hU], by rw [hU]; exact hPc, va_K.moved hW.alike hKc, hDc.weaken (fun _ _ _ _ => trivial), jz.pass hZ hS hFc hW hU⟩⟩ rfl rfl hl.1 rfl (lv_room (Nat.le_of_ble_eq_true rfl)) dX3_told_40 ⟨(by show cl + 1 + 1 + 1 + 1 + 2 ≤ (6 * n); omega), (by show sl + 4 + 16 + (capn (0 + i) 16) + (capn (0 + i + 1) m3) + (4 + (0 + i + 1)) ≤ (n * (140 + 4 * n)); omega)⟩) hS (fun q _ h => hFc q h) hFc (fun u r_112 t H1 locs ht hvm hq hB hz1 hk1 hS => ?_)
      obtain ⟨v5, c5, g5⟩ := u
      try dsimp only at hB
      try dsimp only at hq
      obtain ⟨hfr, hP1, hK1, hD1⟩ := hB
      rw [ht] at hP1
      have hK1 := va_K.moved hvm.symm hK1
      obtain ⟨hP, hD⟩ := va_join (wr := [(r, .inl (cI, n, .inl f))]) (w1 := [(r_112, .inr (0, [.ref v5, .int 0, .int 0, .int 0])), (v5, .inl (c5, 0 + i + 1, .inl g5)), (q_106, .inr (1, [.ref v4, .int 0, .int 0, .int (nI (0 + i + 1))])), (v4, .inl (c4, m4, .inl g4))]) hP hD [1, 2] [0] rfl rfl (by decide) (by decide) hk1 hFc hP1 hD1
      have hK := (hK.sub (tys' := [(cI, .int)]) [0] rfl).app hK1
      have hgv5 : Hs.size ≤ v5 := Nat.le_trans hsz hfr.2
      have hag := ag_call (lo := Hs.size) hsz hag hk1 (by intro a ha; simp at ha; omega)
      have hsz := Nat.le_trans hsz hz1
      generalize H1 = H at hP hS hag hsz ⊢
      have hP : va_P (dC, dI) vwCl [(r, .inl (cI, n, .inl f)), (r_112, .inr (0, [.ref v5, .int 0, .int 0, .int 0])), (v5, .inl (c5, 0 + i + 1, .inl g5)), (q_106, .inr (1, [.ref v4, .int 0, .int 0, .int (nI (0 + i + 1))])), (v4, .inl (c4, m4, .inl g4))] H := hP
      have hD : va_D A [(r, .inl (cI, n, .inl f)), (r_112, .inr (0, [.ref v5, .int 0, .int 0, .int 0])), (v5, .inl (c5, 0 + i + 1, .inl g5)), (q_106, .inr (1, [.ref v4, .int 0, .int 0, .int (nI (0 + i + 1))])), (v4, .inl (c4, m4, .inl g4))] := hD
      have hK : va_K (dC, dI) vwCl [(cI, .int), (c5, .byte), (c4, .byte)] s := hK
      obtain ⟨hf5, hk6⟩ := hq
      rw [show 0 + i + 1 = i + 1 by omega] at hP hD
      refine lv_astore_n (lv' := [(1, .ref r_112), (5, .int (nI (tc i))), (0, .ref r), (2, .ref r), (3, .int (nI n)), (4, .int (nI i))]) hx hb dX3_told_43 rfl hl (by decide) rfl (fun ls hl => ?_)
      obtain ⟨x_113, ex_113⟩ : ∃ y : Int32, y = (nI i) + (1) := ⟨_, rfl⟩
      refine lv_iinc (v := x_113) (lv' := [(4, .int x_113), (1, .ref r_112), (5, .int (nI (tc i))), (0, .ref r), (2, .ref r), (3, .int (nI n))]) hx hb dX3_told_44 hl (k := 5) rfl (by rw [ex_113]; rfl) (by decide) rfl (fun ls hl => ?_)
      refine lv_goto (tgt := 11) hx hb dX3_told_47 (by decide) ?_
      have ex : x_113 = nI (i + 1) := by rw [ex_113]; exact nI_1 i
      rw [ex] at hl
      have hlr : r_112 < H.size := (hP 1 _ rfl).lt
      have hlv : v5 < H.size := (hP 2 _ rfl).lt
      have hM2 : rs r_112 v5 (i + 1) g5 (fun x => H.size ≤ x) s H := rs.ofH hts (by decide +kernel) hK hP 1 2 1 rfl rfl rfl (Nat.not_le.mpr hlr) (Nat.not_le.mpr hlv)
      obtain ⟨cell, hcell, hcz⟩ := row_in hP 2 rfl
      have hmd2 := mades_step hmd hS0.1 hcell hcz hag hgv5
      have hg2 : sb_Fit g5 ∧ ∀ j, j < i + 1 → g5 j = sb_b (tc j) := by
        refine ⟨hf5, fun j hj => ?_⟩
        rw [hk6 j (by omega)]
        by_cases e : j = i
        · rw [e, show i = 0 + i by omega, hk5, show 0 + i = i by omega]
        · rw [hk4 j (by omega), show j = 0 + j by omega, hk3 j (by omega), show 0 + j = j by omega]; exact hg.2 j (by omega)
      exact ih (i + 1) (by omega) r_112 v5 g5 H locs _ _ (by omega) (by omega) hg2 hM2 hmd2 (hK.sub [0] rfl) (hP.sub [0] rfl) (hD.sub [0] (by decide) rfl) hS ls (lv_sub hl [3, 1, 4, 5, 0] rfl)
  have hM0 : rs q0 v0 0 b0 (fun x => s.heap.size ≤ x) s s.heap := hQ.narrow (fun x hx => hA x hx)
  exact loop n 0 (by omega) q0 v0 b0 s.heap [] 0 0 (by omega) (by omega) ⟨hb00, fun j hj => absurd hj (Nat.not_lt_zero j)⟩ hM0 (mades_0 _ _) hK hP hD hS ls (lv_sub hl [4, 3, 2, 1, 0] rfl)
