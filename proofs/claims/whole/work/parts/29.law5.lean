/-! The law's run from its entry, at the script of one setLength(0, 240) and 511 text(0), in a machine with room: it comes to its end, and what it leaves in the heap is counted. -/
def RLw : String := "SignropeLaw"
def lx_At (p : Program) (s : State) (m : MethodId) (meth : Method) (c : Code) (b : Nat) (xs : Nat → Int32) : Prop :=
  p.tables.exec = Jvm.exec ∧ c.code = cL_law ∧ meth.sig.returnType = ret ∧ c.maxLocals = 7 ∧ s.vm.findClass RL = some m.cls ∧ (∀ w ∈ lw_tbl, w.before #[Value.ref b] s = true) ∧ va_X b 3072 xs s s.heap ∧ b < s.heap.size ∧ meth.locks = false ∧ (Jvm.Cond.and given_1 narrow_1).before #[Value.ref b] s = true
def lx_xs (xs : Nat → Int32) : Prop := (xs 0 = 30 ∧ xs 1 = 0 ∧ xs 2 = 240) ∧ ∀ i, 1 ≤ i → i < 512 → xs (6 * i) = 31 ∧ xs (6 * i + 1) = 0
def lx_G (s : State) (H : Heap) : Prop := ∃ lo, s.heap.size ≤ lo ∧ fam lo 511 H ∧ lo ≤ H.size
set_option maxHeartbeats 4000000 in
set_option maxRecDepth 100000 in
theorem lx_known {s : State} {b : Nat} (hts : ∀ w ∈ wsL_law, w.before #[Value.ref b] s = true) : ∃ (dC : Nat → ClassId) (dI : Nat → Nat → Nat), va_K (dC, dI) vwCl [] s := by
  obtain ⟨c0, i0, h0⟩ := u_known (C := RJ0) (T := TJ0) (N := 4) (n := 4) hts (by decide +kernel) (hts (.instantiable RJ0 4) (by decide +kernel))
  obtain ⟨c1, i1, h1⟩ := u_known (C := RJ4) (T := TJ4) (N := 4) (n := 4) hts (by decide +kernel) (hts (.instantiable RJ4 4) (by decide +kernel))
  obtain ⟨c2, i2, h2⟩ := u_known (C := RJ6) (T := TJ6) (N := 1) (n := 1) hts (by decide +kernel) (hts (.instantiable RJ6 1) (by decide +kernel))
  obtain ⟨c3, i3, h3⟩ := u_known (C := RJx4a65c) (T := TJx4a65c) (N := 3) (n := 3) hts (by decide +kernel) (hts (.instantiable RJx4a65c 3) (by decide +kernel))
  obtain ⟨c4, i4, h4⟩ := u_known (C := RX0) (T := TX0) (N := 2) (n := 2) hts (by decide +kernel) (hts (.instantiable RX0 2) (by decide +kernel))
  obtain ⟨c5, i5, h5⟩ := u_known (C := RX1) (T := TX1) (N := 8) (n := 8) hts (by decide +kernel) (hts (.instantiable RX1 8) (by decide +kernel))
  obtain ⟨c6, i6, h6⟩ := u_known (C := RX2) (T := TX2) (N := 2) (n := 2) hts (by decide +kernel) (hts (.instantiable RX2 2) (by decide +kernel))
  obtain ⟨c7, i7, h7⟩ := u_known (C := RX3) (T := TX3) (N := 5) (n := 5) hts (by decide +kernel) (hts (.instantiable RX3 5) (by decide +kernel))
  refine ⟨fun k => [c0, c1, c2, c3, c4, c5, c6, c7].getD k 0, fun k => [i0, i1, i2, i3, i4, i5, i6, i7].getD k (fun _ => 0), ?_, fun k q h => by simp at h⟩
  intro k q hq
  match k, hq with
  | 0, hq => cases hq; exact h0
  | 1, hq => cases hq; exact h1
  | 2, hq => cases hq; exact h2
  | 3, hq => cases hq; exact h3
  | 4, hq => cases hq; exact h4
  | 5, hq => cases hq; exact h5
  | 6, hq => cases hq; exact h6
  | 7, hq => cases hq; exact h7
  | k + 8, hq => simp [vwCl] at hq
set_option maxHeartbeats 4000000 in
set_option maxRecDepth 100000 in
theorem lx_env {s : State} {b : Nat} (htbl : ∀ w ∈ lw_tbl, w.before #[Value.ref b] s = true) (hgv : (Jvm.Cond.and given_1 narrow_1).before #[Value.ref b] s = true) {A : Nat → Prop} (hA : ∀ a : Nat, a < s.heap.size → ¬ A a) :
    jz A s s.heap ∧ (∃ (q0 v0 : Nat) (b00 : Nat → Int32), sb_Fit b00 ∧ kc q0 s ∧ rs q0 v0 0 b00 A s s.heap) ∧ jn 13 "n" "J" s ∧ jn 125 "s" "Ljava/lang/String;" s ∧ ja s ∧ jo s ∧ jm s ∧ va_Nw (.methodLinkNest RL 172 yX2_init RL) s := by
  have hf := flat_of_before _ hgv
  refine ⟨⟨va_Zof (htbl (.laysStatic "java/lang/String" "COMPACT_STRINGS" "Z") (by decide +kernel)) (htbl (.initialized "java/lang/String") (by decide +kernel)) (va_eqi (hf (.eq (.static "java/lang/String" "COMPACT_STRINGS" "Z") (.int 1)) (by decide +kernel))) hA, va_Nw.of rfl (htbl (.castable "[B" "java/lang/Cloneable") (by decide +kernel))⟩, ?_, va_Nw.of rfl (htbl (.fieldLinkNest RL 13 "SignropeLaw$Out" "n" "J" RL) (by decide +kernel)), va_Nw.of rfl (htbl (.fieldLinkNest RL 125 "SignropeLaw$Out" "s" "Ljava/lang/String;" RL) (by decide +kernel)), ?_, va_AO.of (htbl (.arrayOver (.object "Signrope$Text")) (by decide +kernel)), va_AOA.of (htbl (.arrayOver (.array .int)) (by decide +kernel)), va_Nw.of rfl (htbl (.methodLinkNest RL 172 yX2_init RL) (by decide +kernel))⟩
  · obtain ⟨adK, adV, hS, hE⟩ := vk_Sof (args := #[Value.ref b]) (s := s) (N := 1) (tm := fun _ => .string "SignropeModel" 32) (len := [0]) (byt := [[]]) (A := A) (fun i hi => by rw [show i = 0 by omega]; decide) (fun i hi => hf _ (by decide +kernel)) (fun i hi => hf _ (by decide +kernel)) (fun i hi => hf _ (by decide +kernel)) (fun i hi => by rw [show i = 0 by omega]; exact hf (.eq (.length (.field (.string "SignropeModel" 32) "java/lang/String" "value" "[B")) (.int 0)) (by decide +kernel)) (fun i hi j hj => by rw [show i = 0 by omega] at hj; exact absurd hj (Nat.not_lt_zero j)) (fun i j hi hj h => absurd (by omega) h) hA
    refine ⟨adK 0, adV 0, fun j => ([] : List Int32).getD j 0, fun j => by simp; decide, vk_R.of (htbl (.stringRef RX3 32 "") (by decide +kernel)) (hE 0 (by omega)), ?_⟩
    exact hS.1 0 (by omega)
  · obtain ⟨comp, c, k, h1, h2, h3, h4⟩ := Cond.arrayOver_specA (htbl (.arrayOver (.array .int)) (by decide +kernel))
    exact ⟨comp, c, k, h1, h2, h3, h4⟩
set_option maxHeartbeats 4000000 in
set_option maxRecDepth 100000 in
theorem lx_start {p : Program} {e : Env} {s : State} {m : MethodId} {below : List Frame} {meth : Method} {c : Code} (l : Launch) {b : Nat} {xs : Nat → Int32} (hxs : lx_xs xs) (C0 : lx_At p s m meth c b xs) : W p l e roomB s m #[Value.ref b] below meth c s.heap [] 0 0 (fun t => ∃ o, t.status = .running ∧ Ended t below o ∧ lx_G s t.heap) (entryFrame m ([Value.ref b] : List Value).toArray 7) := by
  obtain ⟨hx, hb, hr, hml, hown, htbl, hX, hbl, hlocks, hgv⟩ := id C0
  have hts : ∀ w ∈ wsL_law, w.before #[Value.ref b] s = true := fun w h => htbl w (wsL_law_in w h)
  have hA : ∀ q : Nat, s.heap.size ≤ q → (fun q : Nat => s.heap.size ≤ q) q := fun _ h => h
  have hbA : ¬ (fun q : Nat => s.heap.size ≤ q) b := Nat.not_le.mpr hbl
  obtain ⟨dC, dI, hK⟩ := lx_known hts
  obtain ⟨hZ, ⟨q0, v0, b00, hb00, hC, hQ⟩, hJn, hJs, hJa, hJo, hJm, hJi⟩ := lx_env (A := fun q : Nat => s.heap.size ≤ q) htbl hgv (fun a h => Nat.not_le.mpr h)
  have hS : va_S (fun q : Nat => s.heap.size ≤ q) s.heap s.heap [] := va_S.rf
  have hP : va_P (dC, dI) vwCl [] s.heap := fun k q h => by simp at h
  have hD : va_D (fun q : Nat => s.heap.size ≤ q) [] := ⟨fun i j p q h => by simp at h, fun k q h => by simp at h⟩
  have hl := lv_entry ([.ref b]) (n := 7) (Nat.le_of_ble_eq_true rfl)
  rw [lg_entry_eq]
  generalize (lg_sl ([.ref b]) ++ List.replicate (7 - (lg_sl ([.ref b])).length) Slot.unset).toArray = ls at hl ⊢
  have hl : lv_has ls 7 [(0, .ref b)] := hl
  refine law_start dC dI hx hb hml hown hts hA hbA hX hbl hZ q0 v0 b00 hb00 hC hQ hJn hJs hJa (by omega) (by omega) hJo hJm hJi hK hP hD hS hl (fun H locs ls hX9 rp u1 u2 u3 u4 kn rf ac cR fR t0 b0 cC hO x qv hM tx km rm sp cT cI fT r hR hT hK hP hD hS hl => ?_)
  refine law_setLength dC dI hx hb hml hown hts hA hbA hX hbl hZ q0 v0 b00 hb00 hC hQ hJn hJs hJa hX9 rp u1 u2 u3 u4 kn rf ac cR fR t0 b0 cC hO x qv hM tx km rm sp cT cI fT r hR hT hxs.1.1 hxs.1.2.1 hxs.1.2.2 (by omega) (by omega) hK hP hD hS hl (fun H locs ls ac sp x fc fm cI fT r hT hfc hfm hK hP hD hS hl => ?_)
  have a0 := (hP 0 _ rfl).lt
  have a1 := (hP 1 _ rfl).lt
  have a2 := (hP 2 _ rfl).lt
  have a3 := (hP 3 _ rfl).lt
  have a4 := (hP 4 _ rfl).lt
  have a5 := (hP 5 _ rfl).lt
  have a6 := (hP 6 _ rfl).lt
  have a7 := (hP 7 _ rfl).lt
  have hlo : s.heap.size ≤ H.size := hS.1
  refine law_loop dC dI hx hb hml hown hts hA hbA hX hbl hZ q0 v0 b00 hb00 hC hQ hJn hJs hJa hX9 rp u1 u2 u3 u4 kn rf ac cR fR t0 b0 cC hO x hM tx km rm sp cT cI fT r hR hT fc fm hfc hfm H.size ⟨a0, a1, a2, a3, a4, a5, a6, a7⟩ hK hxs.2 (fun H1 locs ls cells slots hS hF hlo1 hl _ _ => ?_) 511 1 rfl (Nat.le_refl _) _ _ qv H locs ls (by omega) (by omega) (fam_0 _ _) (Nat.le_refl _) hP hD hS hl
  exact law_end (Q := fun _ => True) dC dI hx hb hml hown hts hA hbA hX hbl hZ q0 v0 b00 hb00 hC hQ hJn hJs hJa hX9 hM hO 0 (hK.sub [] rfl) (fun k q h => by simp at h) ⟨fun i j p q h => by simp at h, fun k q h => by simp at h⟩ hS hl hr hlocks (G := lx_G s) ⟨H.size, hlo, hF, hlo1⟩
