set_option maxHeartbeats 4000000 in
theorem law_loop {p : Program} {l : Launch} {e : Env} {s : State} {m : MethodId} {below : List Frame} {meth : Method} {c : Code} {Q : State → Prop} (dC : Nat → ClassId) (dI : Nat → Nat → Nat) {b : Nat} {xs : Nat → Int32} (hx : p.tables.exec = Jvm.exec) (hb : c.code = cL_law) (hml : c.maxLocals = 7) (hown : s.vm.findClass RL = some m.cls) (hts : ∀ w ∈ wsL_law, w.before #[Value.ref b] s = true) {A : Nat → Prop} (hA : ∀ q, s.heap.size ≤ q → A q) (hbA : ¬ A b) (hScr : va_X b 3072 xs s s.heap) (hbl : b < s.heap.size) (hZ : jz A s s.heap) (q0 v0 : Nat) (b00 : Nat → Int32) (hb00 : sb_Fit b00) (hC : kc q0 s) (hQ : rs q0 v0 0 b00 A s s.heap) (hJn : jn 13 "n" "J" s) (hJs : jn 125 "s" "Ljava/lang/String;" s) (hJa : ja s) (hX rp u1 u2 u3 u4 : Nat) (kn rf ac : Int32) (cR : ClassId) (fR : Nat → Option Nat) (t0 b0 : Nat) (cC : ClassId) (hO : Nat) (x : Int64) (hM tx : Nat) (km rm sp : Int32) (cT cI : ClassId) (fT : Nat → Option Nat) (r : Nat) (hR : fR 0 = some t0) (hT : fT 0 = some r) (fc fm : Nat → Int32) (hfc : ∀ j, j < 240 → fc j = 0) (hfm : ∀ j, j < 240 → fm j = 0) (lo : Nat) (hlt : hX < lo ∧ rp < lo ∧ t0 < lo ∧ b0 < lo ∧ hO < lo ∧ hM < lo ∧ tx < lo ∧ r < lo) (hK : va_K (dC, dI) vwCl [(cR, .object "Signrope$Text"), (cC, .char), (cT, .array .int), (cI, .int)] s) (hxs : ∀ i, 1 ≤ i → i < 512 → xs (6 * i) = 31 ∧ xs (6 * i + 1) = 0) (kk : ∀ (H : Heap) (locs : List Loc) (ls : Array Slot) (cells slots : Nat), va_S A s.heap H locs → fam lo 511 H → lo ≤ H.size → lv_has ls 7 [(4, .int (nI (6 * 512))), (3, .ref hO), (2, .ref hM), (1, .ref hX), (0, .ref b)] → cells ≤ 804415 → slots ≤ 140000000 → W p l e roomB s m #[Value.ref b] below meth c H locs cells slots Q (F0 m 27 ls [])) : ∀ (d i : Nat), i + d = 512 → 1 ≤ i → ∀ (cells slots : Nat) (qv : Value) (H : Heap) (locs : List Loc) (ls : Array Slot), cells + d * 1443 ≤ 804415 → slots + d * 264484 ≤ 140000000 → fam lo (i - 1) H → lo ≤ H.size → va_P (dC, dI) vwCl [(hX, .inr (5, [.ref rp, .ref u1, .ref u2, .ref u3, .ref u4, .int kn, .int rf, .int ac])), (rp, .inl (cR, 4, .inr (.inr (.inr (.inr fR))))), (t0, .inr (4, [.ref b0, .int (nI 240)])), (b0, .inl (cC, 480, .inl fc)), (hO, .inr (6, [.long x, qv])), (hM, .inr (7, [.int 0, .ref tx, .int km, .int rm, .int sp])), (tx, .inl (cT, 4, .inr (.inr (.inr (.inr fT))))), (r, .inl (cI, 240, .inl fm))] H → va_D A [(hX, .inr (5, [.ref rp, .ref u1, .ref u2, .ref u3, .ref u4, .int kn, .int rf, .int ac])), (rp, .inl (cR, 4, .inr (.inr (.inr (.inr fR))))), (t0, .inr (4, [.ref b0, .int (nI 240)])), (b0, .inl (cC, 480, .inl fc)), (hO, .inr (6, [.long x, qv])), (hM, .inr (7, [.int 0, .ref tx, .int km, .int rm, .int sp])), (tx, .inl (cT, 4, .inr (.inr (.inr (.inr fT))))), (r, .inl (cI, 240, .inl fm))] → va_S A s.heap H locs → lv_has ls 7 [(4, .int (nI (6 * i))), (3, .ref hO), (2, .ref hM), (1, .ref hX), (0, .ref b)] → W p l e roomB s m #[Value.ref b] below meth c H locs cells slots Q (F0 m 27 ls []) := by -- intro p e s m args
  intro d
  induction d with
  | zero =>
    intro i hi h1 cells slots qv H locs ls hc hs hF hlo hP hD hS hl
    obtain rfl : i = 512 := by omega
    exact kk H locs ls cells slots hS hF hlo hl (by omega) (by omega)
  | succ d ih =>
    intro i hi h1 cells slots qv H locs ls hc hs hF hlo hP hD hS hl
    refine law_text dC dI hx hb hml hown hts hA hbA hScr hbl hZ q0 v0 b00 hb00 hC hQ hJn hJs hJa hX rp u1 u2 u3 u4 kn rf ac cR fR t0 b0 cC hO x qv hM tx km rm sp cT cI fT r hR hT i (by omega) fc fm hfc hfm (hxs i h1 (by omega)).1 (hxs i h1 (by omega)).2 lo (i - 1) hlt (by omega) (by omega) hF hlo hK hP hD hS hl (fun H locs ls qv hP hD hS hF hlo hl => ?_)
    exact ih (i + 1) (by omega) (by omega) (cells + 1443) (slots + 264484) qv H locs ls (by omega) (by omega) (by rw [show i + 1 - 1 = i - 1 + 1 by omega]; exact hF) hlo hP hD hS hl
/-- the law's end, with 1 on the stack: what holds of the heap -/
theorem law_ret {p : Program} {l : Launch} {e : Env} {R : Room} {s : State} {m : MethodId} {below : List Frame} {meth : Method} {c : Code} {b : Nat} (hx : p.tables.exec = Jvm.exec) (hb : c.code = cL_law) (hr : meth.sig.returnType = ret) (hlocks : meth.locks = false) {pc : Nat} {H : Heap} {locs : List Loc} {cells slots : Nat} {ls : Array Slot} (hdg : decode cL_law pc = .ok (.ireturn, 1)) {G : Heap → Prop} (hG : G H) : W p l e R s m #[Value.ref b] below meth c H locs cells slots (fun t => ∃ o, t.status = .running ∧ Ended t below o ∧ G t.heap) (F0 m pc ls [.int 1]) := by -- intro p e s m args
  intro T hT X
  obtain ⟨fs, hret, hrun, hended, hW, hframe⟩ := X.leave (v := some (.int 1)) (hlocks := hlocks) (fun h => by rw [hr] at h; cases h)
  have hmeth' : T.vm.method? m = some meth := X.method' -- intro p e s m args
  refine ⟨T.setFrames fs, ?_, .returned (some (.int 1)), hrun, hended, ?_⟩
  · jvm_step X.here [X.here.top, hx, hb, hdg, hmeth', hr, ret, narrow_b1]
    (try refine ⟨rfl, ?_⟩); (try refine ⟨rfl, ?_⟩)
    first | (intro acts; rw [hret _ acts rfl rfl rfl]) | rw [hret _ _ rfl rfl rfl]
    exact Steps.refl _
  · show G T.heap
    rw [hT]
    exact hG
set_option maxHeartbeats 4000000 in
set_option maxRecDepth 100000 in
theorem law_end {p : Program} {l : Launch} {e : Env} {s : State} {m : MethodId} {below : List Frame} {meth : Method} {c : Code} {Q : State → Prop} (dC : Nat → ClassId) (dI : Nat → Nat → Nat) {b : Nat} {xs : Nat → Int32} (hx : p.tables.exec = Jvm.exec) (hb : c.code = cL_law) (hml : c.maxLocals = 7) (hown : s.vm.findClass RL = some m.cls) (hts : ∀ w ∈ wsL_law, w.before #[Value.ref b] s = true) {A : Nat → Prop} (hA : ∀ q, s.heap.size ≤ q → A q) (hbA : ¬ A b) (hScr : va_X b 3072 xs s s.heap) (hbl : b < s.heap.size) (hZ : jz A s s.heap) (q0 v0 : Nat) (b00 : Nat → Int32) (hb00 : sb_Fit b00) (hC : kc q0 s) (hQ : rs q0 v0 0 b00 A s s.heap) (hJn : jn 13 "n" "J" s) (hJs : jn 125 "s" "Ljava/lang/String;" s) (hJa : ja s) (hX hM hO : Nat) (lo : Nat) {H : Heap} {locs : List Loc} {cells slots : Nat}  (hK : va_K (dC, dI) vwCl [] s) (hP : va_P (dC, dI) vwCl [] H) (hD : va_D A []) (hS : va_S A s.heap H locs) {ls : Array Slot} (hl : lv_has ls 7 [(4, .int (nI (6 * 512))), (3, .ref hO), (2, .ref hM), (1, .ref hX), (0, .ref b)]) (hr : meth.sig.returnType = ret) (hlocks : meth.locks = false) {G : Heap → Prop} (hG : G H) : W p l e roomB s m #[Value.ref b] below meth c H locs cells slots (fun t => ∃ o, t.status = .running ∧ Ended t below o ∧ G t.heap) (F0 m 27 ls []) := by -- intro p e s m args
  refine lv_iload hx hb dL_law_27 (lv_at hl 0 rfl) ?_
  refine lv_aload_n hx hb dL_law_29 rfl (lv_at hl 4 rfl) ?_
  refine va_slen hx hb hScr hbl hbA hS dL_law_30 ?_
  refine lv_bipush (v := 6) hx hb dL_law_31 (by decide) ?_
  refine lv_isub hx hb dL_law_33 ?_
  refine lv_topi (fun x_360 ex_360 => ?_)
  refine lv_icmp_gt (tgt := 3722) hx hb dL_law_34 (by decide) (fun c_361 => ?_) (fun c_361 => absurd (by rw [ex_360]; exact nI_lt (a := 3066) (b := 6 * 512) (by omega) (by omega)) c_361)
  refine lv_iconst (v := 1) hx hb dL_law_3722 (by decide) ?_
  exact law_ret hx hb hr hlocks dL_law_3723 hG
