/-! SignropeModel.part, joined. -/
set_option maxHeartbeats 4000000 in
set_option maxRecDepth 100000 in
/-- part(row, a, b) -/
theorem kX3_part (l : Launch) (dC : Nat → ClassId) (dI : Nat → Nat → Nat) (sz : Nat) (r : Nat) (cI : ClassId) (k : Nat) (f : Nat → Int32) (a b : Nat) (hab : a ≤ b) (hbk : b ≤ k) (hk : k ≤ 65536) : Met l yX3_part wsX3_part ({ frames := 0, cells := 1, slots := b - a, locals := 0 }) (va_Pc [.ref r, .int (nI a), .int (nI b)] (fun U => U.heap.size = sz ∧ va_P (dC, dI) vwCl [(r, .inl (cI, k, .inl f))] U.heap ∧ va_K (dC, dI) vwCl [(cI, .int)] U ∧ va_D (fun _ => True) [(r, .inl (cI, k, .inl f))])) (va_Qr (fun (u : ClassId × (Nat → Int32)) => match u with | (cA, g) => ∀ j, j < b - a → g j = f (a + j)) (fun (u : ClassId × (Nat → Int32)) (ra : Nat) (t : State) => match u with | (cA, g) => sz ≤ ra ∧ va_P (dC, dI) vwCl [(r, .inl (cI, k, .inl f)), (ra, .inl (cA, b - a, .inl g))] t.heap ∧ va_K (dC, dI) vwCl [(cI, .int), (cA, .int)] t ∧ va_D (va_A [(r, .inl (cI, k, .inl f))] sz) [(r, .inl (cI, k, .inl f)), (ra, .inl (cA, b - a, .inl g))]) (va_A [(r, .inl (cI, k, .inl f))] sz)) 1 (b - a) (va_A [(r, .inl (cI, k, .inl f))] sz) := by
  refine Met.ofW (cc := cX3_part) (maxL := 5) (ret := (some (.array .int))) (by decide) rfl ?_
  intro p e s m args below meth c s₁ B hml hv
  obtain ⟨rfl, hsz, hP, hK, hD0⟩ := hv
  have hx := B.exec
  have hb := B.bytes
  have hr := B.returns
  have hts := atoms_spec (ws := wsX3_part) B.pre
  have hown : s.vm.findClass RX3 = some m.cls := findClass_of_methodNamed B.named
  have hlocks := B.notSynchronized
  subst hsz
  have hD := hD0.self (sz := s.heap.size)
  generalize hAe : va_A [(r, .inl (cI, k, .inl f))] s.heap.size = A at hD ⊢
  have hA : ∀ q : Nat, s.heap.size ≤ q → A q := fun q h => by rw [← hAe]; exact Or.inr h
  have hS : va_S A s.heap s.heap [] := va_S.rf
  have hP : va_P (dC, dI) vwCl [(r, .inl (cI, k, .inl f))] s.heap := hP
  have hl := lv_entry ([.ref r, .int (nI a), .int (nI b)]) (n := 5) (Nat.le_of_ble_eq_true rfl)
  rw [lg_entry_eq]
  generalize (lg_sl ([.ref r, .int (nI a), .int (nI b)]) ++ List.replicate (5 - (lg_sl ([.ref r, .int (nI a), .int (nI b)])).length) Slot.unset).toArray = ls at hl ⊢
  have hl : lv_has ls 5 [(0, .ref r), (1, .int (nI a)), (2, .int (nI b))] := hl
  refine lv_iload_n hx hb dX3_part_0 rfl (lv_at hl 2 rfl) ?_
  refine lv_iload_n hx hb dX3_part_1 rfl (lv_at hl 1 rfl) ?_
  refine lv_isub hx hb dX3_part_2 ?_
  refine lv_topi (fun x_125 ex_125 => ?_)
  have ex : x_125 = nI (b - a) := by rw [ex_125]; exact pk_sub hab
  rw [ex]
  refine va_newa (atype := .int) (ty := .int) (N' := (b - a)) (a0 := ((b - a), .inl (fun _ => 0))) hx hb (hts (.arrayClass .int) (by decide +kernel)) rfl hK hP hD hS hA (fun _ => rfl) (nI_pos (by omega)) (nI_clamp (by omega)) (by show (b - a) * 4 ≤ 536870912; omega) (by show 0 + 1 ≤ 1; omega) (by show 0 + (b - a) ≤ (b - a); omega) dX3_part_3 (fun q_126 cA_127 H hK hP hD hS => ?_)
  have hP : va_P (dC, dI) vwCl [(r, .inl (cI, k, .inl f)), (q_126, .inl (cA_127, (b - a), .inl (fun _ => 0)))] H := hP
  have hD : va_D A [(r, .inl (cI, k, .inl f)), (q_126, .inl (cA_127, (b - a), .inl (fun _ => 0)))] := hD
  have hK : va_K (dC, dI) vwCl [(cI, .int), (cA_127, .int)] s := hK
  have hfr : s.heap.size ≤ q_126 := va_new_ge hAe hD 1 [0] rfl rfl (by decide)
  refine lv_astore_n (lv' := [(3, .ref q_126), (0, .ref r), (1, .int (nI a)), (2, .int (nI b))]) hx hb dX3_part_5 rfl hl (by decide) rfl (fun ls hl => ?_)
  refine lv_iconst (v := 0) hx hb dX3_part_6 (by decide) ?_
  refine lv_istore (lv' := [(4, .int 0), (3, .ref q_126), (0, .ref r), (1, .int (nI a)), (2, .int (nI b))]) hx hb dX3_part_7 hl (by decide) rfl (fun ls hl => ?_)
  have loop : ∀ (d i : Nat), i + d = b - a → ∀ (g : Nat → Int32) (H : Heap) (locs : List Loc), (∀ j, j < i → g j = f (a + j)) → va_P (dC, dI) vwCl [(r, .inl (cI, k, .inl f)), (q_126, .inl (cA_127, b - a, .inl g))] H → va_D A [(r, .inl (cI, k, .inl f)), (q_126, .inl (cA_127, b - a, .inl g))] → va_S A s.heap H locs → ∀ ls, lv_has ls 5 [(0, .ref r), (1, .int (nI a)), (3, .ref q_126), (4, .int (nI i))] → W p l e (headSpec wsX3_part ({ frames := 0, cells := 1, slots := b - a, locals := 0 })).room s m [.ref r, .int (nI a), .int (nI b)].toArray below meth c H locs (0 + 1) (0 + (b - a)) (MQ below (va_Qr (fun (u : ClassId × (Nat → Int32)) => match u with | (cA, g) => ∀ j, j < b - a → g j = f (a + j)) (fun (u : ClassId × (Nat → Int32)) (ra : Nat) (t : State) => match u with | (cA, g) => s.heap.size ≤ ra ∧ va_P (dC, dI) vwCl [(r, .inl (cI, k, .inl f)), (ra, .inl (cA, b - a, .inl g))] t.heap ∧ va_K (dC, dI) vwCl [(cI, .int), (cA, .int)] t ∧ va_D A [(r, .inl (cI, k, .inl f)), (ra, .inl (cA, b - a, .inl g))]) A) [.ref r, .int (nI a), .int (nI b)].toArray s 1 (b - a) A) (F0 m 9 ls []) := by
    intro d
    induction d with
    | zero =>
      intro i hid g H locs hg hP hD hS ls hl
      refine lv_iload hx hb dX3_part_9 (lv_at hl 3 rfl) ?_
      refine lv_aload_n hx hb dX3_part_11 rfl (lv_at hl 2 rfl) ?_
      refine va_alen hx hb hK hP 1 1 rfl rfl (v := nI (b - a)) rfl dX3_part_12 ?_
      refine lv_icmp_ge (tgt := 32) hx hb dX3_part_13 (by decide) (fun c_128 => ?_) (fun c_128 => absurd (nI_le (by omega) (by omega)) c_128)
      refine lv_aload_n hx hb dX3_part_32 rfl (lv_at hl 2 rfl) ?_
      have hP9 := hP.sub (ws' := [(r, .inl (cI, k, .inl f)), (q_126, .inl (cA_127, b - a, .inl g))]) [0, 1] rfl
      have hD9 := hD.sub (ws' := [(r, .inl (cI, k, .inl f)), (q_126, .inl (cA_127, b - a, .inl g))]) [0, 1] (by decide) rfl
      have hK9 := hK.sub (tys' := [(cI, .int), (cA_127, .int)]) [0, 1] rfl
      refine W.widen (k := 1) (n := b - a) (by omega) (by omega) ?_
      exact W.aret (v := .ref q_126) hx hb hr (Or.inr ⟨_, rfl⟩) (Or.inr ⟨_, rfl⟩) (fun t ht hW => ⟨⟨(cA_127, g), q_126, rfl, (fun j hj => hg j (by omega)), hfr, by rw [ht]; exact hP9, va_K.moved hW.alike hK9, hD9⟩, hS.F ht⟩) hS.2.2 dX3_part_33
    | succ d ih =>
      intro i hid g H locs hg hP hD hS ls hl
      have hlt : i < b - a := by omega
      refine lv_iload hx hb dX3_part_9 (lv_at hl 3 rfl) ?_
      refine lv_aload_n hx hb dX3_part_11 rfl (lv_at hl 2 rfl) ?_
      refine va_alen hx hb hK hP 1 1 rfl rfl (v := nI (b - a)) rfl dX3_part_12 ?_
      refine lv_icmp_ge (tgt := 32) hx hb dX3_part_13 (by decide) (fun c_129 => absurd c_129 (nI_ge hlt (by omega))) (fun c_129 => ?_)
      refine lv_aload_n hx hb dX3_part_16 rfl (lv_at hl 2 rfl) ?_
      refine lv_iload hx hb dX3_part_17 (lv_at hl 3 rfl) ?_
      refine lv_aload_n hx hb dX3_part_19 rfl (lv_at hl 0 rfl) ?_
      refine lv_iload_n hx hb dX3_part_20 rfl (lv_at hl 1 rfl) ?_
      refine lv_iload hx hb dX3_part_21 (lv_at hl 3 rfl) ?_
      refine lv_iadd hx hb dX3_part_23 ?_
      refine lv_topi (fun x_130 ex_130 => ?_)
      have ex : x_130 = nI (a + i) := by rw [ex_130]; exact nI_add a i
      rw [ex]
      have hin_131 : vp_in (nI (a + i)) k := vp_in_nI (by omega) (by omega)
      refine va_iald hx hb hK hP 0 0 rfl rfl hin_131 dX3_part_24 ?_
      refine lv_topi (fun x_132 ex_132 => ?_)
      have ex : x_132 = f (a + i) := by rw [ex_132, nI_clamp (by omega)]
      have hin_133 : vp_in (nI i) (b - a) := vp_in_nI hlt (by omega)
      refine va_iast hx hb hK hP hD hS 1 1 rfl rfl hin_133 dX3_part_25 (fun H locs hP hD hS => ?_)
      obtain ⟨f_134, ef_134⟩ : ∃ z, z = upd g (nI i).toNatClampNeg x_132 := ⟨_, rfl⟩
      have hP : va_P (dC, dI) vwCl [(r, .inl (cI, k, .inl f)), (q_126, .inl (cA_127, b - a, .inl f_134))] H := by rw [ef_134]; exact hP
      have hD : va_D A [(r, .inl (cI, k, .inl f)), (q_126, .inl (cA_127, b - a, .inl f_134))] := by rw [ef_134]; exact hD
      obtain ⟨x_135, ex_135⟩ : ∃ y : Int32, y = (nI i) + (1) := ⟨_, rfl⟩
      refine lv_iinc (v := x_135) (lv' := [(4, .int x_135), (0, .ref r), (1, .int (nI a)), (3, .ref q_126)]) hx hb dX3_part_26 hl (k := 3) rfl (by rw [ex_135]; rfl) (by decide) rfl (fun ls hl => ?_)
      have ey : x_135 = nI (i + 1) := by rw [ex_135]; exact nI_1 i
      rw [ey] at hl
      refine lv_goto (tgt := 9) hx hb dX3_part_29 (by decide) ?_
      have hg2 : ∀ j, j < i + 1 → f_134 j = f (a + j) := by
        intro j hj
        rw [ef_134, nI_clamp (by omega)]
        by_cases e : j = i
        · rw [e, pk_us]; exact ex
        · rw [pk_un e]; exact hg j (by omega)
      exact ih (i + 1) (by omega) f_134 H locs hg2 hP hD hS ls (lv_sub hl [1, 2, 3, 0] rfl)
  exact loop (b - a) 0 (by omega) _ H _ (fun j hj => absurd hj (Nat.not_lt_zero j)) hP hD hS ls (lv_sub hl [2, 3, 1, 0] rfl)
def cat3 (k1 k2 : Nat) (f1 f2 f3 : Nat → Int32) : Nat → Int32 := fun j => if j < k1 then f1 j else if j < k1 + k2 then f2 (j - k1) else f3 (j - k1 - k2)
theorem cat3_1 {k1 k2 j : Nat} {f1 f2 f3 : Nat → Int32} (h : j < k1) : cat3 k1 k2 f1 f2 f3 j = f1 j := if_pos h
theorem cat3_2 {k1 k2 j : Nat} {f1 f2 f3 : Nat → Int32} (h : j < k2) : cat3 k1 k2 f1 f2 f3 (k1 + j) = f2 j := by unfold cat3; rw [if_neg (by omega), if_pos (by omega), show k1 + j - k1 = j by omega]
theorem cat3_3 {k1 k2 j : Nat} {f1 f2 f3 : Nat → Int32} : cat3 k1 k2 f1 f2 f3 (k1 + k2 + j) = f3 j := by unfold cat3; rw [if_neg (by omega), if_neg (by omega), show k1 + k2 + j - k1 - k2 = j by omega]
set_option maxHeartbeats 4000000 in
set_option maxRecDepth 100000 in
/-- joined(head, piece, tail) -/
theorem kX3_joined (l : Launch) (dC : Nat → ClassId) (dI : Nat → Nat → Nat) (sz : Nat) (r1 r2 r3 : Nat) (c1 c2 c3 : ClassId) (k1 k2 k3 : Nat) (f1 f2 f3 : Nat → Int32) (hk : k1 + k2 + k3 ≤ 65536) : Met l yX3_joined wsX3_joined ({ frames := 0, cells := 1, slots := k1 + k2 + k3, locals := 0 }) (va_Pc [.ref r1, .ref r2, .ref r3] (fun U => U.heap.size = sz ∧ va_P (dC, dI) vwCl [(r1, .inl (c1, k1, .inl f1)), (r2, .inl (c2, k2, .inl f2)), (r3, .inl (c3, k3, .inl f3))] U.heap ∧ va_K (dC, dI) vwCl [(c1, .int), (c2, .int), (c3, .int)] U ∧ va_D (fun _ => True) [(r1, .inl (c1, k1, .inl f1)), (r2, .inl (c2, k2, .inl f2)), (r3, .inl (c3, k3, .inl f3))])) (va_Qr (fun (u : ClassId × (Nat → Int32)) => match u with | (cA, g) => ∀ j, j < k1 + k2 + k3 → g j = cat3 k1 k2 f1 f2 f3 j) (fun (u : ClassId × (Nat → Int32)) (ra : Nat) (t : State) => match u with | (cA, g) => sz ≤ ra ∧ va_P (dC, dI) vwCl [(r1, .inl (c1, k1, .inl f1)), (r2, .inl (c2, k2, .inl f2)), (r3, .inl (c3, k3, .inl f3)), (ra, .inl (cA, k1 + k2 + k3, .inl g))] t.heap ∧ va_K (dC, dI) vwCl [(c1, .int), (c2, .int), (c3, .int), (cA, .int)] t ∧ va_D (va_A [(r1, .inl (c1, k1, .inl f1)), (r2, .inl (c2, k2, .inl f2)), (r3, .inl (c3, k3, .inl f3))] sz) [(r1, .inl (c1, k1, .inl f1)), (r2, .inl (c2, k2, .inl f2)), (r3, .inl (c3, k3, .inl f3)), (ra, .inl (cA, k1 + k2 + k3, .inl g))]) (va_A [(r1, .inl (c1, k1, .inl f1)), (r2, .inl (c2, k2, .inl f2)), (r3, .inl (c3, k3, .inl f3))] sz)) 1 (k1 + k2 + k3) (va_A [(r1, .inl (c1, k1, .inl f1)), (r2, .inl (c2, k2, .inl f2)), (r3, .inl (c3, k3, .inl f3))] sz) := by
  refine Met.ofW (cc := cX3_joined) (maxL := 9) (ret := (some (.array .int))) (by decide) rfl ?_
  intro p e s m args below meth c s₁ B hml hv
  obtain ⟨rfl, hsz, hP, hK, hD0⟩ := hv
  have hx := B.exec
  have hb := B.bytes
  have hr := B.returns
  have hts := atoms_spec (ws := wsX3_joined) B.pre
  have hown : s.vm.findClass RX3 = some m.cls := findClass_of_methodNamed B.named
  have hlocks := B.notSynchronized
  subst hsz
  have hD := hD0.self (sz := s.heap.size)
  generalize hAe : va_A [(r1, .inl (c1, k1, .inl f1)), (r2, .inl (c2, k2, .inl f2)), (r3, .inl (c3, k3, .inl f3))] s.heap.size = A at hD ⊢
  have hA : ∀ q : Nat, s.heap.size ≤ q → A q := fun q h => by rw [← hAe]; exact Or.inr h
  have hS : va_S A s.heap s.heap [] := va_S.rf
  have hP : va_P (dC, dI) vwCl [(r1, .inl (c1, k1, .inl f1)), (r2, .inl (c2, k2, .inl f2)), (r3, .inl (c3, k3, .inl f3))] s.heap := hP
  have hl := lv_entry ([.ref r1, .ref r2, .ref r3]) (n := 9) (Nat.le_of_ble_eq_true rfl)
  rw [lg_entry_eq]
  generalize (lg_sl ([.ref r1, .ref r2, .ref r3]) ++ List.replicate (9 - (lg_sl ([.ref r1, .ref r2, .ref r3])).length) Slot.unset).toArray = ls at hl ⊢
  have hl : lv_has ls 9 [(0, .ref r1), (1, .ref r2), (2, .ref r3)] := hl
  refine lv_aload_n hx hb dX3_joined_0 rfl (lv_at hl 0 rfl) ?_
  refine va_alen hx hb hK hP 0 0 rfl rfl (v := nI k1) rfl dX3_joined_1 ?_
  refine lv_aload_n hx hb dX3_joined_2 rfl (lv_at hl 1 rfl) ?_
  refine va_alen hx hb hK hP 1 1 rfl rfl (v := nI k2) rfl dX3_joined_3 ?_
  refine lv_iadd hx hb dX3_joined_4 ?_
  refine lv_topi (fun x_136 ex_136 => ?_)
  have ex1 : x_136 = nI (k1 + k2) := by rw [ex_136]; exact nI_add k1 k2
  refine lv_aload_n hx hb dX3_joined_5 rfl (lv_at hl 2 rfl) ?_
  refine va_alen hx hb hK hP 2 2 rfl rfl (v := nI k3) rfl dX3_joined_6 ?_
  refine lv_iadd hx hb dX3_joined_7 ?_
  refine lv_topi (fun x_137 ex_137 => ?_)
  have ex : x_137 = nI (k1 + k2 + k3) := by rw [ex_137, ex1]; exact nI_add (k1 + k2) k3
  rw [ex]
  refine va_newa (atype := .int) (ty := .int) (N' := (k1 + k2 + k3)) (a0 := ((k1 + k2 + k3), .inl (fun _ => 0))) hx hb (hts (.arrayClass .int) (by decide +kernel)) rfl hK hP hD hS hA (fun _ => rfl) (nI_pos (by omega)) (nI_clamp (by omega)) (by show (k1 + k2 + k3) * 4 ≤ 536870912; omega) (by show 0 + 1 ≤ 1; omega) (by show 0 + (k1 + k2 + k3) ≤ (k1 + k2 + k3); omega) dX3_joined_8 (fun q_138 cA_139 H hK hP hD hS => ?_)
  have hP : va_P (dC, dI) vwCl [(r1, .inl (c1, k1, .inl f1)), (r2, .inl (c2, k2, .inl f2)), (r3, .inl (c3, k3, .inl f3)), (q_138, .inl (cA_139, (k1 + k2 + k3), .inl (fun _ => 0)))] H := hP
  have hD : va_D A [(r1, .inl (c1, k1, .inl f1)), (r2, .inl (c2, k2, .inl f2)), (r3, .inl (c3, k3, .inl f3)), (q_138, .inl (cA_139, (k1 + k2 + k3), .inl (fun _ => 0)))] := hD
  have hK : va_K (dC, dI) vwCl [(c1, .int), (c2, .int), (c3, .int), (cA_139, .int)] s := hK
  have hfr : s.heap.size ≤ q_138 := va_new_ge hAe hD 3 [0, 1, 2] rfl rfl (by decide)
  have loop3 : ∀ (d i : Nat), i + d = k3 → ∀ (g : Nat → Int32) (H : Heap) (locs : List Loc), (∀ j, j < k1 + k2 + i → g j = cat3 k1 k2 f1 f2 f3 j) → va_P (dC, dI) vwCl [(r1, .inl (c1, k1, .inl f1)), (r2, .inl (c2, k2, .inl f2)), (r3, .inl (c3, k3, .inl f3)), (q_138, .inl (cA_139, k1 + k2 + k3, .inl g))] H → va_D A [(r1, .inl (c1, k1, .inl f1)), (r2, .inl (c2, k2, .inl f2)), (r3, .inl (c3, k3, .inl f3)), (q_138, .inl (cA_139, k1 + k2 + k3, .inl g))] → va_S A s.heap H locs → ∀ ls, lv_has ls 9 [(0, .ref r1), (1, .ref r2), (2, .ref r3), (3, .ref q_138), (4, .int (nI (k1 + k2 + i))), (5, .ref r3), (6, .int (nI k3)), (7, .int (nI i))] → W p l e (headSpec wsX3_joined ({ frames := 0, cells := 1, slots := k1 + k2 + k3, locals := 0 })).room s m [.ref r1, .ref r2, .ref r3].toArray below meth c H locs (0 + 1) (0 + (k1 + k2 + k3)) (MQ below (va_Qr (fun (u : ClassId × (Nat → Int32)) => match u with | (cA, g) => ∀ j, j < k1 + k2 + k3 → g j = cat3 k1 k2 f1 f2 f3 j) (fun (u : ClassId × (Nat → Int32)) (ra : Nat) (t : State) => match u with | (cA, g) => s.heap.size ≤ ra ∧ va_P (dC, dI) vwCl [(r1, .inl (c1, k1, .inl f1)), (r2, .inl (c2, k2, .inl f2)), (r3, .inl (c3, k3, .inl f3)), (ra, .inl (cA, k1 + k2 + k3, .inl g))] t.heap ∧ va_K (dC, dI) vwCl [(c1, .int), (c2, .int), (c3, .int), (cA, .int)] t ∧ va_D A [(r1, .inl (c1, k1, .inl f1)), (r2, .inl (c2, k2, .inl f2)), (r3, .inl (c3, k3, .inl f3)), (ra, .inl (cA, k1 + k2 + k3, .inl g))]) A) [.ref r1, .ref r2, .ref r3].toArray s 1 (k1 + k2 + k3) A) (F0 m 105 ls []) := by
    intro d
    induction d with
    | zero =>
      intro i hid g H locs hg hP hD hS ls hl
      have ei : i = k3 := by omega
      refine lv_iload hx hb dX3_joined_105 (lv_at hl 7 rfl) ?_
      refine lv_iload hx hb dX3_joined_107 (lv_at hl 6 rfl) ?_
      refine lv_icmp_ge (tgt := 134) hx hb dX3_joined_109 (by decide) (fun c_140 => ?_) (fun c_140 => absurd (nI_le (by omega) (by omega)) c_140)
      refine lv_aload_n hx hb dX3_joined_134 rfl (lv_at hl 3 rfl) ?_
      have hP9 := hP.sub (ws' := [(r1, .inl (c1, k1, .inl f1)), (r2, .inl (c2, k2, .inl f2)), (r3, .inl (c3, k3, .inl f3)), (q_138, .inl (cA_139, k1 + k2 + k3, .inl g))]) [0, 1, 2, 3] rfl
      have hD9 := hD.sub (ws' := [(r1, .inl (c1, k1, .inl f1)), (r2, .inl (c2, k2, .inl f2)), (r3, .inl (c3, k3, .inl f3)), (q_138, .inl (cA_139, k1 + k2 + k3, .inl g))]) [0, 1, 2, 3] (by decide) rfl
      have hK9 := hK.sub (tys' := [(c1, .int), (c2, .int), (c3, .int), (cA_139, .int)]) [0, 1, 2, 3] rfl
      refine W.widen (k := 1) (n := k1 + k2 + k3) (by omega) (by omega) ?_
      exact W.aret (v := .ref q_138) hx hb hr (Or.inr ⟨_, rfl⟩) (Or.inr ⟨_, rfl⟩) (fun t ht hW => ⟨⟨(cA_139, g), q_138, rfl, (fun j hj => hg j (by omega)), hfr, by rw [ht]; exact hP9, va_K.moved hW.alike hK9, hD9⟩, hS.F ht⟩) hS.2.2 dX3_joined_135
    | succ d ih =>
      intro i hid g H locs hg hP hD hS ls hl
      have hlt : i < k3 := by omega
      refine lv_iload hx hb dX3_joined_105 (lv_at hl 7 rfl) ?_
      refine lv_iload hx hb dX3_joined_107 (lv_at hl 6 rfl) ?_
      refine lv_icmp_ge (tgt := 134) hx hb dX3_joined_109 (by decide) (fun c_141 => absurd c_141 (nI_ge hlt (by omega))) (fun c_141 => ?_)
      refine lv_aload hx hb dX3_joined_112 (lv_at hl 5 rfl) ?_
      refine lv_iload hx hb dX3_joined_114 (lv_at hl 7 rfl) ?_
      have hin_142 : vp_in (nI i) k3 := vp_in_nI hlt (by omega)
      refine va_iald hx hb hK hP 2 2 rfl rfl hin_142 dX3_joined_116 ?_
      refine lv_topi (fun x_143 ex_143 => ?_)
      have ex : x_143 = f3 i := by rw [ex_143, nI_clamp (by omega)]
      refine lv_istore (lv' := [(8, .int x_143), (0, .ref r1), (1, .ref r2), (2, .ref r3), (3, .ref q_138), (4, .int (nI (k1 + k2 + i))), (5, .ref r3), (6, .int (nI k3)), (7, .int (nI i))]) hx hb dX3_joined_117 hl (by decide) rfl (fun ls hl => ?_)
      refine lv_aload_n hx hb dX3_joined_119 rfl (lv_at hl 4 rfl) ?_
      refine lv_iload hx hb dX3_joined_120 (lv_at hl 5 rfl) ?_
      obtain ⟨x_144, ex_144⟩ : ∃ y : Int32, y = (nI (k1 + k2 + i)) + (1) := ⟨_, rfl⟩
      refine lv_iinc (v := x_144) (lv' := [(4, .int x_144), (8, .int x_143), (0, .ref r1), (1, .ref r2), (2, .ref r3), (3, .ref q_138), (5, .ref r3), (6, .int (nI k3)), (7, .int (nI i))]) hx hb dX3_joined_122 hl (k := 5) rfl (by rw [ex_144]; rfl) (by decide) rfl (fun ls hl => ?_)
      refine lv_iload hx hb dX3_joined_125 (lv_at hl 1 rfl) ?_
      have hin_145 : vp_in (nI (k1 + k2 + i)) (k1 + k2 + k3) := vp_in_nI (by omega) (by omega)
      refine va_iast hx hb hK hP hD hS 3 3 rfl rfl hin_145 dX3_joined_127 (fun H locs hP hD hS => ?_)
      obtain ⟨f_146, ef_146⟩ : ∃ z, z = upd g (nI (k1 + k2 + i)).toNatClampNeg x_143 := ⟨_, rfl⟩
      have hP : va_P (dC, dI) vwCl [(r1, .inl (c1, k1, .inl f1)), (r2, .inl (c2, k2, .inl f2)), (r3, .inl (c3, k3, .inl f3)), (q_138, .inl (cA_139, k1 + k2 + k3, .inl f_146))] H := by rw [ef_146]; exact hP
      have hD : va_D A [(r1, .inl (c1, k1, .inl f1)), (r2, .inl (c2, k2, .inl f2)), (r3, .inl (c3, k3, .inl f3)), (q_138, .inl (cA_139, k1 + k2 + k3, .inl f_146))] := by rw [ef_146]; exact hD
      obtain ⟨x_147, ex_147⟩ : ∃ y : Int32, y = (nI i) + (1) := ⟨_, rfl⟩
      refine lv_iinc (v := x_147) (lv' := [(7, .int x_147), (4, .int x_144), (8, .int x_143), (0, .ref r1), (1, .ref r2), (2, .ref r3), (3, .ref q_138), (5, .ref r3), (6, .int (nI k3))]) hx hb dX3_joined_128 hl (k := 8) rfl (by rw [ex_147]; rfl) (by decide) rfl (fun ls hl => ?_)
      have ey : x_147 = nI (i + 1) := by rw [ex_147]; exact nI_1 i
      have ez : x_144 = nI (k1 + k2 + (i + 1)) := by rw [ex_144]; exact nI_1 (k1 + k2 + i)
      rw [ey, ez] at hl
      refine lv_goto (tgt := 105) hx hb dX3_joined_131 (by decide) ?_
      have hg2 : ∀ j, j < k1 + k2 + (i + 1) → f_146 j = cat3 k1 k2 f1 f2 f3 j := by
        intro j hj
        rw [ef_146, nI_clamp (by omega)]
        by_cases e : j = k1 + k2 + i
        · rw [e, pk_us, ex]; exact cat3_3.symm
        · rw [pk_un e]; exact hg j (by omega)
      exact ih (i + 1) (by omega) f_146 H locs hg2 hP hD hS ls (lv_sub hl [3, 4, 5, 6, 1, 7, 8, 0] rfl)
  have loop2 : ∀ (d i : Nat), i + d = k2 → ∀ (g : Nat → Int32) (H : Heap) (locs : List Loc), (∀ j, j < k1 + i → g j = cat3 k1 k2 f1 f2 f3 j) → va_P (dC, dI) vwCl [(r1, .inl (c1, k1, .inl f1)), (r2, .inl (c2, k2, .inl f2)), (r3, .inl (c3, k3, .inl f3)), (q_138, .inl (cA_139, k1 + k2 + k3, .inl g))] H → va_D A [(r1, .inl (c1, k1, .inl f1)), (r2, .inl (c2, k2, .inl f2)), (r3, .inl (c3, k3, .inl f3)), (q_138, .inl (cA_139, k1 + k2 + k3, .inl g))] → va_S A s.heap H locs → ∀ ls, lv_has ls 9 [(0, .ref r1), (1, .ref r2), (2, .ref r3), (3, .ref q_138), (4, .int (nI (k1 + i))), (5, .ref r2), (6, .int (nI k2)), (7, .int (nI i))] → W p l e (headSpec wsX3_joined ({ frames := 0, cells := 1, slots := k1 + k2 + k3, locals := 0 })).room s m [.ref r1, .ref r2, .ref r3].toArray below meth c H locs (0 + 1) (0 + (k1 + k2 + k3)) (MQ below (va_Qr (fun (u : ClassId × (Nat → Int32)) => match u with | (cA, g) => ∀ j, j < k1 + k2 + k3 → g j = cat3 k1 k2 f1 f2 f3 j) (fun (u : ClassId × (Nat → Int32)) (ra : Nat) (t : State) => match u with | (cA, g) => s.heap.size ≤ ra ∧ va_P (dC, dI) vwCl [(r1, .inl (c1, k1, .inl f1)), (r2, .inl (c2, k2, .inl f2)), (r3, .inl (c3, k3, .inl f3)), (ra, .inl (cA, k1 + k2 + k3, .inl g))] t.heap ∧ va_K (dC, dI) vwCl [(c1, .int), (c2, .int), (c3, .int), (cA, .int)] t ∧ va_D A [(r1, .inl (c1, k1, .inl f1)), (r2, .inl (c2, k2, .inl f2)), (r3, .inl (c3, k3, .inl f3)), (ra, .inl (cA, k1 + k2 + k3, .inl g))]) A) [.ref r1, .ref r2, .ref r3].toArray s 1 (k1 + k2 + k3) A) (F0 m 65 ls []) := by
    intro d
    induction d with
    | zero =>
      intro i hid g H locs hg hP hD hS ls hl
      have ei : i = k2 := by omega
      refine lv_iload hx hb dX3_joined_65 (lv_at hl 7 rfl) ?_
      refine lv_iload hx hb dX3_joined_67 (lv_at hl 6 rfl) ?_
      refine lv_icmp_ge (tgt := 94) hx hb dX3_joined_69 (by decide) (fun c_148 => ?_) (fun c_148 => absurd (nI_le (by omega) (by omega)) c_148)
      refine lv_aload_n hx hb dX3_joined_94 rfl (lv_at hl 2 rfl) ?_
      refine lv_astore (lv' := [(5, .ref r3), (0, .ref r1), (1, .ref r2), (2, .ref r3), (3, .ref q_138), (4, .int (nI (k1 + i))), (6, .int (nI k2)), (7, .int (nI i))]) hx hb dX3_joined_95 hl (by decide) rfl (fun ls hl => ?_)
      refine lv_aload hx hb dX3_joined_97 (lv_at hl 0 rfl) ?_
      refine va_alen hx hb hK hP 2 2 rfl rfl (v := nI k3) rfl dX3_joined_99 ?_
      refine lv_istore (lv' := [(6, .int (nI k3)), (5, .ref r3), (0, .ref r1), (1, .ref r2), (2, .ref r3), (3, .ref q_138), (4, .int (nI (k1 + i))), (7, .int (nI i))]) hx hb dX3_joined_100 hl (by decide) rfl (fun ls hl => ?_)
      refine lv_iconst (v := 0) hx hb dX3_joined_102 (by decide) ?_
      refine lv_istore (lv' := [(7, .int 0), (6, .int (nI k3)), (5, .ref r3), (0, .ref r1), (1, .ref r2), (2, .ref r3), (3, .ref q_138), (4, .int (nI (k1 + i)))]) hx hb dX3_joined_103 hl (by decide) rfl (fun ls hl => ?_)
      have e4 : nI (k1 + i) = nI (k1 + k2 + 0) := by congr 1; omega
      rw [e4] at hl
      exact loop3 k3 0 (by omega) g H locs (fun j hj => hg j (by omega)) hP hD hS ls (lv_sub hl [3, 4, 5, 6, 7, 2, 1, 0] rfl)
    | succ d ih =>
      intro i hid g H locs hg hP hD hS ls hl
      have hlt : i < k2 := by omega
      refine lv_iload hx hb dX3_joined_65 (lv_at hl 7 rfl) ?_
      refine lv_iload hx hb dX3_joined_67 (lv_at hl 6 rfl) ?_
      refine lv_icmp_ge (tgt := 94) hx hb dX3_joined_69 (by decide) (fun c_149 => absurd c_149 (nI_ge hlt (by omega))) (fun c_149 => ?_)
      refine lv_aload hx hb dX3_joined_72 (lv_at hl 5 rfl) ?_
      refine lv_iload hx hb dX3_joined_74 (lv_at hl 7 rfl) ?_
      have hin_150 : vp_in (nI i) k2 := vp_in_nI hlt (by omega)
      refine va_iald hx hb hK hP 1 1 rfl rfl hin_150 dX3_joined_76 ?_
      refine lv_topi (fun x_151 ex_151 => ?_)
      have ex : x_151 = f2 i := by rw [ex_151, nI_clamp (by omega)]
      refine lv_istore (lv' := [(8, .int x_151), (0, .ref r1), (1, .ref r2), (2, .ref r3), (3, .ref q_138), (4, .int (nI (k1 + i))), (5, .ref r2), (6, .int (nI k2)), (7, .int (nI i))]) hx hb dX3_joined_77 hl (by decide) rfl (fun ls hl => ?_)
      refine lv_aload_n hx hb dX3_joined_79 rfl (lv_at hl 4 rfl) ?_
      refine lv_iload hx hb dX3_joined_80 (lv_at hl 5 rfl) ?_
      obtain ⟨x_152, ex_152⟩ : ∃ y : Int32, y = (nI (k1 + i)) + (1) := ⟨_, rfl⟩
      refine lv_iinc (v := x_152) (lv' := [(4, .int x_152), (8, .int x_151), (0, .ref r1), (1, .ref r2), (2, .ref r3), (3, .ref q_138), (5, .ref r2), (6, .int (nI k2)), (7, .int (nI i))]) hx hb dX3_joined_82 hl (k := 5) rfl (by rw [ex_152]; rfl) (by decide) rfl (fun ls hl => ?_)
      refine lv_iload hx hb dX3_joined_85 (lv_at hl 1 rfl) ?_
      have hin_153 : vp_in (nI (k1 + i)) (k1 + k2 + k3) := vp_in_nI (by omega) (by omega)
      refine va_iast hx hb hK hP hD hS 3 3 rfl rfl hin_153 dX3_joined_87 (fun H locs hP hD hS => ?_)
      obtain ⟨f_154, ef_154⟩ : ∃ z, z = upd g (nI (k1 + i)).toNatClampNeg x_151 := ⟨_, rfl⟩
      have hP : va_P (dC, dI) vwCl [(r1, .inl (c1, k1, .inl f1)), (r2, .inl (c2, k2, .inl f2)), (r3, .inl (c3, k3, .inl f3)), (q_138, .inl (cA_139, k1 + k2 + k3, .inl f_154))] H := by rw [ef_154]; exact hP
      have hD : va_D A [(r1, .inl (c1, k1, .inl f1)), (r2, .inl (c2, k2, .inl f2)), (r3, .inl (c3, k3, .inl f3)), (q_138, .inl (cA_139, k1 + k2 + k3, .inl f_154))] := by rw [ef_154]; exact hD
      obtain ⟨x_155, ex_155⟩ : ∃ y : Int32, y = (nI i) + (1) := ⟨_, rfl⟩
      refine lv_iinc (v := x_155) (lv' := [(7, .int x_155), (4, .int x_152), (8, .int x_151), (0, .ref r1), (1, .ref r2), (2, .ref r3), (3, .ref q_138), (5, .ref r2), (6, .int (nI k2))]) hx hb dX3_joined_88 hl (k := 8) rfl (by rw [ex_155]; rfl) (by decide) rfl (fun ls hl => ?_)
      have ey : x_155 = nI (i + 1) := by rw [ex_155]; exact nI_1 i
      have ez : x_152 = nI (k1 + (i + 1)) := by rw [ex_152]; exact nI_1 (k1 + i)
      rw [ey, ez] at hl
      refine lv_goto (tgt := 65) hx hb dX3_joined_91 (by decide) ?_
      have hg2 : ∀ j, j < k1 + (i + 1) → f_154 j = cat3 k1 k2 f1 f2 f3 j := by
        intro j hj
        rw [ef_154, nI_clamp (by omega)]
        by_cases e : j = k1 + i
        · rw [e, pk_us, ex]; exact (cat3_2 hlt).symm
        · rw [pk_un e]; exact hg j (by omega)
      exact ih (i + 1) (by omega) f_154 H locs hg2 hP hD hS ls (lv_sub hl [3, 4, 5, 6, 1, 7, 8, 0] rfl)
  have loop1 : ∀ (d i : Nat), i + d = k1 → ∀ (g : Nat → Int32) (H : Heap) (locs : List Loc), (∀ j, j < 0 + i → g j = cat3 k1 k2 f1 f2 f3 j) → va_P (dC, dI) vwCl [(r1, .inl (c1, k1, .inl f1)), (r2, .inl (c2, k2, .inl f2)), (r3, .inl (c3, k3, .inl f3)), (q_138, .inl (cA_139, k1 + k2 + k3, .inl g))] H → va_D A [(r1, .inl (c1, k1, .inl f1)), (r2, .inl (c2, k2, .inl f2)), (r3, .inl (c3, k3, .inl f3)), (q_138, .inl (cA_139, k1 + k2 + k3, .inl g))] → va_S A s.heap H locs → ∀ ls, lv_has ls 9 [(0, .ref r1), (1, .ref r2), (2, .ref r3), (3, .ref q_138), (4, .int (nI (0 + i))), (5, .ref r1), (6, .int (nI k1)), (7, .int (nI i))] → W p l e (headSpec wsX3_joined ({ frames := 0, cells := 1, slots := k1 + k2 + k3, locals := 0 })).room s m [.ref r1, .ref r2, .ref r3].toArray below meth c H locs (0 + 1) (0 + (k1 + k2 + k3)) (MQ below (va_Qr (fun (u : ClassId × (Nat → Int32)) => match u with | (cA, g) => ∀ j, j < k1 + k2 + k3 → g j = cat3 k1 k2 f1 f2 f3 j) (fun (u : ClassId × (Nat → Int32)) (ra : Nat) (t : State) => match u with | (cA, g) => s.heap.size ≤ ra ∧ va_P (dC, dI) vwCl [(r1, .inl (c1, k1, .inl f1)), (r2, .inl (c2, k2, .inl f2)), (r3, .inl (c3, k3, .inl f3)), (ra, .inl (cA, k1 + k2 + k3, .inl g))] t.heap ∧ va_K (dC, dI) vwCl [(c1, .int), (c2, .int), (c3, .int), (cA, .int)] t ∧ va_D A [(r1, .inl (c1, k1, .inl f1)), (r2, .inl (c2, k2, .inl f2)), (r3, .inl (c3, k3, .inl f3)), (ra, .inl (cA, k1 + k2 + k3, .inl g))]) A) [.ref r1, .ref r2, .ref r3].toArray s 1 (k1 + k2 + k3) A) (F0 m 25 ls []) := by
    intro d
    induction d with
    | zero =>
      intro i hid g H locs hg hP hD hS ls hl
      have ei : i = k1 := by omega
      refine lv_iload hx hb dX3_joined_25 (lv_at hl 7 rfl) ?_
      refine lv_iload hx hb dX3_joined_27 (lv_at hl 6 rfl) ?_
      refine lv_icmp_ge (tgt := 54) hx hb dX3_joined_29 (by decide) (fun c_156 => ?_) (fun c_156 => absurd (nI_le (by omega) (by omega)) c_156)
      refine lv_aload_n hx hb dX3_joined_54 rfl (lv_at hl 1 rfl) ?_
      refine lv_astore (lv' := [(5, .ref r2), (0, .ref r1), (1, .ref r2), (2, .ref r3), (3, .ref q_138), (4, .int (nI (0 + i))), (6, .int (nI k1)), (7, .int (nI i))]) hx hb dX3_joined_55 hl (by decide) rfl (fun ls hl => ?_)
      refine lv_aload hx hb dX3_joined_57 (lv_at hl 0 rfl) ?_
      refine va_alen hx hb hK hP 1 1 rfl rfl (v := nI k2) rfl dX3_joined_59 ?_
      refine lv_istore (lv' := [(6, .int (nI k2)), (5, .ref r2), (0, .ref r1), (1, .ref r2), (2, .ref r3), (3, .ref q_138), (4, .int (nI (0 + i))), (7, .int (nI i))]) hx hb dX3_joined_60 hl (by decide) rfl (fun ls hl => ?_)
      refine lv_iconst (v := 0) hx hb dX3_joined_62 (by decide) ?_
      refine lv_istore (lv' := [(7, .int 0), (6, .int (nI k2)), (5, .ref r2), (0, .ref r1), (1, .ref r2), (2, .ref r3), (3, .ref q_138), (4, .int (nI (0 + i)))]) hx hb dX3_joined_63 hl (by decide) rfl (fun ls hl => ?_)
      have e4 : nI (0 + i) = nI (k1 + 0) := by congr 1; omega
      rw [e4] at hl
      exact loop2 k2 0 (by omega) g H locs (fun j hj => hg j (by omega)) hP hD hS ls (lv_sub hl [3, 4, 5, 6, 7, 2, 1, 0] rfl)
    | succ d ih =>
      intro i hid g H locs hg hP hD hS ls hl
      have hlt : i < k1 := by omega
      refine lv_iload hx hb dX3_joined_25 (lv_at hl 7 rfl) ?_
      refine lv_iload hx hb dX3_joined_27 (lv_at hl 6 rfl) ?_
      refine lv_icmp_ge (tgt := 54) hx hb dX3_joined_29 (by decide) (fun c_157 => absurd c_157 (nI_ge hlt (by omega))) (fun c_157 => ?_)
      refine lv_aload hx hb dX3_joined_32 (lv_at hl 5 rfl) ?_
      refine lv_iload hx hb dX3_joined_34 (lv_at hl 7 rfl) ?_
      have hin_158 : vp_in (nI i) k1 := vp_in_nI hlt (by omega)
      refine va_iald hx hb hK hP 0 0 rfl rfl hin_158 dX3_joined_36 ?_
      refine lv_topi (fun x_159 ex_159 => ?_)
      have ex : x_159 = f1 i := by rw [ex_159, nI_clamp (by omega)]
      refine lv_istore (lv' := [(8, .int x_159), (0, .ref r1), (1, .ref r2), (2, .ref r3), (3, .ref q_138), (4, .int (nI (0 + i))), (5, .ref r1), (6, .int (nI k1)), (7, .int (nI i))]) hx hb dX3_joined_37 hl (by decide) rfl (fun ls hl => ?_)
      refine lv_aload_n hx hb dX3_joined_39 rfl (lv_at hl 4 rfl) ?_
      refine lv_iload hx hb dX3_joined_40 (lv_at hl 5 rfl) ?_
      obtain ⟨x_160, ex_160⟩ : ∃ y : Int32, y = (nI (0 + i)) + (1) := ⟨_, rfl⟩
      refine lv_iinc (v := x_160) (lv' := [(4, .int x_160), (8, .int x_159), (0, .ref r1), (1, .ref r2), (2, .ref r3), (3, .ref q_138), (5, .ref r1), (6, .int (nI k1)), (7, .int (nI i))]) hx hb dX3_joined_42 hl (k := 5) rfl (by rw [ex_160]; rfl) (by decide) rfl (fun ls hl => ?_)
      refine lv_iload hx hb dX3_joined_45 (lv_at hl 1 rfl) ?_
      have hin_161 : vp_in (nI (0 + i)) (k1 + k2 + k3) := vp_in_nI (by omega) (by omega)
      refine va_iast hx hb hK hP hD hS 3 3 rfl rfl hin_161 dX3_joined_47 (fun H locs hP hD hS => ?_)
      obtain ⟨f_162, ef_162⟩ : ∃ z, z = upd g (nI (0 + i)).toNatClampNeg x_159 := ⟨_, rfl⟩
      have hP : va_P (dC, dI) vwCl [(r1, .inl (c1, k1, .inl f1)), (r2, .inl (c2, k2, .inl f2)), (r3, .inl (c3, k3, .inl f3)), (q_138, .inl (cA_139, k1 + k2 + k3, .inl f_162))] H := by rw [ef_162]; exact hP
      have hD : va_D A [(r1, .inl (c1, k1, .inl f1)), (r2, .inl (c2, k2, .inl f2)), (r3, .inl (c3, k3, .inl f3)), (q_138, .inl (cA_139, k1 + k2 + k3, .inl f_162))] := by rw [ef_162]; exact hD
      obtain ⟨x_163, ex_163⟩ : ∃ y : Int32, y = (nI i) + (1) := ⟨_, rfl⟩
      refine lv_iinc (v := x_163) (lv' := [(7, .int x_163), (4, .int x_160), (8, .int x_159), (0, .ref r1), (1, .ref r2), (2, .ref r3), (3, .ref q_138), (5, .ref r1), (6, .int (nI k1))]) hx hb dX3_joined_48 hl (k := 8) rfl (by rw [ex_163]; rfl) (by decide) rfl (fun ls hl => ?_)
      have ey : x_163 = nI (i + 1) := by rw [ex_163]; exact nI_1 i
      have ez : x_160 = nI (0 + (i + 1)) := by rw [ex_160]; exact nI_1 (0 + i)
      rw [ey, ez] at hl
      refine lv_goto (tgt := 25) hx hb dX3_joined_51 (by decide) ?_
      have hg2 : ∀ j, j < 0 + (i + 1) → f_162 j = cat3 k1 k2 f1 f2 f3 j := by
        intro j hj
        rw [ef_162, nI_clamp (by omega)]
        by_cases e : j = 0 + i
        · rw [e, pk_us, ex]; exact (by rw [Nat.zero_add]; exact (cat3_1 hlt).symm)
        · rw [pk_un e]; exact hg j (by omega)
      exact ih (i + 1) (by omega) f_162 H locs hg2 hP hD hS ls (lv_sub hl [3, 4, 5, 6, 1, 7, 8, 0] rfl)
  refine lv_astore_n (lv' := [(3, .ref q_138), (0, .ref r1), (1, .ref r2), (2, .ref r3)]) hx hb dX3_joined_10 rfl hl (by decide) rfl (fun ls hl => ?_)
  refine lv_iconst (v := 0) hx hb dX3_joined_11 (by decide) ?_
  refine lv_istore (lv' := [(4, .int 0), (3, .ref q_138), (0, .ref r1), (1, .ref r2), (2, .ref r3)]) hx hb dX3_joined_12 hl (by decide) rfl (fun ls hl => ?_)
  refine lv_aload_n hx hb dX3_joined_14 rfl (lv_at hl 2 rfl) ?_
  refine lv_astore (lv' := [(5, .ref r1), (4, .int 0), (3, .ref q_138), (0, .ref r1), (1, .ref r2), (2, .ref r3)]) hx hb dX3_joined_15 hl (by decide) rfl (fun ls hl => ?_)
  refine lv_aload hx hb dX3_joined_17 (lv_at hl 0 rfl) ?_
  refine va_alen hx hb hK hP 0 0 rfl rfl (v := nI k1) rfl dX3_joined_19 ?_
  refine lv_istore (lv' := [(6, .int (nI k1)), (5, .ref r1), (4, .int 0), (3, .ref q_138), (0, .ref r1), (1, .ref r2), (2, .ref r3)]) hx hb dX3_joined_20 hl (by decide) rfl (fun ls hl => ?_)
  refine lv_iconst (v := 0) hx hb dX3_joined_22 (by decide) ?_
  refine lv_istore (lv' := [(7, .int 0), (6, .int (nI k1)), (5, .ref r1), (4, .int 0), (3, .ref q_138), (0, .ref r1), (1, .ref r2), (2, .ref r3)]) hx hb dX3_joined_23 hl (by decide) rfl (fun ls hl => ?_)
  exact loop1 k1 0 (by omega) _ H _ (fun j hj => absurd hj (by omega)) hP hD hS ls (lv_sub hl [5, 6, 7, 4, 3, 2, 1, 0] rfl)
