/-! A start of S1 s script: the tables of the printed one, and the array type that it lacks (REPORT T1). -/
def zs_i : Nat → List Int32
  | 0 => []
  | n + 1 => 31 :: 0 :: 0 :: 0 :: 0 :: 0 :: zs_i n
def zs_xs : List Int32 := 30 :: 0 :: 240 :: 0 :: 0 :: 0 :: zs_i 511
theorem zs_map : ∀ n, zst.s1l n = (zs_i n).map Value.int
  | 0 => rfl
  | n + 1 => by
    show Value.int 31 :: .int 0 :: .int 0 :: .int 0 :: .int 0 :: .int 0 :: zst.s1l n = _
    rw [zs_map n]; rfl
theorem zs_len : ∀ n, (zs_i n).length = 6 * n
  | 0 => rfl
  | n + 1 => by
    show (zs_i n).length + 1 + 1 + 1 + 1 + 1 + 1 = _
    rw [zs_len n]; omega
theorem zs_get : ∀ (n i : Nat), i < n → (zs_i n).getD (6 * i) 0 = 31 ∧ (zs_i n).getD (6 * i + 1) 0 = 0
  | 0, i, h => absurd h (Nat.not_lt_zero i)
  | n + 1, 0, _ => ⟨rfl, rfl⟩
  | n + 1, i + 1, h => by
    have := zs_get n i (by omega)
    rw [show 6 * (i + 1) = 6 * i + 1 + 1 + 1 + 1 + 1 + 1 by omega]
    exact this
theorem zs_cells : zst.cells0.toList = zs_xs.map Value.int := by
  show Value.int 30 :: .int 0 :: .int 240 :: .int 0 :: .int 0 :: .int 0 :: zst.s1l 511 = _
  rw [zs_map]; rfl
theorem zs_size : zst.cells0.size = 3072 := by
  rw [← Array.length_toList, zs_cells, List.length_map]
  show (zs_i 511).length + 1 + 1 + 1 + 1 + 1 + 1 = _
  rw [zs_len]
theorem zs_ints : zst.about.IntsAt 0 zs_xs := by
  refine ⟨{ cls := 42, slots := zst.cells0, vm := .none }, rfl, zs_cells, ⟨rfl, _, rfl, _, rfl⟩, ?_⟩
  rw [← List.length_map, ← zs_cells, Array.length_toList, zs_size]; decide
theorem zs_rest : rest_1_c.before zst.args0 zst.about = true := by
  have ht : ∀ idx : List Nat, (Term.arg 0).eval zst.args0 zst.about none idx zst.about = some (.ref 0) := fun _ => rfl
  have h1 : (Cond.isInt (.length (.arg 0))).value zst.args0 zst.about none zst.about [] = some true := by
    simp [Cond.value, zs_ints.length_eval (ht [])]
  have h2 : (Cond.all (.arg 0) (.isInt (.elem (.arg 0) (.index 0)))).value zst.args0 zst.about none zst.about [] = some true :=
    zs_ints.all_value (ht []) fun k hk => by
      have := zs_ints.elem_nat (o := none) (first := zst.about) (args := zst.args0) (idx := [k]) (ht [k]) (i := .index 0) (k := k) (by simp [Term.eval]; rfl) hk
      simp [Cond.value, this]
  have h3 : rest_1_c.value zst.args0 zst.about none zst.about [] = some true := by
    unfold rest_1_c
    rw [Cond.value, h1, h2]; rfl
  simp [Cond.before, Cond.holds, h3]
def zs_e : Env := launch0.env 0 20000000 200000000
set_option maxRecDepth 100000 in
theorem zs_narrow : (Cond.and given_1 narrow_1).before zst.args0 zst.about = true := by decide +kernel
set_option maxRecDepth 100000 in
theorem zs_slots : zst.about.slotsTrue = true := by decide +kernel
set_option maxRecDepth 100000 in
theorem zs_heap : heapFits zst.about = true := by decide +kernel
set_option maxRecDepth 100000 in
theorem zs_room (r : Room) (h1 : r.frames = 2048) (h2 : r.cells ≤ 1000000) (h3 : r.slots ≤ 140000000) (h4 : r.locals = 84000) : zst.about.hasRoom zs_e.platform r = true := by
  obtain ⟨f, c, s, lo⟩ := r
  cases h1; cases h4
  exact State.hasRoom_of (by rfl) (by decide +kernel) (by decide +kernel) (Nat.le_trans (Nat.add_le_add_left h2 _) (by decide +kernel)) (Nat.le_trans (Nat.add_le_add_left h3 _) (by decide +kernel)) zs_slots (by decide +kernel)
set_option maxRecDepth 100000 in
theorem zs_applies (r : Room) (h1 : r.frames = 2048) (h2 : r.cells ≤ 1000000) (h3 : r.slots ≤ 140000000) (h4 : r.locals = 84000) : (headSpec (Jvm.Cond.code x code maxLocals ret :: tables_1) r).applies x zs_e.platform zst.about = true :=
  (Spec.applies_iff rfl).mpr ⟨rfl, rfl, rfl, by decide +kernel, by decide +kernel, by decide +kernel, zs_room r h1 h2 h3 h4, atoms_intro zst.words⟩
