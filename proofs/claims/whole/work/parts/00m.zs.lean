/-! A start of S1 s script: the tables of the printed one, and the array type that it lacks (REPORT T1). -/
def zs_i : Nat → List Int32
  | 0 => []
  | n + 1 => 31 :: 0 :: 0 :: 0 :: 0 :: 0 :: zs_i n
def zs_xs : List Int32 := 30 :: 0 :: 240 :: 0 :: 0 :: 0 :: zs_i 511
theorem zs_map : ∀ n, zst.s1l n = (zs_i n).map Value.int
  | 0 => rfl
  | n + 1 => by
    show Value.int 31 :: .int 0 :: .int 0 :: .int 0 :: .int 0 :: .int 0 :: zst.s1l n = _
    rw [zs_map n]; rfl
theorem zs_len : ∀ n, (zs_i n).length = 6 * n
  | 0 => rfl
  | n + 1 => by
    show (zs_i n).length + 1 + 1 + 1 + 1 + 1 + 1 = _
    rw [zs_len n]; omega
theorem zs_get : ∀ (n i : Nat), i < n → (zs_i n).getD (6 * i) 0 = 31 ∧ (zs_i n).getD (6 * i + 1) 0 = 0
  | 0, i, h => absurd h (Nat.not_lt_zero i)
  | n + 1, 0, _ => ⟨rfl, rfl⟩
  | n + 1, i + 1, h => by
    have := zs_get n i (by omega)
    rw [show 6 * (i + 1) = 6 * i + 1 + 1 + 1 + 1 + 1 + 1 by omega]
    exact this
theorem zs_cells : zst.cells0.toList = zs_xs.map Value.int := by
  show Value.int 30 :: .int 0 :: .int 240 :: .int 0 :: .int 0 :: .int 0 :: zst.s1l 511 = _
  rw [zs_map]; rfl
theorem zs_size : zst.cells0.size = 3072 := by
  rw [← Array.length_toList, zs_cells, List.length_map]
  show (zs_i 511).length + 1 + 1 + 1 + 1 + 1 + 1 = _
  rw [zs_len]
set_option maxRecDepth 100000 in
theorem zs_at (scr : Array Value) : (zst.aboutOf scr).arrayAt? 0 = some { cls := 42, slots := scr, vm := .none } := rfl
set_option maxRecDepth 100000 in
theorem zs_of (scr : Array Value) : (zst.aboutOf scr).isArrayOf { cls := 42, slots := scr, vm := .none } .int := ⟨fun _ h => (by cases h), _, rfl, _, rfl⟩
theorem zs_ints : zst.about.IntsAt 0 zs_xs := by
  refine ⟨{ cls := 42, slots := zst.cells0, vm := .none }, zs_at _, zs_cells, zs_of _, ?_⟩
  rw [show zs_xs.length = (zs_xs.map Value.int).length from (List.length_map ..).symm, ← zs_cells, Array.length_toList, zs_size]; decide
theorem zs_rest : rest_1_c.before zst.args0 zst.about = true := by
  have ht : ∀ idx : List Nat, (Term.arg 0).eval zst.args0 zst.about none idx zst.about = some (.ref 0) := fun _ => rfl
  have h1 : (Cond.isInt (.length (.arg 0))).value zst.args0 zst.about none zst.about [] = some true := by
    simp [Cond.value, zs_ints.length_eval (ht [])]
  have h2 : (Cond.all (.arg 0) (.isInt (.elem (.arg 0) (.index 0)))).value zst.args0 zst.about none zst.about [] = some true :=
    zs_ints.all_value (ht []) fun k hk => by
      have := zs_ints.elem_nat (o := none) (first := zst.about) (args := zst.args0) (idx := [k]) (ht [k]) (i := .index 0) (k := k) (by simp [Term.eval]) hk
      simp [Cond.value, this]
  have h3 : rest_1_c.value zst.args0 zst.about none zst.about [] = some true := by
    unfold rest_1_c
    rw [Cond.value, h1, h2]
  simp [Cond.before, Cond.holds, h3]
def zs_e : Env := launch0.env 0 20000000 200000000
set_option maxRecDepth 100000 in
theorem zs_narrow : (Cond.and given_1 narrow_1).before zst.args0 zst.about = true := by decide +kernel
set_option maxRecDepth 100000 in
theorem zs_slots : zst.about.slotsTrue = true := by decide +kernel
set_option maxRecDepth 100000 in
theorem zs_heap0 : cellFits zst.about { cls := 42, slots := zst.cells0, vm := .none } = true := by
  refine List.all_eq_true.mpr fun i _ => ?_
  show (match zst.cells0[i]? with | some v => zst.about.fitsSlot 42 .none i v | none => true) = true
  rw [← Array.getElem?_toList, zs_cells, List.getElem?_map]
  cases zs_xs[i]? with
  | none => rfl
  | some v => exact (rfl : zst.about.fitsSlot 42 .none i (.int v) = true)
set_option maxRecDepth 100000 in
theorem zs_heap1 : zst.about.heap.toList.tail.all (cellFits zst.about) = true := by decide +kernel
set_option maxRecDepth 100000 in
theorem zs_heap2 (scr : Array Value) : (zst.aboutOf scr).heap.toList = { cls := 42, slots := scr, vm := .none } :: (zst.aboutOf scr).heap.toList.tail := rfl
theorem zs_heap : heapFits zst.about = true := by
  show zst.about.heap.all (cellFits zst.about) = true
  rw [← Array.all_toList, show zst.about.heap.toList = _ from zs_heap2 zst.cells0, List.all_cons, zs_heap0, Bool.true_and]
  exact zs_heap1
set_option maxRecDepth 100000 in
theorem zs_room (r : Room) (h1 : r.frames = 2048) (h2 : r.cells ≤ 1000000) (h3 : r.slots ≤ 140000000) (h4 : r.locals = 84000) : zst.about.hasRoom zs_e.platform r = true := by
  have a1 : zst.about.frames.length + 2048 ≤ zs_e.platform.maxFrames := by decide +kernel
  have a2 : zst.about.localsInUse + 84000 ≤ zs_e.platform.maxStackSlots := by decide +kernel
  have a3 : zst.about.heap.size + 1000000 ≤ zs_e.platform.maxCells := by decide +kernel
  have a4 : zst.about.slotsUsed + 140000000 ≤ zs_e.platform.maxSlots := by decide +kernel
  have a5 : zst.about.localsInUse + 84000 + stackMargin ≤ realStackBytes / 8 := by decide +kernel
  exact State.hasRoom_of (by rfl) (by rw [h1]; exact a1) (by rw [h4]; exact a2) (Nat.le_trans (Nat.add_le_add_left h2 _) a3) (Nat.le_trans (Nat.add_le_add_left h3 _) a4) zs_slots (by rw [h4]; exact a5)
set_option maxRecDepth 100000 in
theorem zs_applies (r : Room) (h1 : r.frames = 2048) (h2 : r.cells ≤ 1000000) (h3 : r.slots ≤ 140000000) (h4 : r.locals = 84000) : (headSpec (Jvm.Cond.code x code maxLocals ret :: tables_1) r).applies x zs_e.platform zst.about = true :=
  (Spec.applies_iff rfl).mpr ⟨rfl, rfl, rfl, by decide +kernel, by decide +kernel, by decide +kernel, zs_room r h1 h2 h3 h4, atoms_intro zst.words⟩
