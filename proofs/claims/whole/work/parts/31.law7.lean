/-! whole is false without a condition: whole_false at the start of parts 00a to 00m -/
theorem zs_fits : lx_xs (fun j => zs_xs.getD j 0) := by
  refine ⟨⟨rfl, rfl, rfl⟩, fun i h1 h2 => ?_⟩
  obtain ⟨k, rfl⟩ : ∃ k, i = k + 1 := ⟨i - 1, by omega⟩
  have := zs_get 511 k (by omega)
  show zs_xs.getD (6 * (k + 1)) 0 = 31 ∧ zs_xs.getD (6 * (k + 1) + 1) 0 = 0
  rw [show 6 * (k + 1) = 6 * k + 1 + 1 + 1 + 1 + 1 + 1 by omega]
  exact this
/-- whole, as it is printed, is false: at the script of one setLength(0, 240) and 511 text(0) -/
theorem whole_is_false : ¬ Claimed_1_1 :=
  whole_false (l := launch0) rfl zl_lists (p := zst.p0) (e := zs_e) (launch0.admits_env _ _ _) fairChoices_fair.cas fairChoices_fair.clock (s := zst.about) (m := ⟨0, 0⟩) (args := zst.args0) (below := Lib.HandBits.below0) rfl (by decide +kernel) zs_heap
    (zs_applies _ rfl (by decide) (by decide) rfl) (zs_applies _ rfl (by decide) (by decide) rfl) zs_rest (b := 0) (xs := zs_xs)
    ⟨rfl, zs_ints, by rw [← List.length_map, ← zs_cells, Array.length_toList, zs_size], zs_fits, zs_narrow⟩
