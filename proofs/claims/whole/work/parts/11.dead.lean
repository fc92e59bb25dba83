/-! What a run has made and let go: rows of 1, 2 .. k places, at different addresses from lo on, none of them v. -/
section VDEAD
variable {p : Program} {l : Launch} {e : Env} {R : Room} {s : State} {m : MethodId} {args : Array Value} {below : List Frame} {meth : Method} {c : Code} {H : Heap} {locs : List Loc} {cells slots : Nat} {Q : State → Prop}
variable {cc : ByteArray} {pc : Nat} {ls : Array Slot} {rest : List Value} {D : va_G} {cl : List vw_C} {A : Nat → Prop} {tys : List (ClassId × FieldType)} {ws : va_W} {H0 : Heap}
theorem va_new2 (hexec : p.tables.exec = Jvm.exec) (hb : c.code = cc) {own C : String} {T : u_T} {N ci index : Nat} {Ts : List Cond} (hts : ∀ w ∈ Ts, w.before args s = true) (hin : ∀ w ∈ u_ws C T N, w ∈ Ts) (ty : Nat → FieldType) (hty : ∀ k, k < N → parseFieldDescriptor (T k).2.2.1 = some (ty k)) (hown : s.vm.findClass own = some m.cls) (hcl : (Cond.classLink own index C).before args s = true) (hinst : (Cond.instantiable C N).before args s = true) (hini : (Cond.initialized C).before args s = true)
    (hK : va_K D cl tys s) (hP : va_P D cl ws H) (hD : va_D A ws) (hS : va_S A H0 H locs) (hA : ∀ q, H0.size ≤ q → A q) (hc : cl[ci]? = some (C, T, N)) {fs : List Value} (hfs : ∀ j, j < N → defaultValue (ty j) = vp_V fs j) (hcells : cells + 1 ≤ R.cells) (hslots : slots + N ≤ R.slots) (hdg : decode cc pc = .ok (.new index, 3))
    (kk : ∀ (q : Nat) (H1 : Heap), va_P D cl (ws ++ [(q, .inr (ci, fs))]) H1 → va_D A (ws ++ [(q, .inr (ci, fs))]) → va_S A H0 H1 locs → q = H.size → (∀ x, x < H.size → H1[x]? = H[x]?) → H1.size = H.size + 1 →
      W p l e R s m args below meth c H1 locs (cells + 1) (slots + N) Q (F0 m (pc + 3) ls (.ref q :: rest))) : W p l e R s m args below meth c H locs cells slots Q (F0 m pc ls rest) := by
  have hKn := hK.1 ci _ hc
  refine W.newcK hexec hb hown hcl hinst hini rfl hdg hcells hslots hKn.2.1 rfl fun H1 kC hkC e1 z1 o1 => ?_
  have hk : ∀ (k : Nat) (x : Nat × va_E), ws[k]? = some x → H1[x.1]? = H[x.1]? := fun k x hx => o1 x.1 ((hP k x hx).lt)
  refine kk H.size H1 ((hP.kept hk).app (fun k x hx => ?_)) (hD.push hP rfl (hA _ hS.1)) ⟨Nat.le_trans hS.1 (by omega), fun x h1 h2 => (o1 x (Nat.lt_of_lt_of_le h1 hS.1)).trans (hS.2.1 x h1 h2), hS.2.2⟩ rfl o1 z1
  have hz : k < 1 := (List.getElem?_eq_some_iff.mp hx).1
  rw [show k = 0 by omega] at hx
  cases hx
  exact ⟨_, hc, (u_born ty hts hin hKn hkC e1 hty).to hfs⟩
end VDEAD
def dead (lo k v : Nat) (H : Heap) : Prop := ∃ as : Nat → Nat, (∀ j, j < k → lo ≤ as j ∧ as j < H.size ∧ as j ≠ v ∧ ∃ cell : Cell, H[as j]? = some cell ∧ cell.slots.size = j + 1) ∧ ∀ i j, i < k → j < k → as i = as j → i = j
theorem dead_0 (lo v : Nat) (H : Heap) : dead lo 0 v H := ⟨fun _ => 0, fun j hj => absurd hj (Nat.not_lt_zero j), fun i _ hi => absurd hi (Nat.not_lt_zero i)⟩
theorem dead_step {lo k v v2 : Nat} {H H1 : Heap} (h : dead lo k v H) (hlo : lo ≤ v) {cell : Cell} (hc : H[v]? = some cell) (hz : cell.slots.size = k + 1) (hag : ∀ q, q < H.size → H1[q]? = H[q]?) (hv2 : H.size ≤ v2) : dead lo (k + 1) v2 H1 := by
  obtain ⟨as, h1, h2⟩ := h
  have hv : v < H.size := (Array.getElem?_eq_some_iff.mp hc).1
  have up : ∀ q : Nat, q < H.size → ∀ x : Cell, H[q]? = some x → q < H1.size := fun q hq x hx => (Array.getElem?_eq_some_iff.mp ((hag q hq).trans hx)).1
  refine ⟨fun j => if j < k then as j else v, fun j hj => ?_, fun i j hi hj => ?_⟩
  · by_cases q : j < k
    · obtain ⟨a1, a2, a3, x, a4, a5⟩ := h1 j q
      simp only [if_pos q]
      exact ⟨a1, up _ a2 x a4, by omega, x, (hag _ a2).trans a4, a5⟩
    · have : j = k := by omega
      subst this
      simp only [if_neg q]
      exact ⟨hlo, up _ hv cell hc, by omega, cell, (hag _ hv).trans hc, hz⟩
  · show (if i < k then as i else v) = (if j < k then as j else v) → i = j
    by_cases qi : i < k <;> by_cases qj : j < k
    · rw [if_pos qi, if_pos qj]; exact h2 i j qi qj
    · rw [if_pos qi, if_neg qj]; intro e; exact absurd e (h1 i qi).2.2.1
    · rw [if_neg qi, if_pos qj]; intro e; exact absurd e.symm (h1 j qj).2.2.1
    · omega
/-- the address of a row of the world is in the heap, and its length is the world's -/
theorem row_in {D : va_G} {cl : List vw_C} {ws : va_W} {H : Heap} (hP : va_P D cl ws H) (i : Nat) {v n : Nat} {cB : ClassId} {f : Nat → Int32} (hi : ws[i]? = some (v, .inl (cB, n, .inl f))) : ∃ cell : Cell, H[v]? = some cell ∧ cell.slots.size = n := by
  have h := hP i _ hi
  exact ⟨_, h, arrV_size cB n _⟩
theorem fr_A {wc : va_W} {sz lo q : Nat} (hq : q < lo) (hs : lo ≤ sz) (hw : ∀ a ∈ wc.map (fun x => x.1), lo ≤ a) : ¬ va_A wc sz q := by
  rintro (⟨k, e, hk⟩ | h)
  · have : q ∈ wc.map (fun x => x.1) := List.mem_map.mpr ⟨_, List.mem_of_getElem? hk, rfl⟩
    have := hw q this
    omega
  · omega
theorem ag_call {wc : va_W} {lo : Nat} {H H1 H2 : Heap} (hlo : lo ≤ H1.size) (hag : ∀ q, q < lo → H1[q]? = H[q]?) (hk : ∀ q : Nat, q < H1.size → ¬ va_A wc H1.size q → H2[q]? = H1[q]?) (hw : ∀ a ∈ wc.map (fun x => x.1), lo ≤ a) : ∀ q, q < lo → H2[q]? = H[q]? := fun q hq => (hk q (by omega) (fr_A hq hlo hw)).trans (hag q hq)
/-- rows of 1, 2 .. k places at different addresses from lo on -/
def mades (lo k : Nat) (H : Heap) : Prop := ∃ as : Nat → Nat, (∀ j, j < k → lo ≤ as j ∧ as j < H.size ∧ ∃ cell : Cell, H[as j]? = some cell ∧ cell.slots.size = j + 1) ∧ ∀ i j, i < k → j < k → as i = as j → i = j
theorem mades_0 (lo : Nat) (H : Heap) : mades lo 0 H := ⟨fun _ => 0, fun j hj => absurd hj (Nat.not_lt_zero j), fun i _ hi => absurd hi (Nat.not_lt_zero i)⟩
theorem mades_step {lo k v : Nat} {H H1 : Heap} (h : mades lo k H) (hlo : lo ≤ H.size) {cell : Cell} (hc : H1[v]? = some cell) (hz : cell.slots.size = k + 1) (hag : ∀ q, q < H.size → H1[q]? = H[q]?) (hv : H.size ≤ v) : mades lo (k + 1) H1 := by
  obtain ⟨as, h1, h2⟩ := h
  have hv1 : v < H1.size := (Array.getElem?_eq_some_iff.mp hc).1
  refine ⟨fun j => if j < k then as j else v, fun j hj => ?_, fun i j hi hj => ?_⟩
  · by_cases q : j < k
    · obtain ⟨a1, a2, x, a4, a5⟩ := h1 j q
      simp only [if_pos q]
      exact ⟨a1, by omega, x, (hag _ a2).trans a4, a5⟩
    · have : j = k := by omega
      subst this
      simp only [if_neg q]
      exact ⟨by omega, hv1, cell, hc, hz⟩
  · show (if i < k then as i else v) = (if j < k then as j else v) → i = j
    by_cases qi : i < k <;> by_cases qj : j < k
    · rw [if_pos qi, if_pos qj]; exact h2 i j qi qj
    · rw [if_pos qi, if_neg qj]; intro e; have := (h1 i qi).2.1; omega
    · rw [if_neg qi, if_pos qj]; intro e; have := (h1 j qj).2.1; omega
    · omega
theorem ge_A {wc : va_W} {sz lo q : Nat} (hs : lo ≤ sz) (hw : ∀ a ∈ wc.map (fun x => x.1), lo ≤ a) (h : va_A wc sz q) : lo ≤ q := by
  rcases h with ⟨k, e, hk⟩ | h
  · exact hw q (List.mem_map.mpr ⟨_, List.mem_of_getElem? hk, rfl⟩)
  · omega
theorem mades.mono {lo lo2 k : Nat} {H : Heap} (h : mades lo2 k H) (hl : lo ≤ lo2) : mades lo k H := by
  obtain ⟨as, h1, h2⟩ := h
  exact ⟨as, fun j hj => ⟨Nat.le_trans hl (h1 j hj).1, (h1 j hj).2⟩, h2⟩
/-- a text that a call has answered, seen from the caller -/
theorem rs.at {h v w : Nat} {f : Nat → Int32} {s t : State} {H1 : Heap} (q : rs h v w f (fun x => t.heap.size ≤ x) t t.heap) (hvm : s.vm.Alike t.vm) (ht : t.heap = H1) : rs h v w f (fun x => H1.size ≤ x) s H1 := by
  rw [ht] at q
  exact rs.moved hvm.symm q
