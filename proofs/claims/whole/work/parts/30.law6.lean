/-! The row whole is false: at every start with that script, in a machine with room, the law's run ends (in one way only) with more made than the claim's room. -/
def lx_P (b : Addr) (xs : List Int32) (args : Array Value) (s : State) : Prop := args = #[.ref b] ∧ s.IntsAt b xs ∧ xs.length = 3072 ∧ lx_xs (fun j => xs.getD j 0) ∧ (Jvm.Cond.and given_1 narrow_1).before args s = true
set_option maxHeartbeats 4000000 in
theorem lx_walk (l : Launch) (b : Addr) (xs : List Int32) : MetFree l x (headSpec (Jvm.Cond.code x code maxLocals ret :: tables_1) roomB) (lx_P b xs) (fun _ _ _ _ _ => True) (fun _ s _ t => lx_G s t.heap) := by
  refine MetFree.of_bodyS (code := code) (maxLocals := maxLocals) (ret := ret) (by decide) ?_ ?_
  · intro args s m h hn
    obtain ⟨meth, c, h1, h2, h3, h4, h5, h6, -, -⟩ := Cond.code_spec hn (atoms_spec (ws := Jvm.Cond.code x code maxLocals ret :: tables_1) h _ List.mem_cons_self)
    exact ⟨meth, c, h1, h2, h3, h4, h5, h6⟩
  · intro p e s m args below meth c s₁ B hml0 hP _
    obtain ⟨rfl, hx, hbd, hsc, hgv⟩ := hP
    obtain ⟨scr, harrAt, hlist, hof, hsmall⟩ := hx
    obtain ⟨hcb, hkn, -, -⟩ := State.arrayAt?_spec harrAt
    have hown : s.vm.findClass RL = some m.cls := findClass_of_methodNamed B.named
    have hts0 : ∀ c ∈ (Jvm.Cond.code x code maxLocals ret :: tables_1), c.before #[Value.ref b] s = true := atoms_spec (ws := Jvm.Cond.code x code maxLocals ret :: tables_1) B.pre
    have hts : ∀ w ∈ lw_tbl, w.before #[Value.ref b] s = true := lw_hts (fun w hw => hts0 w (List.mem_cons_of_mem _ hw))
    have hml : c.maxLocals = 7 := B.maxLocals_eq (hts0 _ List.mem_cons_self)
    have X₀ : Stand p l e roomB s m #[Value.ref b] below meth c s₁ [] 0 0 := Stand.of_body B
    have hh0 : s₁.heap = s.heap := by rw [B.state]; rfl
    have hsz : scr.slots.size = xs.length := by rw [← Array.length_toList, hlist, List.length_map]
    have hval : ∀ j : Nat, j < 3072 → scr.slots[j]? = some (.int (xs.getD j 0)) := fun j hj => by
      rw [← Array.getElem?_toList, hlist]
      simp [hbd, hj]
    have hbl : b < s.heap.size := (Array.getElem?_eq_some_iff.mp hcb).1
    have hX : va_X b 3072 (fun j => xs.getD j 0) s s.heap := ⟨scr, hcb, hof, hkn, by rw [hsz, hbd], hval⟩
    have K : W p l e roomB s m #[Value.ref b] below meth c s₁.heap [] 0 0 (fun t => ∃ o, t.status = .running ∧ Ended t below o ∧ lx_G s t.heap) (entryFrame m ([Value.ref b] : List Value).toArray 7) := by
      rw [hh0]
      exact lx_start l hsc ⟨B.exec, B.bytes, B.returns, hml, hown, hts, hX, hbl, B.notSynchronized, hgv⟩
    obtain ⟨t, a1, o, b1, b2, b3⟩ := K s₁ rfl X₀
    exact ⟨t, o, a1, b1, b2, b3⟩
/-- no start with that script, the claim's premises and room enough beside a launch that lists the claim's files: or Claimed_1_1 is false -/
theorem whole_false {l : Launch} (hflags : l.flags = flags0) (hL : Lists l classFile x code maxLocals ret tables_1 room_1) {p : Program} {e : Env} (ha : l.admits e) (hc : FairCas e.choices) (hk : FairClock e.choices) {s : State} {m : MethodId} {args : Array Value} {below : List Frame} (hf : s.frames = Frame.invoking m args :: below) (hfit : argsFit s.vm m args = true) (hheap : heapFits s = true)
    (happ : (headSpec (Jvm.Cond.code x code maxLocals ret :: tables_1) room_1).applies x e.platform s = true) (hroom : (headSpec (Jvm.Cond.code x code maxLocals ret :: tables_1) roomB).applies x e.platform s = true) (hrest : rest_1_c.before args s = true) {b : Addr} {xs : List Int32} (hP : lx_P b xs args s) : ¬ Claimed_1_1 := by
  intro hC
  obtain ⟨n, o, h1, -, h3, hpost⟩ := hC l hflags hL trivial p e ha hc hk s m args below hf hfit hheap happ ⟨trivial, hrest, hP.2.2.2.2⟩
  obtain ⟨n', o', g1, -, g3, lo, hlo, hF, -⟩ := lx_walk l b xs p e ha hc hk s m args below hf ((Spec.applies_iff_loose hf).mp hroom).1 hP trivial
  obtain ⟨rfl, rfl⟩ := the_end_unique h1 h3 g1 g3
  obtain ⟨-, -, -, hz, -, -, hsum, -⟩ := hpost.2
  have hs := fam.sum hF hlo hz
  have hsum : (((stepsAlone p.tables e n s).heap.toList.drop s.heap.size).map (fun c => c.slots.size)).sum ≤ 7293034 := hsum
  omega
