/-! A text that a method only reads: its object h, its row v of w bytes f; neither may be written here (they lie outside A). It is a constant, or one that this run has made. -/
def rs (h v w : Nat) (f : Nat → Int32) (A : Nat → Prop) (U : State) (H : Heap) : Prop :=
  va_O "java/lang/String" h A U H ∧ va_OF "java/lang/String" "coder" "B" (.int 0) h A U H ∧ va_OF "java/lang/String" "value" "[B" (.ref v) h A U H ∧ va_T .byte v w (fun j => .int (f j)) A U H
theorem rs.moved {h v w : Nat} {f : Nat → Int32} {A : Nat → Prop} {u U : State} {H : Heap} (hvm : u.vm.Alike U.vm) (q : rs h v w f A u H) : rs h v w f A U H := ⟨va_O.moved hvm q.1, va_OF.moved hvm q.2.1, va_OF.moved hvm q.2.2.1, va_T.moved hvm q.2.2.2⟩
theorem rs.kept {h v w : Nat} {f : Nat → Int32} {A : Nat → Prop} {U : State} {H H1 : Heap} (q : rs h v w f A U H) (hq : ∀ a : Nat, a < H.size → ¬ A a → H1[a]? = H[a]?) : rs h v w f A U H1 := ⟨q.1.kept hq, q.2.1.kept hq, q.2.2.1.kept hq, q.2.2.2.kept hq⟩
theorem rs.narrow {h v w : Nat} {f : Nat → Int32} {A B : Nat → Prop} {U : State} {H : Heap} (q : rs h v w f A U H) (hAB : ∀ q, B q → A q) : rs h v w f B U H := ⟨q.1.narrow hAB, q.2.1.narrow hAB, q.2.2.1.narrow hAB, q.2.2.2.narrow hAB⟩
theorem rs.call {h v w : Nat} {f : Nat → Int32} {A : Nat → Prop} {U : State} {g : JFrame} {mk : MethodId} {a : Array Value} (q : rs h v w f A U U.heap) : rs h v w f A (U.calling g mk a) (U.calling g mk a).heap := rs.moved (u := U) (U := U.calling g mk a) (Vm.Alike.refl U.vm) q
theorem rs.pass {h v w : Nat} {f : Nat → Int32} {A B : Nat → Prop} {s U : State} {H : Heap} {locs : List Loc} (q : rs h v w f A s s.heap) (hS : va_S A s.heap H locs) (hF : ∀ q, B q → A q) (hW : s.WarmedH U.vm) (hU : U.heap = H) : rs h v w f B U U.heap := by
  rw [hU]; exact rs.moved hW.alike ((q.kept (fun q hq ha => hS.2.1 q hq ha)).narrow hF)
theorem rs.recv {h v w : Nat} {f : Nat → Int32} {A : Nat → Prop} {s : State} {H : Heap} {locs : List Loc} (q : rs h v w f A s s.heap) (hS : va_S A s.heap H locs) : ∃ cell : Cell, H[h]? = some cell ∧ cell.vm.isStatics = false ∧ s.vm.findClass "java/lang/String" = some cell.cls := by
  obtain ⟨cell, h1, h2, h3, -⟩ := q.1.kept hS.2.1
  exact ⟨cell, h1, h2, h3⟩
/-- a text of the world, seen by a method that only reads it -/
theorem rs.ofH {dC : Nat → ClassId} {dI : Nat → Nat → Nat} {ws : va_W} {tys : List (ClassId × FieldType)} {s : State} {args : Array Value} {H : Heap} {B : Nat → Prop} {Ts : List Cond} {h v w : Nat} {hh hz : Int32} {f : Nat → Int32} {cB : ClassId} (hts : ∀ w ∈ Ts, w.before args s = true) (hin : ∀ w ∈ u_ws RJ0 TJ0 4, w ∈ Ts)
    (hK : va_K (dC, dI) vwCl tys s) (hP : va_P (dC, dI) vwCl ws H) (i j t : Nat) (hi : ws[i]? = some (h, .inr (0, [.ref v, .int 0, .int hh, .int hz]))) (hj : ws[j]? = some (v, .inl (cB, w, .inl f))) (ht : tys[t]? = some (cB, .byte)) (h1 : ¬ B h) (h2 : ¬ B v) : rs h v w f B s H := by
  obtain ⟨r, hr, cell, q1, q2, q3, q4⟩ := hP i _ hi
  obtain rfl : r = (RJ0, TJ0, 4) := by cases hr; rfl
  obtain ⟨hS, hfc, kC, hkC, hkind⟩ := hK.1 0 _ rfl
  have fld : ∀ (k : Nat) (x : Value), k < 4 → [Value.ref v, .int 0, .int hh, .int hz][k]? = some x → va_OF (TJ0 k).1 (TJ0 k).2.1 (TJ0 k).2.2.1 x h B s H := by
    intro k x hk hx
    obtain ⟨cf, kf, fi, fd, hi, hsl⟩ := hS k hk
    refine ⟨cf, kf, fi, fd, cell, hi, (u_facts hfc hkC (u_lays hts hin hk) hi).1, q1, (by rw [q3]; exact fun h => by cases h), ?_, h1⟩
    rw [hsl, q4 k hk]
    simp [vp_V, hx]
  refine ⟨⟨cell, q1, by rw [q3]; rfl, by rw [q2]; exact hfc, h1⟩, fld 1 _ (by decide) rfl, fld 0 _ (by decide) rfl, ⟨_, hP j _ hj, (hK.2 t _ ht).1 _ _, ?_, ?_, ?_, ?_, h2⟩⟩
  · exact fun h => by cases h
  · show w ≤ (arrV cB w _).slots.size
    rw [arrV_size]; exact Nat.le_refl _
  · show (arrV cB w _).slots.size.toInt32 = _
    rw [arrV_size]
  · intro k hk
    exact arrV_read cB _ hk
theorem rs.ofW {dC : Nat → ClassId} {dI : Nat → Nat → Nat} {ws : va_W} {tys : List (ClassId × FieldType)} {s U : State} {args : Array Value} {H : Heap} {B : Nat → Prop} {Ts : List Cond} {h v w : Nat} {hh hz : Int32} {f : Nat → Int32} {cB : ClassId} (hts : ∀ w ∈ Ts, w.before args s = true) (hin : ∀ w ∈ u_ws RJ0 TJ0 4, w ∈ Ts)
    (hK : va_K (dC, dI) vwCl tys s) (hP : va_P (dC, dI) vwCl ws H) (i j t : Nat) (hi : ws[i]? = some (h, .inr (0, [.ref v, .int 0, .int hh, .int hz]))) (hj : ws[j]? = some (v, .inl (cB, w, .inl f))) (ht : tys[t]? = some (cB, .byte)) (h1 : ¬ B h) (h2 : ¬ B v) (hW : s.WarmedH U.vm) (hU : U.heap = H) : rs h v w f B U U.heap := by
  rw [hU]; exact rs.moved hW.alike (rs.ofH hts hin hK hP i j t hi hj ht h1 h2)
/-- a text that lay below lo, seen later by a method that writes only from lo on -/
theorem rs.pass2 {h v w lo : Nat} {f : Nat → Int32} {B : Nat → Prop} {s U : State} {Hs H : Heap} (q : rs h v w f (fun x => lo ≤ x) s Hs) (hag : ∀ x, x < lo → H[x]? = Hs[x]?) (hB : ∀ x, B x → lo ≤ x) (hW : s.WarmedH U.vm) (hU : U.heap = H) : rs h v w f B U U.heap := by
  rw [hU]; exact rs.moved hW.alike ((q.kept (fun x _ hx => hag x (Nat.lt_of_not_le hx))).narrow hB)
theorem rs.recv2 {h v w lo : Nat} {f : Nat → Int32} {s : State} {Hs H : Heap} (q : rs h v w f (fun x => lo ≤ x) s Hs) (hag : ∀ x, x < lo → H[x]? = Hs[x]?) : ∃ cell : Cell, H[h]? = some cell ∧ cell.vm.isStatics = false ∧ s.vm.findClass "java/lang/String" = some cell.cls := by
  obtain ⟨cell, h1, h2, h3, -⟩ := (q.kept (H1 := H) (fun x _ hx => hag x (Nat.lt_of_not_le hx))).1
  exact ⟨cell, h1, h2, h3⟩
