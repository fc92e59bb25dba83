/-! The families of rows that the texts' makings leave behind, over the law's walk. -/
def fam (lo n : Nat) (H : Heap) : Prop := ∃ as : Nat → Nat, (∀ j, j < n * 240 → lo ≤ as j ∧ as j < H.size ∧ ∃ cell : Cell, H[as j]? = some cell ∧ cell.slots.size = j % 240 + 1) ∧ ∀ i j, i < n * 240 → j < n * 240 → as i = as j → i = j
theorem fam_0 (lo : Nat) (H : Heap) : fam lo 0 H := ⟨fun _ => 0, fun j hj => absurd hj (by omega), fun i j hi => absurd hi (by omega)⟩
theorem nA {wc : va_W} {lo q sz : Nat} (hw : ∀ a ∈ wc.map (fun x => x.1), a < lo) (h1 : lo ≤ q) (h2 : q < sz) : ¬ va_A wc sz q := by
  rintro (⟨k, e, hk⟩ | h)
  · have := hw q (List.mem_map.mpr ⟨_, List.mem_of_getElem? hk, rfl⟩)
    omega
  · omega
theorem fam.kept {wc : va_W} {lo n : Nat} {H H1 : Heap} (h : fam lo n H) (hz : H.size ≤ H1.size) (hk : ∀ q : Nat, q < H.size → ¬ va_A wc H.size q → H1[q]? = H[q]?) (hw : ∀ a ∈ wc.map (fun x => x.1), a < lo) : fam lo n H1 := by
  obtain ⟨as, h1, h2⟩ := h
  refine ⟨as, fun j hj => ?_, h2⟩
  obtain ⟨a1, a2, x, a3, a4⟩ := h1 j hj
  exact ⟨a1, by omega, x, (hk _ a2 (nA hw a1 a2)).trans a3, a4⟩
theorem fam.step {lo n sz : Nat} {H1 : Heap} {as0 : Nat → Nat} (h1 : ∀ j, j < n * 240 → lo ≤ as0 j ∧ as0 j < sz ∧ ∃ cell : Cell, H1[as0 j]? = some cell ∧ cell.slots.size = j % 240 + 1) (h2 : ∀ i j, i < n * 240 → j < n * 240 → as0 i = as0 j → i = j) (hlo : lo ≤ sz) (hz : sz ≤ H1.size) (hm : mades sz 240 H1) : fam lo (n + 1) H1 := by
  obtain ⟨bs, b1, b2⟩ := hm
  refine ⟨fun j => if j < n * 240 then as0 j else bs (j - n * 240), fun j hj => ?_, fun i j hi hj => ?_⟩
  · by_cases q : j < n * 240
    · obtain ⟨a1, a2, x, a3, a4⟩ := h1 j q
      simp only [if_pos q]
      exact ⟨a1, by omega, x, a3, a4⟩
    · obtain ⟨a1, a2, x, a3, a4⟩ := b1 (j - n * 240) (by omega)
      simp only [if_neg q]
      exact ⟨by omega, a2, x, a3, by omega⟩
  · show (if i < n * 240 then as0 i else bs (i - n * 240)) = (if j < n * 240 then as0 j else bs (j - n * 240)) → i = j
    by_cases qi : i < n * 240 <;> by_cases qj : j < n * 240
    · rw [if_pos qi, if_pos qj]; exact h2 i j qi qj
    · rw [if_pos qi, if_neg qj]; intro e; have := (h1 i qi).2.1; have := (b1 (j - n * 240) (by omega)).1; omega
    · rw [if_neg qi, if_pos qj]; intro e; have := (h1 j qj).2.1; have := (b1 (i - n * 240) (by omega)).1; omega
    · rw [if_neg qi, if_neg qj]; intro e; have := b2 (i - n * 240) (j - n * 240) (by omega) (by omega) e; omega
theorem fam.next {wc : va_W} {lo n : Nat} {H H1 : Heap} (h : fam lo n H) (hlo : lo ≤ H.size) (hz : H.size ≤ H1.size) (hk : ∀ q : Nat, q < H.size → ¬ va_A wc H.size q → H1[q]? = H[q]?) (hw : ∀ a ∈ wc.map (fun x => x.1), a < lo) (hm : mades H.size 240 H1) : fam lo (n + 1) H1 := by
  obtain ⟨as, h1, h2⟩ := h
  refine fam.step (as0 := as) (fun j hj => ?_) h2 hlo hz hm
  obtain ⟨a1, a2, x, a3, a4⟩ := h1 j hj
  exact ⟨a1, a2, x, (hk _ a2 (nA hw a1 a2)).trans a3, a4⟩
/-- a text known at one heap, handed on -/
theorem rs.go {h v w : Nat} {f : Nat → Int32} {A B : Nat → Prop} {s U : State} {H : Heap} (q : rs h v w f A s H) (hAB : ∀ x, B x → A x) (hW : s.WarmedH U.vm) (hU : U.heap = H) : rs h v w f B U U.heap := by
  rw [hU]
  exact (rs.moved hW.alike q).narrow hAB
theorem rs.at2 {h v w sz : Nat} {f : Nat → Int32} {s t : State} {H1 : Heap} (q : rs h v w f (fun x => x < sz ∨ t.heap.size ≤ x) t t.heap) (hvm : s.vm.Alike t.vm) (ht : t.heap = H1) : rs h v w f (fun x => x < sz ∨ H1.size ≤ x) s H1 := by
  rw [ht] at q
  exact rs.moved hvm.symm q
/-! What the rows' sizes sum to. -/
def sumN (f : Nat → Nat) : Nat → Nat
  | 0 => 0
  | n + 1 => sumN f n + f n
theorem sumN_le {f g : Nat → Nat} (n : Nat) (h : ∀ i, i < n → f i ≤ g i) : sumN f n ≤ sumN g n := by
  induction n with
  | zero => exact Nat.le_refl _
  | succ n ih => exact Nat.add_le_add (ih fun i hi => h i (by omega)) (h n (by omega))
theorem sumN_add (f g : Nat → Nat) (n : Nat) : sumN (fun i => f i + g i) n = sumN f n + sumN g n := by
  induction n with
  | zero => rfl
  | succ n ih => simp only [sumN, ih]; omega
theorem sumN_one (c v : Nat) (n : Nat) (h : v < n) : sumN (fun i => if i = v then c else 0) n = c := by
  induction n with
  | zero => omega
  | succ n ih =>
    by_cases q : v = n
    · subst q
      have : ∀ k, k ≤ v → sumN (fun i => if i = v then c else 0) k = 0 := by
        intro k
        induction k with
        | zero => intro _; rfl
        | succ k ih => intro hk; simp only [sumN, ih (by omega)]; rw [if_neg (by omega)]
      simp only [sumN, this v (Nat.le_refl _)]
      simp
    · simp only [sumN, ih (by omega)]
      rw [if_neg (by omega)]
      rfl
/-- different places below n: what stands there sums to no more than all -/
theorem sumN_inj (g : Nat → Nat) (N : Nat) (as : Nat → Nat) (k : Nat) (h1 : ∀ j, j < k → as j < N) (h2 : ∀ i j, i < k → j < k → as i = as j → i = j) : ∃ f : Nat → Nat, (∀ i, f i ≤ g i) ∧ (∀ i, (∀ j, j < k → as j ≠ i) → f i = 0) ∧ sumN f N = sumN (fun j => g (as j)) k := by
  induction k with
  | zero =>
    refine ⟨fun _ => 0, fun i => Nat.zero_le _, fun i _ => rfl, ?_⟩
    show sumN (fun _ => 0) N = 0
    clear h1
    induction N with
    | zero => rfl
    | succ n ih => simp only [sumN, ih]
  | succ k ih =>
    obtain ⟨f, f1, f2, f3⟩ := ih (fun j hj => h1 j (by omega)) (fun i j hi hj => h2 i j (by omega) (by omega))
    have hz : f (as k) = 0 := f2 _ (fun j hj e => absurd (h2 j k (by omega) (by omega) e) (by omega))
    refine ⟨fun i => f i + (if i = as k then g (as k) else 0), fun i => ?_, fun i hi => ?_, ?_⟩
    · show f i + (if i = as k then g (as k) else 0) ≤ g i
      by_cases q : i = as k
      · rw [if_pos q, q, hz]; omega
      · rw [if_neg q]; exact f1 i
    · show f i + (if i = as k then g (as k) else 0) = 0
      rw [f2 i (fun j hj => hi j (by omega)), if_neg (fun e => hi k (by omega) e.symm)]
    · rw [sumN_add, f3, sumN_one _ _ _ (h1 k (by omega))]
      rfl
theorem sumN_mod (n : Nat) : sumN (fun j => j % 240 + 1) (n * 240) = n * 28920 := by
  induction n with
  | zero => rfl
  | succ n ih =>
    have : ∀ k, k ≤ 240 → sumN (fun j => j % 240 + 1) (n * 240 + k) = n * 28920 + k * (k + 1) / 2 := by
      intro k
      induction k with
      | zero => intro _; simpa using ih
      | succ k ihk =>
        intro hk
        show sumN (fun j => j % 240 + 1) (n * 240 + k) + ((n * 240 + k) % 240 + 1) = _
        rw [ihk (by omega), show (n * 240 + k) % 240 = k by omega]
        have e : (k + 1) * (k + 1 + 1) = k * (k + 1) + 2 * (k + 1) := by
          simp only [Nat.add_mul, Nat.mul_add]; omega
        rw [e]
        omega
    rw [show (n + 1) * 240 = n * 240 + 240 by omega, this 240 (by omega)]
    omega
theorem sum_drop (H : Heap) (lo : Nat) (hlo : lo ≤ H.size) : ((H.toList.drop lo).map (fun c => c.slots.size)).sum = sumN (fun i => (H.toList.map (fun c => c.slots.size)).getD (lo + i) 0) (H.size - lo) := by
  have key : ∀ (l : List Nat), l.sum = sumN (fun i => l.getD i 0) l.length := by
    intro l
    induction l with
    | nil => rfl
    | cons a l ih =>
      have sh : ∀ (f : Nat → Nat) (n : Nat), sumN f (n + 1) = f 0 + sumN (fun i => f (i + 1)) n := by
        intro f n
        induction n with
        | zero => simp [sumN]
        | succ n ih => rw [sumN, ih, sumN]; omega
      rw [List.sum_cons, ih, List.length_cons, sh]
      rfl
  rw [key]
  have hlen : ((H.toList.drop lo).map (fun c => c.slots.size)).length = H.size - lo := by simp
  rw [hlen]
  congr 1
  funext i
  rw [List.map_drop]
  simp only [List.getD_eq_getElem?_getD, List.getElem?_drop]
/-- a family of n texts' makings takes n times 28920 slots of what was made since lo -/
theorem fam.sum {lo n : Nat} {H : Heap} (h : fam lo n H) {l0 : Nat} (hl : l0 ≤ lo) (hlo : l0 ≤ H.size) : n * 28920 ≤ ((H.toList.drop l0).map (fun c => c.slots.size)).sum := by
  obtain ⟨as, h1, h2⟩ := h
  rw [sum_drop H l0 hlo, ← sumN_mod n]
  obtain ⟨f, f1, -, f3⟩ := sumN_inj (fun i => (H.toList.map (fun c => c.slots.size)).getD (l0 + i) 0) (H.size - l0) (fun j => as j - l0) (n * 240) (fun j hj => by have := h1 j hj; omega) (fun i j hi hj e => h2 i j hi hj (by have := h1 i hi; have := h1 j hj; have e : as i - l0 = as j - l0 := e; omega))
  refine Nat.le_trans ?_ (sumN_le _ fun i _ => f1 i)
  rw [f3]
  refine sumN_le _ fun j hj => ?_
  obtain ⟨a1, a2, x, a3, a4⟩ := h1 j hj
  show j % 240 + 1 ≤ (H.toList.map (fun c => c.slots.size)).getD (l0 + (as j - l0)) 0
  rw [show l0 + (as j - l0) = as j by omega, List.getD_eq_getElem?_getD, List.getElem?_map, Array.getElem?_toList, a3]
  simp [a4]
