/-! What is needed, as the reference and as the object find it -/
theorem fold_mem : ∀ (L A : List Nat) (x : Nat), x ∈ L.foldl addL A ↔ x ∈ A ∨ x ∈ L := by
  intro L
  induction L with
  | nil => intro A x; simp
  | cons a t ih =>
    intro A x
    rw [List.foldl_cons, ih, List.mem_cons]
    unfold addL
    split
    · rename_i h
      constructor
      · rintro (z | z)
        · exact Or.inl z
        · exact Or.inr (Or.inr z)
      · rintro (z | z | z)
        · exact Or.inl z
        · rw [z]; exact Or.inl h
        · exact Or.inr z
    · rw [List.mem_append, List.mem_singleton]
      constructor
      · rintro ((z | z) | z)
        · exact Or.inl z
        · exact Or.inr (Or.inl z)
        · exact Or.inr (Or.inr z)
      · rintro (z | z | z)
        · exact Or.inl (Or.inl z)
        · exact Or.inl (Or.inr z)
        · exact Or.inr z
def fsB (L : List Nat) (i : Nat) : Bool := (List.range i).all (fun j => decide (L.getD j 0 ≠ L.getD i 0))
theorem fsB_iff {L : List Nat} {i : Nat} : fsB L i = true ↔ ∀ j, j < i → L.getD j 0 ≠ L.getD i 0 := by
  unfold fsB
  rw [List.all_eq_true]
  constructor
  · intro h j hj
    exact of_decide_eq_true (h j (List.mem_range.mpr hj))
  · intro h j hj
    exact decide_eq_true (h j (List.mem_range.mp hj))
theorem fold_first {L : List Nat} : ∀ n, n ≤ L.length → (L.take n).foldl addL [] = ((List.range n).filter (fsB L)).map (fun i => L.getD i 0) := by
  intro n
  induction n with
  | zero => intro _; rfl
  | succ n ih =>
    intro hn
    have hx : L[n]? = some (L[n]'(by omega)) := List.getElem?_eq_getElem (by omega)
    have hd := getD_of hx
    rw [List.take_succ, hx, Option.toList_some, List.foldl_append, List.range_succ, List.filter_append, List.map_append, ← ih (by omega)]
    show addL ((L.take n).foldl addL []) L[n] = _
    have hm : L[n]'(by omega) ∈ (L.take n).foldl addL [] ↔ fsB L n = false := by
      rw [fold_mem, ← Bool.not_eq_true, fsB_iff]
      constructor
      · rintro (z | z)
        · cases z
        · intro y
          obtain ⟨i, hi, e⟩ := List.getElem_of_mem z
          rw [List.length_take] at hi
          refine y i (by omega) ?_
          rw [hd, ← e, getD_of (List.getElem?_eq_getElem (by omega)), List.getElem_take]
      · intro y
        right
        refine Classical.byContradiction fun z => y (fun j hj e => z ?_)
        rw [hd] at e
        rw [← e, getD_of (List.getElem?_eq_getElem (by omega))]
        exact List.mem_take_iff_getElem.mpr ⟨j, by omega, rfl⟩
    generalize (L.take n).foldl addL [] = A at hm ⊢
    unfold addL
    cases c : fsB L n with
    | true =>
      rw [if_neg (fun z => by rw [hm.mp z] at c; cases c), List.filter_cons_of_pos c, List.filter_nil, List.map_cons, List.map_nil, hd]
    | false =>
      rw [if_pos (hm.mpr c), List.filter_cons_of_neg (by rw [c]; decide), List.filter_nil, List.map_nil, List.append_nil]
def kpL (F : Nat → sp3) (l : List Nat) (n : Nat) : List Nat := ((List.range n).filter (kpF F l)).map (fun i => l.getD i 0)
section
variable {S : bS} {F : Nat → sp3} {l : List Nat}
theorem kpF_iff {i : Nat} : kpF F l i = true ↔ ∀ j, j < l.length → lfL F l i j = false := by
  unfold kpF
  rw [List.all_eq_true]
  constructor
  · intro h j hj
    have := h j (by rw [List.mem_range'_1]; omega)
    rw [Bool.not_eq_true'] at this
    exact this
  · intro h j hj
    rw [List.mem_range'_1] at hj
    rw [h j (by omega)]
    rfl
theorem kp_iff (k : rlF S F) (hx : ∀ x ∈ l, x < b_s S) {i : Nat} (hi : i < l.length) : kpF F l i = true ↔ (∀ j, j < i → b_wa S (l.getD j 0) ≠ b_wa S (l.getD i 0)) ∧ ∀ j, j < l.length → covB (b_K S) (b_wa S (l.getD j 0)) (b_wa S (l.getD i 0)) = false := by
  have hb : ∀ j, j < l.length → l.getD j 0 < b_s S := fun j hj => by
    rw [getD_of (List.getElem?_eq_getElem hj)]
    exact hx _ (List.getElem_mem hj)
  rw [kpF_iff]
  constructor
  · intro h
    refine ⟨fun j hj e => ?_, fun j hj => ?_⟩
    · have h1 := h j (by omega)
      unfold lfL lfB at h1
      rw [k.inc (hb j (by omega)) (hb i hi), k.inc (hb i hi) (hb j (by omega)), decide_eq_true e, decide_eq_true e.symm, decide_eq_true (show i ≠ j by omega), decide_eq_false (show ¬ i < j by omega)] at h1
      simp at h1
    · rw [← Bool.not_eq_true]
      intro c
      have h1 := h j hj
      obtain ⟨c2, c3⟩ := k.anti c
      have c4 : i ≠ j := fun z => c3 (by rw [z])
      unfold lfL lfB at h1
      rw [k.inc (hb j hj) (hb i hi), k.inc (hb i hi) (hb j hj), c, c2, decide_eq_true c4, decide_eq_false (p := b_wa S (l.getD i 0) = b_wa S (l.getD j 0)) (fun z => c3 z.symm)] at h1
      simp at h1
  · rintro ⟨h1, h2⟩ j hj
    unfold lfL lfB
    rw [k.inc (hb j hj) (hb i hi), k.inc (hb i hi) (hb j hj), h2 j hj, Bool.or_false]
    by_cases c1 : i = j
    · rw [decide_eq_false (fun z => z c1)]; rfl
    · by_cases c2 : b_wa S (l.getD j 0) = b_wa S (l.getD i 0)
      · have c3 : i < j := by
          refine Classical.byContradiction fun z => ?_
          exact h1 j (by omega) c2
        rw [decide_eq_true c2, decide_eq_true c2.symm, decide_eq_true c3]
        simp
      · rw [decide_eq_false c2]; simp
theorem getD_map {wa : Nat → Nat} {j : Nat} (hj : j < l.length) : (l.map wa).getD j 0 = wa (l.getD j 0) := by
  rw [getD_of (List.getElem?_eq_getElem hj), getD_of (x := wa (l[j]'hj)) (by rw [List.getElem?_map, List.getElem?_eq_getElem hj]; rfl)]
theorem need_eq (k : rlF S F) (hx : ∀ x ∈ l, x < b_s S) : (kpL F l l.length).map (b_wa S) = needF (b_K S) ((l.map (b_wa S)).foldl addL []) := by
  have hL := fold_first (L := l.map (b_wa S)) (l.map (b_wa S)).length (Nat.le_refl _)
  rw [List.take_length] at hL
  unfold needF kpL
  rw [hL, List.length_map, List.filter_map, List.filter_filter, List.map_map]
  have e2 : (List.range l.length).filter (kpF F l) = (List.range l.length).filter (fun a => ((fun x => !((((List.range l.length).filter (fsB (l.map (b_wa S)))).map (fun i => (l.map (b_wa S)).getD i 0)).any (fun y => covB (b_K S) y x))) ∘ (fun i => (l.map (b_wa S)).getD i 0)) a && fsB (l.map (b_wa S)) a) := by
    refine List.filter_congr (fun i hi => ?_)
    have hi' := List.mem_range.mp hi
    refine bool_ext ?_
    rw [kp_iff k hx hi', Bool.and_eq_true, fsB_iff]
    rw [List.length_map] at hL
    rw [← hL]
    show _ ↔ (!(((l.map (b_wa S)).foldl addL []).any (fun y => covB (b_K S) y ((l.map (b_wa S)).getD i 0)))) = true ∧ _
    rw [Bool.not_eq_true', List.any_eq_false, getD_map hi']
    constructor
    · rintro ⟨a, b⟩
      refine ⟨fun y hy => ?_, fun j hj => by rw [getD_map (by omega)]; exact a j hj⟩
      rw [fold_mem] at hy
      rcases hy with hy | hy
      · cases hy
      · obtain ⟨x, x1, x2⟩ := List.mem_map.mp hy
        obtain ⟨j, hj, e⟩ := List.getElem_of_mem x1
        have := b j hj
        rw [getD_of (List.getElem?_eq_getElem hj), e, x2] at this
        rw [this]
        decide
    · rintro ⟨a, b⟩
      refine ⟨fun j hj => by have := b j hj; rw [getD_map (by omega)] at this; exact this, fun j hj => ?_⟩
      have := a (b_wa S (l.getD j 0)) (by
        rw [fold_mem]
        refine Or.inr (List.mem_map.mpr ⟨_, ?_, rfl⟩)
        rw [getD_of (List.getElem?_eq_getElem hj)]
        exact List.getElem_mem hj)
      rw [← Bool.not_eq_true]
      exact this
  rw [← e2]
  refine List.map_congr_left (fun i hi => ?_)
  have hi' := List.mem_range.mp (List.mem_filter.mp hi).1
  exact (getD_map hi').symm
end

