/-! How much goes along a line: levels of a filter in a set of numbers -/
def eqm (X Y : List Nat) : Prop := ∀ x, x ∈ X ↔ x ∈ Y
def stK (K : List (Nat × sp3)) (φ : sp3) (y : Nat) : Bool := match K[y]? with
  | none => false
  | some q => fiInc q.2 φ && !(fiInc φ q.2)
def alK (K : List (Nat × sp3)) (φ : sp3) (y : Nat) : Bool := match K[y]? with
  | none => false
  | some q => fiInc q.2 φ && fiInc φ q.2
def lv (K : List (Nat × sp3)) (φ : sp3) (X : List Nat) : Nat := if X.any (stK K φ) then 2 else if X.any (alK K φ) then 1 else 0
def anC (K : List (Nat × sp3)) (X : List Nat) : Prop := ∀ a ∈ X, ∀ c ∈ X, covB K a c = false
def apl (X : List Nat) (m : Nat) : List Nat := if m % 3 = 2 then X else if m % 3 = 0 then addL X (m / 3) else rmv (m / 3) X
def apQ (X Q : List Nat) : List Nat := Q.foldl apl X
def pd (K : List (Nat × sp3)) (φ : sp3) : List Nat → List Nat → Nat
  | _, [] => 0
  | X, m :: Q => (if lv K φ (apl X m) = lv K φ X then 0 else 1) + pd K φ (apl X m) Q
section
variable {K : List (Nat × sp3)} {φ : sp3} {X Y Z W D Q R : List Nat}
theorem eqm.rf : eqm X X := fun _ => Iff.rfl
theorem eqm.symm (h : eqm X Y) : eqm Y X := fun x => (h x).symm
theorem eqm.trans (h : eqm X Y) (g : eqm Y Z) : eqm X Z := fun x => (h x).trans (g x)
theorem any_iff {f : Nat → Bool} : X.any f = true ↔ ∃ x, x ∈ X ∧ f x = true := List.any_eq_true
theorem any_m {f : Nat → Bool} (h : eqm X Y) : X.any f = Y.any f := bool_ext (by
  rw [any_iff, any_iff]
  constructor
  · rintro ⟨x, a, b⟩; exact ⟨x, (h x).mp a, b⟩
  · rintro ⟨x, a, b⟩; exact ⟨x, (h x).mpr a, b⟩)
theorem lv_m (h : eqm X Y) : lv K φ X = lv K φ Y := by
  unfold lv
  rw [any_m h, any_m h]
theorem lv_le2 : lv K φ X ≤ 2 := by
  unfold lv
  split
  · exact Nat.le_refl _
  · split <;> omega
theorem lv_2 : lv K φ X = 2 ↔ X.any (stK K φ) = true := by
  unfold lv
  split
  · rename_i h; exact ⟨fun _ => h, fun _ => rfl⟩
  · rename_i h
    split
    · exact ⟨fun z => by omega, fun z => absurd z h⟩
    · exact ⟨fun z => by omega, fun z => absurd z h⟩
theorem lv_0 : lv K φ X = 0 ↔ X.any (stK K φ) = false ∧ X.any (alK K φ) = false := by
  unfold lv
  cases h1 : X.any (stK K φ) with
  | true => simp
  | false =>
    cases h2 : X.any (alK K φ) with
    | true => simp
    | false => simp
theorem lv_1 (h : lv K φ X = 1) : X.any (stK K φ) = false ∧ X.any (alK K φ) = true := by
  unfold lv at h
  cases h1 : X.any (stK K φ) with
  | true => rw [h1] at h; simp at h
  | false =>
    cases h2 : X.any (alK K φ) with
    | true => exact ⟨rfl, rfl⟩
    | false => rw [h1, h2] at h; simp at h
theorem lv_mono (h : ∀ x ∈ X, x ∈ Y) : lv K φ X ≤ lv K φ Y := by
  have e1 : ∀ f : Nat → Bool, X.any f = true → Y.any f = true := fun f hf => by
    obtain ⟨x, a, b⟩ := any_iff.mp hf
    exact any_iff.mpr ⟨x, h x a, b⟩
  have b1 := lv_le2 (K := K) (φ := φ) (X := X)
  have c : lv K φ X = 0 ∨ lv K φ X = 1 ∨ lv K φ X = 2 := by omega
  rcases c with c | c | c
  · omega
  · have h1 := e1 _ (lv_1 c).2
    have h2 : lv K φ Y ≠ 0 := fun z => by rw [(lv_0.mp z).2] at h1; cases h1
    omega
  · rw [lv_2.mpr (e1 _ (lv_2.mp c))]
    omega
/-- families of sets with the same levels -/
theorem lv_fam {ι : Type} {A B : ι → List Nat} (hX : ∀ x, x ∈ X ↔ ∃ i, x ∈ A i) (hY : ∀ x, x ∈ Y ↔ ∃ i, x ∈ B i) (h : ∀ i, lv K φ (A i) = lv K φ (B i)) : lv K φ X = lv K φ Y := by
  have half : ∀ {X Y : List Nat} {A B : ι → List Nat}, (∀ x, x ∈ X ↔ ∃ i, x ∈ A i) → (∀ x, x ∈ Y ↔ ∃ i, x ∈ B i) → (∀ i, lv K φ (A i) = lv K φ (B i)) → lv K φ X ≤ lv K φ Y := by
    intro X Y A B hX hY h
    have b1 := lv_le2 (K := K) (φ := φ) (X := X)
    have sub : ∀ i, lv K φ (B i) ≤ lv K φ Y := fun i => lv_mono (fun x hx => (hY x).mpr ⟨i, hx⟩)
    have c : lv K φ X = 0 ∨ lv K φ X = 1 ∨ lv K φ X = 2 := by omega
    rcases c with c | c | c
    · omega
    · obtain ⟨x, a, b⟩ := any_iff.mp (lv_1 c).2
      obtain ⟨i, hi⟩ := (hX x).mp a
      have h1 : lv K φ (A i) ≠ 0 := fun z => by
        have := (lv_0.mp z).2
        rw [any_iff.mpr ⟨x, hi, b⟩] at this
        cases this
      have h2 := sub i
      rw [← h i] at h2
      omega
    · obtain ⟨x, a, b⟩ := any_iff.mp (lv_2.mp c)
      obtain ⟨i, hi⟩ := (hX x).mp a
      have h1 : lv K φ (A i) = 2 := lv_2.mpr (any_iff.mpr ⟨x, hi, b⟩)
      have h2 := sub i
      rw [← h i] at h2
      omega
  exact Nat.le_antisymm (half hX hY h) (half hY hX (fun i => (h i).symm))
theorem lv_app : lv K φ (X ++ Y) = max (lv K φ X) (lv K φ Y) := by
  have h1 : lv K φ X ≤ lv K φ (X ++ Y) := lv_mono (fun x hx => List.mem_append.mpr (Or.inl hx))
  have h2 : lv K φ Y ≤ lv K φ (X ++ Y) := lv_mono (fun x hx => List.mem_append.mpr (Or.inr hx))
  have b := lv_le2 (K := K) (φ := φ) (X := X ++ Y)
  have c : lv K φ (X ++ Y) = 0 ∨ lv K φ (X ++ Y) = 1 ∨ lv K φ (X ++ Y) = 2 := by omega
  rcases c with c | c | c
  · omega
  · have h3 := (lv_1 c).2
    rw [List.any_append, Bool.or_eq_true] at h3
    rcases h3 with h3 | h3
    · have : lv K φ X ≠ 0 := fun z => by rw [(lv_0.mp z).2] at h3; cases h3
      omega
    · have : lv K φ Y ≠ 0 := fun z => by rw [(lv_0.mp z).2] at h3; cases h3
      omega
  · have h3 := lv_2.mp c
    rw [List.any_append, Bool.or_eq_true] at h3
    rcases h3 with h3 | h3
    · have := lv_2.mpr h3; omega
    · have := lv_2.mpr h3; omega
theorem lv_K {L : List (Nat × sp3)} (h : ∀ x ∈ X, x < K.length) : lv (K ++ L) φ X = lv K φ X := by
  have e1 : X.any (stK (K ++ L) φ) = X.any (stK K φ) := by
    refine bool_ext ?_
    rw [any_iff, any_iff]
    constructor
    · rintro ⟨x, a, b⟩
      refine ⟨x, a, ?_⟩
      unfold stK at b ⊢
      rw [List.getElem?_append_left (h x a)] at b
      exact b
    · rintro ⟨x, a, b⟩
      refine ⟨x, a, ?_⟩
      unfold stK at b ⊢
      rw [List.getElem?_append_left (h x a)]
      exact b
  have e2 : X.any (alK (K ++ L) φ) = X.any (alK K φ) := by
    refine bool_ext ?_
    rw [any_iff, any_iff]
    constructor
    · rintro ⟨x, a, b⟩
      refine ⟨x, a, ?_⟩
      unfold alK at b ⊢
      rw [List.getElem?_append_left (h x a)] at b
      exact b
    · rintro ⟨x, a, b⟩
      refine ⟨x, a, ?_⟩
      unfold alK at b ⊢
      rw [List.getElem?_append_left (h x a)]
      exact b
  unfold lv
  rw [e1, e2]
theorem stK_iff {y : Nat} : stK K φ y = true ↔ ∃ q, K[y]? = some q ∧ fiInc q.2 φ = true ∧ fiInc φ q.2 = false := by
  unfold stK
  cases h : K[y]? with
  | none => simp
  | some q => simp
theorem alK_iff {y : Nat} : alK K φ y = true ↔ ∃ q, K[y]? = some q ∧ fiInc q.2 φ = true ∧ fiInc φ q.2 = true := by
  unfold alK
  cases h : K[y]? with
  | none => simp
  | some q => simp
/-- in an antichain a strict coverer and an alike one do not stand together -/
theorem anC.no (h : anC K X) (h1 : X.any (stK K φ) = true) : X.any (alK K φ) = false := by
  rw [← Bool.not_eq_true]
  intro h2
  obtain ⟨g, g1, g2⟩ := any_iff.mp h1
  obtain ⟨y, y1, y2⟩ := any_iff.mp h2
  obtain ⟨q, q1, q2, q3⟩ := stK_iff.mp g2
  obtain ⟨r, r1, r2, r3⟩ := alK_iff.mp y2
  have h3 := h g g1 y y1
  rw [← Bool.not_eq_true] at h3
  refine h3 (covB_iff.mpr ⟨q, r, q1, r1, fun e => ?_, fiInc_trans q2 r3⟩)
  subst e
  rw [q1] at r1
  rw [← Option.some.inj r1] at r3
  rw [q3] at r3
  cases r3
theorem anC.sub (h : anC K X) (hs : ∀ x ∈ Y, x ∈ X) : anC K Y := fun a ha c hc => h a (hs a ha) c (hs c hc)
theorem apl_mem {m x : Nat} : x ∈ apl X m ↔ (m % 3 = 2 ∧ x ∈ X) ∨ (m % 3 = 0 ∧ (x ∈ X ∨ x = m / 3)) ∨ (m % 3 = 1 ∧ x ∈ X ∧ x ≠ m / 3) := by
  unfold apl
  by_cases c2 : m % 3 = 2
  · rw [if_pos c2]
    constructor
    · exact fun z => Or.inl ⟨c2, z⟩
    · rintro (z | z | z)
      · exact z.2
      · omega
      · omega
  · rw [if_neg c2]
    by_cases c0 : m % 3 = 0
    · rw [if_pos c0]
      unfold addL
      split
      · rename_i h
        constructor
        · exact fun z => Or.inr (Or.inl ⟨c0, Or.inl z⟩)
        · rintro (z | z | z)
          · omega
          · rcases z.2 with y | y
            · exact y
            · rw [y]; exact h
          · omega
      · rw [List.mem_append, List.mem_singleton]
        constructor
        · exact fun z => Or.inr (Or.inl ⟨c0, z⟩)
        · rintro (z | z | z)
          · omega
          · exact z.2
          · omega
    · rw [if_neg c0]
      unfold rmv
      rw [List.mem_filter, Bool.not_eq_true', beq_eq_false_iff_ne]
      constructor
      · exact fun z => Or.inr (Or.inr ⟨by omega, z⟩)
      · rintro (z | z | z)
        · omega
        · omega
        · exact z.2
theorem apl_m {m : Nat} (h : eqm X Y) : eqm (apl X m) (apl Y m) := fun x => by
  rw [apl_mem, apl_mem, h x]
theorem apQ_m : ∀ (Q X Y : List Nat), eqm X Y → eqm (apQ X Q) (apQ Y Q) := by
  intro Q
  induction Q with
  | nil => intro X Y h; exact h
  | cons m Q ih => intro X Y h; exact ih _ _ (apl_m h)
theorem pd_m : ∀ (Q X Y : List Nat), eqm X Y → pd K φ X Q = pd K φ Y Q := by
  intro Q
  induction Q with
  | nil => intro X Y _; rfl
  | cons m Q ih =>
    intro X Y h
    show (if lv K φ (apl X m) = lv K φ X then 0 else 1) + pd K φ (apl X m) Q = (if lv K φ (apl Y m) = lv K φ Y then 0 else 1) + pd K φ (apl Y m) Q
    rw [lv_m (apl_m h), lv_m h, ih _ _ (apl_m h)]
theorem apQ_app : apQ X (Q ++ R) = apQ (apQ X Q) R := List.foldl_append
theorem pd_app : ∀ (Q X : List Nat), pd K φ X (Q ++ R) = pd K φ X Q + pd K φ (apQ X Q) R := by
  intro Q
  induction Q with
  | nil => intro X; exact (Nat.zero_add _).symm
  | cons m Q ih =>
    intro X
    show _ + pd K φ (apl X m) (Q ++ R) = (_ + pd K φ (apl X m) Q) + pd K φ (apQ (apl X m) Q) R
    rw [ih, Nat.add_assoc]
theorem apQ_tell : ∀ (W X : List Nat), eqm (apQ X (W.map (fun x => x * 3))) (X ++ W) := by
  intro W
  induction W with
  | nil => intro X; rw [List.append_nil]; exact eqm.rf
  | cons w W ih =>
    intro X x
    show x ∈ apQ (apl X (w * 3)) (W.map (fun x => x * 3)) ↔ _
    rw [ih (apl X (w * 3)) x, List.mem_append, apl_mem, List.mem_append, List.mem_cons, show w * 3 / 3 = w by omega]
    constructor
    · rintro ((z | z | z) | z)
      · omega
      · rcases z.2 with y | y
        · exact Or.inl y
        · exact Or.inr (Or.inl y)
      · omega
      · exact Or.inr (Or.inr z)
    · rintro (z | z | z)
      · exact Or.inl (Or.inr (Or.inl ⟨by omega, Or.inl z⟩))
      · exact Or.inl (Or.inr (Or.inl ⟨by omega, Or.inr z⟩))
      · exact Or.inr z
theorem apQ_drop : ∀ (D X : List Nat), eqm (apQ X (D.map (fun x => x * 3 + 1))) (X.filter (fun x => decide (x ∉ D))) := by
  intro D
  induction D with
  | nil =>
    intro X x
    show x ∈ X ↔ _
    rw [List.mem_filter]
    simp
  | cons w D ih =>
    intro X x
    show x ∈ apQ (apl X (w * 3 + 1)) (D.map (fun x => x * 3 + 1)) ↔ _
    rw [ih (apl X (w * 3 + 1)) x, List.mem_filter, List.mem_filter, apl_mem, decide_eq_true_eq, decide_eq_true_eq, List.mem_cons, show (w * 3 + 1) / 3 = w by omega]
    constructor
    · rintro ⟨z | z | z, y⟩
      · omega
      · omega
      · exact ⟨z.2.1, fun q => q.elim z.2.2 y⟩
    · rintro ⟨z, y⟩
      exact ⟨Or.inr (Or.inr ⟨by omega, z, fun q => y (Or.inl q)⟩), fun q => y (Or.inr q)⟩
theorem pd_tell : ∀ (W X : List Nat), (lv K φ X = 0 → lv K φ (X ++ W) = 2 → W.any (alK K φ) = false) → pd K φ X (W.map (fun x => x * 3)) ≤ if lv K φ (X ++ W) = lv K φ X then 0 else 1 := by
  intro W
  induction W with
  | nil => intro X _; exact Nat.zero_le _
  | cons w W ih =>
    intro X hH
    have e1 : eqm (apl X (w * 3)) (X ++ [w]) := fun x => by
      rw [apl_mem, List.mem_append, List.mem_singleton, show w * 3 / 3 = w by omega]
      constructor
      · rintro (z | z | z)
        · omega
        · exact z.2
        · omega
      · exact fun z => Or.inr (Or.inl ⟨by omega, z⟩)
    have e2 : eqm (apl X (w * 3) ++ W) (X ++ w :: W) := fun x => by
      rw [List.mem_append, e1 x, List.mem_append, List.mem_append, List.mem_singleton, List.mem_cons, or_assoc]
    have h1 := ih (apl X (w * 3)) (fun a b => by
      rw [lv_m e2] at b
      rw [lv_m e1, lv_app] at a
      have := hH (by omega) b
      rw [List.any_cons, Bool.or_eq_false_iff] at this
      exact this.2)
    rw [lv_m e2] at h1
    have m1 : lv K φ X ≤ lv K φ (apl X (w * 3)) := lv_mono (fun x hx => (e1 x).mpr (List.mem_append.mpr (Or.inl hx)))
    have m2 : lv K φ (apl X (w * 3)) ≤ lv K φ (X ++ w :: W) := by
      rw [← lv_m e2]
      exact lv_mono (fun x hx => List.mem_append.mpr (Or.inl hx))
    have b := lv_le2 (K := K) (φ := φ) (X := X ++ w :: W)
    show (if lv K φ (apl X (w * 3)) = lv K φ X then 0 else 1) + pd K φ (apl X (w * 3)) (W.map (fun x => x * 3)) ≤ _
    by_cases c : lv K φ (apl X (w * 3)) = lv K φ X
    · rw [if_pos c, Nat.zero_add, ← c]
      exact h1
    · rw [if_neg c]
      have c2 : lv K φ (X ++ w :: W) = lv K φ (apl X (w * 3)) := by
        refine Classical.byContradiction fun z => ?_
        have q0 : lv K φ X = 0 := by omega
        have q1 : lv K φ (apl X (w * 3)) = 1 := by omega
        have q2 : lv K φ (X ++ w :: W) = 2 := by omega
        have q3 := hH q0 q2
        rw [List.any_cons, Bool.or_eq_false_iff] at q3
        have q4 := (lv_1 q1).2
        rw [any_m e1, List.any_append, (lv_0.mp q0).2, Bool.false_or, List.any_cons, q3.1] at q4
        simp at q4
      rw [if_pos c2] at h1
      rw [if_neg (by omega)]
      omega
theorem pd_drop : ∀ (D X : List Nat), (lv K φ X = 2 → lv K φ (X.filter (fun x => decide (x ∉ D))) = 0 → X.any (alK K φ) = false) → pd K φ X (D.map (fun x => x * 3 + 1)) ≤ if lv K φ (X.filter (fun x => decide (x ∉ D))) = lv K φ X then 0 else 1 := by
  intro D
  induction D with
  | nil => intro X _; exact Nat.zero_le _
  | cons w D ih =>
    intro X hH
    have s1 : ∀ x ∈ apl X (w * 3 + 1), x ∈ X ∧ x ≠ w := fun x hx => by
      rw [apl_mem, show (w * 3 + 1) / 3 = w by omega] at hx
      rcases hx with z | z | z
      · omega
      · omega
      · exact z.2
    have e2 : eqm ((apl X (w * 3 + 1)).filter (fun x => decide (x ∉ D))) (X.filter (fun x => decide (x ∉ w :: D))) := fun x => by
      rw [List.mem_filter, List.mem_filter, apl_mem, decide_eq_true_eq, decide_eq_true_eq, List.mem_cons, show (w * 3 + 1) / 3 = w by omega]
      constructor
      · rintro ⟨z | z | z, y⟩
        · omega
        · omega
        · exact ⟨z.2.1, fun q => q.elim z.2.2 y⟩
      · rintro ⟨z, y⟩
        exact ⟨Or.inr (Or.inr ⟨by omega, z, fun q => y (Or.inl q)⟩), fun q => y (Or.inr q)⟩
    have al1 : X.any (alK K φ) = false → (apl X (w * 3 + 1)).any (alK K φ) = false := fun z => by
      rw [← Bool.not_eq_true]
      intro y
      obtain ⟨x, a, b⟩ := any_iff.mp y
      rw [any_iff.mpr ⟨x, (s1 x a).1, b⟩] at z
      cases z
    have m1 : lv K φ (apl X (w * 3 + 1)) ≤ lv K φ X := lv_mono (fun x hx => (s1 x hx).1)
    have m2 : lv K φ (X.filter (fun x => decide (x ∉ w :: D))) ≤ lv K φ (apl X (w * 3 + 1)) := by
      rw [← lv_m e2]
      exact lv_mono (fun x hx => (List.mem_filter.mp hx).1)
    have b := lv_le2 (K := K) (φ := φ) (X := X)
    have h1 := ih (apl X (w * 3 + 1)) (fun a c => by
      rw [lv_m e2] at c
      exact al1 (hH (by omega) c))
    rw [lv_m e2] at h1
    show (if lv K φ (apl X (w * 3 + 1)) = lv K φ X then 0 else 1) + pd K φ (apl X (w * 3 + 1)) (D.map (fun x => x * 3 + 1)) ≤ _
    by_cases c : lv K φ (apl X (w * 3 + 1)) = lv K φ X
    · rw [if_pos c, Nat.zero_add, ← c]
      exact h1
    · rw [if_neg c]
      have c2 : lv K φ (X.filter (fun x => decide (x ∉ w :: D))) = lv K φ (apl X (w * 3 + 1)) := by
        refine Classical.byContradiction fun z => ?_
        have q2 : lv K φ X = 2 := by omega
        have q1 : lv K φ (apl X (w * 3 + 1)) = 1 := by omega
        have q4 := (lv_1 q1).2
        rw [al1 (hH q2 (by omega))] at q4
        cases q4
      rw [if_pos c2] at h1
      rw [if_neg (by omega)]
      omega
/-- what a settling puts into a line: from what was told, X, to what is needed, Y -/
theorem pd_settle (hX : anC K X) (hY : anC K Y) (hZ : eqm Z X) :
    pd K φ Z ((Y.filter (fun x => decide (x ∉ X))).map (fun x => x * 3) ++ ((X ++ Y.filter (fun x => decide (x ∉ X))).filter (fun x => decide (x ∉ Y))).map (fun x => x * 3 + 1)) ≤ (if lv K φ X = lv K φ Y then 0 else 1) ∧
    eqm (apQ Z ((Y.filter (fun x => decide (x ∉ X))).map (fun x => x * 3) ++ ((X ++ Y.filter (fun x => decide (x ∉ X))).filter (fun x => decide (x ∉ Y))).map (fun x => x * 3 + 1))) Y := by
  generalize hW : Y.filter (fun x => decide (x ∉ X)) = W
  generalize hD : (X ++ W).filter (fun x => decide (x ∉ Y)) = D
  have mW : ∀ x, x ∈ W ↔ x ∈ Y ∧ x ∉ X := fun x => by rw [← hW, List.mem_filter, decide_eq_true_eq]
  have mD : ∀ x, x ∈ D ↔ (x ∈ X ∨ x ∈ W) ∧ x ∉ Y := fun x => by rw [← hD, List.mem_filter, decide_eq_true_eq, List.mem_append]
  have eXW : eqm (X ++ W) (X ++ Y) := fun x => by
    rw [List.mem_append, List.mem_append, mW]
    constructor
    · rintro (z | z)
      · exact Or.inl z
      · exact Or.inr z.1
    · rintro (z | z)
      · exact Or.inl z
      · by_cases c : x ∈ X
        · exact Or.inl c
        · exact Or.inr ⟨z, c⟩
  have lXW : lv K φ (X ++ W) = max (lv K φ X) (lv K φ Y) := by rw [lv_m eXW, lv_app]
  have eT : eqm (apQ X (W.map (fun x => x * 3))) (X ++ W) := apQ_tell W X
  have eF : eqm ((apQ X (W.map (fun x => x * 3))).filter (fun x => decide (x ∉ D))) Y := fun x => by
    rw [List.mem_filter, eT x, decide_eq_true_eq, List.mem_append, mD]
    constructor
    · rintro ⟨z, y⟩
      exact Classical.byContradiction fun q => y ⟨z, q⟩
    · intro z
      refine ⟨?_, fun q => q.2 z⟩
      by_cases c : x ∈ X
      · exact Or.inl c
      · exact Or.inr ((mW x).mpr ⟨z, c⟩)
  have t1 := pd_tell (K := K) (φ := φ) W X (fun a b => by
    rw [lXW] at b
    have h2 : lv K φ Y = 2 := by have := lv_le2 (K := K) (φ := φ) (X := Y); omega
    have h3 := hY.no (lv_2.mp h2)
    rw [← Bool.not_eq_true]
    intro z
    obtain ⟨x, x1, x2⟩ := any_iff.mp z
    rw [any_iff.mpr ⟨x, ((mW x).mp x1).1, x2⟩] at h3
    cases h3)
  have t2 := pd_drop (K := K) (φ := φ) D (apQ X (W.map (fun x => x * 3))) (fun a b => by
    rw [lv_m eF] at b
    rw [lv_m eT, lXW] at a
    have h2 : lv K φ X = 2 := by omega
    have h3 := hX.no (lv_2.mp h2)
    rw [any_m (eT.trans eXW), List.any_append, h3, Bool.false_or]
    exact (lv_0.mp b).2)
  rw [lv_m eF, lv_m eT, lXW] at t2
  rw [lXW] at t1
  constructor
  · rw [pd_m _ _ _ hZ, pd_app]
    by_cases c : lv K φ X = lv K φ Y
    · rw [if_pos c]
      rw [if_pos (by omega)] at t1 t2
      omega
    · rw [if_neg c]
      by_cases c2 : lv K φ X < lv K φ Y
      · rw [if_pos (by omega)] at t2
        rw [if_neg (by omega)] at t1
        omega
      · rw [if_pos (by omega)] at t1
        rw [if_neg (by omega)] at t2
        omega
  · rw [apQ_app]
    refine (apQ_m _ _ _ (apQ_m _ _ _ hZ)).trans ?_
    exact (apQ_drop D _).trans eF
/-! what is needed covers what is offered -/
theorem covB_trans {a c e : Nat} (hK : ∀ (a c : Nat) (q r : Nat × sp3), K[a]? = some q → K[c]? = some r → fiInc q.2 r.2 = true → fiInc r.2 q.2 = true → a = c) (h1 : covB K a c = true) (h2 : covB K c e = true) : covB K a e = true := by
  obtain ⟨q, r, q1, r1, n1, i1⟩ := covB_iff.mp h1
  obtain ⟨r', t, r1', t1, n2, i2⟩ := covB_iff.mp h2
  rw [r1] at r1'
  have e1 := Option.some.inj r1'
  subst e1
  refine covB_iff.mpr ⟨q, t, q1, t1, fun z => ?_, fiInc_trans i1 i2⟩
  subst z
  rw [q1] at t1
  have e2 := Option.some.inj t1
  subst e2
  exact n1 (hK a c q r q1 r1 i1 i2)
theorem need_top (hK : ∀ (a c : Nat) (q r : Nat × sp3), K[a]? = some q → K[c]? = some r → fiInc q.2 r.2 = true → fiInc r.2 q.2 = true → a = c) : ∀ (n y : Nat), y ∈ X → (X.filter (fun z => covB K z y)).length ≤ n → ∃ m, m ∈ needF K X ∧ (m = y ∨ covB K m y = true) := by
  intro n
  induction n with
  | zero =>
    intro y hy hn
    refine ⟨y, ?_, Or.inl rfl⟩
    unfold needF
    rw [List.mem_filter, Bool.not_eq_true', ← Bool.not_eq_true]
    refine ⟨hy, fun z => ?_⟩
    obtain ⟨x, x1, x2⟩ := any_iff.mp z
    have := List.length_pos_of_mem (List.mem_filter (p := fun z => covB K z y).mpr ⟨x1, x2⟩)
    omega
  | succ n ih =>
    intro y hy hn
    by_cases c : X.any (fun z => covB K z y) = true
    · obtain ⟨x, x1, x2⟩ := any_iff.mp c
      have irr : covB K x x = false := by
        rw [← Bool.not_eq_true]
        intro z
        obtain ⟨_, _, _, _, q, _⟩ := covB_iff.mp z
        exact q rfl
      have lt := filt_lt X x (p := fun z => covB K z y) (q := fun z => covB K z x) (fun a _ ha => covB_trans hK ha x2) x1 x2 irr
      obtain ⟨m, m1, m2⟩ := ih x x1 (by omega)
      refine ⟨m, m1, Or.inr ?_⟩
      rcases m2 with m2 | m2
      · rw [m2]; exact x2
      · exact covB_trans hK m2 x2
    · refine ⟨y, ?_, Or.inl rfl⟩
      unfold needF
      rw [List.mem_filter, Bool.not_eq_true', ← Bool.not_eq_true]
      exact ⟨hy, c⟩
theorem lv_need (hK : ∀ (a c : Nat) (q r : Nat × sp3), K[a]? = some q → K[c]? = some r → fiInc q.2 r.2 = true → fiInc r.2 q.2 = true → a = c) : lv K φ (needF K X) = lv K φ X := by
  have sub : ∀ x ∈ needF K X, x ∈ X := fun x hx => (List.mem_filter.mp hx).1
  refine Nat.le_antisymm (lv_mono sub) ?_
  have up : ∀ y ∈ X, ∀ q, K[y]? = some q → ∃ m r, m ∈ needF K X ∧ K[m]? = some r ∧ fiInc r.2 q.2 = true := by
    intro y hy q hq
    obtain ⟨m, m1, m2⟩ := need_top hK _ y hy (Nat.le_refl _)
    rcases m2 with m2 | m2
    · subst m2
      exact ⟨m, q, m1, hq, fiInc_refl⟩
    · obtain ⟨r, q', r1, q1', _, i1⟩ := covB_iff.mp m2
      rw [hq] at q1'
      rw [Option.some.inj q1']
      exact ⟨m, r, m1, r1, i1⟩
  have b := lv_le2 (K := K) (φ := φ) (X := X)
  have c : lv K φ X = 0 ∨ lv K φ X = 1 ∨ lv K φ X = 2 := by omega
  rcases c with c | c | c
  · omega
  · obtain ⟨y, y1, y2⟩ := any_iff.mp (lv_1 c).2
    obtain ⟨q, q1, q2, q3⟩ := alK_iff.mp y2
    obtain ⟨m, r, m1, r1, r2⟩ := up y y1 q q1
    have h0 : lv K φ (needF K X) ≠ 0 := fun z => by
      obtain ⟨z1, z2⟩ := lv_0.mp z
      have i1 : fiInc r.2 φ = true := fiInc_trans r2 q2
      cases i2 : fiInc φ r.2 with
      | true => rw [any_iff.mpr ⟨m, m1, alK_iff.mpr ⟨r, r1, i1, i2⟩⟩] at z2; cases z2
      | false => rw [any_iff.mpr ⟨m, m1, stK_iff.mpr ⟨r, r1, i1, i2⟩⟩] at z1; cases z1
    omega
  · obtain ⟨y, y1, y2⟩ := any_iff.mp (lv_2.mp c)
    obtain ⟨q, q1, q2, q3⟩ := stK_iff.mp y2
    obtain ⟨m, r, m1, r1, r2⟩ := up y y1 q q1
    have : lv K φ (needF K X) = 2 := lv_2.mpr (any_iff.mpr ⟨m, m1, stK_iff.mpr ⟨r, r1, fiInc_trans r2 q2, by
      rw [← Bool.not_eq_true]
      intro z
      have := fiInc_trans z r2
      rw [q3] at this
      cases this⟩⟩)
    omega
theorem need_anC : anC K (needF K X) := fun a ha c hc => by
  have h1 := (List.mem_filter.mp ha).1
  have h2 := (List.mem_filter.mp hc).2
  rw [Bool.not_eq_true'] at h2
  rw [← Bool.not_eq_true] at h2 ⊢
  exact fun z => h2 (any_iff.mpr ⟨a, h1, z⟩)
/-- in an antichain of the catalog a number stands just when its level is one -/
theorem anC.one (hK : ∀ (a c : Nat) (q r : Nat × sp3), K[a]? = some q → K[c]? = some r → fiInc q.2 r.2 = true → fiInc r.2 q.2 = true → a = c) (h : anC K X) {f : Nat} {q : Nat × sp3} (hf : K[f]? = some q) : f ∈ X ↔ lv K q.2 X = 1 := by
  constructor
  · intro hx
    have h1 : X.any (alK K q.2) = true := any_iff.mpr ⟨f, hx, alK_iff.mpr ⟨q, hf, fiInc_refl, fiInc_refl⟩⟩
    have h2 : X.any (stK K q.2) = false := by
      rw [← Bool.not_eq_true]
      intro z
      rw [h.no z] at h1
      cases h1
    have b := lv_le2 (K := K) (φ := q.2) (X := X)
    have n0 : lv K q.2 X ≠ 0 := fun z => by rw [(lv_0.mp z).2] at h1; cases h1
    have n2 : lv K q.2 X ≠ 2 := fun z => by rw [lv_2.mp z] at h2; cases h2
    omega
  · intro z
    obtain ⟨y, y1, y2⟩ := any_iff.mp (lv_1 z).2
    obtain ⟨r, r1, r2, r3⟩ := alK_iff.mp y2
    rw [← hK y f r q r1 hf r2 r3]
    exact y1
end

