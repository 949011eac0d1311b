/-! What goes along the lines: the account of it -/
def KK (K : List (Nat × sp3)) : Prop := ∀ (a c : Nat) (q r : Nat × sp3), K[a]? = some q → K[c]? = some r → fiInc q.2 r.2 = true → fiInc r.2 q.2 = true → a = c
def kf (K : List (Nat × sp3)) (f : Nat) : sp3 := match K[f]? with
  | some q => q.2
  | none => fi0
def ow (S : bS) (u : Nat) : List Nat := ((List.range (b_s S)).filter (fun q => decide (b_en S q = false ∧ b_su S q % 6 = u))).map (b_wa S)
def fam (S : bS) (p : Nat → Nat) (u t : Nat) : Option Nat → List Nat
  | none => ow S u
  | some j => if j < 10 ∧ toF p j = u ∧ frF p j ≠ t then b_H S j else []
def fF (p : Nat → Nat) (S : bS) (C A O : Nat → sp3 → Nat) : Prop :=
  (∀ j, j < 10 → ∀ φ, A j φ + pd (b_K S) φ (b_H S j) (b_Q S j) ≤ C j φ) ∧
  (∀ j, j < 10 → ∀ φ, C j φ + (if lv (b_K S) φ (b_T S j) = lv (b_K S) φ (offF S p (frF p j) (toF p j)) then 0 else 1) ≤ O (frF p j) φ + feed p (fun k => A k φ) j) ∧
  (∀ j, j < 10 → eqm (apQ (b_H S j) (b_Q S j)) (b_T S j) ∧ anC (b_K S) (b_T S j) ∧ (b_T S j).Nodup ∧ (∀ x ∈ b_T S j, x < (b_K S).length) ∧ (∀ x ∈ b_H S j, x < (b_K S).length) ∧ ∀ m ∈ b_Q S j, m % 3 ≠ 2 → m / 3 < (b_K S).length) ∧
  (∀ q, q < b_s S → b_wa S q < (b_K S).length) ∧ KK (b_K S)
def fN (p : Nat → Nat) (S : bS) (C A O G : Nat → Nat → Nat) : Prop :=
  (∀ j, j < 10 → ∀ n, A j n + (b_Q S j).count (n * 3 + 2) ≤ C j n) ∧
  (∀ j, j < 10 → ∀ n, C j n ≤ O (frF p j) n + feed p (fun k => A k n) j) ∧
  (∀ n, sg (fun b => O b n) 6 ≤ 1) ∧ (∀ n, (b_N S).length ≤ n → ∀ b, b < 6 → O b n = 0) ∧
  (∀ c, c < 8 → ∀ n, G c n ≤ O (c % 6) n + infl p (fun k => A k n) (c % 6)) ∧
  (∀ j, j < 10 → ∀ m ∈ b_Q S j, m % 3 = 2 → m / 3 < (b_N S).length)
def fB (S : bS) (fr : Nat → Nat) (C : Nat → sp3 → Nat) (C' G : Nat → Nat → Nat) : Prop :=
  (∀ j, j < 10 → fr j + (b_Q S j).length ≤ sg (fun f => C j (kf (b_K S) f)) (b_K S).length + sg (fun n => C' j n) (b_N S).length) ∧
  (∀ c, c < 8 → fr (10 + c) + (b_Q S (10 + c)).length ≤ sg (fun n => G c n) (b_N S).length)
def rs (p : Nat → Nat) (S : bS) (j : Nat) : Prop := eqm (b_T S j) (needF (b_K S) (offF S p (frF p j) (toF p j)))
theorem addL_mem {L : List Nat} {y x : Nat} : x ∈ addL L y ↔ x ∈ L ∨ x = y := by
  unfold addL
  split
  · rename_i h
    constructor
    · exact Or.inl
    · rintro (z | z)
      · exact z
      · rw [z]; exact h
  · rw [List.mem_append, List.mem_singleton]
section
variable {p : Nat → Nat} {S : bS} {u t x : Nat}
theorem offS_mem : ∀ (n k : Nat) (L : List Nat), x ∈ lp (offS S u) n k L ↔ x ∈ L ∨ ∃ q, k ≤ q ∧ q < k + n ∧ (b_en S q = false ∧ b_su S q % 6 = u) ∧ b_wa S q = x := by
  intro n
  induction n with
  | zero =>
    intro k L
    show x ∈ L ↔ _
    constructor
    · exact Or.inl
    · rintro (z | ⟨q, a, b, _⟩)
      · exact z
      · omega
  | succ n ih =>
    intro k L
    show x ∈ lp (offS S u) n (k + 1) (offS S u k L) ↔ _
    rw [ih]
    have e : x ∈ offS S u k L ↔ x ∈ L ∨ ((b_en S k = false ∧ b_su S k % 6 = u) ∧ b_wa S k = x) := by
      unfold offS
      split
      · rename_i c
        rw [addL_mem]
        constructor
        · rintro (z | z)
          · exact Or.inl z
          · exact Or.inr ⟨c, z.symm⟩
        · rintro (z | z)
          · exact Or.inl z
          · exact Or.inr z.2.symm
      · rename_i c
        constructor
        · exact Or.inl
        · rintro (z | z)
          · exact z
          · exact absurd z.1 c
    rw [e]
    constructor
    · rintro ((z | z) | ⟨q, a, b, c⟩)
      · exact Or.inl z
      · exact Or.inr ⟨k, Nat.le_refl _, by omega, z⟩
      · exact Or.inr ⟨q, by omega, by omega, c⟩
    · rintro (z | ⟨q, a, b, c⟩)
      · exact Or.inl (Or.inl z)
      · by_cases h : q = k
        · subst h
          exact Or.inl (Or.inr c)
        · exact Or.inr ⟨q, by omega, by omega, c⟩
theorem fold_mem2 : ∀ (M L : List Nat), x ∈ M.foldl addL L ↔ x ∈ L ∨ x ∈ M := fun M L => fold_mem M L x
theorem offH_mem : ∀ (n k : Nat) (L : List Nat), x ∈ lp (offH S p u t) n k L ↔ x ∈ L ∨ ∃ m j, k ≤ m ∧ m < k + n ∧ m ≠ t ∧ lkF p (6 * m + u) = some j ∧ x ∈ b_H S j := by
  intro n
  induction n with
  | zero =>
    intro k L
    show x ∈ L ↔ _
    constructor
    · exact Or.inl
    · rintro (z | ⟨q, j, a, b, _⟩)
      · exact z
      · omega
  | succ n ih =>
    intro k L
    show x ∈ lp (offH S p u t) n (k + 1) (offH S p u t k L) ↔ _
    rw [ih]
    have e : x ∈ offH S p u t k L ↔ x ∈ L ∨ ∃ j, k ≠ t ∧ lkF p (6 * k + u) = some j ∧ x ∈ b_H S j := by
      unfold offH
      cases h : lkF p (6 * k + u) with
      | none =>
        constructor
        · exact Or.inl
        · rintro (z | ⟨j, _, z, _⟩)
          · exact z
          · cases z
      | some j =>
        show x ∈ (if k = t then L else (b_H S j).foldl addL L) ↔ _
        by_cases c : k = t
        · rw [if_pos c]
          constructor
          · exact Or.inl
          · rintro (z | ⟨j, z, _⟩)
            · exact z
            · exact absurd c z
        · rw [if_neg c, fold_mem2]
          constructor
          · rintro (z | z)
            · exact Or.inl z
            · exact Or.inr ⟨j, c, rfl, z⟩
          · rintro (z | ⟨j', _, z, z2⟩)
            · exact Or.inl z
            · rw [Option.some.inj z]
              exact Or.inr z2
    rw [e]
    constructor
    · rintro ((z | ⟨j, z⟩) | ⟨m, j, a, b, c⟩)
      · exact Or.inl z
      · exact Or.inr ⟨k, j, Nat.le_refl _, by omega, z⟩
      · exact Or.inr ⟨m, j, by omega, by omega, c⟩
    · rintro (z | ⟨m, j, a, b, c⟩)
      · exact Or.inl (Or.inl z)
      · by_cases h : m = k
        · subst h
          exact Or.inl (Or.inr ⟨j, c⟩)
        · exact Or.inr ⟨m, j, by omega, by omega, c⟩
theorem ow_mem : x ∈ ow S u ↔ ∃ q, q < b_s S ∧ (b_en S q = false ∧ b_su S q % 6 = u) ∧ b_wa S q = x := by
  unfold ow
  rw [List.mem_map]
  constructor
  · rintro ⟨q, a, b⟩
    rw [List.mem_filter, List.mem_range, decide_eq_true_eq] at a
    exact ⟨q, a.1, a.2, b⟩
  · rintro ⟨q, a, b, c⟩
    exact ⟨q, by rw [List.mem_filter, List.mem_range, decide_eq_true_eq]; exact ⟨a, b⟩, c⟩
theorem off_fam (hp : isP p) (hu : u < 6) : ∀ x, x ∈ offF S p u t ↔ ∃ i, x ∈ fam S p u t i := by
  intro x
  unfold offF
  rw [offH_mem, offS_mem]
  constructor
  · rintro ((z | ⟨q, a, b, c, e⟩) | ⟨m, j, a, b, c, e, f⟩)
    · cases z
    · exact ⟨none, ow_mem.mpr ⟨q, by omega, c, e⟩⟩
    · have h1 := lkF_k e
      refine ⟨some j, ?_⟩
      show x ∈ (if j < 10 ∧ toF p j = u ∧ frF p j ≠ t then b_H S j else [])
      rw [if_pos ⟨lkF_lt e (by omega), by rw [h1.2]; omega, by rw [h1.1]; omega⟩]
      exact f
  · rintro ⟨i, hi⟩
    cases i with
    | none =>
      obtain ⟨q, a, c, e⟩ := ow_mem.mp hi
      exact Or.inl (Or.inr ⟨q, Nat.zero_le _, by omega, c, e⟩)
    | some j =>
      have hi' : x ∈ (if j < 10 ∧ toF p j = u ∧ frF p j ≠ t then b_H S j else []) := hi
      by_cases c : j < 10 ∧ toF p j = u ∧ frF p j ≠ t
      · rw [if_pos c] at hi'
        obtain ⟨a1, a2, a3⟩ := lkF_j hp c.1
        rw [c.2.1] at a3
        exact Or.inr ⟨frF p j, j, Nat.zero_le _, by omega, c.2.2, a3, hi'⟩
      · rw [if_neg c] at hi'
        cases hi'
end
/-- what one settled line becomes -/
theorem slS_f {p : Nat → Nat} {S : bS} {j : Nat} : sm S (slS p S j) ∧ b_H (slS p S j) = b_H S ∧
  b_T (slS p S j) = ub (b_T S) j ((b_T S j ++ (needF (b_K S) (offF S p (frF p j) (toF p j))).filter (fun x => decide (x ∉ b_T S j))).filter (fun x => decide (x ∈ needF (b_K S) (offF S p (frF p j) (toF p j))))) ∧
  b_Q (slS p S j) = ub (b_Q S) j (b_Q S j ++ (((needF (b_K S) (offF S p (frF p j) (toF p j))).filter (fun x => decide (x ∉ b_T S j))).map (fun x => x * 3) ++ ((b_T S j ++ (needF (b_K S) (offF S p (frF p j) (toF p j))).filter (fun x => decide (x ∉ b_T S j))).filter (fun x => decide (x ∉ needF (b_K S) (offF S p (frF p j) (toF p j))))).map (fun x => x * 3 + 1))) := by
  obtain ⟨a, a1, a2, a3, a4⟩ := slA_sm (p := p) (S := S) (j := j)
  have nA : b_nd (slA p S j) = needF (b_K S) (offF S p (frF p j) (toF p j)) := by unfold slA; rw [bg_nd]
  have eT : b_T (slB (slA p S j) j) j = b_T S j ++ (needF (b_K S) (offF S p (frF p j) (toF p j))).filter (fun x => decide (x ∉ b_T S j)) := by
    unfold slB
    rw [tlS_T, ub_same, nA, a1]
  have eN : b_nd (slB (slA p S j) j) = needF (b_K S) (offF S p (frF p j) (toF p j)) := by
    unfold slB
    rw [tlS_nd, nA]
  have s1 : sm (slA p S j) (slB (slA p S j) j) := by
    unfold sm slB tlS
    rw [bg_n_cn, bg_n_Q, bg_n_T, bg_g_cn, bg_g_Q, bg_g_T, bg_s_cn, bg_s_Q, bg_s_T, bg_K_cn, bg_K_Q, bg_K_T, bg_su_cn, bg_su_Q, bg_su_T, bg_wa_cn, bg_wa_Q, bg_wa_T, bg_en_cn, bg_en_Q, bg_en_T, bg_N_cn, bg_N_Q, bg_N_T]
    exact ⟨rfl, rfl, rfl, rfl, rfl, rfl, rfl, rfl⟩
  have s2 : sm (slB (slA p S j) j) (slC (slB (slA p S j) j) j) := by
    unfold sm
    generalize slB (slA p S j) j = B
    unfold slC dpS
    rw [bg_n_cn, bg_n_Q, bg_n_T, bg_g_cn, bg_g_Q, bg_g_T, bg_s_cn, bg_s_Q, bg_s_T, bg_K_cn, bg_K_Q, bg_K_T, bg_su_cn, bg_su_Q, bg_su_T, bg_wa_cn, bg_wa_Q, bg_wa_T, bg_en_cn, bg_en_Q, bg_en_T, bg_N_cn, bg_N_Q, bg_N_T]
    exact ⟨rfl, rfl, rfl, rfl, rfl, rfl, rfl, rfl⟩
  refine ⟨(a.trans s1).trans s2, ?_, ?_, ?_⟩
  · have h1 : b_H (slC (slB (slA p S j) j) j) = b_H (slB (slA p S j) j) := by
      generalize slB (slA p S j) j = B
      unfold slC dpS
      rw [bg_H_cn, bg_H_Q, bg_H_T]
    have h2 : b_H (slB (slA p S j) j) = b_H (slA p S j) := by
      unfold slB tlS
      rw [bg_H_cn, bg_H_Q, bg_H_T]
    exact h1.trans (h2.trans a2)
  · show b_T (slC (slB (slA p S j) j) j) = _
    have h1 : b_T (slC (slB (slA p S j) j) j) = ub (b_T (slB (slA p S j) j)) j ((b_T (slB (slA p S j) j) j).filter (fun x => decide (x ∈ b_nd (slB (slA p S j) j)))) := dpS_T
    have h2 : b_T (slB (slA p S j) j) = ub (b_T (slA p S j)) j (b_T (slA p S j) j ++ (b_nd (slA p S j)).filter (fun x => decide (x ∉ b_T (slA p S j) j))) := tlS_T
    rw [h1, eT, eN, h2, ub_ub, a1]
  · show b_Q (slC (slB (slA p S j) j) j) = _
    rw [slC_Q, eT, eN, slB_Q, ub_same, ub_ub, nA, a1, a3, List.append_assoc]

