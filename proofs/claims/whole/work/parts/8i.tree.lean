/-! Sums, and a tree in which what flows along a link comes from behind it -/
def sg (f : Nat → Nat) : Nat → Nat
  | 0 => 0
  | n + 1 => sg f n + f n
theorem sg_le {f g : Nat → Nat} : ∀ n, (∀ i, i < n → f i ≤ g i) → sg f n ≤ sg g n := by
  intro n
  induction n with
  | zero => intro _; exact Nat.le_refl _
  | succ n ih =>
    intro h
    have h1 := ih (fun i hi => h i (by omega))
    have h2 := h n (by omega)
    simp only [sg]
    omega
theorem sg_eq {f g : Nat → Nat} (n : Nat) (h : ∀ i, i < n → f i = g i) : sg f n = sg g n := Nat.le_antisymm (sg_le n (fun i hi => Nat.le_of_eq (h i hi))) (sg_le n (fun i hi => Nat.le_of_eq (h i hi).symm))
theorem sg_bump {f g : Nat → Nat} {m e : Nat} : ∀ n, (∀ i, i < n → f i ≤ g i) → m < n → f m + e ≤ g m → sg f n + e ≤ sg g n := by
  intro n
  induction n with
  | zero => intro _ h; exact absurd h (Nat.not_lt_zero _)
  | succ n ih =>
    intro h hm he
    simp only [sg]
    by_cases c : m = n
    · subst c
      have := sg_le m (fun i hi => h i (by omega))
      omega
    · have h1 := ih (fun i hi => h i (by omega)) (by omega) he
      have h2 := h n (by omega)
      omega
theorem sg_0 (n : Nat) : sg (fun _ => 0) n = 0 := by
  induction n with
  | zero => rfl
  | succ n ih => simp only [sg]; omega
theorem sg_mul {f : Nat → Nat} {c : Nat} : ∀ n, (∀ i, i < n → f i ≤ c) → sg f n ≤ n * c := by
  intro n
  induction n with
  | zero => intro _; exact Nat.zero_le _
  | succ n ih =>
    intro h
    have h1 := ih (fun i hi => h i (by omega))
    have h2 := h n (by omega)
    simp only [sg]
    rw [Nat.succ_mul]
    omega
theorem sg_up {f : Nat → Nat} {m e : Nat} : ∀ n, m < n → sg (fun i => if i = m then f i + e else f i) n = sg f n + e := by
  intro n
  induction n with
  | zero => intro h; exact absurd h (Nat.not_lt_zero _)
  | succ n ih =>
    intro hm
    simp only [sg]
    by_cases c : m = n
    · subst c
      rw [if_pos rfl, sg_eq (f := fun i => if i = m then f i + e else f i) (g := f) m (fun i hi => if_neg (by omega))]
      omega
    · rw [if_neg (by omega), ih (by omega)]
      omega
theorem sg_at {f : Nat → Nat} {m : Nat} {n : Nat} (h : m < n) : f m ≤ sg f n := by
  have h1 := sg_bump (f := fun _ => 0) (g := f) (m := m) (e := f m) n (fun _ _ => Nat.zero_le _) h (by omega)
  rw [sg_0] at h1
  omega
/-- numbers without doubles, each of which counts at least once -/
theorem sg_nd {f : Nat → Nat} : ∀ (L : List Nat) (n : Nat) (g : Nat → Nat), L.Nodup → (∀ x ∈ L, x < n) → (∀ i, i < n → g i ≤ f i) → (∀ x ∈ L, g x + 1 ≤ f x) → sg g n + L.length ≤ sg f n := by
  intro L
  induction L with
  | nil => intro n g _ _ h _; exact sg_le n h
  | cons a L ih =>
    intro n g hd hn hg h1
    have hd2 := List.nodup_cons.mp hd
    have e := sg_up (f := g) (m := a) (e := 1) n (hn a List.mem_cons_self)
    have h2 := ih n (fun i => if i = a then g i + 1 else g i) hd2.2 (fun x hx => hn x (List.mem_cons_of_mem _ hx)) (fun i hi => by
      show (if i = a then g i + 1 else g i) ≤ f i
      split
      · rename_i c
        rw [c]
        exact h1 a List.mem_cons_self
      · exact hg i hi) (fun x hx => by
      show (if x = a then g x + 1 else g x) + 1 ≤ f x
      rw [if_neg (fun z => hd2.1 (by rw [← z]; exact hx))]
      exact h1 x (List.mem_cons_of_mem _ hx))
    rw [List.length_cons]
    omega
theorem tree {p : Nat → Nat} : ∀ (n : Nat) (cu cd o : Nat → Nat), (∀ i, 0 < i → i < n → p i < i) →
    (∀ i, 0 < i → i < n → cu i ≤ o i + sg (fun m => if 0 < m ∧ p m = i then cu m else 0) n) →
    (∀ i, 0 < i → i < n → cd i ≤ o (p i) + sg (fun m => if 0 < m ∧ p m = p i ∧ m ≠ i then cu m else 0) n + (if 0 < p i then cd (p i) else 0)) →
    ∀ b, b < n → o b + sg (fun m => if 0 < m ∧ p m = b then cu m else 0) n + (if 0 < b then cd b else 0) ≤ sg o n := by
  intro n
  induction n with
  | zero => intro cu cd o _ _ _ b hb; exact absurd hb (Nat.not_lt_zero _)
  | succ n ih =>
    intro cu cd o hp hu hd b hb
    by_cases c0 : n = 0
    · subst c0
      have eb : b = 0 := by omega
      subst eb
      simp [sg]
    · have hpn := hp n (by omega) (by omega)
      have un : cu n ≤ o n := by
        have h1 := hu n (by omega) (by omega)
        rw [sg_eq (g := fun _ => 0) (n + 1) (fun m hm => if_neg (fun z => by have := hp m z.1 hm; omega)), sg_0] at h1
        omega
      have eo := sg_up (f := o) (m := p n) (e := o n) n hpn
      have key := ih cu cd (fun i => if i = p n then o i + o n else o i) (fun i h1 h2 => hp i h1 (by omega)) (fun i h1 h2 => by
        have h3 := hu i h1 (by omega)
        simp only [sg] at h3
        show cu i ≤ (if i = p n then o i + o n else o i) + _
        by_cases c : p n = i
        · rw [if_pos ⟨by omega, c⟩] at h3
          rw [if_pos c.symm]
          omega
        · rw [if_neg (fun z => c z.2)] at h3
          rw [if_neg (fun z => c z.symm)]
          omega) (fun i h1 h2 => by
        have h3 := hd i h1 (by omega)
        simp only [sg] at h3
        show cd i ≤ (if p i = p n then o (p i) + o n else o (p i)) + _ + _
        by_cases c : p n = p i
        · rw [if_pos ⟨by omega, c, by omega⟩] at h3
          rw [if_pos c.symm]
          omega
        · rw [if_neg (fun z => c z.2.1)] at h3
          rw [if_neg (fun z => c z.symm)]
          omega)
      by_cases cb : b = n
      · subst cb
        have h3 := hd b (by omega) (by omega)
        simp only [sg] at h3 ⊢
        rw [if_neg (fun z => by omega)] at h3
        have k1 := key (p b) hpn
        rw [eo] at k1
        have e1 : sg (fun m => if 0 < m ∧ p m = p b ∧ m ≠ b then cu m else 0) b = sg (fun m => if 0 < m ∧ p m = p b then cu m else 0) b := sg_eq b (fun m hm => by
          by_cases c : 0 < m ∧ p m = p b
          · rw [if_pos c, if_pos ⟨c.1, c.2, by omega⟩]
          · rw [if_neg c, if_neg (fun z => c ⟨z.1, z.2.1⟩)])
        rw [e1] at h3
        have e2 : (if p b = p b then o (p b) + o b else o (p b)) = o (p b) + o b := if_pos rfl
        have k2 : (if p b = p b then o (p b) + o b else o (p b)) + sg (fun m => if 0 < m ∧ p m = p b then cu m else 0) b + (if 0 < p b then cd (p b) else 0) ≤ sg o b + o b := k1
        rw [e2] at k2
        rw [sg_eq (g := fun _ => 0) b (fun m hm => if_neg (fun z => by have := hp m z.1 (by omega); omega)), sg_0, if_neg (fun z => by omega), if_pos (by omega)]
        omega
      · have k1 := key b (by omega)
        rw [eo] at k1
        simp only [sg]
        have k2 : (if b = p n then o b + o n else o b) + sg (fun m => if 0 < m ∧ p m = b then cu m else 0) n + (if 0 < b then cd b else 0) ≤ sg o n + o n := k1
        by_cases c : p n = b
        · rw [if_pos ⟨by omega, c⟩]
          rw [if_pos c.symm] at k2
          omega
        · rw [if_neg (fun z => c z.2)]
          rw [if_neg (fun z => c z.symm)] at k2
          omega
def infl (p : Nat → Nat) (A : Nat → Nat) (b : Nat) : Nat := sg (fun m => if 0 < m ∧ p m = b then A (2 * m - 2) else 0) 6 + (if 0 < b then A (2 * b - 1) else 0)
def feed (p : Nat → Nat) (A : Nat → Nat) (j : Nat) : Nat := if j % 2 = 0 then sg (fun m => if 0 < m ∧ p m = j / 2 + 1 then A (2 * m - 2) else 0) 6 else sg (fun m => if 0 < m ∧ p m = p (j / 2 + 1) ∧ m ≠ j / 2 + 1 then A (2 * m - 2) else 0) 6 + (if 0 < p (j / 2 + 1) then A (2 * p (j / 2 + 1) - 1) else 0)
section
variable {p : Nat → Nat} {A A' C O : Nat → Nat}
theorem tree6 (hp : isP p) (h : ∀ j, j < 10 → C j ≤ O (frF p j) + feed p C j) : ∀ b, b < 6 → O b + infl p C b ≤ sg O 6 := by
  intro b hb
  have h1 := tree (p := p) 6 (fun i => C (2 * i - 2)) (fun i => C (2 * i - 1)) O (fun i a b => hp i a b) (fun i h1 h2 => by
    have h3 := h (2 * i - 2) (by omega)
    unfold frF feed at h3
    rw [if_pos (by omega), if_pos (by omega), show (2 * i - 2) / 2 + 1 = i by omega] at h3
    exact h3) (fun i h1 h2 => by
    have h3 := h (2 * i - 1) (by omega)
    unfold frF feed at h3
    rw [if_neg (by omega), if_neg (by omega), show (2 * i - 1) / 2 + 1 = i by omega] at h3
    show C (2 * i - 1) ≤ _
    omega) b hb
  unfold infl
  rw [← Nat.add_assoc]
  exact h1
theorem infl_at (hp : isP p) {k : Nat} (hk : k < 10) : A k ≤ infl p A (toF p k) := by
  unfold infl toF
  by_cases c : k % 2 = 0
  · rw [if_pos c]
    have h1 := sg_at (f := fun m => if 0 < m ∧ p m = p (k / 2 + 1) then A (2 * m - 2) else 0) (m := k / 2 + 1) (n := 6) (by omega)
    have e : (fun m => if 0 < m ∧ p m = p (k / 2 + 1) then A (2 * m - 2) else 0) (k / 2 + 1) = A k := by
      show (if 0 < k / 2 + 1 ∧ p (k / 2 + 1) = p (k / 2 + 1) then A (2 * (k / 2 + 1) - 2) else 0) = _
      rw [if_pos ⟨by omega, rfl⟩]
      congr 1
      omega
    have h2 := Nat.le_trans (Nat.le_of_eq e.symm) h1
    omega
  · rw [if_neg c, if_pos (by omega), show 2 * (k / 2 + 1) - 1 = k by omega]
    omega
theorem tree_le (hp : isP p) (h : ∀ j, j < 10 → C j ≤ O (frF p j) + feed p C j) {j : Nat} (hj : j < 10) : C j ≤ sg O 6 := by
  have h1 := infl_at (A := C) hp hj
  have h2 := tree6 hp h (toF p j) (lkF_j hp hj).2.1
  omega
theorem feed_le (h : ∀ k, k < 10 → A k ≤ A' k) (hp : isP p) {j : Nat} (hj : j < 10) : feed p A j ≤ feed p A' j := by
  have h0 := hp (j / 2 + 1) (by omega) (by omega)
  unfold feed
  by_cases c : j % 2 = 0
  · rw [if_pos c, if_pos c]
    refine sg_le 6 (fun m hm => ?_)
    split
    · exact h _ (by omega)
    · exact Nat.le_refl _
  · rw [if_neg c, if_neg c]
    refine Nat.add_le_add (sg_le 6 (fun m hm => ?_)) ?_
    · split
      · exact h _ (by omega)
      · exact Nat.le_refl _
    · split
      · exact h _ (by omega)
      · exact Nat.le_refl _
theorem infl_le (h : ∀ k, k < 10 → A k ≤ A' k) {b : Nat} (hb : b < 6) : infl p A b ≤ infl p A' b := by
  unfold infl
  refine Nat.add_le_add (sg_le 6 (fun m hm => ?_)) ?_
  · split
    · exact h _ (by omega)
    · exact Nat.le_refl _
  · split
    · exact h _ (by omega)
    · exact Nat.le_refl _
theorem infl_bump (h : ∀ k, k < 10 → A k ≤ A' k) {k e : Nat} (hk : k < 10) (he : A k + e ≤ A' k) (hp : isP p) : infl p A (toF p k) + e ≤ infl p A' (toF p k) := by
  have h0 := hp (k / 2 + 1) (by omega) (by omega)
  unfold infl toF
  by_cases c : k % 2 = 0
  · rw [if_pos c]
    have h1 := sg_bump (f := fun m => if 0 < m ∧ p m = p (k / 2 + 1) then A (2 * m - 2) else 0) (g := fun m => if 0 < m ∧ p m = p (k / 2 + 1) then A' (2 * m - 2) else 0) (m := k / 2 + 1) (e := e) 6 (fun m hm => by
      show (if _ then _ else _) ≤ (if _ then _ else _)
      split
      · exact h _ (by omega)
      · exact Nat.le_refl _) (by omega) (by
      show (if _ then _ else _) + e ≤ (if _ then _ else _)
      rw [if_pos ⟨by omega, rfl⟩, if_pos ⟨by omega, rfl⟩, show 2 * (k / 2 + 1) - 2 = k by omega]
      exact he)
    have h2 : (if 0 < p (k / 2 + 1) then A (2 * p (k / 2 + 1) - 1) else 0) ≤ (if 0 < p (k / 2 + 1) then A' (2 * p (k / 2 + 1) - 1) else 0) := by
      split
      · exact h _ (by omega)
      · exact Nat.le_refl _
    omega
  · rw [if_neg c, if_pos (by omega), if_pos (by omega), show 2 * (k / 2 + 1) - 1 = k by omega]
    have h1 := sg_le (f := fun m => if 0 < m ∧ p m = k / 2 + 1 then A (2 * m - 2) else 0) (g := fun m => if 0 < m ∧ p m = k / 2 + 1 then A' (2 * m - 2) else 0) 6 (fun m hm => by
      show (if _ then _ else _) ≤ (if _ then _ else _)
      split
      · exact h _ (by omega)
      · exact Nat.le_refl _)
    omega
theorem feed_bump (h : ∀ k, k < 10 → A k ≤ A' k) {k e j : Nat} (hk : k < 10) (hj : j < 10) (he : A k + e ≤ A' k) (hp : isP p) (h1 : toF p k = frF p j) (h2 : frF p k ≠ toF p j) : feed p A j + e ≤ feed p A' j := by
  have h0 := hp (j / 2 + 1) (by omega) (by omega)
  have h0' := hp (k / 2 + 1) (by omega) (by omega)
  unfold frF toF at h1 h2
  unfold feed
  by_cases cj : j % 2 = 0
  · rw [if_pos cj] at h1 h2 ⊢
    rw [if_pos cj]
    by_cases ck : k % 2 = 0
    · rw [if_pos ck] at h1 h2
      refine sg_bump (m := k / 2 + 1) 6 (fun m hm => ?_) (by omega) ?_
      · show (if _ then _ else _) ≤ (if _ then _ else _)
        split
        · exact h _ (by omega)
        · exact Nat.le_refl _
      · show (if _ then _ else _) + e ≤ (if _ then _ else _)
        rw [if_pos ⟨by omega, h1⟩, if_pos ⟨by omega, h1⟩, show 2 * (k / 2 + 1) - 2 = k by omega]
        exact he
    · rw [if_neg ck] at h1 h2
      rw [h1] at h2
      exact absurd rfl h2
  · rw [if_neg cj] at h1 h2 ⊢
    rw [if_neg cj]
    by_cases ck : k % 2 = 0
    · rw [if_pos ck] at h1 h2
      have h3 := sg_bump (f := fun m => if 0 < m ∧ p m = p (j / 2 + 1) ∧ m ≠ j / 2 + 1 then A (2 * m - 2) else 0) (g := fun m => if 0 < m ∧ p m = p (j / 2 + 1) ∧ m ≠ j / 2 + 1 then A' (2 * m - 2) else 0) (m := k / 2 + 1) (e := e) 6 (fun m hm => by
        show (if _ then _ else _) ≤ (if _ then _ else _)
        split
        · exact h _ (by omega)
        · exact Nat.le_refl _) (by omega) (by
        show (if _ then _ else _) + e ≤ (if _ then _ else _)
        rw [if_pos ⟨by omega, h1, h2⟩, if_pos ⟨by omega, h1, h2⟩, show 2 * (k / 2 + 1) - 2 = k by omega]
        exact he)
      have h4 : (if 0 < p (j / 2 + 1) then A (2 * p (j / 2 + 1) - 1) else 0) ≤ (if 0 < p (j / 2 + 1) then A' (2 * p (j / 2 + 1) - 1) else 0) := by
        split
        · exact h _ (by omega)
        · exact Nat.le_refl _
      omega
    · rw [if_neg ck] at h1 h2
      rw [← h1, if_pos (by omega), if_pos (by omega), show 2 * (k / 2 + 1) - 1 = k by omega]
      have h3 := sg_le (f := fun m => if 0 < m ∧ p m = k / 2 + 1 ∧ m ≠ j / 2 + 1 then A (2 * m - 2) else 0) (g := fun m => if 0 < m ∧ p m = k / 2 + 1 ∧ m ≠ j / 2 + 1 then A' (2 * m - 2) else 0) 6 (fun m hm => by
        show (if _ then _ else _) ≤ (if _ then _ else _)
        split
        · exact h _ (by omega)
        · exact Nat.le_refl _)
      omega
end

