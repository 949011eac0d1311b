/-! Spans as sets of numbers: what tightening keeps, and that one covers another one just when it has all that this one has -/
def sM (s : sp) (v : Int32) : Prop := s.1.toInt ≤ v.toInt ∧ v.toInt ≤ s.2.1.toInt ∧ v ∉ s.2.2
theorem spH_iff {s : sp} {v : Int32} : spH s v = true ↔ sM s v := by
  unfold spH spHas sM
  rw [Bool.and_eq_true, Bool.and_eq_true, Bool.not_eq_true', decide_eq_false_iff_not, decide_eq_true_eq, Bool.not_eq_true', Int32.lt_iff_toInt_lt, Int32.le_iff_toInt_le]
  have h1 : s.2.2.contains v = false ↔ v ∉ s.2.2 := by
    rw [← Bool.not_eq_true, List.contains_iff_mem]
  rw [h1]
  constructor
  · intro h
    exact ⟨by have := h.1.1; omega, h.1.2, h.2⟩
  · intro h
    exact ⟨⟨by have := h.1; omega, h.2.1⟩, h.2.2⟩
theorem spE_iff {s : sp} : spE s = false ↔ s.1.toInt ≤ s.2.1.toInt := by
  unfold spE
  rw [Bool.not_eq_false', decide_eq_true_eq, Int32.le_iff_toInt_le]
theorem spI_iff {s t : sp} : spI s t = true ↔ s.1.toInt ≤ t.1.toInt ∧ t.2.1.toInt ≤ s.2.1.toInt ∧ ∀ v ∈ s.2.2, ¬ sM t v := by
  unfold spI spInc
  rw [Bool.and_eq_true, Bool.and_eq_true, Bool.not_eq_true', decide_eq_false_iff_not, decide_eq_true_eq, Bool.not_eq_true', Int32.lt_iff_toInt_lt, Int32.le_iff_toInt_le]
  have h1 : s.2.2.any (fun v => spHas t.1 t.2.1 t.2.2 v) = false ↔ ∀ v ∈ s.2.2, ¬ sM t v := by
    rw [List.any_eq_false]
    constructor
    · intro h v hv z
      exact h v hv (spH_iff.mpr z)
    · intro h v hv z
      exact h v hv (spH_iff.mp z)
  rw [h1]
  constructor
  · intro h
    exact ⟨by have := h.1.1; omega, h.1.2, h.2⟩
  · intro h
    exact ⟨⟨by have := h.1; omega, h.2.1⟩, h.2.2⟩
theorem spI_has {s t : sp} {v : Int32} (h : spI s t = true) (hv : sM t v) : sM s v := by
  have h1 := spI_iff.mp h
  have h2 := hv.1
  have h3 := hv.2.1
  exact ⟨by omega, by omega, fun z => h1.2.2 v z hv⟩
/-- a span whose two ends pass -/
def sN (s : sp) : Prop := sM s s.1 ∧ sM s s.2.1
theorem spI_set {s t : sp} (ht : sN t) : spI s t = true ↔ ∀ v, sM t v → sM s v := by
  constructor
  · exact fun h v hv => spI_has h hv
  · intro h
    exact spI_iff.mpr ⟨(h _ ht.1).1, (h _ ht.2).2.1, fun v hv z => (h v z).2.2 hv⟩
theorem spI_refl {s : sp} : spI s s = true := spI_iff.mpr ⟨Int.le_refl _, Int.le_refl _, fun _ hv z => z.2.2 hv⟩
theorem spI_trans {s t u : sp} (h1 : spI s t = true) (h2 : spI t u = true) : spI s u = true := by
  have a := spI_iff.mp h1
  have b := spI_iff.mp h2
  refine spI_iff.mpr ⟨by have := a.1; have := b.1; omega, by have := a.2.1; have := b.2.1; omega, fun v hv z => a.2.2 v hv (spI_has h2 z)⟩
theorem fiInc_refl {F : sp3} : fiInc F F = true := by
  unfold fiInc
  rw [spI_refl, spI_refl, spI_refl]
  simp
theorem fiInc_iff {F G : sp3} : fiInc F G = true ↔ fiE G = true ∨ (spI F.1 G.1 = true ∧ spI F.2.1 G.2.1 = true ∧ spI F.2.2 G.2.2 = true) := by
  unfold fiInc
  rw [Bool.or_eq_true, Bool.and_eq_true, Bool.and_eq_true, and_assoc]
theorem fiE_iff {F : sp3} : fiE F = false ↔ spE F.1 = false ∧ spE F.2.1 = false ∧ spE F.2.2 = false := by
  unfold fiE
  rw [Bool.or_eq_false_iff, Bool.or_eq_false_iff, and_assoc]
theorem spI_E {s t : sp} (h : spI s t = true) (ht : spE t = false) : spE s = false := by
  have a := spI_iff.mp h
  have b := spE_iff.mp ht
  exact spE_iff.mpr (by have := a.1; have := a.2.1; omega)
theorem fiInc_E {F G : sp3} (h : fiInc F G = true) (hG : fiE G = false) : fiE F = false := by
  rcases fiInc_iff.mp h with h1 | h1
  · rw [hG] at h1; cases h1
  · have h2 := fiE_iff.mp hG
    exact fiE_iff.mpr ⟨spI_E h1.1 h2.1, spI_E h1.2.1 h2.2.1, spI_E h1.2.2 h2.2.2⟩
theorem fiInc_trans {F G H : sp3} (h1 : fiInc F G = true) (h2 : fiInc G H = true) : fiInc F H = true := by
  cases hH : fiE H with
  | true => exact fiInc_iff.mpr (Or.inl hH)
  | false =>
    have hG := fiInc_E h2 hH
    rcases fiInc_iff.mp h2 with a | a
    · rw [hH] at a; cases a
    · rcases fiInc_iff.mp h1 with b | b
      · rw [hG] at b; cases b
      · exact fiInc_iff.mpr (Or.inr ⟨spI_trans b.1 a.1, spI_trans b.2.1 a.2.1, spI_trans b.2.2 a.2.2⟩)
theorem fiM_iff {F : sp3} {a b c : Int32} : fiM F a b c = true ↔ sM F.1 a ∧ sM F.2.1 b ∧ sM F.2.2 c := by
  unfold fiM
  rw [Bool.and_eq_true, Bool.and_eq_true, spH_iff, spH_iff, spH_iff, and_assoc]
theorem sM_E {s : sp} {v : Int32} (h : sM s v) : spE s = false := spE_iff.mpr (by have := h.1; have := h.2.1; omega)
theorem fiM_inc {F G : sp3} {a b c : Int32} (h : fiInc F G = true) (hm : fiM G a b c = true) : fiM F a b c = true := by
  have h1 := fiM_iff.mp hm
  rcases fiInc_iff.mp h with h2 | h2
  · rw [fiE_iff.mpr ⟨sM_E h1.1, sM_E h1.2.1, sM_E h1.2.2⟩] at h2; cases h2
  · exact fiM_iff.mpr ⟨spI_has h2.1 h1.1, spI_has h2.2.1 h1.2.1, spI_has h2.2.2 h1.2.2⟩
theorem fiM_al {F G : sp3} {a b c : Int32} (h1 : fiInc F G = true) (h2 : fiInc G F = true) : fiM F a b c = fiM G a b c := by
  cases hF : fiM F a b c with
  | true => exact (fiM_inc h2 hF).symm
  | false =>
    cases hG : fiM G a b c with
    | true => rw [fiM_inc h1 hG] at hF; cases hF
    | false => rfl
theorem fiM_E {F : sp3} {a b c : Int32} (h : fiE F = true) : fiM F a b c = false := by
  cases hF : fiM F a b c with
  | false => rfl
  | true =>
    have h1 := fiM_iff.mp hF
    rw [fiE_iff.mpr ⟨sM_E h1.1, sM_E h1.2.1, sM_E h1.2.2⟩] at h; cases h
/-! tightening -/
theorem nd_sub {α : Type} [DecidableEq α] : ∀ (l m : List α), l.Nodup → (∀ x ∈ l, x ∈ m) → l.length ≤ m.length := by
  intro l
  induction l with
  | nil => intro m _ _; exact Nat.zero_le _
  | cons a t ih =>
    intro m hd hs
    have h1 := List.nodup_cons.mp hd
    have ha := hs a List.mem_cons_self
    have h2 := ih (m.erase a) h1.2 (fun x hx => (List.mem_erase_of_ne (fun z => h1.1 (by rw [← z]; exact hx))).mpr (hs x (List.mem_cons_of_mem _ hx)))
    have h3 := List.length_erase_of_mem ha
    have h4 : 0 < m.length := List.length_pos_of_mem ha
    simp only [List.length_cons]
    omega
/-- the ends lie where counting by one is safe -/
def sB (s : sp) : Prop := -2000000 < s.1.toInt ∧ s.1.toInt < 2000000 ∧ -2000000 < s.2.1.toInt ∧ s.2.1.toInt < 2000000
theorem i32_add1 {x : Int32} (h1 : -2000100 < x.toInt) (h2 : x.toInt < 2000100) : (x + 1).toInt = x.toInt + 1 := by
  rw [Int32.toInt_add, show (1 : Int32).toInt = 1 by decide, Int.bmod_def]
  omega
theorem i32_sub1 {x : Int32} (h1 : -2000100 < x.toInt) (h2 : x.toInt < 2000100) : (x - 1).toInt = x.toInt - 1 := by
  rw [Int32.toInt_sub, show (1 : Int32).toInt = 1 by decide, Int.bmod_def]
  omega
theorem i32_ext {x y : Int32} (h : x.toInt = y.toInt) : x = y := Int32.toInt_inj.mp h
def spS (s : sp) : sp := ((spTs s.2.2 (s.1, s.2.1)).1, (spTs s.2.2 (s.1, s.2.1)).2, s.2.2)
def spU (s : sp) : sp := (if spH s s.1 then s.1 else s.1 + 1, s.2.1, s.2.2)
def spD (s : sp) : sp := (s.1, if spH s s.2.1 then s.2.1 else s.2.1 - 1, s.2.2)
theorem spS_eq {s : sp} : spS s = spD (spU s) := rfl
def spN : Nat → sp → sp
  | 0, s => s
  | n + 1, s => spN n (spS s)
theorem spTn_eq : ∀ (n : Nat) (s : sp), ((spTn s.2.2 n (s.1, s.2.1)).1, (spTn s.2.2 n (s.1, s.2.1)).2, s.2.2) = spN n s := by
  intro n
  induction n with
  | zero => intro s; rfl
  | succ n ih => intro s; exact ih (spS s)
theorem spT_eq {s : sp} : spT s = spN s.2.2.length s := spTn_eq _ s
theorem spU_M {s : sp} {v : Int32} (hb : -2000100 < s.1.toInt ∧ s.1.toInt < 2000100) : sM (spU s) v ↔ sM s v := by
  unfold spU
  by_cases h : spH s s.1 = true
  · rw [if_pos h]
  · rw [if_neg h]
    have h1 : ¬ sM s s.1 := fun z => h (spH_iff.mpr z)
    unfold sM at h1 ⊢
    show (s.1 + 1).toInt ≤ v.toInt ∧ _ ∧ _ ↔ _
    rw [i32_add1 hb.1 hb.2]
    constructor
    · intro z
      exact ⟨by have := z.1; omega, z.2⟩
    · intro z
      refine ⟨?_, z.2⟩
      have := z.1
      by_cases e : s.1.toInt = v.toInt
      · have e2 := i32_ext e
        exact absurd ⟨Int.le_refl _, by rw [e2]; exact z.2.1, by rw [e2]; exact z.2.2⟩ h1
      · omega
theorem spD_M {s : sp} {v : Int32} (hb : -2000100 < s.2.1.toInt ∧ s.2.1.toInt < 2000100) : sM (spD s) v ↔ sM s v := by
  unfold spD
  by_cases h : spH s s.2.1 = true
  · rw [if_pos h]
  · rw [if_neg h]
    have h1 : ¬ sM s s.2.1 := fun z => h (spH_iff.mpr z)
    unfold sM at h1 ⊢
    show _ ∧ v.toInt ≤ (s.2.1 - 1).toInt ∧ _ ↔ _
    rw [i32_sub1 hb.1 hb.2]
    constructor
    · intro z
      exact ⟨z.1, by have := z.2.1; omega, z.2.2⟩
    · intro z
      refine ⟨z.1, ?_, z.2.2⟩
      have := z.2.1
      by_cases e : s.2.1.toInt = v.toInt
      · have e2 := i32_ext e
        exact absurd ⟨by rw [e2]; exact z.1, Int.le_refl _, by rw [e2]; exact z.2.2⟩ h1
      · omega
theorem spU_lo {s : sp} (hb : -2000100 < s.1.toInt ∧ s.1.toInt < 2000100) : s.1.toInt ≤ (spU s).1.toInt ∧ (spU s).1.toInt ≤ s.1.toInt + 1 := by
  unfold spU
  by_cases h : spH s s.1 = true
  · rw [if_pos h]; exact ⟨Int.le_refl _, by show s.1.toInt ≤ s.1.toInt + 1; omega⟩
  · rw [if_neg h]
    show s.1.toInt ≤ (s.1 + 1).toInt ∧ (s.1 + 1).toInt ≤ _
    rw [i32_add1 hb.1 hb.2]; omega
theorem spD_hi {s : sp} (hb : -2000100 < s.2.1.toInt ∧ s.2.1.toInt < 2000100) : (spD s).2.1.toInt ≤ s.2.1.toInt ∧ s.2.1.toInt - 1 ≤ (spD s).2.1.toInt := by
  unfold spD
  by_cases h : spH s s.2.1 = true
  · rw [if_pos h]; exact ⟨Int.le_refl _, by show s.2.1.toInt - 1 ≤ s.2.1.toInt; omega⟩
  · rw [if_neg h]
    show (s.2.1 - 1).toInt ≤ s.2.1.toInt ∧ _ ≤ (s.2.1 - 1).toInt
    rw [i32_sub1 hb.1 hb.2]; omega
def cnt (s : sp) : Nat := (s.2.2.filter (fun e => decide (s.1.toInt ≤ e.toInt ∧ e.toInt ≤ s.2.1.toInt))).length
theorem filt_le {α : Type} {p q : α → Bool} : ∀ (l : List α), (∀ x ∈ l, q x = true → p x = true) → (l.filter q).length ≤ (l.filter p).length := by
  intro l
  induction l with
  | nil => intro _; exact Nat.le_refl _
  | cons a t ih =>
    intro h
    have h1 := ih (fun x hx => h x (List.mem_cons_of_mem _ hx))
    have h2 := h a List.mem_cons_self
    rw [List.filter_cons, List.filter_cons]
    split
    · rename_i hq
      rw [if_pos (h2 hq)]
      simp only [List.length_cons]
      omega
    · split
      · simp only [List.length_cons]
        omega
      · exact h1
theorem filt_lt {α : Type} {p q : α → Bool} : ∀ (l : List α) (e : α), (∀ x ∈ l, q x = true → p x = true) → e ∈ l → p e = true → q e = false → (l.filter q).length < (l.filter p).length := by
  intro l
  induction l with
  | nil => intro e _ he; cases he
  | cons a t ih =>
    intro e h he hp hq
    have h1 := filt_le t (fun x hx => h x (List.mem_cons_of_mem _ hx))
    have h2 := h a List.mem_cons_self
    rw [List.filter_cons, List.filter_cons]
    rcases List.mem_cons.mp he with e1 | e1
    · rw [← e1, hp, hq]
      simp only [if_true, List.length_cons]
      rw [if_neg (by decide)]
      omega
    · have h3 := ih e (fun x hx => h x (List.mem_cons_of_mem _ hx)) e1 hp hq
      split
      · rename_i hq'
        rw [if_pos (h2 hq')]
        simp only [List.length_cons]
        omega
      · split
        · simp only [List.length_cons]
          omega
        · exact h3
theorem sM_stay {s : sp} (h1 : sM s s.1) (h2 : sM s s.2.1) : spS s = s := by
  have e : spU s = s := by
    unfold spU
    rw [if_pos (spH_iff.mpr h1)]
  rw [spS_eq, e]
  unfold spD
  rw [if_pos (spH_iff.mpr h2)]
theorem spN_stay {s : sp} (h1 : sM s s.1) (h2 : sM s s.2.1) : ∀ n, spN n s = s := by
  intro n
  induction n with
  | zero => rfl
  | succ n ih =>
    show spN n (spS s) = s
    rw [sM_stay h1 h2]
    exact ih
theorem spN_gt : ∀ (n : Nat) (s : sp), n ≤ 50 → -2000000 - (50 - n : Nat) < s.1.toInt → s.1.toInt < 2000000 + (50 - n : Nat) → -2000000 - (50 - n : Nat) < s.2.1.toInt → s.2.1.toInt < 2000000 + (50 - n : Nat) →
    (∀ v, sM (spN n s) v ↔ sM s v) ∧ (spN n s).2.2 = s.2.2 ∧ s.1.toInt ≤ (spN n s).1.toInt ∧ (spN n s).2.1.toInt ≤ s.2.1.toInt := by
  intro n
  induction n with
  | zero =>
    intro s _ _ _ _ _
    exact ⟨fun v => Iff.rfl, rfl, Int.le_refl _, Int.le_refl _⟩
  | succ n ih =>
    intro s hn a1 a2 a3 a4
    have hU := spU_lo (s := s) ⟨by omega, by omega⟩
    have hD := spD_hi (s := spU s) ⟨by show -2000100 < s.2.1.toInt; omega, by show s.2.1.toInt < 2000100; omega⟩
    have hD1 : (spD (spU s)).2.1.toInt ≤ s.2.1.toInt := hD.1
    have hD2 : s.2.1.toInt - 1 ≤ (spD (spU s)).2.1.toInt := hD.2
    have hm : ∀ v, sM (spD (spU s)) v ↔ sM s v := fun v => (spD_M ⟨by show -2000100 < s.2.1.toInt; omega, by show s.2.1.toInt < 2000100; omega⟩).trans (spU_M ⟨by omega, by omega⟩)
    have e1 : (spD (spU s)).1 = (spU s).1 := rfl
    obtain ⟨b1, b2, b5, b6⟩ := ih (spD (spU s)) (by omega) (by rw [e1]; omega) (by rw [e1]; omega) (by omega) (by omega)
    rw [e1] at b5
    rw [show spN (n + 1) s = spN n (spD (spU s)) from rfl]
    exact ⟨fun v => (b1 v).trans (hm v), b2, by omega, by omega⟩
theorem spN_all : ∀ (n : Nat) (s : sp), n ≤ 50 → cnt s ≤ n → -2000000 - (50 - n : Nat) < s.1.toInt → s.1.toInt < 2000000 + (50 - n : Nat) → -2000000 - (50 - n : Nat) < s.2.1.toInt → s.2.1.toInt < 2000000 + (50 - n : Nat) →
    (sN (spN n s) ∨ (spN n s).2.1.toInt < (spN n s).1.toInt) ∧ (∀ v, sM (spN n s) v ↔ sM s v) ∧ (spN n s).2.2 = s.2.2 ∧ (sM s s.1 → (spN n s).1 = s.1) ∧ (sM s s.2.1 → (spN n s).2.1 = s.2.1) ∧
    s.1.toInt ≤ (spN n s).1.toInt ∧ (spN n s).2.1.toInt ≤ s.2.1.toInt := by
  intro n
  induction n with
  | zero =>
    intro s _ hc _ _ _ _
    refine ⟨?_, fun v => Iff.rfl, rfl, fun _ => rfl, fun _ => rfl, Int.le_refl _, Int.le_refl _⟩
    show sN s ∨ s.2.1.toInt < s.1.toInt
    by_cases h2 : s.2.1.toInt < s.1.toInt
    · exact Or.inr h2
    · left
      have h3 : ∀ e : Int32, s.1.toInt ≤ e.toInt → e.toInt ≤ s.2.1.toInt → e ∉ s.2.2 := by
        intro e a b c
        have h4 : e ∈ s.2.2.filter (fun e => decide (s.1.toInt ≤ e.toInt ∧ e.toInt ≤ s.2.1.toInt)) := List.mem_filter.mpr ⟨c, decide_eq_true ⟨a, b⟩⟩
        have h5 := List.length_pos_of_mem h4
        unfold cnt at hc
        omega
      exact ⟨⟨Int.le_refl _, by omega, h3 _ (Int.le_refl _) (by omega)⟩, ⟨by omega, Int.le_refl _, h3 _ (by omega) (Int.le_refl _)⟩⟩
  | succ n ih =>
    intro s hn hc a1 a2 a3 a4
    have hU := spU_lo (s := s) ⟨by omega, by omega⟩
    have hD := spD_hi (s := spU s) ⟨by show -2000100 < s.2.1.toInt; omega, by show s.2.1.toInt < 2000100; omega⟩
    have hD1 : (spD (spU s)).2.1.toInt ≤ s.2.1.toInt := hD.1
    have hD2 : s.2.1.toInt - 1 ≤ (spD (spU s)).2.1.toInt := hD.2
    have hm : ∀ v, sM (spD (spU s)) v ↔ sM s v := fun v => (spD_M ⟨by show -2000100 < s.2.1.toInt; omega, by show s.2.1.toInt < 2000100; omega⟩).trans (spU_M ⟨by omega, by omega⟩)
    have e1 : (spD (spU s)).1 = (spU s).1 := rfl
    have e2 : (spD (spU s)).2.2 = s.2.2 := rfl
    have l1 : sM s s.1 → (spU s).1 = s.1 := fun z => by
      unfold spU
      rw [if_pos (spH_iff.mpr z)]
    have l2 : sM s s.2.1 → (spD (spU s)).2.1 = s.2.1 := fun z => by
      have z2 : sM (spU s) s.2.1 := (spU_M ⟨by omega, by omega⟩).mpr z
      show (if spH (spU s) s.2.1 then s.2.1 else s.2.1 - 1) = s.2.1
      rw [if_pos (spH_iff.mpr z2)]
    by_cases hs : sM s s.1 ∧ sM s s.2.1
    · rw [spN_stay hs.1 hs.2]
      exact ⟨Or.inl hs, fun v => Iff.rfl, rfl, fun _ => rfl, fun _ => rfl, Int.le_refl _, Int.le_refl _⟩
    · have hcn : cnt (spD (spU s)) ≤ n ∨ s.2.1.toInt < s.1.toInt := by
        by_cases h0 : s.2.1.toInt < s.1.toInt
        · exact Or.inr h0
        · left
          have sub : ∀ x ∈ s.2.2, decide ((spU s).1.toInt ≤ x.toInt ∧ x.toInt ≤ (spD (spU s)).2.1.toInt) = true → decide (s.1.toInt ≤ x.toInt ∧ x.toInt ≤ s.2.1.toInt) = true := fun x _ hx => by
            have h3 := of_decide_eq_true hx
            exact decide_eq_true ⟨by omega, by omega⟩
          have lt : cnt (spD (spU s)) < cnt s := by
            by_cases z : sM s s.1
            · have z2 : ¬ sM s s.2.1 := fun y => hs ⟨z, y⟩
              have hx : s.2.1 ∈ s.2.2 := Classical.byContradiction fun y => z2 ⟨by omega, Int.le_refl _, y⟩
              refine filt_lt s.2.2 s.2.1 sub hx (decide_eq_true ⟨by omega, Int.le_refl _⟩) (decide_eq_false fun y => ?_)
              have e3 : (spD (spU s)).2.1 = s.2.1 - 1 := by
                show (if spH (spU s) s.2.1 then s.2.1 else s.2.1 - 1) = s.2.1 - 1
                rw [if_neg (fun y => z2 ((spU_M ⟨by omega, by omega⟩).mp (spH_iff.mp y)))]
              have y2 := y.2
              rw [e3, i32_sub1 (by omega) (by omega)] at y2
              omega
            · have hx : s.1 ∈ s.2.2 := Classical.byContradiction fun y => z ⟨Int.le_refl _, by omega, y⟩
              refine filt_lt s.2.2 s.1 sub hx (decide_eq_true ⟨Int.le_refl _, by omega⟩) (decide_eq_false fun y => ?_)
              have e3 : (spU s).1 = s.1 + 1 := by
                unfold spU
                rw [if_neg (fun y => z (spH_iff.mp y))]
              have y2 := y.1
              rw [e1, e3, i32_add1 (by omega) (by omega)] at y2
              omega
          omega
      show (sN (spN n (spD (spU s))) ∨ _) ∧ _
      rw [show spN (n + 1) s = spN n (spD (spU s)) from rfl]
      rcases hcn with hcn | hcn
      · obtain ⟨b0, b1, b2, b3, b4, b5, b6⟩ := ih (spD (spU s)) (by omega) hcn (by rw [e1]; omega) (by rw [e1]; omega) (by omega) (by omega)
        rw [e1] at b5
        refine ⟨b0, fun v => (b1 v).trans (hm v), b2, fun z => ?_, fun z => ?_, by omega, by omega⟩
        · rw [b3 ((hm _).mpr (by rw [e1, l1 z]; exact z)), e1, l1 z]
        · rw [b4 ((hm _).mpr (by rw [l2 z]; exact z)), l2 z]
      · obtain ⟨b1, b2, b5, b6⟩ := spN_gt n (spD (spU s)) (by omega) (by rw [e1]; omega) (by rw [e1]; omega) (by omega) (by omega)
        rw [e1] at b5
        refine ⟨Or.inr (by omega), fun v => (b1 v).trans (hm v), b2, fun z => ?_, fun z => ?_, by omega, by omega⟩
        · exact absurd z.2.1 (by omega)
        · exact absurd z.1 (by omega)
theorem spT_all {s : sp} (hl : s.2.2.length ≤ 50) (hb : sB s) : (sN (spT s) ∨ (spT s).2.1.toInt < (spT s).1.toInt) ∧ (∀ v, sM (spT s) v ↔ sM s v) ∧ (spT s).2.2 = s.2.2 ∧ (sM s s.1 → (spT s).1 = s.1) ∧ (sM s s.2.1 → (spT s).2.1 = s.2.1) ∧
    s.1.toInt ≤ (spT s).1.toInt ∧ (spT s).2.1.toInt ≤ s.2.1.toInt := by
  rw [spT_eq]
  obtain ⟨h1, h2, h3, h4⟩ := hb
  exact spN_all _ s hl (List.length_filter_le _ _) (by omega) (by omega) (by omega) (by omega)
theorem spT_N {s : sp} (hl : s.2.2.length ≤ 50) (hb : sB s) (h : spE (spT s) = false) : sN (spT s) := by
  have h1 := spE_iff.mp h
  rcases (spT_all hl hb).1 with h2 | h2
  · exact h2
  · omega
theorem spT_E {s : sp} (hl : s.2.2.length ≤ 50) (hb : sB s) : spE (spT s) = false ↔ ∃ v, sM s v := by
  have h0 := spT_all hl hb
  constructor
  · intro h
    exact ⟨_, (h0.2.1 _).mp (spT_N hl hb h).1⟩
  · rintro ⟨v, hv⟩
    exact sM_E ((h0.2.1 v).mpr hv)
/-- two spans with the same members, whose ends pass, have the same ends -/
theorem sN_eq {s t : sp} (hs : sN s) (ht : sN t) (h : ∀ v, sM s v ↔ sM t v) : s.1 = t.1 ∧ s.2.1 = t.2.1 := by
  have h1 := (h _).mp hs.1
  have h2 := (h _).mpr ht.1
  have h3 := (h _).mp hs.2
  have h4 := (h _).mpr ht.2
  exact ⟨i32_ext (by have := h1.1; have := h2.1; omega), i32_ext (by have := h3.2.1; have := h4.2.1; omega)⟩

