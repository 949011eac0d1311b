/-! Filter: three spans -/
abbrev sp : Type := Int32 × Int32 × List Int32
abbrev sp3 : Type := sp × sp × sp
def x_gr (h h' : x_H) (n m : Nat) (S : List Nat) : Prop := h'.2.1 = h.2.1 + n ∧ h'.2.2 = h.2.2 + m ∧ ∀ q, q < h.2.1 → q ∉ S → h'.1 q = h.1 q
theorem x_gr.rf {h : x_H} {S : List Nat} : x_gr h h 0 0 S := ⟨rfl, rfl, fun _ _ _ => rfl⟩
theorem x_gr.trans {h h1 h2 : x_H} {n1 m1 n2 m2 : Nat} {S S1 S2 : List Nat} (k1 : x_gr h h1 n1 m1 S1) (k2 : x_gr h1 h2 n2 m2 S2) (s1 : ∀ q ∈ S1, q ∈ S) (s2 : ∀ q ∈ S2, q < h.2.1 → q ∈ S) : x_gr h h2 (n1 + n2) (m1 + m2) S := by
  obtain ⟨a1, b1, c1⟩ := k1
  obtain ⟨a2, b2, c2⟩ := k2
  exact ⟨by omega, by omega, fun q hq hS => (c2 q (by omega) (fun z => hS (s2 q z hq))).trans (c1 q hq (fun z => hS (s1 q z)))⟩
theorem x_only.gr {h h' : x_H} {S : List Nat} (k : x_only h h' S) : x_gr h h' 0 0 S := ⟨by rw [k.1]; rfl, by rw [k.1]; rfl, fun q _ hS => k.2 q hS⟩
theorem x_gr.new {h : x_H} {e : x_E} {n : Nat} {S : List Nat} : x_gr h (x_new h e n) 1 n S := ⟨rfl, rfl, fun q hq _ => by simp [x_new, Nat.ne_of_lt hq]⟩
theorem x_gr.put {h h1 : x_H} {n m : Nat} {S : List Nat} {a : Nat} {e : x_E} (k : x_gr h h1 n m S) (ha : a ∈ S ∨ h.2.1 ≤ a) : x_gr h (x_put h1 a e) n m S := ⟨k.1, k.2.1, fun q hq hS => by
  rw [xq_of (fun z => by
    rcases ha with h9 | h9
    · exact hS (z ▸ h9)
    · omega)]
  exact k.2.2 q hq hS⟩
def isFi (h : x_H) (a : Nat) (F : sp3) : Prop := h.1 a = some (.inr (2, [.ref (a + 1), .ref (a + 3), .ref (a + 5)])) ∧ isSp h (a + 1) F.1.1 F.1.2.1 F.1.2.2 ∧ isSp h (a + 3) F.2.1.1 F.2.1.2.1 F.2.1.2.2 ∧ isSp h (a + 5) F.2.2.1 F.2.2.2.1 F.2.2.2.2
theorem isFi.keep {h h' : x_H} {a : Nat} {F : sp3} (k : isFi h a F) (o : ∀ q, a ≤ q → q ≤ a + 6 → h'.1 q = h.1 q) : isFi h' a F :=
  ⟨(o a (by omega) (by omega)).trans k.1, k.2.1.keep (o _ (by omega) (by omega)) (o _ (by omega) (by omega)), k.2.2.1.keep (o _ (by omega) (by omega)) (o _ (by omega) (by omega)), k.2.2.2.keep (o _ (by omega) (by omega)) (o _ (by omega) (by omega))⟩
def spE (s : sp) : Bool := !(decide (s.1 ≤ s.2.1))
def spI (s t : sp) : Bool := spInc s.1 s.2.1 s.2.2 t.1 t.2.1 t.2.2
def fiE (F : sp3) : Bool := spE F.1 || spE F.2.1 || spE F.2.2
def fiInc (F G : sp3) : Bool := fiE G || (spI F.1 G.1 && spI F.2.1 G.2.1 && spI F.2.2 G.2.2)
def spH (s : sp) (v : Int32) : Bool := spHas s.1 s.2.1 s.2.2 v
def fiM (F : sp3) (a b c : Int32) : Bool := spH F.1 a && spH F.2.1 b && spH F.2.2 c
def spK (s : sp) (u v : Int32) : sp := (if s.1 < u then u else s.1, if v < s.2.1 then v else s.2.1, s.2.2)
def spX (s : sp) (v : Int32) : sp := (s.1, s.2.1, s.2.2 ++ [v])
def spT (s : sp) : sp := ((spTn s.2.2 s.2.2.length (s.1, s.2.1)).1, (spTn s.2.2 s.2.2.length (s.1, s.2.1)).2, s.2.2)
def fiT (F : sp3) : sp3 := (spT F.1, spT F.2.1, spT F.2.2)
def nnum (s : sp) (g : Nat) (v : Int32) : Option sp :=
  if g = 61 then some (spK (spK s (-999) 999) v v) else if g = 33 then some (spX (spK s (-999) 999) v) else if g = 60 then some (spK (spK s (-999) 999) (-999) (v - 1))
  else if g = 62 then some (spK (spK s (-999) 999) (v + 1) 999) else if g = 91 then some (spK (spK s (-999) 999) v 999) else if g = 93 then some (spK (spK s (-999) 999) (-999) v) else none
def nword (s : sp) (g : Nat) (v n : Nat) : Option sp :=
  if g = 61 then some (spK (spK s 1 1048575) (nI v) (nI v)) else if g = 33 then some (spX (spK s 1 1048575) (nI v)) else if g = 94 then some (spK (spK s 1 1048575) (nI v) (nI v ||| nI (32 ^ (4 - n) - 1))) else none
theorem b2i_if {b : Bool} {A : Prop} (c : b2i b = 0) (h : b = false → A) : A := h (by cases b with
  | false => rfl
  | true => exact absurd c (by decide))
theorem b2i_it {b : Bool} {A : Prop} (c : ¬ b2i b = 0) (h : b = true → A) : A := h (by cases b with
  | true => rfl
  | false => exact absurd rfl c)
section
variable {P : x_P} {d : Nat} {h : x_H}
theorem sSP_init {s : Nat} {u v : Int32} (hs : h.1 s = some (.inr (7, [.int 0, .int 0, .null, .int 0]))) (hn : h.2.1 = s + 1) : x_K P (d + 1) mSP_init 0 [some (.ref s), some (.int u), some (.int v)] [] h (fun oc h' => oc = .returned none ∧ isSp h' s u v [] ∧ x_gr h h' 1 3 [s]) := by
  refine eSP_init_0 rfl ?_
  refine eSP_init_1 (Nat.le_of_ble_eq_true rfl) ?_
  refine eSP_init_4 rfl ?_
  refine eSP_init_5 ?_
  refine eSP_init_6 (n := 3) (by decide) (by decide) (by decide) ?_
  have hs1 := xw_ne (e := (.inl (0, 3, .inl (fun _ => 0)))) (n := 3) (by omega) hs
  refine eSP_init_8 hs1 (Nat.le_of_ble_eq_true rfl) ?_
  refine eSP_init_11 rfl ?_
  refine eSP_init_12 ?_
  refine eSP_init_13 xq_eq (Nat.le_of_ble_eq_true rfl) ?_
  refine eSP_init_16 rfl ?_
  refine eSP_init_17 ?_
  refine eSP_init_18 xq_eq (Nat.le_of_ble_eq_true rfl) ?_
  refine eSP_init_21 ⟨rfl, ⟨fun _ => 0, ?_, ?_, by decide, fun i v hi => by simp at hi⟩, ((x_gr.new.put (by simp)).put (by simp)).put (by simp)⟩
  · rw [xq_eq, hn]
    rfl
  · rw [xq_of (by omega), xq_of (by omega), xq_of (by omega), ← hn]
    exact xw_eq
theorem sFI_init {a : Nat} (hs : h.1 a = some (.inr (2, [.null, .null, .null]))) (hn : h.2.1 = a + 1) : x_K P (d + 2) mFI_init 0 [some (.ref a)] [] h (fun oc h' => oc = .returned none ∧ isFi h' a ((-999, 1000, []), (-999, 1000, []), (0, 1048575, [])) ∧ x_gr h h' 6 21 [a]) := by
  refine eFI_init_0 rfl ?_
  refine eFI_init_1 (Nat.le_of_ble_eq_true rfl) ?_
  refine eFI_init_4 rfl ?_
  refine eFI_init_5 ?_
  refine eFI_init_8 rfl ?_
  refine eFI_init_9 ?_
  refine eFI_init_12 ?_
  refine eFI_init_15 (Nat.le_of_ble_eq_true rfl) (sSP_init (s := h.2.1) xw_eq rfl) ?_
  rintro _ h1 ⟨rfl, k1, g1⟩
  refine ⟨_, rfl, ?_⟩
  have e1 : h1.2.1 = a + 3 := by rw [g1.1]; show h.2.1 + 1 + 1 = _; omega
  have hs1 : h1.1 a = some (.inr (2, [.null, .null, .null])) := (g1.2.2 a (by show a < h.2.1 + 1; omega) (by simp; omega)).trans (xw_ne (by omega) hs)
  refine eFI_init_18 hs1 (Nat.le_of_ble_eq_true rfl) ?_
  refine eFI_init_21 rfl ?_
  refine eFI_init_22 ?_
  refine eFI_init_25 rfl ?_
  refine eFI_init_26 ?_
  refine eFI_init_29 ?_
  refine eFI_init_32 (Nat.le_of_ble_eq_true rfl) (sSP_init (s := h1.2.1) xw_eq rfl) ?_
  rintro _ h2 ⟨rfl, k2, g2⟩
  refine ⟨_, rfl, ?_⟩
  have e2 : h2.2.1 = a + 5 := by rw [g2.1]; show h1.2.1 + 1 + 1 = _; omega
  have o2 : ∀ q, q < h1.2.1 → h2.1 q = (x_put h1 a (.inr (2, [.ref h.2.1, .null, .null]))).1 q := fun q hq => (g2.2.2 q (by show q < h1.2.1 + 1; omega) (by simp; omega)).trans (by show (if q = h1.2.1 then _ else _) = _; rw [if_neg (by omega)]; rfl)
  have hs2 : h2.1 a = some (.inr (2, [.ref h.2.1, .null, .null])) := (o2 a (by omega)).trans xq_eq
  refine eFI_init_35 hs2 (Nat.le_of_ble_eq_true rfl) ?_
  refine eFI_init_38 rfl ?_
  refine eFI_init_39 ?_
  refine eFI_init_42 rfl ?_
  refine eFI_init_43 ?_
  refine eFI_init_44 ?_
  refine eFI_init_46 (Nat.le_of_ble_eq_true rfl) (sSP_init (s := h2.2.1) xw_eq rfl) ?_
  rintro _ h3 ⟨rfl, k3, g3⟩
  refine ⟨_, rfl, ?_⟩
  have o3 : ∀ q, q < h2.2.1 → h3.1 q = (x_put h2 a (.inr (2, [.ref h.2.1, .ref h1.2.1, .null]))).1 q := fun q hq => (g3.2.2 q (by show q < h2.2.1 + 1; omega) (by simp; omega)).trans (by show (if q = h2.2.1 then _ else _) = _; rw [if_neg (by omega)]; rfl)
  have hs3 : h3.1 a = some (.inr (2, [.ref h.2.1, .ref h1.2.1, .null])) := (o3 a (by omega)).trans xq_eq
  refine eFI_init_49 hs3 (Nat.le_of_ble_eq_true rfl) ?_
  refine eFI_init_52 ⟨rfl, ⟨?_, ?_, ?_, ?_⟩, ?_⟩
  · rw [xq_eq]
    show some (Sum.inr (2, [Value.ref h.2.1, Value.ref h1.2.1, Value.ref h2.2.1])) = _
    rw [hn, e1, e2]
  · rw [hn] at k1
    have p1 : ∀ q, q = a + 1 ∨ q = a + 1 + 1 → (x_put h3 a (.inr (2, [Value.ref h.2.1, Value.ref h1.2.1, Value.null].set 2 (Value.ref h2.2.1)))).1 q = h1.1 q := fun q hq => by
      rw [xq_of (by omega), o3 q (by omega), xq_of (by omega), o2 q (by omega), xq_of (by omega)]
    exact k1.keep (p1 _ (Or.inl rfl)) (p1 _ (Or.inr rfl))
  · rw [e1] at k2
    have p1 : ∀ q, q = a + 3 ∨ q = a + 3 + 1 → (x_put h3 a (.inr (2, [Value.ref h.2.1, Value.ref h1.2.1, Value.null].set 2 (Value.ref h2.2.1)))).1 q = h2.1 q := fun q hq => by
      rw [xq_of (by omega), o3 q (by omega), xq_of (by omega)]
    exact k2.keep (p1 _ (Or.inl rfl)) (p1 _ (Or.inr rfl))
  · rw [e2] at k3
    exact k3.keep (xq_of (by omega)) (xq_of (by omega))
  · refine ⟨?_, ?_, fun q hq hS => ?_⟩
    · show h3.2.1 = _
      rw [g3.1]
      show h2.2.1 + 1 + 1 = _
      omega
    · show h3.2.2 = _
      rw [g3.2.1]
      show h2.2.2 + 4 + 3 = _
      rw [g2.2.1]
      show h1.2.2 + 4 + 3 + 4 + 3 = _
      rw [g1.2.1]
      show h.2.2 + 4 + 3 + 4 + 3 + 4 + 3 = _
      omega
    · have hqa : q ≠ a := fun z => hS (by simp [z])
      rw [xq_of hqa, o3 q (by omega), xq_of hqa, o2 q (by omega), xq_of hqa, g1.2.2 q (by show q < h.2.1 + 1; omega) (by simp; omega)]
      show (if q = h.2.1 then _ else _) = _
      rw [if_neg (by omega)]
theorem sFI_isEmpty {a : Nat} {F : sp3} (k : isFi h a F) : x_K P (d + 1) mFI_isEmpty 0 [some (.ref a)] [] h (fun oc h' => oc = .returned (some (.int (b2i (fiE F)))) ∧ h' = h) := by
  obtain ⟨ho, k1, k2, k3⟩ := k
  have o1 := k1.choose_spec.1
  have o2 := k2.choose_spec.1
  have o3 := k3.choose_spec.1
  refine eFI_isEmpty_0 rfl ?_
  refine eFI_isEmpty_1 ho rfl ?_
  refine eFI_isEmpty_4 o1 (Nat.le_of_ble_eq_true rfl) (sSP_isEmpty k1) ?_
  rintro _ h1 ⟨rfl, rfl⟩
  refine ⟨_, rfl, ?_⟩
  have yes : fiE F = true → x_K P (d + 1) mFI_isEmpty 30 [some (.ref a)] [] h1 (fun oc h' => oc = .returned (some (.int (b2i (fiE F)))) ∧ h' = h1) := by
    intro hE
    refine eFI_isEmpty_30 ?_
    refine eFI_isEmpty_31 ?_
    refine eFI_isEmpty_35 rfl ⟨?_, rfl⟩
    rw [hE]
    rfl
  refine eFI_isEmpty_7 (fun c => b2i_it c fun e1 => yes (by simp [fiE, spE, e1])) (fun c => b2i_if c fun e1 => ?_)
  refine eFI_isEmpty_10 rfl ?_
  refine eFI_isEmpty_11 ho rfl ?_
  refine eFI_isEmpty_14 o2 (Nat.le_of_ble_eq_true rfl) (sSP_isEmpty k2) ?_
  rintro _ h2 ⟨rfl, rfl⟩
  refine ⟨_, rfl, ?_⟩
  refine eFI_isEmpty_17 (fun c => b2i_it c fun e2 => yes (by simp [fiE, spE, e2])) (fun c => b2i_if c fun e2 => ?_)
  refine eFI_isEmpty_20 rfl ?_
  refine eFI_isEmpty_21 ho rfl ?_
  refine eFI_isEmpty_24 o3 (Nat.le_of_ble_eq_true rfl) (sSP_isEmpty k3) ?_
  rintro _ h3 ⟨rfl, rfl⟩
  refine ⟨_, rfl, ?_⟩
  refine eFI_isEmpty_27 (fun c => b2i_if c fun e3 => ?_) (fun c => b2i_it c fun e3 => yes (by simp [fiE, spE, e3]))
  refine eFI_isEmpty_34 ?_
  refine eFI_isEmpty_35 rfl ⟨?_, rfl⟩
  rw [show fiE F = false by simp only [fiE, spE, e1, e2, e3, Bool.or_self]]
  rfl
theorem sFI_includes {a b : Nat} {F G : sp3} (k : isFi h a F) (k' : isFi h b G) : x_K P (d + 2) mFI_includes 0 [some (.ref a), some (.ref b)] [] h (fun oc h' => oc = .returned (some (.int (b2i (fiInc F G)))) ∧ h' = h) := by
  have k'0 := k'
  obtain ⟨ho, k1, k2, k3⟩ := k
  obtain ⟨ho', k1', k2', k3'⟩ := k'
  have o1 := k1.choose_spec.1
  have o2 := k2.choose_spec.1
  have o3 := k3.choose_spec.1
  refine eFI_includes_0 rfl ?_
  refine eFI_includes_1 ho' (Nat.le_of_ble_eq_true rfl) (sFI_isEmpty k'0) ?_
  rintro _ h1 ⟨rfl, rfl⟩
  refine ⟨_, rfl, ?_⟩
  have yes : fiInc F G = true → x_K P (d + 2) mFI_includes 49 [some (.ref a), some (.ref b)] [] h1 (fun oc h' => oc = .returned (some (.int (b2i (fiInc F G)))) ∧ h' = h1) := by
    intro hE
    refine eFI_includes_49 ?_
    refine eFI_includes_50 ?_
    refine eFI_includes_54 rfl ⟨?_, rfl⟩
    rw [hE]
    rfl
  have no : fiInc F G = false → x_K P (d + 2) mFI_includes 53 [some (.ref a), some (.ref b)] [] h1 (fun oc h' => oc = .returned (some (.int (b2i (fiInc F G)))) ∧ h' = h1) := by
    intro hE
    refine eFI_includes_53 ?_
    refine eFI_includes_54 rfl ⟨?_, rfl⟩
    rw [hE]
    rfl
  refine eFI_includes_4 (fun c => b2i_it c fun e0 => yes (by simp [fiInc, e0])) (fun c => b2i_if c fun e0 => ?_)
  refine eFI_includes_7 rfl ?_
  refine eFI_includes_8 ho rfl ?_
  refine eFI_includes_11 rfl ?_
  refine eFI_includes_12 ho' rfl ?_
  refine eFI_includes_15 o1 rfl (Nat.le_of_ble_eq_true rfl) (sSP_includes k1 k1') ?_
  rintro _ h2 ⟨rfl, rfl⟩
  refine ⟨_, rfl, ?_⟩
  refine eFI_includes_18 (fun c => b2i_if c fun e1 => no (by simp [fiInc, spI, e0, e1])) (fun c => b2i_it c fun e1 => ?_)
  refine eFI_includes_21 rfl ?_
  refine eFI_includes_22 ho rfl ?_
  refine eFI_includes_25 rfl ?_
  refine eFI_includes_26 ho' rfl ?_
  refine eFI_includes_29 o2 rfl (Nat.le_of_ble_eq_true rfl) (sSP_includes k2 k2') ?_
  rintro _ h3 ⟨rfl, rfl⟩
  refine ⟨_, rfl, ?_⟩
  refine eFI_includes_32 (fun c => b2i_if c fun e2 => no (by simp [fiInc, spI, e0, e2])) (fun c => b2i_it c fun e2 => ?_)
  refine eFI_includes_35 rfl ?_
  refine eFI_includes_36 ho rfl ?_
  refine eFI_includes_39 rfl ?_
  refine eFI_includes_40 ho' rfl ?_
  refine eFI_includes_43 o3 rfl (Nat.le_of_ble_eq_true rfl) (sSP_includes k3 k3') ?_
  rintro _ h4 ⟨rfl, rfl⟩
  refine ⟨_, rfl, ?_⟩
  exact eFI_includes_46 (fun c => b2i_if c fun e3 => no (by simp [fiInc, spI, e0, e3])) (fun c => b2i_it c fun e3 => yes (by simp [fiInc, spI, e1, e2, e3]))
def isNo (h : x_H) (a : Nat) (x y z : Int32) : Prop := h.1 a = some (.inr (4, [.int x, .int y, .int z]))
theorem sFI_matches {a b : Nat} {F : sp3} {x y z : Int32} (k : isFi h a F) (kn : isNo h b x y z) : x_K P (d + 1) mFI_matches 0 [some (.ref a), some (.ref b)] [] h (fun oc h' => oc = .returned (some (.int (b2i (fiM F x y z)))) ∧ h' = h) := by
  obtain ⟨ho, k1, k2, k3⟩ := k
  have o1 := k1.choose_spec.1
  have o2 := k2.choose_spec.1
  have o3 := k3.choose_spec.1
  have hn : h.1 b = some (.inr (4, [.int x, .int y, .int z])) := kn
  have no : fiM F x y z = false → x_K P (d + 1) mFI_matches 46 [some (.ref a), some (.ref b)] [] h (fun oc h' => oc = .returned (some (.int (b2i (fiM F x y z)))) ∧ h' = h) := by
    intro hE
    refine eFI_matches_46 ?_
    refine eFI_matches_47 rfl ⟨?_, rfl⟩
    rw [hE]
    rfl
  refine eFI_matches_0 rfl ?_
  refine eFI_matches_1 ho rfl ?_
  refine eFI_matches_4 rfl ?_
  refine eFI_matches_5 hn rfl ?_
  refine eFI_matches_8 o1 (Nat.le_of_ble_eq_true rfl) (sSP_has k1) ?_
  rintro _ h2 ⟨rfl, rfl⟩
  refine ⟨_, rfl, ?_⟩
  refine eFI_matches_11 (fun c => b2i_if c fun e1 => no (by simp [fiM, spH, e1])) (fun c => b2i_it c fun e1 => ?_)
  refine eFI_matches_14 rfl ?_
  refine eFI_matches_15 ho rfl ?_
  refine eFI_matches_18 rfl ?_
  refine eFI_matches_19 hn rfl ?_
  refine eFI_matches_22 o2 (Nat.le_of_ble_eq_true rfl) (sSP_has k2) ?_
  rintro _ h3 ⟨rfl, rfl⟩
  refine ⟨_, rfl, ?_⟩
  refine eFI_matches_25 (fun c => b2i_if c fun e2 => no (by simp [fiM, spH, e2])) (fun c => b2i_it c fun e2 => ?_)
  refine eFI_matches_28 rfl ?_
  refine eFI_matches_29 ho rfl ?_
  refine eFI_matches_32 rfl ?_
  refine eFI_matches_33 hn rfl ?_
  refine eFI_matches_36 o3 (Nat.le_of_ble_eq_true rfl) (sSP_has k3) ?_
  rintro _ h4 ⟨rfl, rfl⟩
  refine ⟨_, rfl, ?_⟩
  refine eFI_matches_39 (fun c => b2i_if c fun e3 => no (by simp [fiM, spH, e3])) (fun c => b2i_it c fun e3 => ?_)
  refine eFI_matches_42 ?_
  refine eFI_matches_43 ?_
  refine eFI_matches_47 rfl ⟨?_, rfl⟩
  rw [show fiM F x y z = true by simp only [fiM, spH, e1, e2, e3, Bool.and_self]]
  rfl
theorem sFI_tighten {a : Nat} {F : sp3} (k : isFi h a F) : x_K P (d + 2) mFI_tighten 0 [some (.ref a)] [] h (fun oc h' => oc = .returned none ∧ isFi h' a (fiT F) ∧ x_only h h' [a + 1, a + 3, a + 5]) := by
  obtain ⟨ho, k1, k2, k3⟩ := k
  refine eFI_tighten_0 rfl ?_
  refine eFI_tighten_1 ho rfl ?_
  refine eFI_tighten_4 k1.choose_spec.1 (Nat.le_of_ble_eq_true rfl) (sSP_tighten k1) ?_
  rintro _ h1 ⟨rfl, t1, u1⟩
  refine ⟨_, rfl, ?_⟩
  have ho1 := u1.at (by simp) ho
  have k2' := k2.keep (u1.2 _ (by simp)) (u1.2 _ (by simp))
  have k3' := k3.keep (u1.2 _ (by simp)) (u1.2 _ (by simp))
  refine eFI_tighten_7 rfl ?_
  refine eFI_tighten_8 ho1 rfl ?_
  refine eFI_tighten_11 k2'.choose_spec.1 (Nat.le_of_ble_eq_true rfl) (sSP_tighten k2') ?_
  rintro _ h2 ⟨rfl, t2, u2⟩
  refine ⟨_, rfl, ?_⟩
  have ho2 := u2.at (by simp) ho1
  have t1' := t1.keep (u2.2 _ (by simp)) (u2.2 _ (by simp))
  have k3'' := k3'.keep (u2.2 _ (by simp)) (u2.2 _ (by simp))
  refine eFI_tighten_14 rfl ?_
  refine eFI_tighten_15 ho2 rfl ?_
  refine eFI_tighten_18 k3''.choose_spec.1 (Nat.le_of_ble_eq_true rfl) (sSP_tighten k3'') ?_
  rintro _ h3 ⟨rfl, t3, u3⟩
  refine ⟨_, rfl, ?_⟩
  refine eFI_tighten_21 ⟨rfl, ⟨u3.at (by simp) ho2, t1'.keep (u3.2 _ (by simp)) (u3.2 _ (by simp)), t2.keep (u3.2 _ (by simp)) (u3.2 _ (by simp)), t3⟩, ?_⟩
  exact (u1.trans u2 (S := [a + 1, a + 3, a + 5]) (by simp) (by simp)).trans u3 (fun _ z => z) (by simp)
end
section
variable {P : x_P} {d : Nat} {h : x_H}
theorem sFI_narrowNumber {s g : Nat} {S : sp} {v : Int32} (k : isSp h s S.1 S.2.1 S.2.2) (hl : S.2.2.length < 3) (hg : g < 65536) (hv : ¬ v = unread) : x_K P (d + 2) mFI_narrowNumber 0 [some (.ref s), some (.int (nI g)), some (.int v)] [] h (fun oc h' => (match nnum S g v with | none => oc = .returned (some (.int 0)) | some T => oc = .returned (some (.int 1)) ∧ isSp h' s T.1 T.2.1 T.2.2) ∧ x_only h h' [s, s + 1]) := by
  have o0 := k.choose_spec.1
  refine eFI_narrowNumber_0 ?_
  refine eFI_narrowNumber_1 ?_
  refine eFI_narrowNumber_3 (fun _ => ?_) (fun c => absurd c hv)
  refine eFI_narrowNumber_8 rfl ?_
  refine eFI_narrowNumber_9 ?_
  refine eFI_narrowNumber_12 ?_
  refine eFI_narrowNumber_15 o0 (Nat.le_of_ble_eq_true rfl) (sSP_keep k) ?_
  rintro _ h1 ⟨rfl, k1, u1⟩
  refine ⟨_, rfl, ?_⟩
  have k1' : isSp h1 s (spK S (-999) 999).1 (spK S (-999) 999).2.1 (spK S (-999) 999).2.2 := k1
  have o1 := k1'.choose_spec.1
  have u1' : x_only h h1 [s, s + 1] := u1.trans x_only.rf (S1 := [s]) (S2 := []) (by simp) (by simp)
  refine eFI_narrowNumber_18 ?_
  have num : ∀ c : Nat, c < 65536 → nI g = nI c → g = c := fun c hc e => (nI_eq (by omega) (by omega)).mp e
  refine eFI_narrowNumber_19 (fun c => ?_) (fun c => ?_) (fun c => ?_) (fun c => ?_) (fun c => ?_) (fun c => ?_) (fun c1 c2 c3 c4 c5 c6 => ?_)
  · have e : g = 33 := num 33 (by decide) c
    subst e
    refine eFI_narrowNumber_84 rfl ?_
    refine eFI_narrowNumber_85 ?_
    refine eFI_narrowNumber_86 o1 (Nat.le_of_ble_eq_true rfl) (sSP_exclude k1' hl) ?_
    rintro _ h2 ⟨rfl, k2, u2⟩
    refine ⟨_, rfl, ?_⟩
    refine eFI_narrowNumber_89 ?_
    exact eFI_narrowNumber_90 rfl ⟨⟨rfl, k2⟩, u1'.trans u2 (fun _ z => z) (fun _ z => z)⟩
  · have e : g = 60 := num 60 (by decide) c
    subst e
    refine eFI_narrowNumber_91 rfl ?_
    refine eFI_narrowNumber_92 ?_
    refine eFI_narrowNumber_95 ?_
    refine eFI_narrowNumber_96 ?_
    refine eFI_narrowNumber_97 ?_
    refine eFI_narrowNumber_98 o1 (Nat.le_of_ble_eq_true rfl) (sSP_keep k1') ?_
    rintro _ h2 ⟨rfl, k2, u2⟩
    refine ⟨_, rfl, ?_⟩
    refine eFI_narrowNumber_101 ?_
    exact eFI_narrowNumber_102 rfl ⟨⟨rfl, k2⟩, u1'.trans u2 (fun _ z => z) (by simp)⟩
  · have e : g = 61 := num 61 (by decide) c
    subst e
    refine eFI_narrowNumber_76 rfl ?_
    refine eFI_narrowNumber_77 ?_
    refine eFI_narrowNumber_78 ?_
    refine eFI_narrowNumber_79 o1 (Nat.le_of_ble_eq_true rfl) (sSP_keep k1') ?_
    rintro _ h2 ⟨rfl, k2, u2⟩
    refine ⟨_, rfl, ?_⟩
    refine eFI_narrowNumber_82 ?_
    exact eFI_narrowNumber_83 rfl ⟨⟨rfl, k2⟩, u1'.trans u2 (fun _ z => z) (by simp)⟩
  · have e : g = 62 := num 62 (by decide) c
    subst e
    refine eFI_narrowNumber_103 rfl ?_
    refine eFI_narrowNumber_104 ?_
    refine eFI_narrowNumber_105 ?_
    refine eFI_narrowNumber_106 ?_
    refine eFI_narrowNumber_107 ?_
    refine eFI_narrowNumber_110 o1 (Nat.le_of_ble_eq_true rfl) (sSP_keep k1') ?_
    rintro _ h2 ⟨rfl, k2, u2⟩
    refine ⟨_, rfl, ?_⟩
    refine eFI_narrowNumber_113 ?_
    exact eFI_narrowNumber_114 rfl ⟨⟨rfl, k2⟩, u1'.trans u2 (fun _ z => z) (by simp)⟩
  · have e : g = 91 := num 91 (by decide) c
    subst e
    refine eFI_narrowNumber_115 rfl ?_
    refine eFI_narrowNumber_116 ?_
    refine eFI_narrowNumber_117 ?_
    refine eFI_narrowNumber_120 o1 (Nat.le_of_ble_eq_true rfl) (sSP_keep k1') ?_
    rintro _ h2 ⟨rfl, k2, u2⟩
    refine ⟨_, rfl, ?_⟩
    refine eFI_narrowNumber_123 ?_
    exact eFI_narrowNumber_124 rfl ⟨⟨rfl, k2⟩, u1'.trans u2 (fun _ z => z) (by simp)⟩
  · have e : g = 93 := num 93 (by decide) c
    subst e
    refine eFI_narrowNumber_125 rfl ?_
    refine eFI_narrowNumber_126 ?_
    refine eFI_narrowNumber_129 ?_
    refine eFI_narrowNumber_130 o1 (Nat.le_of_ble_eq_true rfl) (sSP_keep k1') ?_
    rintro _ h2 ⟨rfl, k2, u2⟩
    refine ⟨_, rfl, ?_⟩
    refine eFI_narrowNumber_133 ?_
    exact eFI_narrowNumber_134 rfl ⟨⟨rfl, k2⟩, u1'.trans u2 (fun _ z => z) (by simp)⟩
  · have n1 : ¬ g = 33 := fun z => c1 (by rw [z]; decide)
    have n2 : ¬ g = 60 := fun z => c2 (by rw [z]; decide)
    have n3 : ¬ g = 61 := fun z => c3 (by rw [z]; decide)
    have n4 : ¬ g = 62 := fun z => c4 (by rw [z]; decide)
    have n5 : ¬ g = 91 := fun z => c5 (by rw [z]; decide)
    have n6 : ¬ g = 93 := fun z => c6 (by rw [z]; decide)
    refine eFI_narrowNumber_135 ?_
    refine eFI_narrowNumber_136 rfl ⟨?_, u1'⟩
    have hnn : nnum S g v = none := by unfold nnum; rw [if_neg n3, if_neg n1, if_neg n2, if_neg n4, if_neg n5, if_neg n6]
    rw [hnn]
theorem sFI_narrowWord {a g v n : Nat} {F : sp3} (k : isFi h a F) (hl : F.2.2.2.2.length < 3) (hg : g < 65536) (hv : v < 1048576) (hn1 : 1 ≤ n) (hn4 : n ≤ 4) : x_K P (d + 2) mFI_narrowWord 0 [some (.ref a), some (.int (nI g)), some (.int (nI v)), some (.int (nI n))] [] h (fun oc h' => (match nword F.2.2 g v n with | none => oc = .returned (some (.int 0)) | some T => oc = .returned (some (.int 1)) ∧ isFi h' a (F.1, F.2.1, T)) ∧ x_only h h' [a + 5, a + 6]) := by
  obtain ⟨ho, k1, k2, k3⟩ := k
  have o0 := k3.choose_spec.1
  have hne : ¬ nI v = unread := by
    intro z
    have h1 := congrArg Int32.toInt z
    rw [nI_toInt (by omega), show unread.toInt = -2147483648 by decide] at h1
    omega
  refine eFI_narrowWord_0 ?_
  refine eFI_narrowWord_1 ?_
  refine eFI_narrowWord_3 (fun _ => ?_) (fun c => absurd c hne)
  refine eFI_narrowWord_8 rfl ?_
  refine eFI_narrowWord_9 ho rfl ?_
  refine eFI_narrowWord_12 ?_
  refine eFI_narrowWord_13 ?_
  refine eFI_narrowWord_15 o0 (Nat.le_of_ble_eq_true rfl) (sSP_keep k3) ?_
  rintro _ h1 ⟨rfl, q1, u1⟩
  refine ⟨_, rfl, ?_⟩
  have q1' : isSp h1 (a + 5) (spK F.2.2 1 1048575).1 (spK F.2.2 1 1048575).2.1 (spK F.2.2 1 1048575).2.2 := q1
  have o1 := q1'.choose_spec.1
  have u1' : x_only h h1 [a + 5, a + 6] := u1.trans x_only.rf (S1 := [a + 5]) (S2 := []) (by simp) (by simp)
  have ho1 := u1.at (by simp) ho
  have fin : ∀ (h2 : x_H) (T : sp), isSp h2 (a + 5) T.1 T.2.1 T.2.2 → x_only h1 h2 [a + 5, a + 6] → isFi h2 a (F.1, F.2.1, T) ∧ x_only h h2 [a + 5, a + 6] := by
    intro h2 T kT u2
    have u3 := u1'.trans u2 (S := [a + 5, a + 6]) (fun _ z => z) (fun _ z => z)
    exact ⟨⟨u3.at (by simp) ho, k1.keep (u3.2 _ (by simp)) (u3.2 _ (by simp)), k2.keep (u3.2 _ (by simp)) (u3.2 _ (by simp)), kT⟩, u3⟩
  refine eFI_narrowWord_18 ?_
  have num : ∀ c : Nat, c < 65536 → nI g = nI c → g = c := fun c hc e => (nI_eq (by omega) (by omega)).mp e
  refine eFI_narrowWord_19 (fun c => ?_) (fun c => ?_) (fun c => ?_) (fun c1 c2 c3 => ?_)
  · have e : g = 33 := num 33 (by decide) c
    subst e
    refine eFI_narrowWord_63 rfl ?_
    refine eFI_narrowWord_64 ho1 rfl ?_
    refine eFI_narrowWord_67 ?_
    refine eFI_narrowWord_68 o1 (Nat.le_of_ble_eq_true rfl) (sSP_exclude q1' hl) ?_
    rintro _ h2 ⟨rfl, q2, u2⟩
    refine ⟨_, rfl, ?_⟩
    refine eFI_narrowWord_71 ?_
    obtain ⟨f1, f2⟩ := fin h2 (spX (spK F.2.2 1 1048575) (nI v)) q2 u2
    exact eFI_narrowWord_72 rfl ⟨⟨rfl, f1⟩, f2⟩
  · have e : g = 61 := num 61 (by decide) c
    subst e
    refine eFI_narrowWord_52 rfl ?_
    refine eFI_narrowWord_53 ho1 rfl ?_
    refine eFI_narrowWord_56 ?_
    refine eFI_narrowWord_57 ?_
    refine eFI_narrowWord_58 o1 (Nat.le_of_ble_eq_true rfl) (sSP_keep q1') ?_
    rintro _ h2 ⟨rfl, q2, u2⟩
    refine ⟨_, rfl, ?_⟩
    refine eFI_narrowWord_61 ?_
    obtain ⟨f1, f2⟩ := fin h2 (spK (spK F.2.2 1 1048575) (nI v) (nI v)) q2 (u2.trans x_only.rf (S2 := []) (by simp) (by simp))
    exact eFI_narrowWord_62 rfl ⟨⟨rfl, f1⟩, f2⟩
  · have e : g = 94 := num 94 (by decide) c
    subst e
    refine eFI_narrowWord_73 rfl ?_
    refine eFI_narrowWord_74 ho1 rfl ?_
    refine eFI_narrowWord_77 ?_
    refine eFI_narrowWord_78 ?_
    refine eFI_narrowWord_79 ?_
    refine eFI_narrowWord_80 (Nat.le_of_ble_eq_true rfl) (sTX_endings hn4 hn1) ?_
    rintro _ h2 ⟨rfl, rfl⟩
    refine ⟨_, rfl, ?_⟩
    refine eFI_narrowWord_83 ?_
    refine eFI_narrowWord_84 o1 (Nat.le_of_ble_eq_true rfl) (sSP_keep q1') ?_
    rintro _ h3 ⟨rfl, q2, u2⟩
    refine ⟨_, rfl, ?_⟩
    refine eFI_narrowWord_87 ?_
    obtain ⟨f1, f2⟩ := fin h3 (spK (spK F.2.2 1 1048575) (nI v) (nI v ||| nI (32 ^ (4 - n) - 1))) q2 (u2.trans x_only.rf (S2 := []) (by simp) (by simp))
    exact eFI_narrowWord_88 rfl ⟨⟨rfl, f1⟩, f2⟩
  · have n1 : ¬ g = 33 := fun z => c1 (by rw [z]; decide)
    have n2 : ¬ g = 61 := fun z => c2 (by rw [z]; decide)
    have n3 : ¬ g = 94 := fun z => c3 (by rw [z]; decide)
    refine eFI_narrowWord_89 ?_
    refine eFI_narrowWord_90 rfl ⟨?_, u1'⟩
    have hnn : nword F.2.2 g v n = none := by unfold nword; rw [if_neg n2, if_neg n1, if_neg n3]
    rw [hnn]
end

