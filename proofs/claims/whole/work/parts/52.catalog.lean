/-! Catalog -/
def isK (P : x_P) (h : x_H) (kn ed n : Nat) (K : List (Nat × sp3)) : Prop := isAL P h kn ed n (K.map (fun p => p.1)) ∧ ∀ p ∈ K, isFi h p.1 p.2
def covB (K : List (Nat × sp3)) (g f : Nat) : Bool := match K[g]?, K[f]? with
  | some p, some q => !(g == f) && fiInc p.2 q.2
  | _, _ => false
theorem covB_iff {K : List (Nat × sp3)} {g f : Nat} : covB K g f = true ↔ ∃ p q, K[g]? = some p ∧ K[f]? = some q ∧ g ≠ f ∧ fiInc p.2 q.2 = true := by
  unfold covB
  constructor
  · intro h
    split at h
    · rename_i p q h1 h2
      rw [Bool.and_eq_true] at h
      exact ⟨p, q, h1, h2, by simpa using h.1, h.2⟩
    · cases h
  · rintro ⟨p, q, h1, h2, h3, h4⟩
    rw [h1, h2]
    simp [h3, h4]
/-- an array of masks -/
def bA (f : Nat → Int32) (B : Nat → Nat → Prop) : Prop := ∀ i, i < 16 → ∃ m : Nat, m < 65536 ∧ f i = nI m ∧ ∀ g, g < 16 → (m.testBit g = true ↔ B g i)
theorem bA.of {f : Nat → Int32} {B B' : Nat → Nat → Prop} (k : bA f B) (e : ∀ g i, g < 16 → i < 16 → (B g i ↔ B' g i)) : bA f B' := fun i hi => by
  obtain ⟨m, h1, h2, h3⟩ := k i hi
  exact ⟨m, h1, h2, fun g hg => (h3 g hg).trans (e g i hg hi)⟩
theorem bA.or {f : Nat → Int32} {B : Nat → Nat → Prop} {i0 g0 : Nat} (k : bA f B) (hi : i0 < 16) (hg : g0 < 16) : bA (upd f i0 (f i0 ||| ((1 : Int32) <<< (nI g0 &&& 31)))) (fun g i => B g i ∨ (i = i0 ∧ g = g0)) := by
  intro i hi'
  obtain ⟨m, h1, h2, h3⟩ := k i hi'
  by_cases hii : i = i0
  · subst hii
    refine ⟨m ||| 2 ^ g0, Nat.or_lt_two_pow (n := 16) h1 (Nat.pow_lt_pow_right (by decide) hg), ?_, fun g hg' => ?_⟩
    · rw [upd, if_pos rfl, h2, xn_shl hg, xn_or]
    · rw [Nat.testBit_or, Bool.or_eq_true, h3 g hg', Nat.testBit_two_pow]
      simp [eq_comm]
  · refine ⟨m, h1, ?_, fun g hg' => ?_⟩
    · rw [upd, if_neg hii, h2]
    · rw [h3 g hg']
      simp [hii]
def isCv (h : x_H) (cv : Nat) (K : List (Nat × sp3)) : Prop := ∃ f : Nat → Int32, h.1 cv = some (.inl (0, 16, .inl f)) ∧ bA f (fun g i => covB K g i = true)
def isCa (h : x_H) (ca kn cv : Nat) : Prop := h.1 ca = some (.inr (1, [.ref kn, .ref cv]))
theorem xn_and0 {a b : Nat} (ha : a < 65536) (hb : b < 65536) : nI a &&& nI b = 0 ↔ ∀ g, g < 16 → ¬ (a.testBit g = true ∧ b.testBit g = true) := by
  have hab : a &&& b < 65536 := Nat.and_lt_two_pow (n := 16) a hb
  rw [xn_and, ← nI_0, nI_eq (by omega) (by decide)]
  constructor
  · intro h g _ hg
    have h1 : (a &&& b).testBit g = true := by rw [Nat.testBit_and, hg.1, hg.2]; rfl
    rw [h] at h1
    simp at h1
  · intro h
    apply Nat.eq_of_testBit_eq
    intro i
    rw [Nat.zero_testBit, Nat.testBit_and]
    by_cases hi : i < 16
    · have := h i hi
      cases h1 : a.testBit i <;> cases h2 : b.testBit i <;> simp_all
    · rw [Nat.testBit_lt_two_pow (Nat.lt_of_lt_of_le ha (show 65536 ≤ 2 ^ i from Nat.pow_le_pow_right (n := 2) (i := 16) (by decide) (by omega)))]
      rfl
section
variable {P : x_P} {d : Nat} {h : x_H} {ca kn cv ed n : Nat} {K : List (Nat × sp3)}
theorem sCA_hasCoverer {x r : Nat} {l : List Nat} (kc : isCa h ca kn cv) (kv : isCv h cv K) (kr : isRow h r l) (hx : x < 16) : x_K P (d + 1) mCA_hasCoverer 0 [some (.ref ca), some (.int (nI x)), some (.ref r)] [] h (fun oc h' => oc = .returned (some (.int (b2i (l.any (fun y => covB K y x))))) ∧ h' = h) := by
  obtain ⟨f, hf, hb⟩ := kv
  obtain ⟨m, h1, h2, h3⟩ := hb x hx
  have h16 : ∀ y ∈ l, y < 16 := by
    obtain ⟨_, _, -, -, -, -, -, -, h9⟩ := kr
    exact h9
  have kr0 := kr
  obtain ⟨_, _, hr, -⟩ := kr0
  refine eCA_hasCoverer_0 ?_
  refine eCA_hasCoverer_1 (fun c => absurd c (nI_pos (by omega))) (fun _ => ?_)
  refine eCA_hasCoverer_4 ?_
  refine eCA_hasCoverer_5 ?_
  refine eCA_hasCoverer_7 (fun c => absurd c (nI_ge (b := 16) (by omega) (by decide))) (fun _ => ?_)
  refine eCA_hasCoverer_10 rfl ?_
  refine eCA_hasCoverer_11 kc rfl ?_
  refine eCA_hasCoverer_14 ?_
  refine eCA_hasCoverer_15 hf (xn_in hx (by decide)) ?_
  refine eCA_hasCoverer_16 rfl ?_
  refine eCA_hasCoverer_17 hr (Nat.le_of_ble_eq_true rfl) (sRO_members kr) ?_
  rintro _ h' ⟨⟨m2, rfl, q1, q2⟩, rfl⟩
  refine ⟨_, rfl, ?_⟩
  rw [nI_clamp (by omega), h2]
  refine eCA_hasCoverer_20 ?_
  refine eCA_hasCoverer_21 (fun c => ?_) (fun c => ?_)
  · refine eCA_hasCoverer_28 ?_
    refine eCA_hasCoverer_29 rfl ⟨?_, rfl⟩
    have e : (l.any (fun y => covB K y x)) = false := by
      rw [List.any_eq_false]
      intro y hy hc
      exact (xn_and0 h1 q1).mp c y (h16 y hy) ⟨(h3 y (h16 y hy)).mpr hc, (q2 y (h16 y hy)).mpr hy⟩
    rw [e]
    rfl
  · refine eCA_hasCoverer_24 ?_
    refine eCA_hasCoverer_25 ?_
    refine eCA_hasCoverer_29 rfl ⟨?_, rfl⟩
    have e : (l.any (fun y => covB K y x)) = true := by
      rw [List.any_eq_true]
      refine Classical.byContradiction fun hn => c ((xn_and0 h1 q1).mpr fun g hg hz => hn ⟨g, (q2 g hg).mp hz.2, (h3 g hg).mp hz.1⟩)
    rw [e]
    rfl
/-- whether a filter of the catalog matches a note -/
def kM (K : List (Nat × sp3)) (x : Nat) (a b c : Int32) : Bool := match K[x]? with
  | none => false
  | some p => fiM p.2 a b c
theorem isK.get {i : Nat} {p : Nat × sp3} (k : isK P h kn ed n K) (hi : K[i]? = some p) : x_K P (d + 2) mAL_get 0 [some (.ref kn), some (.int (nI i))] [] h (fun oc h' => oc = .returned (some (.ref p.1)) ∧ h' = h) := sAL_get k.1 (by rw [List.getElem?_map, hi]; rfl)
theorem sCA_matches {x w : Nat} {a b c : Int32} (kc : isCa h ca kn cv) (kk : isK P h kn ed n K) (kn' : isNo h w a b c) (hx : x < 65536) (hK : K.length < 65536) : x_K P (d + 3) mCA_matches 0 [some (.ref ca), some (.int (nI x)), some (.ref w)] [] h (fun oc h' => oc = .returned (some (.int (b2i (kM K x a b c)))) ∧ h' = h) := by
  have hal := kk.1.choose_spec.1
  refine eCA_matches_0 ?_
  refine eCA_matches_1 (fun c => absurd c (nI_pos (by omega))) (fun _ => ?_)
  refine eCA_matches_4 ?_
  refine eCA_matches_5 rfl ?_
  refine eCA_matches_6 kc rfl ?_
  refine eCA_matches_9 hal (Nat.le_of_ble_eq_true rfl) (sAL_size kk.1) ?_
  rintro _ h' ⟨rfl, rfl⟩
  refine ⟨_, rfl, ?_⟩
  rw [List.length_map]
  refine eCA_matches_12 (fun c => ?_) (fun c => ?_)
  · refine eCA_matches_37 ?_
    refine eCA_matches_38 rfl ⟨?_, rfl⟩
    have e : K[x]? = none := List.getElem?_eq_none ((nI_leI (by omega) (by omega)).mp c)
    rw [kM, e]
    rfl
  · have hlt : x < K.length := by
      refine Nat.not_le.mp fun z => c (nI_le z (by omega))
    have e : K[x]? = some K[x] := List.getElem?_eq_getElem hlt
    have hfi := kk.2 _ (List.getElem_mem hlt)
    refine eCA_matches_15 rfl ?_
    refine eCA_matches_16 kc rfl ?_
    refine eCA_matches_19 ?_
    refine eCA_matches_20 hal (Nat.le_of_ble_eq_true rfl) (kk.get e) ?_
    rintro _ h1 ⟨rfl, rfl⟩
    refine ⟨_, rfl, ?_⟩
    refine eCA_matches_23 hfi.1 ?_
    refine eCA_matches_26 rfl ?_
    refine eCA_matches_27 hfi.1 rfl (Nat.le_of_ble_eq_true rfl) (sFI_matches hfi kn') ?_
    rintro _ h2 ⟨rfl, rfl⟩
    refine ⟨_, rfl, ?_⟩
    refine eCA_matches_30 (fun c => b2i_if c fun c => ?_) (fun c => b2i_it c fun c => ?_)
    · refine eCA_matches_37 ?_
      refine eCA_matches_38 rfl ⟨?_, rfl⟩
      rw [kM, e]
      show _ = Outcome.returned (some (Value.int (b2i (fiM K[x].2 a b _))))
      rw [c]
      rfl
    · refine eCA_matches_33 ?_
      refine eCA_matches_34 ?_
      refine eCA_matches_38 rfl ⟨?_, rfl⟩
      rw [kM, e]
      show _ = Outcome.returned (some (Value.int (b2i (fiM K[x].2 a b _))))
      rw [c]
      rfl
theorem lCA_anyMatches {r w : Nat} {l : List Nat} {a b c : Int32} (kc : isCa h ca kn cv) (kk : isK P h kn ed n K) (kn' : isNo h w a b c) (kr : isRow h r l) (hK : K.length < 65536) : ∀ (j k : Nat), k + j = l.length → x_K P (d + 4) mCA_anyMatches 2 [some (.ref ca), some (.ref r), some (.ref w), some (.int (nI k))] [] h (fun oc h' => oc = .returned (some (.int (b2i ((l.drop k).any (fun x => kM K x a b c))))) ∧ h' = h) := by
  have hlen := kr.len
  have h16 : ∀ y ∈ l, y < 16 := by
    obtain ⟨_, _, -, -, -, -, -, -, h9⟩ := kr
    exact h9
  have kr0 := kr
  obtain ⟨_, _, hr, -⟩ := kr0
  intro j
  induction j with
  | zero =>
    intro k hk
    refine eCA_anyMatches_2 ?_
    refine eCA_anyMatches_3 rfl ?_
    refine eCA_anyMatches_4 hr (Nat.le_of_ble_eq_true rfl) (sRO_size kr) ?_
    rintro _ h' ⟨rfl, rfl⟩
    refine ⟨_, rfl, ?_⟩
    refine eCA_anyMatches_7 (fun _ => ?_) (fun c => absurd (nI_le (by omega) (by omega)) c)
    refine eCA_anyMatches_31 ?_
    refine eCA_anyMatches_32 rfl ⟨?_, rfl⟩
    rw [List.drop_of_length_le (by omega)]
    rfl
  | succ j ih =>
    intro k hk
    have hlt : k < l.length := by omega
    have e : l[k]? = some l[k] := List.getElem?_eq_getElem hlt
    have hx := h16 _ (List.getElem_mem hlt)
    refine eCA_anyMatches_2 ?_
    refine eCA_anyMatches_3 rfl ?_
    refine eCA_anyMatches_4 hr (Nat.le_of_ble_eq_true rfl) (sRO_size kr) ?_
    rintro _ h' ⟨rfl, rfl⟩
    refine ⟨_, rfl, ?_⟩
    refine eCA_anyMatches_7 (fun c => absurd c (nI_ge hlt (by omega))) (fun _ => ?_)
    refine eCA_anyMatches_10 rfl ?_
    refine eCA_anyMatches_11 rfl ?_
    refine eCA_anyMatches_12 ?_
    refine eCA_anyMatches_13 hr (Nat.le_of_ble_eq_true rfl) (sRO_get kr e) ?_
    rintro _ h1 ⟨rfl, rfl⟩
    refine ⟨_, rfl, ?_⟩
    refine eCA_anyMatches_16 rfl ?_
    refine eCA_anyMatches_17 kc rfl (Nat.le_of_ble_eq_true rfl) (sCA_matches kc kk kn' (by omega) hK) ?_
    rintro _ h2 ⟨rfl, rfl⟩
    refine ⟨_, rfl, ?_⟩
    rw [List.drop_eq_getElem_cons hlt, List.any_cons]
    refine eCA_anyMatches_20 (fun c => b2i_if c fun c => ?_) (fun c => b2i_it c fun c => ?_)
    · refine eCA_anyMatches_25 ?_
      refine eCA_anyMatches_28 ?_
      rw [c, Bool.false_or, nI_1]
      exact ih (k + 1) (by omega)
    · refine eCA_anyMatches_23 ?_
      refine eCA_anyMatches_24 rfl ⟨?_, rfl⟩
      rw [c, Bool.true_or]
      rfl
theorem sCA_anyMatches {r w : Nat} {l : List Nat} {a b c : Int32} (kc : isCa h ca kn cv) (kk : isK P h kn ed n K) (kn' : isNo h w a b c) (kr : isRow h r l) (hK : K.length < 65536) : x_K P (d + 4) mCA_anyMatches 0 [some (.ref ca), some (.ref r), some (.ref w), none] [] h (fun oc h' => oc = .returned (some (.int (b2i (l.any (fun x => kM K x a b c))))) ∧ h' = h) := by
  refine eCA_anyMatches_0 ?_
  refine eCA_anyMatches_1 ?_
  exact lCA_anyMatches kc kk kn' kr hK l.length 0 (by omega)
end

