/-! Catalog.numberOf -/
def alF (F : sp3) (p : Nat × sp3) : Bool := fiInc p.2 F && fiInc F p.2
section
variable {P : x_P} {d : Nat} {h : x_H} {ca kn cv ed n q : Nat} {K : List (Nat × sp3)} {F : sp3}
theorem lCA_find {Φ : Outcome → x_H → Prop} (kc : isCa h ca kn cv) (kk : isK P h kn ed n K) (kf : isFi h q F) (hK : K.length ≤ 16)
  (k1 : ∀ k p, K[k]? = some p → alF F p = true → (∀ i p', i < k → K[i]? = some p' → alF F p' = false) → Φ (.returned (some (.int (nI k)))) h)
  (k2 : (∀ p ∈ K, alF F p = false) → x_K P (d + 3) mCA_numberOf 59 [some (.ref ca), some (.ref q), some (.int (nI K.length)), some (.int (nI K.length))] [] h Φ) :
  ∀ (j k : Nat), k + j = K.length → (∀ i p', i < k → K[i]? = some p' → alF F p' = false) → x_K P (d + 3) mCA_numberOf 10 [some (.ref ca), some (.ref q), some (.int (nI K.length)), some (.int (nI k))] [] h Φ := by
  have hal := kk.1.choose_spec.1
  intro j
  induction j with
  | zero =>
    intro k hk hi
    have : k = K.length := by omega
    subst this
    refine eCA_numberOf_10 ?_
    refine eCA_numberOf_11 ?_
    refine eCA_numberOf_12 (fun _ => k2 fun p hp => ?_) (fun c => absurd (nI_le (Nat.le_refl _) (by omega)) c)
    obtain ⟨i, hi1, hi2⟩ := List.getElem_of_mem hp
    exact hi i p hi1 (by rw [List.getElem?_eq_getElem hi1, hi2])
  | succ j ih =>
    intro k hk hi
    have hlt : k < K.length := by omega
    have e : K[k]? = some K[k] := List.getElem?_eq_getElem hlt
    have hfi := kk.2 _ (List.getElem_mem hlt)
    have next : alF F K[k] = false → x_K P (d + 3) mCA_numberOf 53 [some (.ref ca), some (.ref q), some (.int (nI K.length)), some (.int (nI k))] [] h Φ := by
      intro hz
      refine eCA_numberOf_53 ?_
      refine eCA_numberOf_56 ?_
      rw [nI_1]
      refine ih (k + 1) (by omega) (fun i p' h1 h2 => ?_)
      rcases Nat.lt_succ_iff_lt_or_eq.mp h1 with h3 | h3
      · exact hi i p' h3 h2
      · subst h3
        rw [e] at h2
        cases h2
        exact hz
    refine eCA_numberOf_10 ?_
    refine eCA_numberOf_11 ?_
    refine eCA_numberOf_12 (fun c => absurd c (nI_ge hlt (by omega))) (fun _ => ?_)
    refine eCA_numberOf_15 rfl ?_
    refine eCA_numberOf_16 kc rfl ?_
    refine eCA_numberOf_19 ?_
    refine eCA_numberOf_20 hal (Nat.le_of_ble_eq_true rfl) (kk.get e) ?_
    rintro _ h1 ⟨rfl, rfl⟩
    refine ⟨_, rfl, ?_⟩
    refine eCA_numberOf_23 hfi.1 ?_
    refine eCA_numberOf_26 rfl ?_
    refine eCA_numberOf_27 hfi.1 rfl (Nat.le_of_ble_eq_true rfl) (sFI_includes hfi kf) ?_
    rintro _ h2 ⟨rfl, rfl⟩
    refine ⟨_, rfl, ?_⟩
    refine eCA_numberOf_30 (fun c => b2i_if c fun c => ?_) (fun c => b2i_it c fun c => ?_)
    · exact next (by rw [alF, c]; rfl)
    refine eCA_numberOf_33 rfl ?_
    refine eCA_numberOf_34 rfl ?_
    refine eCA_numberOf_35 kc rfl ?_
    refine eCA_numberOf_38 ?_
    refine eCA_numberOf_39 hal (Nat.le_of_ble_eq_true rfl) (kk.get e) ?_
    rintro _ h3 ⟨rfl, rfl⟩
    refine ⟨_, rfl, ?_⟩
    refine eCA_numberOf_42 hfi.1 ?_
    refine eCA_numberOf_45 kf.1 rfl (Nat.le_of_ble_eq_true rfl) (sFI_includes kf hfi) ?_
    rintro _ h4 ⟨rfl, rfl⟩
    refine ⟨_, rfl, ?_⟩
    refine eCA_numberOf_48 (fun c2 => b2i_if c2 fun c2 => ?_) (fun c2 => b2i_it c2 fun c2 => ?_)
    · exact next (by rw [alF, c, c2]; rfl)
    · refine eCA_numberOf_51 ?_
      exact eCA_numberOf_52 (k1 k _ e (by rw [alF, c, c2]; rfl) hi)
def covS (K : List (Nat × sp3)) (F : sp3) (k g i : Nat) : Prop := covB K g i = true ∨ (i = K.length ∧ g < k ∧ ∃ p, K[g]? = some p ∧ fiInc p.2 F = true) ∨ (g = K.length ∧ i < k ∧ ∃ p, K[i]? = some p ∧ fiInc F p.2 = true)
theorem covS_end {g i : Nat} : covS K F K.length g i ↔ covB (K ++ [(q, F)]) g i = true := by
  rw [covB_iff, covS, covB_iff]
  have hg : ∀ g p, (K ++ [(q, F)])[g]? = some p ↔ K[g]? = some p ∨ (g = K.length ∧ p = (q, F)) := by
    intro g p
    rw [List.getElem?_append]
    split
    · rename_i h1
      constructor
      · exact Or.inl
      · rintro (h2 | ⟨h2, -⟩)
        · exact h2
        · omega
    · rename_i h1
      have hn : K[g]? = none := List.getElem?_eq_none (by omega)
      rw [hn]
      constructor
      · intro h2
        have h3 : g - K.length < 1 := (List.getElem?_eq_some_iff.mp h2).1
        have h4 : g = K.length := by omega
        subst h4
        rw [Nat.sub_self] at h2
        cases h2
        exact Or.inr ⟨rfl, rfl⟩
      · rintro (h2 | ⟨rfl, rfl⟩)
        · cases h2
        · rw [Nat.sub_self]; rfl
  have hlt : ∀ {g : Nat} {p : Nat × sp3}, K[g]? = some p → g < K.length := fun h => (List.getElem?_eq_some_iff.mp h).1
  constructor
  · rintro (⟨p, r, h1, h2, h3, h4⟩ | ⟨rfl, h1, p, h2, h3⟩ | ⟨rfl, h1, p, h2, h3⟩)
    · exact ⟨p, r, (hg _ _).mpr (Or.inl h1), (hg _ _).mpr (Or.inl h2), h3, h4⟩
    · exact ⟨p, (q, F), (hg _ _).mpr (Or.inl h2), (hg _ _).mpr (Or.inr ⟨rfl, rfl⟩), by omega, h3⟩
    · exact ⟨(q, F), p, (hg _ _).mpr (Or.inr ⟨rfl, rfl⟩), (hg _ _).mpr (Or.inl h2), by omega, h3⟩
  · rintro ⟨p, r, h1, h2, h3, h4⟩
    rcases (hg _ _).mp h1 with h1 | ⟨hz, rfl⟩
    · rcases (hg _ _).mp h2 with h2 | ⟨hz2, rfl⟩
      · exact Or.inl ⟨p, r, h1, h2, h3, h4⟩
      · exact Or.inr (Or.inl ⟨hz2, hlt h1, p, h1, h4⟩)
    · rcases (hg _ _).mp h2 with h2 | ⟨hz2, rfl⟩
      · exact Or.inr (Or.inr ⟨hz, hlt h2, r, h2, h4⟩)
      · omega
theorem covS_step {k : Nat} {p : Nat × sp3} (e : K[k]? = some p) {g i : Nat} : covS K F (k + 1) g i ↔ (covS K F k g i ∨ (fiInc p.2 F = true ∧ i = K.length ∧ g = k)) ∨ (fiInc F p.2 = true ∧ i = k ∧ g = K.length) := by
  unfold covS
  constructor
  · rintro (h | ⟨h1, h2, r, h3, h4⟩ | ⟨h1, h2, r, h3, h4⟩)
    · exact Or.inl (Or.inl (Or.inl h))
    · rcases Nat.lt_succ_iff_lt_or_eq.mp h2 with h5 | h5
      · exact Or.inl (Or.inl (Or.inr (Or.inl ⟨h1, h5, r, h3, h4⟩)))
      · subst h5
        rw [e] at h3
        cases h3
        exact Or.inl (Or.inr ⟨h4, h1, rfl⟩)
    · rcases Nat.lt_succ_iff_lt_or_eq.mp h2 with h5 | h5
      · exact Or.inl (Or.inl (Or.inr (Or.inr ⟨h1, h5, r, h3, h4⟩)))
      · subst h5
        rw [e] at h3
        cases h3
        exact Or.inr ⟨h4, rfl, h1⟩
  · rintro (((h | ⟨h1, h2, r, h3, h4⟩ | ⟨h1, h2, r, h3, h4⟩) | ⟨h1, h2, h3⟩) | ⟨h1, h2, h3⟩)
    · exact Or.inl h
    · exact Or.inr (Or.inl ⟨h1, by omega, r, h3, h4⟩)
    · exact Or.inr (Or.inr ⟨h1, by omega, r, h3, h4⟩)
    · subst h3
      exact Or.inr (Or.inl ⟨h2, by omega, p, e, h1⟩)
    · subst h2
      exact Or.inr (Or.inr ⟨h3, by omega, p, e, h1⟩)
theorem lCA_cov {Φ : Outcome → x_H → Prop} {h0 : x_H} (hK : K.length < 16) (hcv1 : ca ≠ cv) (hcv2 : kn ≠ cv)
  (k2 : ∀ h1, x_only h0 h1 [cv] → isCv h1 cv (K ++ [(q, F)]) → x_K P (d + 3) mCA_numberOf 140 [some (.ref ca), some (.ref q), some (.int (nI K.length)), some (.int (nI K.length))] [] h1 Φ) (kc : isCa h0 ca kn cv) (kk : ∀ h1, x_only h0 h1 [cv] → isK P h1 kn ed n K ∧ isFi h1 q F) :
  ∀ (j k : Nat) (h : x_H) (f : Nat → Int32), k + j = K.length → x_only h0 h [cv] → h.1 cv = some (.inl (0, 16, .inl f)) → bA f (covS K F k) → x_K P (d + 3) mCA_numberOf 69 [some (.ref ca), some (.ref q), some (.int (nI K.length)), some (.int (nI k))] [] h Φ := by
  intro j
  induction j with
  | zero =>
    intro k h f hk o hf hb
    have : k = K.length := by omega
    subst this
    refine eCA_numberOf_69 ?_
    refine eCA_numberOf_70 ?_
    refine eCA_numberOf_71 (fun _ => k2 h o ⟨f, hf, hb.of fun g i _ _ => covS_end⟩) (fun c => absurd (nI_le (Nat.le_refl _) (by omega)) c)
  | succ j ih =>
    intro k h f hk o hf hb
    have hlt : k < K.length := by omega
    have e : K[k]? = some K[k] := List.getElem?_eq_getElem hlt
    have kc1 : isCa h ca kn cv := (o.2 ca (by simp [hcv1])).trans kc
    obtain ⟨kk1, kf1⟩ := kk h o
    have hfi := kk1.2 _ (List.getElem_mem hlt)
    have hal := kk1.1.choose_spec.1
    refine eCA_numberOf_69 ?_
    refine eCA_numberOf_70 ?_
    refine eCA_numberOf_71 (fun c => absurd c (nI_ge hlt (by omega))) (fun _ => ?_)
    refine eCA_numberOf_74 rfl ?_
    refine eCA_numberOf_75 kc1 rfl ?_
    refine eCA_numberOf_78 ?_
    refine eCA_numberOf_79 hal (Nat.le_of_ble_eq_true rfl) (kk1.get e) ?_
    rintro _ h1 ⟨rfl, rfl⟩
    refine ⟨_, rfl, ?_⟩
    refine eCA_numberOf_82 hfi.1 ?_
    refine eCA_numberOf_85 rfl ?_
    refine eCA_numberOf_86 hfi.1 rfl (Nat.le_of_ble_eq_true rfl) (sFI_includes hfi kf1) ?_
    rintro _ h2 ⟨rfl, rfl⟩
    refine ⟨_, rfl, ?_⟩
    have two : ∀ (h : x_H) (f : Nat → Int32), x_only h0 h [cv] → h.1 cv = some (.inl (0, 16, .inl f)) → bA f (fun g i => covS K F k g i ∨ (fiInc K[k].2 F = true ∧ i = K.length ∧ g = k)) → x_K P (d + 3) mCA_numberOf 104 [some (.ref ca), some (.ref q), some (.int (nI K.length)), some (.int (nI k))] [] h Φ := by
      intro h f o hf hb
      have kc1 : isCa h ca kn cv := (o.2 ca (by simp [hcv1])).trans kc
      obtain ⟨kk1, kf1⟩ := kk h o
      have hfi := kk1.2 _ (List.getElem_mem hlt)
      have hal := kk1.1.choose_spec.1
      refine eCA_numberOf_104 rfl ?_
      refine eCA_numberOf_105 rfl ?_
      refine eCA_numberOf_106 kc1 rfl ?_
      refine eCA_numberOf_109 ?_
      refine eCA_numberOf_110 hal (Nat.le_of_ble_eq_true rfl) (kk1.get e) ?_
      rintro _ h1 ⟨rfl, rfl⟩
      refine ⟨_, rfl, ?_⟩
      refine eCA_numberOf_113 hfi.1 ?_
      refine eCA_numberOf_116 kf1.1 rfl (Nat.le_of_ble_eq_true rfl) (sFI_includes kf1 hfi) ?_
      rintro _ h2 ⟨rfl, rfl⟩
      refine ⟨_, rfl, ?_⟩
      refine eCA_numberOf_119 (fun c => b2i_if c fun c => ?_) (fun c => b2i_it c fun c => ?_)
      · refine eCA_numberOf_134 ?_
        refine eCA_numberOf_137 ?_
        rw [nI_1]
        exact ih (k + 1) _ f (by omega) o hf (hb.of fun g i _ _ => by rw [covS_step e, c]; simp)
      · refine eCA_numberOf_122 rfl ?_
        refine eCA_numberOf_123 kc1 rfl ?_
        refine eCA_numberOf_126 ?_
        refine eCA_numberOf_127 rfl rfl ?_
        refine eCA_numberOf_128 hf (xn_in (by omega) (by decide)) ?_
        refine eCA_numberOf_129 ?_
        refine eCA_numberOf_130 ?_
        refine eCA_numberOf_131 ?_
        refine eCA_numberOf_132 ?_
        refine eCA_numberOf_133 hf (xn_in (by omega) (by decide)) ?_
        refine eCA_numberOf_134 ?_
        refine eCA_numberOf_137 ?_
        rw [nI_1, nI_clamp (by omega)]
        exact ih (k + 1) _ _ (by omega) (o.put (by simp)) xq_eq ((hb.or (by omega) hK).of fun g i _ _ => by rw [covS_step e, c]; simp)
    refine eCA_numberOf_89 (fun c => b2i_if c fun c => ?_) (fun c => b2i_it c fun c => ?_)
    · exact two _ f o hf (hb.of fun g i _ _ => by rw [c]; simp)
    · refine eCA_numberOf_92 rfl ?_
      refine eCA_numberOf_93 kc1 rfl ?_
      refine eCA_numberOf_96 ?_
      refine eCA_numberOf_97 rfl rfl ?_
      refine eCA_numberOf_98 hf (xn_in (by omega) (by decide)) ?_
      refine eCA_numberOf_99 ?_
      refine eCA_numberOf_100 ?_
      refine eCA_numberOf_101 ?_
      refine eCA_numberOf_102 ?_
      refine eCA_numberOf_103 hf (xn_in (by omega) (by decide)) ?_
      rw [nI_clamp (by omega)]
      exact two _ _ (o.put (by simp)) xq_eq ((hb.or hK (by omega)).of fun g i _ _ => by rw [c]; simp)
end

