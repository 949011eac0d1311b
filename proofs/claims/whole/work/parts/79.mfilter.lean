/-! The reference: the record of a filter -/
def exR (a b : Nat → Int32) (t : Nat) (ex : List Int32) : Prop := a t = nI ex.length ∧ ex.length ≤ 3 ∧ ∀ (i : Nat) (v : Int32), ex[i]? = some v → b (3 * t + i) = v
def frN (t : Nat) (si si' : Nat → Nat → Int32) : Prop := ∀ K i, ((K = 3 ∨ K = 4 ∨ K = 5 ∨ K = 11) ∧ i = t) ∨ (K = 6 ∧ i / 3 = t) ∨ si' K i = si K i
def frW (f : Nat) (si si' : Nat → Nat → Int32) : Prop := ∀ K i, ((K = 7 ∨ K = 8 ∨ K = 9 ∨ K = 12 ∨ K = 13 ∨ K = 14) ∧ i = f) ∨ (K = 10 ∧ i / 3 = f) ∨ si' K i = si K i
def slt (K i : Nat) : Nat := if K = 6 then i / 6 else if K = 10 then i / 3 else if K = 3 ∨ K = 4 ∨ K = 5 ∨ K = 11 then i / 2 else i
def frm (f : Nat) (si si' : Nat → Nat → Int32) : Prop := ∀ K i, (3 ≤ K ∧ K ≤ 14 ∧ slt K i = f) ∨ si' K i = si K i
def isRN (si : Nat → Nat → Int32) (t : Nat) (s : sp) : Prop := exR (si 5) (si 6) t s.2.2 ∧ ((si 11 t = 0 ∧ s = (-999, 1000, []) ∧ si 3 t = -999 ∧ si 4 t = 999) ∨ (si 11 t = 1 ∧ si 3 t = s.1 ∧ si 4 t = s.2.1 ∧ -999 ≤ s.1.toInt ∧ s.1.toInt ≤ 1000 ∧ -1000 ≤ s.2.1.toInt ∧ s.2.1.toInt ≤ 999))
theorem vu_at {si : Nat → Nat → Int32} {K i K' i' : Nat} {x : Int32} (h : ¬ (K' = K ∧ i' = i)) : va_up si K (upd (si K) i x) K' i' = si K' i' := by
  show (if K' = K then upd (si K) i x else si K') i' = _
  by_cases e : K' = K
  · rw [if_pos e, e]
    exact pk_un (fun z => h ⟨e, z⟩)
  · rw [if_neg e]
section
variable {si si1 si' : Nat → Nat → Int32} {f t : Nat}
theorem frN.rf : frN t si si := fun _ _ => Or.inr (Or.inr rfl)
theorem frW.rf : frW f si si := fun _ _ => Or.inr (Or.inr rfl)
theorem frm.rf : frm f si si := fun _ _ => Or.inr rfl
theorem frN.up {K i : Nat} {x : Int32} (k : frN t si si1) (hK : ((K = 3 ∨ K = 4 ∨ K = 5 ∨ K = 11) ∧ i = t) ∨ (K = 6 ∧ i / 3 = t)) : frN t si (va_up si1 K (upd (si1 K) i x)) := by
  intro K' i'
  by_cases h : K' = K ∧ i' = i
  · rw [h.1, h.2]
    rcases hK with a | a
    · exact Or.inl a
    · exact Or.inr (Or.inl a)
  · rcases k K' i' with a | a | a
    · exact Or.inl a
    · exact Or.inr (Or.inl a)
    · exact Or.inr (Or.inr ((vu_at h).trans a))
theorem frW.up {K i : Nat} {x : Int32} (k : frW f si si1) (hK : ((K = 7 ∨ K = 8 ∨ K = 9 ∨ K = 12 ∨ K = 13 ∨ K = 14) ∧ i = f) ∨ (K = 10 ∧ i / 3 = f)) : frW f si (va_up si1 K (upd (si1 K) i x)) := by
  intro K' i'
  by_cases h : K' = K ∧ i' = i
  · rw [h.1, h.2]
    rcases hK with a | a
    · exact Or.inl a
    · exact Or.inr (Or.inl a)
  · rcases k K' i' with a | a | a
    · exact Or.inl a
    · exact Or.inr (Or.inl a)
    · exact Or.inr (Or.inr ((vu_at h).trans a))
theorem frm.trans (k1 : frm f si si1) (k2 : frm f si1 si') : frm f si si' := by
  intro K i
  rcases k2 K i with a | a
  · exact Or.inl a
  · rcases k1 K i with b | b
    · exact Or.inl b
    · exact Or.inr (a.trans b)
theorem frN.m (k : frN t si si') (ht : t / 2 = f) : frm f si si' := by
  intro K i
  rcases k K i with a | a | a
  · left
    unfold slt
    obtain ⟨b, c⟩ := a
    rcases b with b | b | b | b <;> subst b <;> refine ⟨by decide, by decide, ?_⟩ <;> simp <;> omega
  · left
    unfold slt
    obtain ⟨b, c⟩ := a
    subst b
    refine ⟨by decide, by decide, ?_⟩
    simp
    omega
  · exact Or.inr a
theorem frW.m (k : frW f si si') : frm f si si' := by
  intro K i
  rcases k K i with a | a | a
  · left
    unfold slt
    obtain ⟨b, c⟩ := a
    rcases b with b | b | b | b | b | b <;> subst b <;> refine ⟨by decide, by decide, ?_⟩ <;> simp <;> omega
  · left
    unfold slt
    obtain ⟨b, c⟩ := a
    subst b
    refine ⟨by decide, by decide, ?_⟩
    simp
    omega
  · exact Or.inr a
theorem frm.at {K i : Nat} (k : frm f si si') (h : K < 3 ∨ 14 < K ∨ slt K i ≠ f) : si' K i = si K i := by
  rcases k K i with a | a
  · omega
  · exact a
theorem exR.keep {a b a' b' : Nat → Int32} {ex : List Int32} (k : exR a b t ex) (h1 : a' t = a t) (h2 : ∀ i, i < 3 → b' (3 * t + i) = b (3 * t + i)) : exR a' b' t ex := by
  obtain ⟨x, y, z⟩ := k
  refine ⟨h1.trans x, y, fun i v hi => ?_⟩
  have h3 := (List.getElem?_eq_some_iff.mp hi).1
  rw [h2 i (by omega)]
  exact z i v hi
theorem isRN.keep {s : sp} (k : isRN si t s) (h1 : ∀ K, K = 3 ∨ K = 4 ∨ K = 5 ∨ K = 11 → si' K t = si K t) (h2 : ∀ i, i < 3 → si' 6 (3 * t + i) = si 6 (3 * t + i)) : isRN si' t s := by
  obtain ⟨a, b⟩ := k
  refine ⟨a.keep (h1 5 (by decide)) h2, ?_⟩
  rw [h1 3 (by decide), h1 4 (by decide), h1 11 (by decide)]
  exact b
theorem isRN.kN {s : sp} {t' : Nat} (k : isRN si t s) (h : frN t' si si') (ht : t ≠ t') : isRN si' t s :=
  k.keep (fun K hK => by
    rcases h K t with a | a | a
    · exact absurd a.2 ht
    · omega
    · exact a) (fun i hi => by
    rcases h 6 (3 * t + i) with a | a | a
    · omega
    · omega
    · exact a)
theorem isRN.kW {s : sp} {f : Nat} (k : isRN si t s) (h : frW f si si') : isRN si' t s :=
  k.keep (fun K hK => by
    rcases h K t with a | a | a
    · omega
    · omega
    · exact a) (fun i hi => by
    rcases h 6 (3 * t + i) with a | a | a
    · omega
    · omega
    · exact a)
theorem isRN.km {s : sp} {f : Nat} (k : isRN si t s) (h : frm f si si') (ht : t / 2 ≠ f) : isRN si' t s :=
  k.keep (fun K hK => h.at (Or.inr (Or.inr (by
    unfold slt
    rcases hK with b | b | b | b <;> subst b <;> simp <;> omega)))) (fun i hi => h.at (Or.inr (Or.inr (by
    unfold slt
    simp
    omega))))
end
section
variable {P : x_P} {d : Nat} {h0 : x_H} {bm : Nat} {ze : Nat → Int32} {si : Nat → Nat → Int32} {h : x_H}
theorem tMO_isOut {t i : Nat} {v w : Int32} {ex : List Int32} {acc : Bool} {Φ : Outcome → x_H → Prop} (k : exR (si 5) (si 6) t ex) (ht : t < 36) (hw : ex[i]? = some w)
  (kk : x_K P d mMO_isOut 7 [some (.ref bm), some (.int (nI t)), some (.int v), some (.int (b2i (acc || v == w))), some (.int (nI (3 * t + (i + 1))))] [] (mh h0 bm ze si) Φ) :
  x_K P d mMO_isOut 7 [some (.ref bm), some (.int (nI t)), some (.int v), some (.int (b2i acc)), some (.int (nI (3 * t + i)))] [] (mh h0 bm ze si) Φ := by
  have hl := k.2.1
  have hi := (List.getElem?_eq_some_iff.mp hw).1
  cases acc with
  | true =>
    refine eMO_isOut_7 ?_
    refine eMO_isOut_9 ?_
    refine eMO_isOut_10 ?_
    refine eMO_isOut_11 ?_
    rw [mx3]
    refine eMO_isOut_12 rfl ?_
    refine eMO_isOut_13 mh_o rfl ?_
    refine eMO_isOut_16 ?_
    refine eMO_isOut_17 mh_a5 (xn_in (by omega) (by decide)) ?_
    rw [nI_clamp (by omega)]
    rw [k.1]
    refine eMO_isOut_18 ?_
    rw [nI_add]
    refine eMO_isOut_19 (fun c => absurd c (nI_ge (by omega) (by omega))) (fun c19 => ?_)
    refine eMO_isOut_22 ?_
    refine eMO_isOut_23 (fun c23 => ?_) (fun c => absurd c (by decide))
    refine eMO_isOut_37 ?_
    refine eMO_isOut_38 ?_
    refine eMO_isOut_42 ?_
    refine eMO_isOut_43 ?_
    refine eMO_isOut_46 ?_
    rw [nI_1]
    exact kk
  | false =>
    by_cases hv : v = w
    · rw [show (false || v == w) = true by simp [hv]] at kk
      refine eMO_isOut_7 ?_
      refine eMO_isOut_9 ?_
      refine eMO_isOut_10 ?_
      refine eMO_isOut_11 ?_
      rw [mx3]
      refine eMO_isOut_12 rfl ?_
      refine eMO_isOut_13 mh_o rfl ?_
      refine eMO_isOut_16 ?_
      refine eMO_isOut_17 mh_a5 (xn_in (by omega) (by decide)) ?_
      rw [nI_clamp (by omega)]
      rw [k.1]
      refine eMO_isOut_18 ?_
      rw [nI_add]
      refine eMO_isOut_19 (fun c => absurd c (nI_ge (by omega) (by omega))) (fun c19 => ?_)
      refine eMO_isOut_22 ?_
      refine eMO_isOut_23 (fun c => absurd rfl c) (fun c23 => ?_)
      refine eMO_isOut_26 rfl ?_
      refine eMO_isOut_27 mh_o rfl ?_
      refine eMO_isOut_30 ?_
      refine eMO_isOut_32 mh_a6 (xn_in (by omega) (by decide)) ?_
      rw [nI_clamp (by omega)]
      rw [k.2.2 i w hw]
      refine eMO_isOut_33 ?_
      refine eMO_isOut_34 (fun c => absurd hv.symm c) (fun c34 => ?_)
      refine eMO_isOut_37 ?_
      refine eMO_isOut_38 ?_
      refine eMO_isOut_42 ?_
      refine eMO_isOut_43 ?_
      refine eMO_isOut_46 ?_
      rw [nI_1]
      exact kk
    · rw [show (false || v == w) = false by simp [hv]] at kk
      refine eMO_isOut_7 ?_
      refine eMO_isOut_9 ?_
      refine eMO_isOut_10 ?_
      refine eMO_isOut_11 ?_
      rw [mx3]
      refine eMO_isOut_12 rfl ?_
      refine eMO_isOut_13 mh_o rfl ?_
      refine eMO_isOut_16 ?_
      refine eMO_isOut_17 mh_a5 (xn_in (by omega) (by decide)) ?_
      rw [nI_clamp (by omega)]
      rw [k.1]
      refine eMO_isOut_18 ?_
      rw [nI_add]
      refine eMO_isOut_19 (fun c => absurd c (nI_ge (by omega) (by omega))) (fun c19 => ?_)
      refine eMO_isOut_22 ?_
      refine eMO_isOut_23 (fun c => absurd rfl c) (fun c23 => ?_)
      refine eMO_isOut_26 rfl ?_
      refine eMO_isOut_27 mh_o rfl ?_
      refine eMO_isOut_30 ?_
      refine eMO_isOut_32 mh_a6 (xn_in (by omega) (by decide)) ?_
      rw [nI_clamp (by omega)]
      rw [k.2.2 i w hw]
      refine eMO_isOut_33 ?_
      refine eMO_isOut_34 (fun c34 => ?_) (fun c => absurd c.symm hv)
      refine eMO_isOut_41 ?_
      refine eMO_isOut_42 ?_
      refine eMO_isOut_43 ?_
      refine eMO_isOut_46 ?_
      rw [nI_1]
      exact kk
theorem lMO_isOut {t : Nat} {v : Int32} {ex : List Int32} (k : exR (si 5) (si 6) t ex) (ht : t < 36) : ∀ (j i : Nat) (acc : Bool), i + j = ex.length → x_K P d mMO_isOut 7 [some (.ref bm), some (.int (nI t)), some (.int v), some (.int (b2i acc)), some (.int (nI (3 * t + i)))] [] (mh h0 bm ze si) (fun oc h' => oc = .returned (some (.int (b2i (acc || (ex.drop i).contains v)))) ∧ h' = mh h0 bm ze si) := by
  intro j
  induction j with
  | zero =>
    intro i acc hi
    have hl := k.2.1
    rw [List.drop_eq_nil_of_le (by omega), List.contains_nil, Bool.or_false]
    refine eMO_isOut_7 ?_
    refine eMO_isOut_9 ?_
    refine eMO_isOut_10 ?_
    refine eMO_isOut_11 ?_
    rw [mx3]
    refine eMO_isOut_12 rfl ?_
    refine eMO_isOut_13 mh_o rfl ?_
    refine eMO_isOut_16 ?_
    refine eMO_isOut_17 mh_a5 (xn_in (by omega) (by decide)) ?_
    rw [nI_clamp (by omega)]
    rw [k.1]
    refine eMO_isOut_18 ?_
    rw [nI_add]
    refine eMO_isOut_19 (fun c19 => ?_) (fun c => absurd (nI_le (by omega) (by omega)) c)
    refine eMO_isOut_49 ?_
    exact eMO_isOut_50 (b2i_n _) ⟨rfl, rfl⟩
  | succ j ih =>
    intro i acc hi
    obtain ⟨w, hw⟩ : ∃ w, ex[i]? = some w := ⟨ex[i]'(by omega), List.getElem?_eq_getElem (by omega)⟩
    have h1 := (List.getElem?_eq_some_iff.mp hw)
    rw [List.drop_eq_getElem_cons h1.1, h1.2, List.contains_cons, ← Bool.or_assoc]
    exact tMO_isOut k ht hw (ih (i + 1) _ (by omega))
theorem sMO_isOut {t : Nat} {v : Int32} {ex : List Int32} (k : exR (si 5) (si 6) t ex) (ht : t < 36) : x_K P d mMO_isOut 0 [some (.ref bm), some (.int (nI t)), some (.int v), none, none] [] (mh h0 bm ze si) (fun oc h' => oc = .returned (some (.int (b2i (ex.contains v)))) ∧ h' = mh h0 bm ze si) := by
  refine eMO_isOut_0 ?_
  refine eMO_isOut_1 ?_
  refine eMO_isOut_2 ?_
  refine eMO_isOut_3 ?_
  refine eMO_isOut_4 ?_
  refine eMO_isOut_5 ?_
  rw [mx3]
  exact lMO_isOut k ht ex.length 0 false (Nat.zero_add _)
theorem tMO_isWordOut {t i : Nat} {v w : Int32} {ex : List Int32} {acc : Bool} {Φ : Outcome → x_H → Prop} (k : exR (si 9) (si 10) t ex) (ht : t < 18) (hw : ex[i]? = some w)
  (kk : x_K P d mMO_isWordOut 7 [some (.ref bm), some (.int (nI t)), some (.int v), some (.int (b2i (acc || v == w))), some (.int (nI (3 * t + (i + 1))))] [] (mh h0 bm ze si) Φ) :
  x_K P d mMO_isWordOut 7 [some (.ref bm), some (.int (nI t)), some (.int v), some (.int (b2i acc)), some (.int (nI (3 * t + i)))] [] (mh h0 bm ze si) Φ := by
  have hl := k.2.1
  have hi := (List.getElem?_eq_some_iff.mp hw).1
  cases acc with
  | true =>
    refine eMO_isWordOut_7 ?_
    refine eMO_isWordOut_9 ?_
    refine eMO_isWordOut_10 ?_
    refine eMO_isWordOut_11 ?_
    rw [mx3]
    refine eMO_isWordOut_12 rfl ?_
    refine eMO_isWordOut_13 mh_o rfl ?_
    refine eMO_isWordOut_16 ?_
    refine eMO_isWordOut_17 mh_a9 (xn_in (by omega) (by decide)) ?_
    rw [nI_clamp (by omega)]
    rw [k.1]
    refine eMO_isWordOut_18 ?_
    rw [nI_add]
    refine eMO_isWordOut_19 (fun c => absurd c (nI_ge (by omega) (by omega))) (fun c19 => ?_)
    refine eMO_isWordOut_22 ?_
    refine eMO_isWordOut_23 (fun c23 => ?_) (fun c => absurd c (by decide))
    refine eMO_isWordOut_37 ?_
    refine eMO_isWordOut_38 ?_
    refine eMO_isWordOut_42 ?_
    refine eMO_isWordOut_43 ?_
    refine eMO_isWordOut_46 ?_
    rw [nI_1]
    exact kk
  | false =>
    by_cases hv : v = w
    · rw [show (false || v == w) = true by simp [hv]] at kk
      refine eMO_isWordOut_7 ?_
      refine eMO_isWordOut_9 ?_
      refine eMO_isWordOut_10 ?_
      refine eMO_isWordOut_11 ?_
      rw [mx3]
      refine eMO_isWordOut_12 rfl ?_
      refine eMO_isWordOut_13 mh_o rfl ?_
      refine eMO_isWordOut_16 ?_
      refine eMO_isWordOut_17 mh_a9 (xn_in (by omega) (by decide)) ?_
      rw [nI_clamp (by omega)]
      rw [k.1]
      refine eMO_isWordOut_18 ?_
      rw [nI_add]
      refine eMO_isWordOut_19 (fun c => absurd c (nI_ge (by omega) (by omega))) (fun c19 => ?_)
      refine eMO_isWordOut_22 ?_
      refine eMO_isWordOut_23 (fun c => absurd rfl c) (fun c23 => ?_)
      refine eMO_isWordOut_26 rfl ?_
      refine eMO_isWordOut_27 mh_o rfl ?_
      refine eMO_isWordOut_30 ?_
      refine eMO_isWordOut_32 mh_a10 (xn_in (by omega) (by decide)) ?_
      rw [nI_clamp (by omega)]
      rw [k.2.2 i w hw]
      refine eMO_isWordOut_33 ?_
      refine eMO_isWordOut_34 (fun c => absurd hv.symm c) (fun c34 => ?_)
      refine eMO_isWordOut_37 ?_
      refine eMO_isWordOut_38 ?_
      refine eMO_isWordOut_42 ?_
      refine eMO_isWordOut_43 ?_
      refine eMO_isWordOut_46 ?_
      rw [nI_1]
      exact kk
    · rw [show (false || v == w) = false by simp [hv]] at kk
      refine eMO_isWordOut_7 ?_
      refine eMO_isWordOut_9 ?_
      refine eMO_isWordOut_10 ?_
      refine eMO_isWordOut_11 ?_
      rw [mx3]
      refine eMO_isWordOut_12 rfl ?_
      refine eMO_isWordOut_13 mh_o rfl ?_
      refine eMO_isWordOut_16 ?_
      refine eMO_isWordOut_17 mh_a9 (xn_in (by omega) (by decide)) ?_
      rw [nI_clamp (by omega)]
      rw [k.1]
      refine eMO_isWordOut_18 ?_
      rw [nI_add]
      refine eMO_isWordOut_19 (fun c => absurd c (nI_ge (by omega) (by omega))) (fun c19 => ?_)
      refine eMO_isWordOut_22 ?_
      refine eMO_isWordOut_23 (fun c => absurd rfl c) (fun c23 => ?_)
      refine eMO_isWordOut_26 rfl ?_
      refine eMO_isWordOut_27 mh_o rfl ?_
      refine eMO_isWordOut_30 ?_
      refine eMO_isWordOut_32 mh_a10 (xn_in (by omega) (by decide)) ?_
      rw [nI_clamp (by omega)]
      rw [k.2.2 i w hw]
      refine eMO_isWordOut_33 ?_
      refine eMO_isWordOut_34 (fun c34 => ?_) (fun c => absurd c.symm hv)
      refine eMO_isWordOut_41 ?_
      refine eMO_isWordOut_42 ?_
      refine eMO_isWordOut_43 ?_
      refine eMO_isWordOut_46 ?_
      rw [nI_1]
      exact kk
theorem lMO_isWordOut {t : Nat} {v : Int32} {ex : List Int32} (k : exR (si 9) (si 10) t ex) (ht : t < 18) : ∀ (j i : Nat) (acc : Bool), i + j = ex.length → x_K P d mMO_isWordOut 7 [some (.ref bm), some (.int (nI t)), some (.int v), some (.int (b2i acc)), some (.int (nI (3 * t + i)))] [] (mh h0 bm ze si) (fun oc h' => oc = .returned (some (.int (b2i (acc || (ex.drop i).contains v)))) ∧ h' = mh h0 bm ze si) := by
  intro j
  induction j with
  | zero =>
    intro i acc hi
    have hl := k.2.1
    rw [List.drop_eq_nil_of_le (by omega), List.contains_nil, Bool.or_false]
    refine eMO_isWordOut_7 ?_
    refine eMO_isWordOut_9 ?_
    refine eMO_isWordOut_10 ?_
    refine eMO_isWordOut_11 ?_
    rw [mx3]
    refine eMO_isWordOut_12 rfl ?_
    refine eMO_isWordOut_13 mh_o rfl ?_
    refine eMO_isWordOut_16 ?_
    refine eMO_isWordOut_17 mh_a9 (xn_in (by omega) (by decide)) ?_
    rw [nI_clamp (by omega)]
    rw [k.1]
    refine eMO_isWordOut_18 ?_
    rw [nI_add]
    refine eMO_isWordOut_19 (fun c19 => ?_) (fun c => absurd (nI_le (by omega) (by omega)) c)
    refine eMO_isWordOut_49 ?_
    exact eMO_isWordOut_50 (b2i_n _) ⟨rfl, rfl⟩
  | succ j ih =>
    intro i acc hi
    obtain ⟨w, hw⟩ : ∃ w, ex[i]? = some w := ⟨ex[i]'(by omega), List.getElem?_eq_getElem (by omega)⟩
    have h1 := (List.getElem?_eq_some_iff.mp hw)
    rw [List.drop_eq_getElem_cons h1.1, h1.2, List.contains_cons, ← Bool.or_assoc]
    exact tMO_isWordOut k ht hw (ih (i + 1) _ (by omega))
theorem sMO_isWordOut {t : Nat} {v : Int32} {ex : List Int32} (k : exR (si 9) (si 10) t ex) (ht : t < 18) : x_K P d mMO_isWordOut 0 [some (.ref bm), some (.int (nI t)), some (.int v), none, none] [] (mh h0 bm ze si) (fun oc h' => oc = .returned (some (.int (b2i (ex.contains v)))) ∧ h' = mh h0 bm ze si) := by
  refine eMO_isWordOut_0 ?_
  refine eMO_isWordOut_1 ?_
  refine eMO_isWordOut_2 ?_
  refine eMO_isWordOut_3 ?_
  refine eMO_isWordOut_4 ?_
  refine eMO_isWordOut_5 ?_
  rw [mx3]
  exact lMO_isWordOut k ht ex.length 0 false (Nat.zero_add _)
/-- begins: the words' first n letters -/
theorem sMO_begins {x y : Int32} {n : Nat} (hn : n ≤ 4) : x_K P d mMO_begins 0 [some (.int x), some (.int y), some (.int (nI n))] [] h (fun oc h' => oc = .returned (some (.int (b2i (decide (x.toInt / 32 ^ (4 - n) = y.toInt / 32 ^ (4 - n)))))) ∧ h' = h) := by
  have hs : ∀ n : Nat, n ≤ 4 → ((((5 : Int32) * ((4 : Int32) - nI n)) &&& 31).toBitVec.smod 32).toNat = 5 * (4 - n) := by
    intro n hn
    match n, hn with
    | 0, _ => decide
    | 1, _ => decide
    | 2, _ => decide
    | 3, _ => decide
    | 4, _ => decide
  have hv : ∀ z : Int32, (z >>> (((5 : Int32) * ((4 : Int32) - nI n)) &&& 31)).toInt = z.toInt / 32 ^ (4 - n) := by
    intro z
    rw [pk_shr z _ (5 * (4 - n)) (hs n hn), Int.shiftRight_eq_div_pow, Nat.pow_mul]
    rfl
  by_cases hc : x.toInt / 32 ^ (4 - n) = y.toInt / 32 ^ (4 - n)
  · refine eMO_begins_0 ?_
    refine eMO_begins_1 ?_
    refine eMO_begins_2 ?_
    refine eMO_begins_3 ?_
    refine eMO_begins_4 ?_
    refine eMO_begins_5 ?_
    refine eMO_begins_6 ?_
    refine eMO_begins_7 ?_
    refine eMO_begins_8 ?_
    refine eMO_begins_9 ?_
    refine eMO_begins_10 ?_
    refine eMO_begins_11 ?_
    refine eMO_begins_12 ?_
    refine eMO_begins_13 ?_
    refine eMO_begins_14 (fun c => absurd (i32_ext (by rw [hv, hv]; exact hc)) c) (fun c14 => ?_)
    refine eMO_begins_17 ?_
    refine eMO_begins_18 ?_
    refine eMO_begins_22 rfl ⟨?_, rfl⟩
    rw [decide_eq_true hc]
    rfl
  · refine eMO_begins_0 ?_
    refine eMO_begins_1 ?_
    refine eMO_begins_2 ?_
    refine eMO_begins_3 ?_
    refine eMO_begins_4 ?_
    refine eMO_begins_5 ?_
    refine eMO_begins_6 ?_
    refine eMO_begins_7 ?_
    refine eMO_begins_8 ?_
    refine eMO_begins_9 ?_
    refine eMO_begins_10 ?_
    refine eMO_begins_11 ?_
    refine eMO_begins_12 ?_
    refine eMO_begins_13 ?_
    refine eMO_begins_14 (fun c14 => ?_) (fun c => absurd (by rw [← hv, ← hv, c]) hc)
    refine eMO_begins_21 ?_
    refine eMO_begins_22 rfl ⟨?_, rfl⟩
    rw [decide_eq_false hc]
    rfl
theorem sMO_beginsN {a b n : Nat} (hn : n ≤ 4) (ha : a < 2 ^ 31) (hb : b < 2 ^ 31) : x_K P d mMO_begins 0 [some (.int (nI a)), some (.int (nI b)), some (.int (nI n))] [] h (fun oc h' => oc = .returned (some (.int (b2i (decide (a / 32 ^ (4 - n) = b / 32 ^ (4 - n)))))) ∧ h' = h) := by
  refine x_Kmono (sMO_begins hn) ?_
  rintro oc h' ⟨rfl, rfl⟩
  refine ⟨?_, rfl⟩
  have e : (nI a).toInt / 32 ^ (4 - n) = (nI b).toInt / 32 ^ (4 - n) ↔ a / 32 ^ (4 - n) = b / 32 ^ (4 - n) := by
    rw [nI_toInt ha, nI_toInt hb]
    constructor
    · intro z
      exact_mod_cast z
    · intro z
      exact_mod_cast z
  rw [decide_eq_decide.mpr e]
/-! begin, bound -/
def beg (si : Nat → Nat → Int32) (f : Nat) : Prop := isRN si (2 * f) (-999, 1000, []) ∧ isRN si (2 * f + 1) (-999, 1000, []) ∧ si 12 f = 0 ∧ si 13 f = 0 ∧ si 7 f = 0 ∧ si 8 f = 0 ∧ si 9 f = 0 ∧ si 14 f = 0
theorem kMO_begin {f t : Nat} {Φ : Outcome → x_H → Prop} (ht : t / 2 = f) (hf : f < 18)
  (kk : ∀ si', frN t si si' → isRN si' t (-999, 1000, []) → x_K P d mMO_begin 4 [some (.ref bm), some (.int (nI f)), some (.int (nI (t + 1)))] [] (mh h0 bm ze si') Φ) :
  x_K P d mMO_begin 4 [some (.ref bm), some (.int (nI f)), some (.int (nI t))] [] (mh h0 bm ze si) Φ := by
  refine eMO_begin_4 ?_
  refine eMO_begin_5 ?_
  refine eMO_begin_6 ?_
  refine eMO_begin_7 ?_
  rw [mx2]
  refine eMO_begin_8 ?_
  refine eMO_begin_9 ?_
  rw [nI_a2]
  refine eMO_begin_10 (fun c => absurd c (nI_ge (by omega) (by omega))) (fun c10 => ?_)
  refine eMO_begin_13 rfl ?_
  refine eMO_begin_14 mh_o rfl ?_
  refine eMO_begin_17 ?_
  refine eMO_begin_18 ?_
  refine eMO_begin_21 mh_a3 (xn_in (by omega) (by decide)) ?_
  rw [mh_p3, nI_clamp (by omega)]
  refine eMO_begin_22 rfl ?_
  refine eMO_begin_23 mh_o rfl ?_
  refine eMO_begin_26 ?_
  refine eMO_begin_27 ?_
  refine eMO_begin_30 mh_a4 (xn_in (by omega) (by decide)) ?_
  rw [mh_p4, nI_clamp (by omega)]
  refine eMO_begin_31 rfl ?_
  refine eMO_begin_32 mh_o rfl ?_
  refine eMO_begin_35 ?_
  refine eMO_begin_36 ?_
  refine eMO_begin_37 mh_a11 (xn_in (by omega) (by decide)) ?_
  rw [mh_p11, nI_clamp (by omega)]
  refine eMO_begin_38 rfl ?_
  refine eMO_begin_39 mh_o rfl ?_
  refine eMO_begin_42 ?_
  refine eMO_begin_43 ?_
  refine eMO_begin_44 mh_a5 (xn_in (by omega) (by decide)) ?_
  rw [mh_p5, nI_clamp (by omega)]
  refine eMO_begin_45 ?_
  refine eMO_begin_48 ?_
  rw [nI_1]
  refine kk _ ((((frN.rf.up (by omega)).up (by omega)).up (by omega)).up (by omega)) ?_
  refine ⟨⟨?_, Nat.zero_le _, fun i v hi => by simp at hi⟩, Or.inl ⟨?_, rfl, ?_, ?_⟩⟩
  · simp [va_up, upd]; rfl
  · simp [va_up, upd]; rfl
  · simp [va_up, upd]
  · simp [va_up, upd]
theorem sMO_begin {f : Nat} (hf : f < 18) : x_K P d mMO_begin 0 [some (.ref bm), some (.int (nI f)), none] [] (mh h0 bm ze si) (fun oc h' => oc = .returned none ∧ ∃ si', h' = mh h0 bm ze si' ∧ frm f si si' ∧ beg si' f) := by
  refine eMO_begin_0 ?_
  refine eMO_begin_1 ?_
  refine eMO_begin_2 ?_
  rw [mx2]
  refine eMO_begin_3 ?_
  skip
  refine kMO_begin (t := 2 * f) (by omega) hf (fun si1 f1 r1 => ?_)
  refine kMO_begin (t := 2 * f + 1) (by omega) hf (fun si2 f2 r2 => ?_)
  refine eMO_begin_4 ?_
  refine eMO_begin_5 ?_
  refine eMO_begin_6 ?_
  refine eMO_begin_7 ?_
  rw [mx2]
  refine eMO_begin_8 ?_
  refine eMO_begin_9 ?_
  rw [nI_a2]
  refine eMO_begin_10 (fun c10 => ?_) (fun c => absurd (nI_le (by omega) (by omega)) c)
  refine eMO_begin_51 rfl ?_
  refine eMO_begin_52 mh_o rfl ?_
  refine eMO_begin_55 ?_
  refine eMO_begin_56 ?_
  refine eMO_begin_57 mh_a12 (xn_in hf (by decide)) ?_
  rw [mh_p12, nI_clamp (by omega)]
  refine eMO_begin_58 rfl ?_
  refine eMO_begin_59 mh_o rfl ?_
  refine eMO_begin_62 ?_
  refine eMO_begin_63 ?_
  refine eMO_begin_64 mh_a13 (xn_in hf (by decide)) ?_
  rw [mh_p13, nI_clamp (by omega)]
  refine eMO_begin_65 rfl ?_
  refine eMO_begin_66 mh_o rfl ?_
  refine eMO_begin_69 ?_
  refine eMO_begin_70 ?_
  refine eMO_begin_71 mh_a7 (xn_in hf (by decide)) ?_
  rw [mh_p7, nI_clamp (by omega)]
  refine eMO_begin_72 rfl ?_
  refine eMO_begin_73 mh_o rfl ?_
  refine eMO_begin_76 ?_
  refine eMO_begin_77 ?_
  refine eMO_begin_78 mh_a8 (xn_in hf (by decide)) ?_
  rw [mh_p8, nI_clamp (by omega)]
  refine eMO_begin_79 rfl ?_
  refine eMO_begin_80 mh_o rfl ?_
  refine eMO_begin_83 ?_
  refine eMO_begin_84 ?_
  refine eMO_begin_85 mh_a9 (xn_in hf (by decide)) ?_
  rw [mh_p9, nI_clamp (by omega)]
  refine eMO_begin_86 rfl ?_
  refine eMO_begin_87 mh_o rfl ?_
  refine eMO_begin_90 ?_
  refine eMO_begin_91 ?_
  refine eMO_begin_92 mh_a14 (xn_in hf (by decide)) ?_
  rw [mh_p14, nI_clamp (by omega)]
  refine eMO_begin_93 ⟨rfl, _, rfl, ?_⟩
  have f3 : frW f si2 _ := (((((frW.rf.up (K := 12) (i := f) (x := vp_nar .boolean 0) (by omega)).up (K := 13) (i := f) (x := vp_nar .boolean 0) (by omega)).up (K := 7) (i := f) (x := 0) (by omega)).up (K := 8) (i := f) (x := 0) (by omega)).up (K := 9) (i := f) (x := 0) (by omega)).up (K := 14) (i := f) (x := vp_nar .boolean 0) (by omega)
  refine ⟨((f1.m (by omega)).trans (f2.m (by omega))).trans f3.m, (r1.kN f2 (by omega)).kW f3, r2.kW f3, ?_, ?_, ?_, ?_, ?_, ?_⟩ <;> (simp [va_up, upd] <;> rfl)
def lsF (g : Nat) (v : Int32) : Int32 := if g = 61 ∨ g = 91 then v else if g = 62 then v + 1 else -999
def msF (g : Nat) (v : Int32) : Int32 := if g = 61 ∨ g = 93 then v else if g = 60 then v - 1 else 999
theorem kMO_bound1 {g : Nat} {v : Int32} {v0 v1 v4 v5 : Option Value} {Φ : Outcome → x_H → Prop} (hg : g < 65536) (kk : x_K P d mMO_bound 40 [v0, v1, some (.int (nI g)), some (.int v), some (.int (lsF g v)), v5] [] h Φ) : x_K P d mMO_bound 7 [v0, v1, some (.int (nI g)), some (.int v), v4, v5] [] h Φ := by
  have e : ∀ x : Nat, x < 65536 → (nI g = nI x ↔ g = x) := fun x hx => nI_eq (by omega) (by omega)
  by_cases h1 : g = 61
  · rw [show lsF g v = v by simp [lsF, h1]] at kk
    refine eMO_bound_7 ?_
    refine eMO_bound_8 ?_
    refine eMO_bound_10 (fun c10 => ?_) (fun c => absurd ((e 61 (by decide)).mpr h1) c)
    refine eMO_bound_19 ?_
    refine eMO_bound_20 ?_
    refine eMO_bound_38 ?_
    exact kk
  · by_cases h2 : g = 91
    · rw [show lsF g v = v by simp [lsF, h2]] at kk
      refine eMO_bound_7 ?_
      refine eMO_bound_8 ?_
      refine eMO_bound_10 (fun c => absurd ((e 61 (by decide)).mp c) h1) (fun c10 => ?_)
      refine eMO_bound_13 ?_
      refine eMO_bound_14 ?_
      refine eMO_bound_16 (fun c => absurd ((e 91 (by decide)).mpr h2) c) (fun c16 => ?_)
      refine eMO_bound_19 ?_
      refine eMO_bound_20 ?_
      refine eMO_bound_38 ?_
      exact kk
    · by_cases h3 : g = 62
      · rw [show lsF g v = v + 1 by simp [lsF, h3]] at kk
        refine eMO_bound_7 ?_
        refine eMO_bound_8 ?_
        refine eMO_bound_10 (fun c => absurd ((e 61 (by decide)).mp c) h1) (fun c10 => ?_)
        refine eMO_bound_13 ?_
        refine eMO_bound_14 ?_
        refine eMO_bound_16 (fun c16 => ?_) (fun c => absurd ((e 91 (by decide)).mp c) h2)
        refine eMO_bound_23 ?_
        refine eMO_bound_24 ?_
        refine eMO_bound_26 (fun c => absurd ((e 62 (by decide)).mpr h3) c) (fun c26 => ?_)
        refine eMO_bound_29 ?_
        refine eMO_bound_30 ?_
        refine eMO_bound_31 ?_
        refine eMO_bound_32 ?_
        refine eMO_bound_38 ?_
        exact kk
      · rw [show lsF g v = -999 by simp [lsF, h1, h2, h3]] at kk
        refine eMO_bound_7 ?_
        refine eMO_bound_8 ?_
        refine eMO_bound_10 (fun c => absurd ((e 61 (by decide)).mp c) h1) (fun c10 => ?_)
        refine eMO_bound_13 ?_
        refine eMO_bound_14 ?_
        refine eMO_bound_16 (fun c16 => ?_) (fun c => absurd ((e 91 (by decide)).mp c) h2)
        refine eMO_bound_23 ?_
        refine eMO_bound_24 ?_
        refine eMO_bound_26 (fun c26 => ?_) (fun c => absurd ((e 62 (by decide)).mp c) h3)
        refine eMO_bound_35 ?_
        refine eMO_bound_38 ?_
        exact kk
theorem kMO_bound2 {g : Nat} {v : Int32} {v0 v1 v4 v5 : Option Value} {Φ : Outcome → x_H → Prop} (hg : g < 65536) (kk : x_K P d mMO_bound 73 [v0, v1, some (.int (nI g)), some (.int v), v4, some (.int (msF g v))] [] h Φ) : x_K P d mMO_bound 40 [v0, v1, some (.int (nI g)), some (.int v), v4, v5] [] h Φ := by
  have e : ∀ x : Nat, x < 65536 → (nI g = nI x ↔ g = x) := fun x hx => nI_eq (by omega) (by omega)
  by_cases h1 : g = 61
  · rw [show msF g v = v by simp [msF, h1]] at kk
    refine eMO_bound_40 ?_
    refine eMO_bound_41 ?_
    refine eMO_bound_43 (fun c43 => ?_) (fun c => absurd ((e 61 (by decide)).mpr h1) c)
    refine eMO_bound_52 ?_
    refine eMO_bound_53 ?_
    refine eMO_bound_71 ?_
    exact kk
  · by_cases h2 : g = 93
    · rw [show msF g v = v by simp [msF, h2]] at kk
      refine eMO_bound_40 ?_
      refine eMO_bound_41 ?_
      refine eMO_bound_43 (fun c => absurd ((e 61 (by decide)).mp c) h1) (fun c43 => ?_)
      refine eMO_bound_46 ?_
      refine eMO_bound_47 ?_
      refine eMO_bound_49 (fun c => absurd ((e 93 (by decide)).mpr h2) c) (fun c49 => ?_)
      refine eMO_bound_52 ?_
      refine eMO_bound_53 ?_
      refine eMO_bound_71 ?_
      exact kk
    · by_cases h3 : g = 60
      · rw [show msF g v = v - 1 by simp [msF, h3]] at kk
        refine eMO_bound_40 ?_
        refine eMO_bound_41 ?_
        refine eMO_bound_43 (fun c => absurd ((e 61 (by decide)).mp c) h1) (fun c43 => ?_)
        refine eMO_bound_46 ?_
        refine eMO_bound_47 ?_
        refine eMO_bound_49 (fun c49 => ?_) (fun c => absurd ((e 93 (by decide)).mp c) h2)
        refine eMO_bound_56 ?_
        refine eMO_bound_57 ?_
        refine eMO_bound_59 (fun c => absurd ((e 60 (by decide)).mpr h3) c) (fun c59 => ?_)
        refine eMO_bound_62 ?_
        refine eMO_bound_63 ?_
        refine eMO_bound_64 ?_
        refine eMO_bound_65 ?_
        refine eMO_bound_71 ?_
        exact kk
      · rw [show msF g v = 999 by simp [msF, h1, h2, h3]] at kk
        refine eMO_bound_40 ?_
        refine eMO_bound_41 ?_
        refine eMO_bound_43 (fun c => absurd ((e 61 (by decide)).mp c) h1) (fun c43 => ?_)
        refine eMO_bound_46 ?_
        refine eMO_bound_47 ?_
        refine eMO_bound_49 (fun c49 => ?_) (fun c => absurd ((e 93 (by decide)).mp c) h2)
        refine eMO_bound_56 ?_
        refine eMO_bound_57 ?_
        refine eMO_bound_59 (fun c59 => ?_) (fun c => absurd ((e 60 (by decide)).mp c) h3)
        refine eMO_bound_68 ?_
        refine eMO_bound_71 ?_
        exact kk
/-- the low end, then the high end -/
theorem kMO_bound3 {t : Nat} {x y : Int32} {v2 v3 : Option Value} {Φ : Outcome → x_H → Prop} (ht : t < 36)
  (kk : x_K P d mMO_bound 129 [some (.ref bm), some (.int (nI t)), v2, v3, some (.int x), some (.int y)] [] (mh h0 bm ze (va_up (va_up si 3 (upd (si 3) t (if si 3 t < x then x else si 3 t))) 4 (upd (si 4) t (if y < si 4 t then y else si 4 t)))) Φ) :
  x_K P d mMO_bound 73 [some (.ref bm), some (.int (nI t)), v2, v3, some (.int x), some (.int y)] [] (mh h0 bm ze si) Φ := by
  have s2 : ∀ u : Int32, (kk2 : x_K P d mMO_bound 101 [some (.ref bm), some (.int (nI t)), v2, v3, some (.int x), some (.int y)] [] (mh h0 bm ze (va_up si 3 (upd (si 3) t (if si 3 t < x then x else si 3 t)))) Φ) → x_K P d mMO_bound 73 [some (.ref bm), some (.int (nI t)), v2, v3, some (.int x), some (.int y)] [] (mh h0 bm ze si) Φ := by
    intro u kk2
    by_cases c : si 3 t < x
    · rw [if_pos c] at kk2
      refine eMO_bound_73 rfl ?_
      refine eMO_bound_74 mh_o rfl ?_
      refine eMO_bound_77 ?_
      refine eMO_bound_78 ?_
      refine eMO_bound_80 rfl ?_
      refine eMO_bound_81 mh_o rfl ?_
      refine eMO_bound_84 ?_
      refine eMO_bound_85 mh_a3 (xn_in ht (by decide)) ?_
      rw [nI_clamp (by omega)]
      refine eMO_bound_86 (fun z => absurd c (Int32.not_lt.mpr z)) (fun c86 => ?_)
      refine eMO_bound_89 ?_
      refine eMO_bound_91 ?_
      refine eMO_bound_100 mh_a3 (xn_in ht (by decide)) ?_
      rw [mh_p3, nI_clamp (by omega)]
      exact kk2
    · rw [if_neg c] at kk2
      refine eMO_bound_73 rfl ?_
      refine eMO_bound_74 mh_o rfl ?_
      refine eMO_bound_77 ?_
      refine eMO_bound_78 ?_
      refine eMO_bound_80 rfl ?_
      refine eMO_bound_81 mh_o rfl ?_
      refine eMO_bound_84 ?_
      refine eMO_bound_85 mh_a3 (xn_in ht (by decide)) ?_
      rw [nI_clamp (by omega)]
      refine eMO_bound_86 (fun c86 => ?_) (fun z => absurd (Int32.not_le.mp z) c)
      refine eMO_bound_94 rfl ?_
      refine eMO_bound_95 mh_o rfl ?_
      refine eMO_bound_98 ?_
      refine eMO_bound_99 mh_a3 (xn_in ht (by decide)) ?_
      rw [nI_clamp (by omega)]
      refine eMO_bound_100 mh_a3 (xn_in ht (by decide)) ?_
      rw [mh_p3, nI_clamp (by omega)]
      exact kk2
  refine s2 0 ?_
  by_cases c : y < si 4 t
  · rw [if_pos c] at kk
    refine eMO_bound_101 rfl ?_
    refine eMO_bound_102 mh_o rfl ?_
    refine eMO_bound_105 ?_
    refine eMO_bound_106 ?_
    refine eMO_bound_108 rfl ?_
    refine eMO_bound_109 mh_o rfl ?_
    refine eMO_bound_112 ?_
    refine eMO_bound_113 mh_a4 (xn_in ht (by decide)) ?_
    rw [nI_clamp (by omega)]
    refine eMO_bound_114 (fun z => absurd c (Int32.not_lt.mpr z)) (fun c114 => ?_)
    refine eMO_bound_117 ?_
    refine eMO_bound_119 ?_
    refine eMO_bound_128 mh_a4 (xn_in ht (by decide)) ?_
    rw [mh_p4, nI_clamp (by omega)]
    exact kk
  · rw [if_neg c] at kk
    refine eMO_bound_101 rfl ?_
    refine eMO_bound_102 mh_o rfl ?_
    refine eMO_bound_105 ?_
    refine eMO_bound_106 ?_
    refine eMO_bound_108 rfl ?_
    refine eMO_bound_109 mh_o rfl ?_
    refine eMO_bound_112 ?_
    refine eMO_bound_113 mh_a4 (xn_in ht (by decide)) ?_
    rw [nI_clamp (by omega)]
    refine eMO_bound_114 (fun c114 => ?_) (fun z => absurd (Int32.not_le.mp z) c)
    refine eMO_bound_122 rfl ?_
    refine eMO_bound_123 mh_o rfl ?_
    refine eMO_bound_126 ?_
    refine eMO_bound_127 mh_a4 (xn_in ht (by decide)) ?_
    rw [nI_clamp (by omega)]
    refine eMO_bound_128 mh_a4 (xn_in ht (by decide)) ?_
    rw [mh_p4, nI_clamp (by omega)]
    exact kk
theorem isRN.low {t : Nat} {s : sp} (k : isRN si t s) : si 3 t = (spK s (-999) 999).1 ∧ si 4 t = (spK s (-999) 999).2.1 := by
  unfold spK
  rcases k.2 with ⟨_, rfl, a, b⟩ | ⟨_, a, b, c1, c2, c3, c4⟩
  · rw [a, b]
    exact ⟨rfl, rfl⟩
  · rw [a, b]
    have e1 : ¬ s.1 < (-999 : Int32) := fun z => by
      have := Int32.lt_iff_toInt_lt.mp z
      rw [show (-999 : Int32).toInt = -999 by decide] at this
      omega
    have e2 : ¬ (999 : Int32) < s.2.1 := fun z => by
      have := Int32.lt_iff_toInt_lt.mp z
      rw [show (999 : Int32).toInt = 999 by decide] at this
      omega
    exact ⟨(if_neg e1).symm, (if_neg e2).symm⟩
theorem kMO_bound4 {t g : Nat} {v : Int32} {ex : List Int32} {v4 v5 : Option Value} {Φ : Outcome → x_H → Prop} (k : exR (si 5) (si 6) t ex) (hl : ex.length < 3) (ht : t < 36) (hg : g < 65536)
  (k1 : g = 33 → ∀ si', frN t si si' → si' 3 t = si 3 t → si' 4 t = si 4 t → si' 11 t = si 11 t → exR (si' 5) (si' 6) t (ex ++ [v]) → Φ (.returned none) (mh h0 bm ze si')) (k2 : g ≠ 33 → Φ (.returned none) (mh h0 bm ze si)) :
  x_K P d mMO_bound 129 [some (.ref bm), some (.int (nI t)), some (.int (nI g)), some (.int v), v4, v5] [] (mh h0 bm ze si) Φ := by
  have e : nI g = nI 33 ↔ g = 33 := nI_eq (by omega) (by omega)
  by_cases h1 : g = 33
  · refine eMO_bound_129 ?_
    refine eMO_bound_130 ?_
    refine eMO_bound_132 (fun c => absurd (e.mpr h1) c) (fun c132 => ?_)
    refine eMO_bound_135 rfl ?_
    refine eMO_bound_136 mh_o rfl ?_
    refine eMO_bound_139 ?_
    refine eMO_bound_140 ?_
    refine eMO_bound_141 ?_
    rw [mx3]
    refine eMO_bound_142 rfl ?_
    refine eMO_bound_143 mh_o rfl ?_
    refine eMO_bound_146 ?_
    refine eMO_bound_147 mh_a5 (xn_in ht (by decide)) ?_
    rw [nI_clamp (by omega)]
    rw [k.1]
    refine eMO_bound_148 ?_
    rw [nI_add]
    refine eMO_bound_149 ?_
    refine eMO_bound_150 mh_a6 (xn_in (by omega) (by decide)) ?_
    rw [mh_p6, nI_clamp (by omega)]
    refine eMO_bound_151 rfl ?_
    refine eMO_bound_152 mh_o rfl ?_
    refine eMO_bound_155 ?_
    refine eMO_bound_156 rfl rfl ?_
    refine eMO_bound_157 mh_a5 (xn_in ht (by decide)) ?_
    rw [nI_clamp (by omega)]
    refine eMO_bound_158 ?_
    refine eMO_bound_159 ?_
    refine eMO_bound_160 mh_a5 (xn_in ht (by decide)) ?_
    rw [mh_p5, nI_clamp (by omega)]
    refine eMO_bound_161 (k1 h1 _ ((frN.rf.up (K := 6) (i := 3 * t + ex.length) (x := v) (by omega)).up (K := 5) (i := t) (by omega)) ?_ ?_ ?_ ?_)
    · simp [va_up]
    · simp [va_up]
    · simp [va_up]
    · refine ⟨?_, by simp; omega, fun i w hi => ?_⟩
      · show upd _ t _ t = _
        rw [pk_us]
        show si 5 t + 1 = _
        rw [k.1, nI_1, List.length_append]
        rfl
      · show upd (si 6) (3 * t + ex.length) v (3 * t + i) = w
        by_cases h2 : i = ex.length
        · subst h2
          rw [pk_us]
          rw [List.getElem?_append_right (Nat.le_refl _), Nat.sub_self] at hi
          exact Option.some.inj hi
        · rw [pk_un (by omega)]
          have h3 := (List.getElem?_eq_some_iff.mp hi).1
          rw [List.length_append, List.length_singleton] at h3
          rw [List.getElem?_append_left (by omega)] at hi
          exact k.2.2 i w hi
  · refine eMO_bound_129 ?_
    refine eMO_bound_130 ?_
    refine eMO_bound_132 (fun c132 => ?_) (fun c => absurd (e.mp c) h1)
    exact eMO_bound_161 (k2 h1)
theorem i999 : (-999 : Int32).toInt = -999 ∧ (999 : Int32).toInt = 999 ∧ (1000 : Int32).toInt = 1000 := by decide
theorem nnum_eq {s T : sp} {g : Nat} {v : Int32} (h : nnum s g v = some T) : T = (if g = 33 then spX (spK (spK s (-999) 999) (lsF g v) (msF g v)) v else spK (spK s (-999) 999) (lsF g v) (msF g v)) ∧ (g = 61 ∨ g = 33 ∨ g = 60 ∨ g = 62 ∨ g = 91 ∨ g = 93) := by
  unfold nnum at h
  split at h
  · rename_i e; subst e; cases h; exact ⟨by simp [lsF, msF], by simp⟩
  · split at h
    · rename_i e; subst e; cases h
      refine ⟨?_, by simp⟩
      rw [if_pos rfl, show lsF 33 v = -999 by simp [lsF], show msF 33 v = 999 by simp [msF]]
      have e1 : spK (spK s (-999) 999) (-999) 999 = spK s (-999) 999 := by
        unfold spK
        refine Prod.ext ?_ (Prod.ext ?_ rfl)
        · show (if (if s.1 < -999 then (-999 : Int32) else s.1) < -999 then (-999 : Int32) else (if s.1 < -999 then (-999 : Int32) else s.1)) = (if s.1 < -999 then (-999 : Int32) else s.1)
          by_cases z : s.1 < -999
          · rw [if_pos z]
            split <;> rfl
          · rw [if_neg z, if_neg z]
        · show (if (999 : Int32) < (if (999 : Int32) < s.2.1 then (999 : Int32) else s.2.1) then (999 : Int32) else (if (999 : Int32) < s.2.1 then (999 : Int32) else s.2.1)) = (if (999 : Int32) < s.2.1 then (999 : Int32) else s.2.1)
          by_cases z : (999 : Int32) < s.2.1
          · rw [if_pos z]
            split <;> rfl
          · rw [if_neg z, if_neg z]
      rw [e1]
    · split at h
      · rename_i e; subst e; cases h; exact ⟨by simp [lsF, msF], by simp⟩
      · split at h
        · rename_i e; subst e; cases h; exact ⟨by simp [lsF, msF], by simp⟩
        · split at h
          · rename_i e; subst e; cases h; exact ⟨by simp [lsF, msF], by simp⟩
          · split at h
            · rename_i e; subst e; cases h; exact ⟨by simp [lsF, msF], by simp⟩
            · cases h
theorem nnum_no {s : sp} {g : Nat} {v : Int32} (h : nnum s g v = none) : ¬ (g = 61 ∨ g = 33 ∨ g = 60 ∨ g = 62 ∨ g = 91 ∨ g = 93) := by
  rintro (e | e | e | e | e | e) <;> subst e <;> simp [nnum] at h
theorem lsF_in {g : Nat} {v : Int32} (hv : -1000 < v.toInt ∧ v.toInt < 1000) : -999 ≤ (lsF g v).toInt ∧ (lsF g v).toInt ≤ 1000 ∧ -1000 ≤ (msF g v).toInt ∧ (msF g v).toInt ≤ 999 := by
  have a := i32_add1 (x := v) (by omega) (by omega)
  have b := i32_sub1 (x := v) (by omega) (by omega)
  obtain ⟨c1, c2, c3⟩ := i999
  unfold lsF msF
  refine ⟨?_, ?_, ?_, ?_⟩
  all_goals
    split
    · omega
    · split <;> omega
theorem spK_in {s : sp} {x y : Int32} {a b : Int} (h1 : a ≤ s.1.toInt ∧ s.1.toInt ≤ b) (h2 : a ≤ x.toInt ∧ x.toInt ≤ b) : a ≤ (spK s x y).1.toInt ∧ (spK s x y).1.toInt ≤ b := by
  show a ≤ (if s.1 < x then x else s.1).toInt ∧ (if s.1 < x then x else s.1).toInt ≤ b
  split
  · exact h2
  · exact h1
theorem spK_in2 {s : sp} {x y : Int32} {a b : Int} (h1 : a ≤ s.2.1.toInt ∧ s.2.1.toInt ≤ b) (h2 : a ≤ y.toInt ∧ y.toInt ≤ b) : a ≤ (spK s x y).2.1.toInt ∧ (spK s x y).2.1.toInt ≤ b := by
  show a ≤ (if y < s.2.1 then y else s.2.1).toInt ∧ (if y < s.2.1 then y else s.2.1).toInt ≤ b
  split
  · exact h2
  · exact h1
theorem isRN.rng {t : Nat} {s : sp} (k : isRN si t s) : (-999 ≤ (spK s (-999) 999).1.toInt ∧ (spK s (-999) 999).1.toInt ≤ 1000) ∧ (-1000 ≤ (spK s (-999) 999).2.1.toInt ∧ (spK s (-999) 999).2.1.toInt ≤ 999) := by
  obtain ⟨e1, e2⟩ := k.low
  rw [← e1, ← e2]
  obtain ⟨c1, c2, c3⟩ := i999
  rcases k.2 with ⟨_, _, a, b⟩ | ⟨_, a, b, d1, d2, d3, d4⟩
  · rw [a, b, c1, c2]; decide
  · rw [a, b]; exact ⟨⟨d1, d2⟩, d3, d4⟩
theorem sMO_bound {t g : Nat} {v : Int32} {s T : sp} (k : isRN si t s) (ht : t < 36) (hl : s.2.2.length < 3) (hv : -1000 < v.toInt ∧ v.toInt < 1000) (hT : nnum s g v = some T) (hg : g < 65536) : x_K P d mMO_bound 0 [some (.ref bm), some (.int (nI t)), some (.int (nI g)), some (.int v), none, none] [] (mh h0 bm ze si) (fun oc h' => oc = .returned none ∧ ∃ si', h' = mh h0 bm ze si' ∧ frN t si si' ∧ isRN si' t T) := by
  obtain ⟨eT, _⟩ := nnum_eq hT
  obtain ⟨l1, l2⟩ := k.low
  obtain ⟨r1, r2⟩ := k.rng
  obtain ⟨q1, q2, q3, q4⟩ := lsF_in (g := g) hv
  refine eMO_bound_0 rfl ?_
  refine eMO_bound_1 mh_o rfl ?_
  refine eMO_bound_4 ?_
  refine eMO_bound_5 ?_
  refine eMO_bound_6 mh_a11 (xn_in ht (by decide)) ?_
  rw [mh_p11, nI_clamp (by omega)]
  skip
  refine kMO_bound1 hg (kMO_bound2 hg (kMO_bound3 ht ?_))
  have f1 : frN t si (va_up si 11 (upd (si 11) t (vp_nar .boolean 1))) := frN.rf.up (by omega)
  have b1 := spK_in (s := spK s (-999) 999) (x := lsF g v) (y := msF g v) r1 ⟨q1, q2⟩
  have b2 := spK_in2 (s := spK s (-999) 999) (x := lsF g v) (y := msF g v) r2 ⟨q3, q4⟩
  refine kMO_bound4 (ex := s.2.2) (k.1.keep rfl (fun _ _ => rfl)) hl ht hg (fun h33 si' f2 a3 a4 a11 e5 => ⟨rfl, si', rfl, ?_, ?_⟩) (fun h33 => ⟨rfl, _, rfl, (f1.up (by omega)).up (by omega), ?_⟩)
  · intro K i
    rcases f2 K i with a | a | a
    · exact Or.inl a
    · exact Or.inr (Or.inl a)
    · rcases ((f1.up (K := 3) (i := t) (by omega)).up (K := 4) (i := t) (by omega)) K i with b | b | b
      · exact Or.inl b
      · exact Or.inr (Or.inl b)
      · exact Or.inr (Or.inr (a.trans b))
  · rw [if_pos h33] at eT
    rw [eT]
    refine ⟨e5, Or.inr ⟨?_, ?_, ?_, b1.1, b1.2, b2.1, b2.2⟩⟩
    · rw [a11]; show upd (si 11) t _ t = _; rw [pk_us]; rfl
    · rw [a3]; show upd (si 3) t _ t = _; rw [pk_us]
      show (if si 3 t < _ then _ else si 3 t) = _
      rw [l1]; rfl
    · rw [a4]; show upd (si 4) t _ t = _; rw [pk_us]
      show (if _ < si 4 t then _ else si 4 t) = _
      rw [l2]; rfl
  · rw [if_neg h33] at eT
    rw [eT]
    refine ⟨k.1.keep rfl (fun _ _ => rfl), Or.inr ⟨?_, ?_, ?_, b1.1, b1.2, b2.1, b2.2⟩⟩
    · show upd (si 11) t _ t = _; rw [pk_us]; rfl
    · show upd (si 3) t _ t = _; rw [pk_us]
      show (if si 3 t < _ then _ else si 3 t) = _
      rw [l1]; rfl
    · show upd (si 4) t _ t = _; rw [pk_us]
      show (if _ < si 4 t then _ else si 4 t) = _
      rw [l2]; rfl
end

