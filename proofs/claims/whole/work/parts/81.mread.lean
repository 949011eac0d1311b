/-! The reference: settleBounds, condition, reads -/
def fr1 (K0 t : Nat) (si si' : Nat → Nat → Int32) : Prop := ∀ K i, (K = K0 ∧ i = t) ∨ si' K i = si K i
theorem fr1.rf {K0 t : Nat} {si : Nat → Nat → Int32} : fr1 K0 t si si := fun _ _ => Or.inr rfl
theorem fr1.up {K0 t : Nat} {si si1 : Nat → Nat → Int32} {x : Int32} (k : fr1 K0 t si si1) : fr1 K0 t si (va_up si1 K0 (upd (si1 K0) t x)) := by
  intro K i
  rcases k K i with a | a
  · exact Or.inl a
  · by_cases h : K = K0 ∧ i = t
    · exact Or.inl h
    · exact Or.inr ((vu_at h).trans a)
theorem fr1.at {K0 t K i : Nat} {si si' : Nat → Nat → Int32} (k : fr1 K0 t si si') (h : K ≠ K0 ∨ i ≠ t) : si' K i = si K i := by
  rcases k K i with a | a
  · omega
  · exact a
theorem frN.trans {t : Nat} {si si1 si' : Nat → Nat → Int32} (k1 : frN t si si1) (k2 : frN t si1 si') : frN t si si' := by
  intro K i
  rcases k2 K i with a | a | a
  · exact Or.inl a
  · exact Or.inr (Or.inl a)
  · rcases k1 K i with b | b | b
    · exact Or.inl b
    · exact Or.inr (Or.inl b)
    · exact Or.inr (Or.inr (a.trans b))
theorem fr1.n {K0 t : Nat} {si si' : Nat → Nat → Int32} (k : fr1 K0 t si si') (h : K0 = 3 ∨ K0 = 4) : frN t si si' := by
  intro K i
  rcases k K i with a | a
  · exact Or.inl ⟨by omega, a.2⟩
  · exact Or.inr (Or.inr a)
def isRT (si : Nat → Nat → Int32) (t : Nat) (s : sp) : Prop := exR (si 5) (si 6) t s.2.2 ∧ (spE s = false → sN s ∧ ((si 11 t = 0 ∧ s = (-999, 1000, [])) ∨ (si 11 t = 1 ∧ si 3 t = s.1 ∧ si 4 t = s.2.1 ∧ -999 ≤ s.1.toInt ∧ s.2.1.toInt ≤ 999)))
theorem isRT.keep {si si' : Nat → Nat → Int32} {t : Nat} {s : sp} (k : isRT si t s) (h1 : ∀ K, K = 3 ∨ K = 4 ∨ K = 5 ∨ K = 11 → si' K t = si K t) (h2 : ∀ i, i < 3 → si' 6 (3 * t + i) = si 6 (3 * t + i)) : isRT si' t s := by
  obtain ⟨a, b⟩ := k
  refine ⟨a.keep (h1 5 (by decide)) h2, ?_⟩
  rw [h1 3 (by decide), h1 4 (by decide), h1 11 (by decide)]
  exact b
section
variable {P : x_P} {d : Nat} {h0 : x_H} {bm : Nat} {ze : Nat → Int32} {si : Nat → Nat → Int32}
theorem sM_lo {lo hi : Int32} {ex : List Int32} {v : Int32} (h : lo ∈ ex) (hb : -1001 < lo.toInt ∧ lo.toInt < 1001) : sM (lo + 1, hi, ex) v ↔ sM (lo, hi, ex) v := by
  unfold sM
  show (lo + 1).toInt ≤ v.toInt ∧ _ ↔ lo.toInt ≤ v.toInt ∧ _
  rw [i32_add1 (by omega) (by omega)]
  constructor
  · intro z
    exact ⟨by have := z.1; omega, z.2⟩
  · intro z
    refine ⟨?_, z.2⟩
    have h1 := z.1
    by_cases e : lo.toInt = v.toInt
    · exact absurd (by rw [← i32_ext e]; exact h) z.2.2
    · omega
theorem sM_hi {lo hi : Int32} {ex : List Int32} {v : Int32} (h : hi ∈ ex) (hb : -1001 < hi.toInt ∧ hi.toInt < 1001) : sM (lo, hi - 1, ex) v ↔ sM (lo, hi, ex) v := by
  unfold sM
  show _ ∧ v.toInt ≤ (hi - 1).toInt ∧ _ ↔ _ ∧ v.toInt ≤ hi.toInt ∧ _
  rw [i32_sub1 (by omega) (by omega)]
  constructor
  · intro z
    exact ⟨z.1, by have := z.2.1; omega, z.2.2⟩
  · intro z
    refine ⟨z.1, ?_, z.2.2⟩
    have h1 := z.2.1
    by_cases e : hi.toInt = v.toInt
    · exact absurd (by rw [← i32_ext e]; exact h) z.2.2
    · omega
theorem lMO_low {t : Nat} {v1 : Option Value} {lo0 hi : Int32} {ex : List Int32} {si0 : Nat → Nat → Int32} {Φ : Outcome → x_H → Prop} (ht : t < 36) (kx : exR (si0 5) (si0 6) t ex) (h4 : si0 4 t = hi) (hb : -1000 ≤ hi.toInt ∧ hi.toInt ≤ 999)
  (kk : ∀ si' lo', fr1 3 t si0 si' → si' 3 t = lo' → (-1000 ≤ lo'.toInt ∧ lo'.toInt ≤ 1000) → (∀ v, sM (lo', hi, ex) v ↔ sM (lo0, hi, ex) v) → (hi.toInt < lo'.toInt ∨ sM (lo', hi, ex) lo') → x_K P (d + 1) mMO_settleBounds 55 [some (.ref bm), v1, some (.int (nI t))] [] (mh h0 bm ze si') Φ) :
  ∀ (j : Nat) (lo : Int32) (si : Nat → Nat → Int32), fr1 3 t si0 si → si 3 t = lo → (-1000 ≤ lo.toInt ∧ lo.toInt ≤ 1000) → hi.toInt < lo.toInt + j → (∀ v, sM (lo, hi, ex) v ↔ sM (lo0, hi, ex) v) → x_K P (d + 1) mMO_settleBounds 13 [some (.ref bm), v1, some (.int (nI t))] [] (mh h0 bm ze si) Φ := by
  intro j
  induction j with
  | zero =>
    intro lo si F e3 b hj hm
    have e4 : si 4 t = hi := (F.at (by omega)).trans h4
    refine eMO_settleBounds_13 rfl ?_
    refine eMO_settleBounds_14 mh_o rfl ?_
    refine eMO_settleBounds_17 ?_
    refine eMO_settleBounds_18 mh_a3 (xn_in ht (by decide)) ?_
    rw [nI_clamp (by omega)]
    rw [e3]
    refine eMO_settleBounds_19 rfl ?_
    refine eMO_settleBounds_20 mh_o rfl ?_
    refine eMO_settleBounds_23 ?_
    refine eMO_settleBounds_24 mh_a4 (xn_in ht (by decide)) ?_
    rw [nI_clamp (by omega)]
    rw [e4]
    refine eMO_settleBounds_25 (fun c25 => ?_) (fun c => absurd (Int32.lt_iff_toInt_lt.mpr (by omega)) c)
    exact kk si lo F e3 b hm (Or.inl (by omega))
  | succ j ih =>
    intro lo si F e3 b hj hm
    have e4 : si 4 t = hi := (F.at (by omega)).trans h4
    have kx' : exR (si 5) (si 6) t ex := kx.keep (F.at (by omega)) (fun i _ => F.at (by omega))
    by_cases h1 : hi.toInt < lo.toInt
    · refine eMO_settleBounds_13 rfl ?_
      refine eMO_settleBounds_14 mh_o rfl ?_
      refine eMO_settleBounds_17 ?_
      refine eMO_settleBounds_18 mh_a3 (xn_in ht (by decide)) ?_
      rw [nI_clamp (by omega)]
      rw [e3]
      refine eMO_settleBounds_19 rfl ?_
      refine eMO_settleBounds_20 mh_o rfl ?_
      refine eMO_settleBounds_23 ?_
      refine eMO_settleBounds_24 mh_a4 (xn_in ht (by decide)) ?_
      rw [nI_clamp (by omega)]
      rw [e4]
      refine eMO_settleBounds_25 (fun c25 => ?_) (fun c => absurd (Int32.lt_iff_toInt_lt.mpr h1) c)
      exact kk si lo F e3 b hm (Or.inl h1)
    · by_cases h2 : lo ∈ ex
      · refine eMO_settleBounds_13 rfl ?_
        refine eMO_settleBounds_14 mh_o rfl ?_
        refine eMO_settleBounds_17 ?_
        refine eMO_settleBounds_18 mh_a3 (xn_in ht (by decide)) ?_
        rw [nI_clamp (by omega)]
        rw [e3]
        refine eMO_settleBounds_19 rfl ?_
        refine eMO_settleBounds_20 mh_o rfl ?_
        refine eMO_settleBounds_23 ?_
        refine eMO_settleBounds_24 mh_a4 (xn_in ht (by decide)) ?_
        rw [nI_clamp (by omega)]
        rw [e4]
        refine eMO_settleBounds_25 (fun c => absurd (Int32.lt_iff_toInt_lt.mp c) h1) (fun c25 => ?_)
        refine eMO_settleBounds_28 rfl ?_
        refine eMO_settleBounds_29 ?_
        refine eMO_settleBounds_30 rfl ?_
        refine eMO_settleBounds_31 mh_o rfl ?_
        refine eMO_settleBounds_34 ?_
        refine eMO_settleBounds_35 mh_a3 (xn_in ht (by decide)) ?_
        rw [nI_clamp (by omega)]
        rw [e3]
        refine eMO_settleBounds_36 mh_o (Nat.le_of_ble_eq_true rfl) (sMO_isOut kx' ht) ?_
        rintro _ _ ⟨rfl, rfl⟩
        refine ⟨_, rfl, ?_⟩
        rw [List.contains_iff_mem.mpr h2]
        refine eMO_settleBounds_39 (fun c => absurd c (by decide)) (fun c39 => ?_)
        refine eMO_settleBounds_42 rfl ?_
        refine eMO_settleBounds_43 mh_o rfl ?_
        refine eMO_settleBounds_46 ?_
        refine eMO_settleBounds_47 rfl rfl ?_
        refine eMO_settleBounds_48 mh_a3 (xn_in ht (by decide)) ?_
        rw [nI_clamp (by omega)]
        rw [e3]
        refine eMO_settleBounds_49 ?_
        refine eMO_settleBounds_50 ?_
        refine eMO_settleBounds_51 mh_a3 (xn_in ht (by decide)) ?_
        rw [mh_p3, nI_clamp (by omega)]
        skip
        refine eMO_settleBounds_52 ?_
        have e : (lo + 1).toInt = lo.toInt + 1 := i32_add1 (by omega) (by omega)
        exact ih (lo + 1) _ F.up pk_us (by omega) (by omega) (fun v => (sM_lo h2 (by omega)).trans (hm v))
      · have h3 : ex.contains lo = false := by
          rw [← Bool.not_eq_true, List.contains_iff_mem]
          exact h2
        refine eMO_settleBounds_13 rfl ?_
        refine eMO_settleBounds_14 mh_o rfl ?_
        refine eMO_settleBounds_17 ?_
        refine eMO_settleBounds_18 mh_a3 (xn_in ht (by decide)) ?_
        rw [nI_clamp (by omega)]
        rw [e3]
        refine eMO_settleBounds_19 rfl ?_
        refine eMO_settleBounds_20 mh_o rfl ?_
        refine eMO_settleBounds_23 ?_
        refine eMO_settleBounds_24 mh_a4 (xn_in ht (by decide)) ?_
        rw [nI_clamp (by omega)]
        rw [e4]
        refine eMO_settleBounds_25 (fun c => absurd (Int32.lt_iff_toInt_lt.mp c) h1) (fun c25 => ?_)
        refine eMO_settleBounds_28 rfl ?_
        refine eMO_settleBounds_29 ?_
        refine eMO_settleBounds_30 rfl ?_
        refine eMO_settleBounds_31 mh_o rfl ?_
        refine eMO_settleBounds_34 ?_
        refine eMO_settleBounds_35 mh_a3 (xn_in ht (by decide)) ?_
        rw [nI_clamp (by omega)]
        rw [e3]
        refine eMO_settleBounds_36 mh_o (Nat.le_of_ble_eq_true rfl) (sMO_isOut kx' ht) ?_
        rintro _ _ ⟨rfl, rfl⟩
        refine ⟨_, rfl, ?_⟩
        rw [h3]
        refine eMO_settleBounds_39 (fun c39 => ?_) (fun c => absurd rfl c)
        exact kk si lo F e3 b hm (Or.inr ⟨Int.le_refl _, by show lo.toInt ≤ hi.toInt; omega, h2⟩)
theorem lMO_high {t : Nat} {v1 : Option Value} {lo hi0 : Int32} {ex : List Int32} {si0 : Nat → Nat → Int32} {Φ : Outcome → x_H → Prop} (ht : t < 36) (kx : exR (si0 5) (si0 6) t ex) (h3 : si0 3 t = lo) (hb : -1000 ≤ lo.toInt ∧ lo.toInt ≤ 1000)
  (kk : ∀ si' hi', fr1 4 t si0 si' → si' 4 t = hi' → hi'.toInt ≤ 999 → (∀ v, sM (lo, hi', ex) v ↔ sM (lo, hi0, ex) v) → (hi'.toInt < lo.toInt ∨ sM (lo, hi', ex) hi') → x_K P (d + 1) mMO_settleBounds 97 [some (.ref bm), v1, some (.int (nI t))] [] (mh h0 bm ze si') Φ) :
  ∀ (j : Nat) (hi : Int32) (si : Nat → Nat → Int32), fr1 4 t si0 si → si 4 t = hi → hi.toInt ≤ 999 → hi.toInt < lo.toInt + j → (∀ v, sM (lo, hi, ex) v ↔ sM (lo, hi0, ex) v) → x_K P (d + 1) mMO_settleBounds 55 [some (.ref bm), v1, some (.int (nI t))] [] (mh h0 bm ze si) Φ := by
  intro j
  induction j with
  | zero =>
    intro hi si F e4 b hj hm
    have e3 : si 3 t = lo := (F.at (by omega)).trans h3
    refine eMO_settleBounds_55 rfl ?_
    refine eMO_settleBounds_56 mh_o rfl ?_
    refine eMO_settleBounds_59 ?_
    refine eMO_settleBounds_60 mh_a3 (xn_in ht (by decide)) ?_
    rw [nI_clamp (by omega)]
    rw [e3]
    refine eMO_settleBounds_61 rfl ?_
    refine eMO_settleBounds_62 mh_o rfl ?_
    refine eMO_settleBounds_65 ?_
    refine eMO_settleBounds_66 mh_a4 (xn_in ht (by decide)) ?_
    rw [nI_clamp (by omega)]
    rw [e4]
    refine eMO_settleBounds_67 (fun c67 => ?_) (fun c => absurd (Int32.lt_iff_toInt_lt.mpr (by omega)) c)
    exact kk si hi F e4 b hm (Or.inl (by omega))
  | succ j ih =>
    intro hi si F e4 b hj hm
    have e3 : si 3 t = lo := (F.at (by omega)).trans h3
    have kx' : exR (si 5) (si 6) t ex := kx.keep (F.at (by omega)) (fun i _ => F.at (by omega))
    by_cases h1 : hi.toInt < lo.toInt
    · refine eMO_settleBounds_55 rfl ?_
      refine eMO_settleBounds_56 mh_o rfl ?_
      refine eMO_settleBounds_59 ?_
      refine eMO_settleBounds_60 mh_a3 (xn_in ht (by decide)) ?_
      rw [nI_clamp (by omega)]
      rw [e3]
      refine eMO_settleBounds_61 rfl ?_
      refine eMO_settleBounds_62 mh_o rfl ?_
      refine eMO_settleBounds_65 ?_
      refine eMO_settleBounds_66 mh_a4 (xn_in ht (by decide)) ?_
      rw [nI_clamp (by omega)]
      rw [e4]
      refine eMO_settleBounds_67 (fun c67 => ?_) (fun c => absurd (Int32.lt_iff_toInt_lt.mpr h1) c)
      exact kk si hi F e4 b hm (Or.inl h1)
    · by_cases h2 : hi ∈ ex
      · refine eMO_settleBounds_55 rfl ?_
        refine eMO_settleBounds_56 mh_o rfl ?_
        refine eMO_settleBounds_59 ?_
        refine eMO_settleBounds_60 mh_a3 (xn_in ht (by decide)) ?_
        rw [nI_clamp (by omega)]
        rw [e3]
        refine eMO_settleBounds_61 rfl ?_
        refine eMO_settleBounds_62 mh_o rfl ?_
        refine eMO_settleBounds_65 ?_
        refine eMO_settleBounds_66 mh_a4 (xn_in ht (by decide)) ?_
        rw [nI_clamp (by omega)]
        rw [e4]
        refine eMO_settleBounds_67 (fun c => absurd (Int32.lt_iff_toInt_lt.mp c) h1) (fun c67 => ?_)
        refine eMO_settleBounds_70 rfl ?_
        refine eMO_settleBounds_71 ?_
        refine eMO_settleBounds_72 rfl ?_
        refine eMO_settleBounds_73 mh_o rfl ?_
        refine eMO_settleBounds_76 ?_
        refine eMO_settleBounds_77 mh_a4 (xn_in ht (by decide)) ?_
        rw [nI_clamp (by omega)]
        rw [e4]
        refine eMO_settleBounds_78 mh_o (Nat.le_of_ble_eq_true rfl) (sMO_isOut kx' ht) ?_
        rintro _ _ ⟨rfl, rfl⟩
        refine ⟨_, rfl, ?_⟩
        rw [List.contains_iff_mem.mpr h2]
        refine eMO_settleBounds_81 (fun c => absurd c (by decide)) (fun c81 => ?_)
        refine eMO_settleBounds_84 rfl ?_
        refine eMO_settleBounds_85 mh_o rfl ?_
        refine eMO_settleBounds_88 ?_
        refine eMO_settleBounds_89 rfl rfl ?_
        refine eMO_settleBounds_90 mh_a4 (xn_in ht (by decide)) ?_
        rw [nI_clamp (by omega)]
        rw [e4]
        refine eMO_settleBounds_91 ?_
        refine eMO_settleBounds_92 ?_
        refine eMO_settleBounds_93 mh_a4 (xn_in ht (by decide)) ?_
        rw [mh_p4, nI_clamp (by omega)]
        skip
        refine eMO_settleBounds_94 ?_
        have e : (hi - 1).toInt = hi.toInt - 1 := i32_sub1 (by omega) (by omega)
        exact ih (hi - 1) _ F.up pk_us (by omega) (by omega) (fun v => (sM_hi h2 (by omega)).trans (hm v))
      · have h3' : ex.contains hi = false := by
          rw [← Bool.not_eq_true, List.contains_iff_mem]
          exact h2
        refine eMO_settleBounds_55 rfl ?_
        refine eMO_settleBounds_56 mh_o rfl ?_
        refine eMO_settleBounds_59 ?_
        refine eMO_settleBounds_60 mh_a3 (xn_in ht (by decide)) ?_
        rw [nI_clamp (by omega)]
        rw [e3]
        refine eMO_settleBounds_61 rfl ?_
        refine eMO_settleBounds_62 mh_o rfl ?_
        refine eMO_settleBounds_65 ?_
        refine eMO_settleBounds_66 mh_a4 (xn_in ht (by decide)) ?_
        rw [nI_clamp (by omega)]
        rw [e4]
        refine eMO_settleBounds_67 (fun c => absurd (Int32.lt_iff_toInt_lt.mp c) h1) (fun c67 => ?_)
        refine eMO_settleBounds_70 rfl ?_
        refine eMO_settleBounds_71 ?_
        refine eMO_settleBounds_72 rfl ?_
        refine eMO_settleBounds_73 mh_o rfl ?_
        refine eMO_settleBounds_76 ?_
        refine eMO_settleBounds_77 mh_a4 (xn_in ht (by decide)) ?_
        rw [nI_clamp (by omega)]
        rw [e4]
        refine eMO_settleBounds_78 mh_o (Nat.le_of_ble_eq_true rfl) (sMO_isOut kx' ht) ?_
        rintro _ _ ⟨rfl, rfl⟩
        refine ⟨_, rfl, ?_⟩
        rw [h3']
        refine eMO_settleBounds_81 (fun c81 => ?_) (fun c => absurd rfl c)
        exact kk si hi F e4 b hm (Or.inr ⟨by show lo.toInt ≤ hi.toInt; omega, Int.le_refl _, h2⟩)
theorem kMO_sbE {f t : Nat} {em : Bool} {lo hi : Int32} {Φ : Outcome → x_H → Prop} (ht : t < 36) (hf : f < 18) (h14 : si 14 f = b2i em) (h3 : si 3 t = lo) (h4 : si 4 t = hi)
  (kk : x_K P d mMO_settleBounds 4 [some (.ref bm), some (.int (nI f)), some (.int (nI (t + 1)))] [] (mh h0 bm ze (va_up si 14 (upd (si 14) f (b2i (em || decide (hi < lo)))))) Φ) :
  x_K P d mMO_settleBounds 97 [some (.ref bm), some (.int (nI f)), some (.int (nI t))] [] (mh h0 bm ze si) Φ := by
  cases em with
  | true =>
    refine eMO_settleBounds_97 rfl ?_
    refine eMO_settleBounds_98 mh_o rfl ?_
    refine eMO_settleBounds_101 ?_
    refine eMO_settleBounds_102 rfl ?_
    refine eMO_settleBounds_103 mh_o rfl ?_
    refine eMO_settleBounds_106 ?_
    refine eMO_settleBounds_107 mh_a14 (xn_in hf (by decide)) ?_
    rw [nI_clamp (by omega)]
    rw [h14]
    refine eMO_settleBounds_108 (fun c108 => ?_) (fun c => absurd c (by decide))
    refine eMO_settleBounds_126 ?_
    refine eMO_settleBounds_127 ?_
    refine eMO_settleBounds_131 mh_a14 (xn_in hf (by decide)) ?_
    rw [mh_p14, nI_clamp (by omega)]
    refine eMO_settleBounds_132 ?_
    refine eMO_settleBounds_135 ?_
    rw [nI_1]
    exact kk
  | false =>
    by_cases h1 : hi < lo
    · rw [decide_eq_true h1] at kk
      refine eMO_settleBounds_97 rfl ?_
      refine eMO_settleBounds_98 mh_o rfl ?_
      refine eMO_settleBounds_101 ?_
      refine eMO_settleBounds_102 rfl ?_
      refine eMO_settleBounds_103 mh_o rfl ?_
      refine eMO_settleBounds_106 ?_
      refine eMO_settleBounds_107 mh_a14 (xn_in hf (by decide)) ?_
      rw [nI_clamp (by omega)]
      rw [h14]
      refine eMO_settleBounds_108 (fun c => absurd rfl c) (fun c108 => ?_)
      refine eMO_settleBounds_111 rfl ?_
      refine eMO_settleBounds_112 mh_o rfl ?_
      refine eMO_settleBounds_115 ?_
      refine eMO_settleBounds_116 mh_a3 (xn_in ht (by decide)) ?_
      rw [nI_clamp (by omega)]
      rw [h3]
      refine eMO_settleBounds_117 rfl ?_
      refine eMO_settleBounds_118 mh_o rfl ?_
      refine eMO_settleBounds_121 ?_
      refine eMO_settleBounds_122 mh_a4 (xn_in ht (by decide)) ?_
      rw [nI_clamp (by omega)]
      rw [h4]
      refine eMO_settleBounds_123 (fun c => absurd h1 (Int32.not_lt.mpr c)) (fun c123 => ?_)
      refine eMO_settleBounds_126 ?_
      refine eMO_settleBounds_127 ?_
      refine eMO_settleBounds_131 mh_a14 (xn_in hf (by decide)) ?_
      rw [mh_p14, nI_clamp (by omega)]
      refine eMO_settleBounds_132 ?_
      refine eMO_settleBounds_135 ?_
      rw [nI_1]
      exact kk
    · rw [decide_eq_false h1] at kk
      refine eMO_settleBounds_97 rfl ?_
      refine eMO_settleBounds_98 mh_o rfl ?_
      refine eMO_settleBounds_101 ?_
      refine eMO_settleBounds_102 rfl ?_
      refine eMO_settleBounds_103 mh_o rfl ?_
      refine eMO_settleBounds_106 ?_
      refine eMO_settleBounds_107 mh_a14 (xn_in hf (by decide)) ?_
      rw [nI_clamp (by omega)]
      rw [h14]
      refine eMO_settleBounds_108 (fun c => absurd rfl c) (fun c108 => ?_)
      refine eMO_settleBounds_111 rfl ?_
      refine eMO_settleBounds_112 mh_o rfl ?_
      refine eMO_settleBounds_115 ?_
      refine eMO_settleBounds_116 mh_a3 (xn_in ht (by decide)) ?_
      rw [nI_clamp (by omega)]
      rw [h3]
      refine eMO_settleBounds_117 rfl ?_
      refine eMO_settleBounds_118 mh_o rfl ?_
      refine eMO_settleBounds_121 ?_
      refine eMO_settleBounds_122 mh_a4 (xn_in ht (by decide)) ?_
      rw [nI_clamp (by omega)]
      rw [h4]
      refine eMO_settleBounds_123 (fun c123 => ?_) (fun c => absurd (Int32.not_lt.mp h1) c)
      refine eMO_settleBounds_130 ?_
      refine eMO_settleBounds_131 mh_a14 (xn_in hf (by decide)) ?_
      rw [mh_p14, nI_clamp (by omega)]
      refine eMO_settleBounds_132 ?_
      refine eMO_settleBounds_135 ?_
      rw [nI_1]
      exact kk
/-- an attribute's two ends -/
theorem kMO_sb {f t : Nat} {em : Bool} {s : sp} {Φ : Outcome → x_H → Prop} (ht : t / 2 = f) (hf : f < 18) (k : isRN si t s) (h14 : si 14 f = b2i em)
  (kk : ∀ si1 si', frN t si si1 → fr1 14 f si1 si' → isRT si' t (spT s) → si' 14 f = b2i (em || spE (spT s)) → x_K P (d + 1) mMO_settleBounds 4 [some (.ref bm), some (.int (nI f)), some (.int (nI (t + 1)))] [] (mh h0 bm ze si') Φ) :
  x_K P (d + 1) mMO_settleBounds 4 [some (.ref bm), some (.int (nI f)), some (.int (nI t))] [] (mh h0 bm ze si) Φ := by
  have hl := k.1.2.1
  have hr := k.rng
  have hlow := k.low
  obtain ⟨c1, c2, c3⟩ := i999
  have hsB : sB s := by
    rcases k.2 with ⟨_, a, _, _⟩ | ⟨_, _, _, d1, d2, d3, d4⟩
    · rw [a]; unfold sB; decide
    · exact ⟨by omega, by omega, by omega, by omega⟩
  obtain ⟨t1, t2, t3, t4, t5, t6, t7⟩ := spT_all (by omega) hsB
  have hbl : -1000 ≤ (si 3 t).toInt ∧ (si 3 t).toInt ≤ 1000 := by rw [hlow.1]; omega
  have hbh : -1000 ≤ (si 4 t).toInt ∧ (si 4 t).toInt ≤ 999 := by rw [hlow.2]; omega
  refine eMO_settleBounds_4 ?_
  refine eMO_settleBounds_5 ?_
  refine eMO_settleBounds_6 ?_
  refine eMO_settleBounds_7 ?_
  rw [mx2]
  refine eMO_settleBounds_8 ?_
  refine eMO_settleBounds_9 ?_
  rw [nI_a2]
  refine eMO_settleBounds_10 (fun c => absurd c (nI_ge (by omega) (by omega))) (fun c10 => ?_)
  skip
  refine lMO_low (lo0 := si 3 t) (hi := si 4 t) (ex := s.2.2) (si0 := si) (by omega) k.1 rfl hbh (fun sa lo Fa a3 ab am ae => ?_) 3000 (si 3 t) si fr1.rf rfl hbl (by omega) (fun _ => Iff.rfl)
  have ka : exR (sa 5) (sa 6) t s.2.2 := k.1.keep (Fa.at (by omega)) (fun i _ => Fa.at (by omega))
  refine lMO_high (lo := lo) (hi0 := si 4 t) (ex := s.2.2) (si0 := sa) (by omega) ka a3 ab (fun sb hi Fb b4 bb bm' be => ?_) 3000 (si 4 t) sa fr1.rf (Fa.at (by omega)) (by omega) (by omega) (fun _ => Iff.rfl)
  have b3 : sb 3 t = lo := (Fb.at (by omega)).trans a3
  have b14 : sb 14 f = b2i em := (Fb.at (by omega)).trans ((Fa.at (by omega)).trans h14)
  have kb : exR (sb 5) (sb 6) t s.2.2 := ka.keep (Fb.at (by omega)) (fun i _ => Fb.at (by omega))
  have hM : ∀ v, sM (lo, hi, s.2.2) v ↔ sM (si 3 t, si 4 t, s.2.2) v := fun v => (bm' v).trans (am v)
  refine kMO_sbE (by omega) hf b14 b3 b4 ?_
  have hE : decide (hi < lo) = spE (spT s) ∧ (spE (spT s) = false → sN (spT s) ∧ ((sb 11 t = 0 ∧ spT s = (-999, 1000, [])) ∨ (sb 11 t = 1 ∧ sb 3 t = (spT s).1 ∧ sb 4 t = (spT s).2.1 ∧ -999 ≤ (spT s).1.toInt ∧ (spT s).2.1.toInt ≤ 999))) := by
    have e11 : sb 11 t = si 11 t := (Fb.at (by omega)).trans (Fa.at (by omega))
    have hN : ¬ hi.toInt < lo.toInt → sN (lo, hi, s.2.2) := by
      intro h1
      have h2 : sM (lo, si 4 t, s.2.2) lo := by
        rcases ae with h3 | h3
        · rcases be with h4 | h4
          · exact absurd h4 h1
          · have h5 := (bm' hi).mp h4
            have h6 : lo.toInt ≤ hi.toInt := h5.1
            have h7 : hi.toInt ≤ (si 4 t).toInt := h5.2.1
            exact absurd h7 (by omega)
        · exact h3
      exact ⟨(bm' lo).mpr h2, be.resolve_left h1⟩
    rw [e11]
    rcases k.2 with ⟨x1, x2, x3, x4⟩ | ⟨x1, x2, x3, x4⟩
    · subst x2
      have e1 : spT (-999, 1000, []) = (-999, 1000, []) := rfl
      rw [e1]
      refine ⟨?_, fun _ => ⟨?_, Or.inl ⟨x1, rfl⟩⟩⟩
      · have h1 : sM (si 3 t, si 4 t, []) 0 := by
          rw [x3, x4]
          unfold sM
          refine ⟨by decide, by decide, by simp⟩
        have h2 := (hM 0).mpr h1
        have h3 : ¬ hi < lo := fun z => by
          have z1 := Int32.lt_iff_toInt_lt.mp z
          have z2 : lo.toInt ≤ _ := h2.1
          have z3 : _ ≤ hi.toInt := h2.2.1
          omega
        rw [decide_eq_false h3]
        rfl
      · unfold sN sM
        refine ⟨⟨by decide, by decide, by simp⟩, ⟨by decide, by decide, by simp⟩⟩
    · rw [x2, x3] at hM
      have hM' : ∀ v, sM (lo, hi, s.2.2) v ↔ sM (spT s) v := fun v => (hM v).trans (t2 v).symm
      by_cases h1 : hi.toInt < lo.toInt
      · have h2 : spE (spT s) = true := by
          cases h3 : spE (spT s) with
          | true => rfl
          | false =>
            have h4 := (hM' _).mpr (spT_N (by omega) hsB h3).1
            have z2 : lo.toInt ≤ _ := h4.1
            have z3 : _ ≤ hi.toInt := h4.2.1
            omega
        rw [h2, decide_eq_true (Int32.lt_iff_toInt_lt.mpr h1)]
        exact ⟨rfl, fun z => by cases z⟩
      · have h2 := hN h1
        have h3 : spE (spT s) = false := sM_E ((hM' _).mp h2.1)
        have h4 := spT_N (by omega) hsB h3
        have h5 := sN_eq h2 h4 hM'
        rw [h3, decide_eq_false (fun z => h1 (Int32.lt_iff_toInt_lt.mp z))]
        refine ⟨rfl, fun _ => ⟨h4, Or.inr ⟨x1, b3.trans h5.1, b4.trans h5.2, by have := x4.1; omega, ?_⟩⟩⟩
        rw [← h5.2]
        exact bb
  rw [hE.1]
  refine kk sb _ ((Fa.n (by omega)).trans (Fb.n (by omega))) fr1.rf.up ?_ pk_us
  refine ⟨?_, hE.2⟩
  rw [t3]
  exact kb
theorem kMO_sbW {f : Nat} {em wh ct : Bool} {ex : List Int32} {v2 : Option Value} {Φ : Outcome → x_H → Prop} (hf : f < 18) (h14 : si 14 f = b2i em) (h13 : em = false → si 13 f = b2i wh) (kx : exR (si 9) (si 10) f ex) (hc : em = false → wh = true → ex.contains (si 7 f) = ct)
  (kk : Φ (.returned none) (mh h0 bm ze (va_up si 14 (upd (si 14) f (b2i (em || (wh && ct))))))) :
  x_K P (d + 1) mMO_settleBounds 138 [some (.ref bm), some (.int (nI f)), v2] [] (mh h0 bm ze si) Φ := by
  cases em with
  | true =>
    refine eMO_settleBounds_138 rfl ?_
    refine eMO_settleBounds_139 mh_o rfl ?_
    refine eMO_settleBounds_142 ?_
    refine eMO_settleBounds_143 rfl ?_
    refine eMO_settleBounds_144 mh_o rfl ?_
    refine eMO_settleBounds_147 ?_
    refine eMO_settleBounds_148 mh_a14 (xn_in hf (by decide)) ?_
    rw [nI_clamp (by omega)]
    rw [h14]
    refine eMO_settleBounds_149 (fun c149 => ?_) (fun c => absurd c (by decide))
    refine eMO_settleBounds_175 ?_
    refine eMO_settleBounds_176 ?_
    refine eMO_settleBounds_180 mh_a14 (xn_in hf (by decide)) ?_
    rw [mh_p14, nI_clamp (by omega)]
    exact eMO_settleBounds_181 kk
  | false =>
    have e13 := h13 rfl
    cases wh with
    | false =>
      refine eMO_settleBounds_138 rfl ?_
      refine eMO_settleBounds_139 mh_o rfl ?_
      refine eMO_settleBounds_142 ?_
      refine eMO_settleBounds_143 rfl ?_
      refine eMO_settleBounds_144 mh_o rfl ?_
      refine eMO_settleBounds_147 ?_
      refine eMO_settleBounds_148 mh_a14 (xn_in hf (by decide)) ?_
      rw [nI_clamp (by omega)]
      rw [h14]
      refine eMO_settleBounds_149 (fun c => absurd rfl c) (fun c149 => ?_)
      refine eMO_settleBounds_152 rfl ?_
      refine eMO_settleBounds_153 mh_o rfl ?_
      refine eMO_settleBounds_156 ?_
      refine eMO_settleBounds_157 mh_a13 (xn_in hf (by decide)) ?_
      rw [nI_clamp (by omega)]
      rw [e13]
      refine eMO_settleBounds_158 (fun c158 => ?_) (fun c => absurd rfl c)
      refine eMO_settleBounds_179 ?_
      refine eMO_settleBounds_180 mh_a14 (xn_in hf (by decide)) ?_
      rw [mh_p14, nI_clamp (by omega)]
      exact eMO_settleBounds_181 kk
    | true =>
      have hc' := hc rfl rfl
      cases ct with
      | true =>
        refine eMO_settleBounds_138 rfl ?_
        refine eMO_settleBounds_139 mh_o rfl ?_
        refine eMO_settleBounds_142 ?_
        refine eMO_settleBounds_143 rfl ?_
        refine eMO_settleBounds_144 mh_o rfl ?_
        refine eMO_settleBounds_147 ?_
        refine eMO_settleBounds_148 mh_a14 (xn_in hf (by decide)) ?_
        rw [nI_clamp (by omega)]
        rw [h14]
        refine eMO_settleBounds_149 (fun c => absurd rfl c) (fun c149 => ?_)
        refine eMO_settleBounds_152 rfl ?_
        refine eMO_settleBounds_153 mh_o rfl ?_
        refine eMO_settleBounds_156 ?_
        refine eMO_settleBounds_157 mh_a13 (xn_in hf (by decide)) ?_
        rw [nI_clamp (by omega)]
        rw [e13]
        refine eMO_settleBounds_158 (fun c => absurd c (by decide)) (fun c158 => ?_)
        refine eMO_settleBounds_161 rfl ?_
        refine eMO_settleBounds_162 ?_
        refine eMO_settleBounds_163 rfl ?_
        refine eMO_settleBounds_164 mh_o rfl ?_
        refine eMO_settleBounds_167 ?_
        refine eMO_settleBounds_168 mh_a7 (xn_in hf (by decide)) ?_
        rw [nI_clamp (by omega)]
        refine eMO_settleBounds_169 mh_o (Nat.le_of_ble_eq_true rfl) (sMO_isWordOut kx hf) ?_
        rintro _ _ ⟨rfl, rfl⟩
        refine ⟨_, rfl, ?_⟩
        rw [hc']
        refine eMO_settleBounds_172 (fun c => absurd c (by decide)) (fun c172 => ?_)
        refine eMO_settleBounds_175 ?_
        refine eMO_settleBounds_176 ?_
        refine eMO_settleBounds_180 mh_a14 (xn_in hf (by decide)) ?_
        rw [mh_p14, nI_clamp (by omega)]
        exact eMO_settleBounds_181 kk
      | false =>
        refine eMO_settleBounds_138 rfl ?_
        refine eMO_settleBounds_139 mh_o rfl ?_
        refine eMO_settleBounds_142 ?_
        refine eMO_settleBounds_143 rfl ?_
        refine eMO_settleBounds_144 mh_o rfl ?_
        refine eMO_settleBounds_147 ?_
        refine eMO_settleBounds_148 mh_a14 (xn_in hf (by decide)) ?_
        rw [nI_clamp (by omega)]
        rw [h14]
        refine eMO_settleBounds_149 (fun c => absurd rfl c) (fun c149 => ?_)
        refine eMO_settleBounds_152 rfl ?_
        refine eMO_settleBounds_153 mh_o rfl ?_
        refine eMO_settleBounds_156 ?_
        refine eMO_settleBounds_157 mh_a13 (xn_in hf (by decide)) ?_
        rw [nI_clamp (by omega)]
        rw [e13]
        refine eMO_settleBounds_158 (fun c => absurd c (by decide)) (fun c158 => ?_)
        refine eMO_settleBounds_161 rfl ?_
        refine eMO_settleBounds_162 ?_
        refine eMO_settleBounds_163 rfl ?_
        refine eMO_settleBounds_164 mh_o rfl ?_
        refine eMO_settleBounds_167 ?_
        refine eMO_settleBounds_168 mh_a7 (xn_in hf (by decide)) ?_
        rw [nI_clamp (by omega)]
        refine eMO_settleBounds_169 mh_o (Nat.le_of_ble_eq_true rfl) (sMO_isWordOut kx hf) ?_
        rintro _ _ ⟨rfl, rfl⟩
        refine ⟨_, rfl, ?_⟩
        rw [hc']
        refine eMO_settleBounds_172 (fun c172 => ?_) (fun c => absurd rfl c)
        refine eMO_settleBounds_179 ?_
        refine eMO_settleBounds_180 mh_a14 (xn_in hf (by decide)) ?_
        rw [mh_p14, nI_clamp (by omega)]
        exact eMO_settleBounds_181 kk
end
theorem wOk_31 {e m : Nat} (h : wOk e m) (hm : 1 ≤ m) : e % 32 ≤ 26 := by
  obtain ⟨h1, h2, a0, a1, a2, a3, b1, b2, b3, b4⟩ := h
  rcases wOk_pw h2 with ⟨q, _⟩ | ⟨q, _⟩ | ⟨q, _⟩ | ⟨q, _⟩ | ⟨q, _⟩ <;> subst q <;> omega
theorem wOk_t31 {w n : Nat} (h : wOk w n) (hn : n ≤ 3) : (w + 32 ^ (4 - n) - 1) % 32 = 31 := by
  obtain ⟨h1, h2, a0, a1, a2, a3, b1, b2, b3, b4⟩ := h
  rcases wOk_pw h2 with ⟨q, r⟩ | ⟨q, r⟩ | ⟨q, r⟩ | ⟨q, r⟩ | ⟨q, r⟩ <;> subst q <;> rw [r] <;> omega
theorem wOk_tex {w n : Nat} {ex : List Int32} (h : wOk w n) (hn : n ≤ 3) (hx : ∀ v ∈ ex, ∃ e m, v = nI e ∧ 1 ≤ m ∧ wOk e m) : nI (w + 32 ^ (4 - n) - 1) ∉ ex := by
  intro z
  obtain ⟨e, m, h1, h2, h3⟩ := hx _ z
  have h4 := wOk_top h
  have h5 := (nI_eq (by omega) (by have := h3.1; omega)).mp h1
  have h6 := wOk_t31 h hn
  have h7 := wOk_31 h3 h2
  rw [h5] at h6
  omega
def isRX (si : Nat → Nat → Int32) (f : Nat) (s : sp) : Prop := exR (si 9) (si 10) f s.2.2 ∧ (∀ v ∈ s.2.2, ∃ e m, v = nI e ∧ 1 ≤ m ∧ wOk e m) ∧ sN s ∧
  ((si 12 f = 0 ∧ s = (0, 1048575, [])) ∨ (si 12 f = 1 ∧ si 13 f = 1 ∧ ∃ w n, 1 ≤ n ∧ wOk w n ∧ si 7 f = nI w ∧ s.1 = nI w ∧ s.2.1 = nI w) ∨
   (si 12 f = 1 ∧ si 13 f = 0 ∧ ∃ w n, n ≤ 3 ∧ wOk w n ∧ si 7 f = nI w ∧ si 8 f = nI n ∧ (∀ v, sM s v ↔ sM (nI (max 1 w), nI (w + 32 ^ (4 - n) - 1), s.2.2) v) ∧ s.2.1 = nI (w + 32 ^ (4 - n) - 1)))
/-- the record of a filter that was read -/
def isRF (si : Nat → Nat → Int32) (f : Nat) (F : sp3) : Prop := si 14 f = b2i (fiE F) ∧ (fiE F = false → isRT si (2 * f) F.1 ∧ isRT si (2 * f + 1) F.2.1 ∧ isRX si f F.2.2)
theorem isRF.km {si si' : Nat → Nat → Int32} {f f' : Nat} {F : sp3} (k : isRF si f F) (h : frm f' si si') (hf : f ≠ f') : isRF si' f F := by
  have a1 : ∀ K, K = 7 ∨ K = 8 ∨ K = 9 ∨ K = 12 ∨ K = 13 ∨ K = 14 → si' K f = si K f := fun K hK => h.at (Or.inr (Or.inr (by
    unfold slt
    rcases hK with b | b | b | b | b | b <;> subst b <;> simp <;> omega)))
  have a2 : ∀ t, t / 2 = f → ∀ K, K = 3 ∨ K = 4 ∨ K = 5 ∨ K = 11 → si' K t = si K t := fun t ht K hK => h.at (Or.inr (Or.inr (by
    unfold slt
    rcases hK with b | b | b | b <;> subst b <;> simp <;> omega)))
  have a3 : ∀ t, t / 2 = f → ∀ i, i < 3 → si' 6 (3 * t + i) = si 6 (3 * t + i) := fun t ht i hi => h.at (Or.inr (Or.inr (by
    unfold slt
    simp
    omega)))
  have a4 : ∀ i, i < 3 → si' 10 (3 * f + i) = si 10 (3 * f + i) := fun i hi => h.at (Or.inr (Or.inr (by
    unfold slt
    simp
    omega)))
  refine ⟨(a1 14 (by decide)).trans k.1, fun hE => ?_⟩
  obtain ⟨b1, b2, b3⟩ := k.2 hE
  refine ⟨b1.keep (a2 _ (by omega)) (a3 _ (by omega)), b2.keep (a2 _ (by omega)) (a3 _ (by omega)), ?_⟩
  obtain ⟨c1, c2, c3, c4⟩ := b3
  refine ⟨c1.keep (a1 9 (by decide)) a4, c2, c3, ?_⟩
  rw [a1 7 (by decide), a1 8 (by decide), a1 12 (by decide), a1 13 (by decide)]
  exact c4
/-- what the word's part is after tightening, and when it is empty -/
theorem isRW.fin {si : Nat → Nat → Int32} {f : Nat} {s : sp} (k : isRW si f s) : ∃ em wh : Bool, si 14 f = b2i em ∧ (em = false → si 13 f = b2i wh) ∧ spE (spT s) = (em || (wh && s.2.2.contains (si 7 f))) ∧ (spE (spT s) = false → isRX si f (spT s)) := by
  have hl := k.1.2.1
  obtain ⟨t1, t2, t3, t4, t5, t6, t7⟩ := spT_all (by omega) k.2.2.1
  have hE := spT_E (by omega) k.2.2.1
  have hN := fun h => spT_N (s := s) (by omega) k.2.2.1 h
  have base : spE (spT s) = false → ((si 12 f = 0 ∧ spT s = (0, 1048575, [])) ∨ (si 12 f = 1 ∧ si 13 f = 1 ∧ ∃ w n, 1 ≤ n ∧ wOk w n ∧ si 7 f = nI w ∧ (spT s).1 = nI w ∧ (spT s).2.1 = nI w) ∨
   (si 12 f = 1 ∧ si 13 f = 0 ∧ ∃ w n, n ≤ 3 ∧ wOk w n ∧ si 7 f = nI w ∧ si 8 f = nI n ∧ (∀ v, sM (spT s) v ↔ sM (nI (max 1 w), nI (w + 32 ^ (4 - n) - 1), (spT s).2.2) v) ∧ (spT s).2.1 = nI (w + 32 ^ (4 - n) - 1))) → isRX si f (spT s) := by
    intro h1 h2
    refine ⟨by rw [t3]; exact k.1, by rw [t3]; exact k.2.1, hN h1, h2⟩
  rcases k.2.2.2 with ⟨a, b, c, d, e, h2⟩ | ⟨a, b⟩
  · have e1 : spT s = (0, 1048575, []) := by rw [h2]; rfl
    refine ⟨false, false, c, fun _ => b, ?_, fun h1 => base h1 (Or.inl ⟨a, e1⟩)⟩
    rw [e1]
    rfl
  · rcases b with ⟨b1, b2⟩ | ⟨b1, b2, w, n, b3, b4, b5, b6, b7⟩ | ⟨b1, b2, w, n, b3, b4, b5, b6, b7, b8⟩
    · have h3 : spE (spT s) = true := by
        cases h4 : spE (spT s) with
        | true => rfl
        | false =>
          obtain ⟨v, hv⟩ := hE.mp h4
          have := hv.1
          have := hv.2.1
          omega
      refine ⟨true, false, b1, (fun z => by cases z), (by rw [h3]; rfl), (fun z => by rw [h3] at z; cases z)⟩
    · refine ⟨false, true, b1, fun _ => b2, ?_, fun h1 => base h1 (Or.inr (Or.inl ⟨a, b2, w, n, b3, b4, b5, ?_, ?_⟩))⟩
      · rw [b5, Bool.false_or, Bool.true_and]
        cases h4 : s.2.2.contains (nI w) with
        | true =>
          have h5 := List.contains_iff_mem.mp h4
          cases h6 : spE (spT s) with
          | true => rfl
          | false =>
            obtain ⟨v, hv⟩ := hE.mp h6
            have z1 := hv.1
            have z2 := hv.2.1
            rw [b6] at z1
            rw [b7] at z2
            have e2 : v = nI w := i32_ext (by omega)
            exact absurd (by rw [e2]; exact h5) hv.2.2
        | false =>
          have h5 : nI w ∉ s.2.2 := fun z => by rw [List.contains_iff_mem.mpr z] at h4; cases h4
          exact hE.mpr ⟨nI w, by rw [b6]; exact Int.le_refl _, by rw [b7]; exact Int.le_refl _, h5⟩
      · have z := (t2 _).mp (hN h1).1
        have z1 := z.1
        have z2 := z.2.1
        rw [b6] at z1
        rw [b7] at z2
        exact i32_ext (by omega)
      · have z := (t2 _).mp (hN h1).2
        have z1 := z.1
        have z2 := z.2.1
        rw [b6] at z1
        rw [b7] at z2
        exact i32_ext (by omega)
    · have h5 := wOk_tex b4 b3 k.2.1
      have h6 := wOk_top b4
      have h7 := wP (n := n)
      have h7' : 32 ≤ 32 ^ (4 - n) := by
        rcases wOk_pw (n := n) (by omega) with ⟨q, r⟩ | ⟨q, r⟩ | ⟨q, r⟩ | ⟨q, r⟩ | ⟨q, r⟩ <;> omega
      have h8 : sM s s.2.1 := by
        rw [b8]
        refine ⟨?_, by rw [b8]; exact Int.le_refl _, h5⟩
        rw [b7, nI_toInt (by omega), nI_toInt (by omega)]
        omega
      have h9 : spE (spT s) = false := hE.mpr ⟨_, h8⟩
      refine ⟨false, false, b1, fun _ => b2, by rw [h9]; rfl, fun h1 => base h1 (Or.inr (Or.inr ⟨a, b2, w, n, b3, b4, b5, b6, fun v => ?_, ?_⟩))⟩
      · rw [t2 v, t3]
        unfold sM
        rw [b7, b8]
      · rw [t5 h8, b8]
section
variable {P : x_P} {d : Nat} {h0 : x_H} {bm : Nat} {ze : Nat → Int32} {si : Nat → Nat → Int32}
theorem sMO_settleBounds {f : Nat} {F : sp3} (hf : f < 18) (k1 : isRN si (2 * f) F.1) (k2 : isRN si (2 * f + 1) F.2.1) (k3 : isRW si f F.2.2) : x_K P (d + 1) mMO_settleBounds 0 [some (.ref bm), some (.int (nI f)), none] [] (mh h0 bm ze si) (fun oc h' => oc = .returned none ∧ ∃ si', h' = mh h0 bm ze si' ∧ frm f si si' ∧ isRF si' f (fiT F)) := by
  obtain ⟨em, wh, e14, e13, eE, eX⟩ := k3.fin
  refine eMO_settleBounds_0 ?_
  refine eMO_settleBounds_1 ?_
  refine eMO_settleBounds_2 ?_
  rw [mx2]
  refine eMO_settleBounds_3 ?_
  skip
  refine kMO_sb (t := 2 * f) (by omega) hf k1 e14 (fun sa sb fa fb rb b14 => ?_)
  have ga : ∀ {si si1 si'}, frN (2 * f) si si1 → fr1 14 f si1 si' → frm f si si' := fun x y => (x.m (by omega)).trans (fun K i => by
    rcases y K i with a | a
    · left
      unfold slt
      obtain ⟨a1, a2⟩ := a
      subst a1
      refine ⟨by decide, by decide, ?_⟩
      simp
      omega
    · exact Or.inr a)
  have k2b : isRN sb (2 * f + 1) F.2.1 := (k2.kN fa (by omega)).keep (fun K hK => fb.at (by omega)) (fun i _ => fb.at (by omega))
  refine kMO_sb (t := 2 * f + 1) (by omega) hf k2b b14 (fun sc sd fc fd rd d14 => ?_)
  have gb : frm f sb sd := (fc.m (by omega)).trans (fun K i => by
    rcases fd K i with a | a
    · left
      unfold slt
      obtain ⟨a1, a2⟩ := a
      subst a1
      refine ⟨by decide, by decide, ?_⟩
      simp
      omega
    · exact Or.inr a)
  have ra : isRT sd (2 * f) (spT F.1) := rb.keep (fun K hK => (fd.at (by omega)).trans (by
      rcases fc K (2 * f) with a | a | a
      · omega
      · omega
      · exact a)) (fun i hi => (fd.at (by omega)).trans (by
      rcases fc 6 (3 * (2 * f) + i) with a | a | a
      · omega
      · omega
      · exact a))
  have w1 : ∀ K, K = 7 ∨ K = 8 ∨ K = 9 ∨ K = 12 ∨ K = 13 → sd K f = si K f := fun K hK => by
    have x1 : sd K f = sc K f := fd.at (by omega)
    have x2 : sc K f = sb K f := by
      rcases fc K f with a | a | a
      · omega
      · omega
      · exact a
    have x3 : sb K f = sa K f := fb.at (by omega)
    have x4 : sa K f = si K f := by
      rcases fa K f with a | a | a
      · omega
      · omega
      · exact a
    rw [x1, x2, x3, x4]
  have w2 : ∀ i, i < 3 → sd 10 (3 * f + i) = si 10 (3 * f + i) := fun i hi => by
    have x1 : sd 10 (3 * f + i) = sc 10 (3 * f + i) := fd.at (by omega)
    have x2 : sc 10 (3 * f + i) = sb 10 (3 * f + i) := by
      rcases fc 10 (3 * f + i) with a | a | a
      · omega
      · omega
      · exact a
    have x3 : sb 10 (3 * f + i) = sa 10 (3 * f + i) := fb.at (by omega)
    have x4 : sa 10 (3 * f + i) = si 10 (3 * f + i) := by
      rcases fa 10 (3 * f + i) with a | a | a
      · omega
      · omega
      · exact a
    rw [x1, x2, x3, x4]
  have kx : exR (sd 9) (sd 10) f F.2.2.2.2 := k3.1.keep (w1 9 (by decide)) w2
  refine eMO_settleBounds_4 ?_
  refine eMO_settleBounds_5 ?_
  refine eMO_settleBounds_6 ?_
  refine eMO_settleBounds_7 ?_
  rw [mx2]
  refine eMO_settleBounds_8 ?_
  refine eMO_settleBounds_9 ?_
  rw [nI_a2]
  refine eMO_settleBounds_10 (fun c10 => ?_) (fun c => absurd (nI_le (by omega) (by omega)) c)
  skip
  refine kMO_sbW (em := (em || spE (spT F.1)) || spE (spT F.2.1)) (wh := wh) (ct := F.2.2.2.2.contains (si 7 f)) hf d14 (fun z => ?_) kx (fun z _ => ?_) ⟨rfl, _, rfl, ((ga fa fb).trans gb).trans (frW.m (frW.rf.up (by omega))), ?_, fun hF => ?_⟩
  · rw [w1 13 (by decide)]
    exact e13 (by cases em <;> simp_all)
  · rw [w1 7 (by decide)]
  · show upd (sd 14) f _ f = _
    rw [pk_us]
    unfold fiE fiT
    rw [eE]
    congr 1
    cases em <;> cases wh <;> cases spE (spT F.1) <;> cases spE (spT F.2.1) <;> rfl
  · obtain ⟨g1, g2, g3⟩ := fiE_iff.mp hF
    obtain ⟨x1, x2, x3, x4⟩ := eX g3
    refine ⟨ra.keep (fun K hK => by rcases hK with z | z | z | z <;> subst z <;> rfl) (fun _ _ => rfl), rd.keep (fun K hK => by rcases hK with z | z | z | z <;> subst z <;> rfl) (fun _ _ => rfl), ?_⟩
    refine ⟨x1.keep (w1 9 (by decide)) w2, x2, x3, ?_⟩
    show ((sd 12 f = 0 ∧ _) ∨ (sd 12 f = 1 ∧ sd 13 f = 1 ∧ _) ∨ (sd 12 f = 1 ∧ sd 13 f = 0 ∧ _))
    rw [show va_up sd 14 _ 7 f = si 7 f from w1 7 (by decide), show va_up sd 14 _ 8 f = si 8 f from w1 8 (by decide), w1 12 (by decide), w1 13 (by decide)]
    exact x4
end

