/-! The reference: run -/
section
variable {P : x_P} {d : Nat} {h0 : x_H} {bm : Nat} {p : Nat → Nat} {F : Nat → sp3} {Φ : Outcome → x_H → Prop}
/-- the first busy link, found from behind -/
theorem lMO_which {S : bS} {T H M : Nat → List Nat} {fr : Nat → Nat} {ze : Nat → Int32} {si : Nat → Nat → Int32} {v1 v2 : Option Value} (k : isM p S F T H fr M ze si)
  (kk : ∀ wh v4, ((wh = -1 ∧ fbF p S 36 0 = none) ∨ ∃ i j, i < 36 ∧ wh = nI i ∧ lkF p i = some j ∧ fbF p S 36 0 = some j) → x_K P (d + 6) mMO_run 81 [some (.ref bm), v1, v2, some (.int wh), v4] [] (mh h0 bm ze si) Φ) :
  ∀ (i : Nat) (wh : Int32) (v4 : Int32), (i = 0 → v4 = -1) → (0 < i → v4 = nI (i - 1)) → i ≤ 36 → ((wh = -1 ∧ fbF p S (36 - i) i = none) ∨ ∃ i' j, i' < 36 ∧ wh = nI i' ∧ lkF p i' = some j ∧ fbF p S (36 - i) i = some j) → x_K P (d + 6) mMO_run 26 [some (.ref bm), v1, v2, some (.int wh), some (.int v4)] [] (mh h0 bm ze si) Φ := by
  intro i
  induction i with
  | zero =>
    intro wh v4 h1 _ _ hw
    have e := h1 rfl
    subst e
    refine eMO_run_26 ?_
    refine eMO_run_28 (fun c28 => ?_) (fun c => absurd (by decide) c)
    exact kk wh _ hw
  | succ i ih =>
    intro wh v4 _ h2 hi hw
    have e := h2 (by omega)
    rw [Nat.add_sub_cancel] at e
    subst e
    have e2 := k.2.1 i (by omega)
    have e36 : fbF p S (36 - i) i = match lkF p i with | none => fbF p S (36 - (i + 1)) (i + 1) | some j => if b_Q S j = [] then fbF p S (36 - (i + 1)) (i + 1) else some j := by
      rw [show 36 - i = (36 - (i + 1)) + 1 by omega]
      rfl
    have nxt : nI i + -1 = nI (i - 1) ∨ i = 0 := by
      cases i with
      | zero => exact Or.inr rfl
      | succ i => exact Or.inl (pk_m1 i)
    have step : ∀ wh', ((wh' = -1 ∧ fbF p S (36 - i) i = none) ∨ ∃ i' j, i' < 36 ∧ wh' = nI i' ∧ lkF p i' = some j ∧ fbF p S (36 - i) i = some j) → x_K P (d + 6) mMO_run 75 [some (.ref bm), v1, v2, some (.int wh'), some (.int (nI i))] [] (mh h0 bm ze si) Φ := by
      intro wh' hw'
      refine eMO_run_75 ?_
      skip
      refine eMO_run_78 ?_
      refine ih wh' _ (fun z => by subst z; rfl) (fun z => ?_) (by omega) hw'
      rcases nxt with q | q
      · exact q
      · omega
    cases hk : lkF p i with
    | none =>
      rw [hk] at e2 e36
      have e36' : fbF p S (36 - i) i = fbF p S (36 - (i + 1)) (i + 1) := e36
      refine eMO_run_26 ?_
      refine eMO_run_28 (fun c => absurd c (nI_pos (by omega))) (fun c28 => ?_)
      refine eMO_run_31 rfl ?_
      refine eMO_run_32 mh_o rfl ?_
      refine eMO_run_35 ?_
      refine eMO_run_37 mh_a2 (xn_in (by omega) (by decide)) ?_
      rw [nI_clamp (by omega)]
      rw [e2]
      refine eMO_run_38 (fun c38 => ?_) (fun c => absurd (by decide) c)
      refine eMO_run_73 ?_
      refine eMO_run_74 ?_
      exact step wh (by rw [e36']; exact hw)
    | some j =>
      rw [hk] at e2 e36
      have e36' : fbF p S (36 - i) i = if b_Q S j = [] then fbF p S (36 - (i + 1)) (i + 1) else some j := e36
      have hj := lkF_lt hk (by omega)
      obtain ⟨a1, a2, a3, a4⟩ := k.line.1 j hj
      have hMj := congrArg List.length (k.line.2 j hj).1
      rw [List.length_map] at hMj
      by_cases c1 : b_Q S j = []
      · rw [if_pos c1] at e36'
        rw [c1] at hMj
        rw [hMj] at a2
        refine eMO_run_26 ?_
        refine eMO_run_28 (fun c => absurd c (nI_pos (by omega))) (fun c28 => ?_)
        refine eMO_run_31 rfl ?_
        refine eMO_run_32 mh_o rfl ?_
        refine eMO_run_35 ?_
        refine eMO_run_37 mh_a2 (xn_in (by omega) (by decide)) ?_
        rw [nI_clamp (by omega)]
        rw [e2]
        refine eMO_run_38 (fun c => absurd c (nI_pos (by omega))) (fun c38 => ?_)
        refine eMO_run_41 rfl ?_
        refine eMO_run_42 mh_o rfl ?_
        refine eMO_run_45 rfl ?_
        refine eMO_run_46 mh_o rfl ?_
        refine eMO_run_49 ?_
        refine eMO_run_51 mh_a2 (xn_in (by omega) (by decide)) ?_
        rw [nI_clamp (by omega)]
        rw [e2]
        refine eMO_run_52 mh_a22 (xn_in hj (by decide)) ?_
        rw [nI_clamp (by omega)]
        rw [a1]
        refine eMO_run_53 rfl ?_
        refine eMO_run_54 mh_o rfl ?_
        refine eMO_run_57 rfl ?_
        refine eMO_run_58 mh_o rfl ?_
        refine eMO_run_61 ?_
        refine eMO_run_63 mh_a2 (xn_in (by omega) (by decide)) ?_
        rw [nI_clamp (by omega)]
        rw [e2]
        refine eMO_run_64 mh_a23 (xn_in hj (by decide)) ?_
        rw [nI_clamp (by omega)]
        rw [a2]
        refine eMO_run_65 (fun c65 => ?_) (fun c => absurd (nI_le (Nat.le_refl _) (by omega)) c)
        refine eMO_run_73 ?_
        refine eMO_run_74 ?_
        exact step wh (by rw [e36']; exact hw)
      · rw [if_neg c1] at e36'
        have hpos : 0 < (M j).length := by
          rw [hMj]
          exact List.length_pos_iff.mpr c1
        refine eMO_run_26 ?_
        refine eMO_run_28 (fun c => absurd c (nI_pos (by omega))) (fun c28 => ?_)
        refine eMO_run_31 rfl ?_
        refine eMO_run_32 mh_o rfl ?_
        refine eMO_run_35 ?_
        refine eMO_run_37 mh_a2 (xn_in (by omega) (by decide)) ?_
        rw [nI_clamp (by omega)]
        rw [e2]
        refine eMO_run_38 (fun c => absurd c (nI_pos (by omega))) (fun c38 => ?_)
        refine eMO_run_41 rfl ?_
        refine eMO_run_42 mh_o rfl ?_
        refine eMO_run_45 rfl ?_
        refine eMO_run_46 mh_o rfl ?_
        refine eMO_run_49 ?_
        refine eMO_run_51 mh_a2 (xn_in (by omega) (by decide)) ?_
        rw [nI_clamp (by omega)]
        rw [e2]
        refine eMO_run_52 mh_a22 (xn_in hj (by decide)) ?_
        rw [nI_clamp (by omega)]
        rw [a1]
        refine eMO_run_53 rfl ?_
        refine eMO_run_54 mh_o rfl ?_
        refine eMO_run_57 rfl ?_
        refine eMO_run_58 mh_o rfl ?_
        refine eMO_run_61 ?_
        refine eMO_run_63 mh_a2 (xn_in (by omega) (by decide)) ?_
        rw [nI_clamp (by omega)]
        rw [e2]
        refine eMO_run_64 mh_a23 (xn_in hj (by decide)) ?_
        rw [nI_clamp (by omega)]
        rw [a2]
        refine eMO_run_65 (fun c => absurd c (nI_ge (by omega) (by omega))) (fun c65 => ?_)
        refine eMO_run_68 ?_
        refine eMO_run_70 ?_
        refine eMO_run_74 ?_
        exact step _ (Or.inr ⟨i, j, by omega, rfl, hk, e36'⟩)
/-- I says of a state and of the fronts what run needs -/
theorem lMO_run {I : bS → (Nat → Nat) → Prop} (hp : isP p)
  (hI : ∀ S fr j, I S fr → fbF p S 36 0 = some j → I (tkF p S j) (ub fr j (fr j + 1)) ∧ (∀ i, i < 10 → (ub fr j (fr j + 1)) i + (b_Q (tkF p S j) i).length ≤ 1000) ∧ ∀ c, c < 8 → fr (10 + c) + (b_Q (tkF p S j) (10 + c)).length ≤ 520)
  (h18 : ∀ S fr v, I S fr → I S (ub fr 18 v)) {R : bS × Nat}
  (kk : ∀ ze' si' T' H' fr' M', I R.1 fr' → fr' 18 = 0 → isM p R.1 F T' H' fr' M' ze' si' → Φ (.returned (some (.int (nI R.2)))) (mh h0 bm ze' si')) :
  ∀ (n t : Nat) (S : bS) (T H : Nat → List Nat) (fr : Nat → Nat) (M : Nat → List Nat) (ze : Nat → Int32) (si : Nat → Nat → Int32) (v3 v4 : Option Value), t + n = 200 → rnF p n t S = R → I S fr → fr 18 = 0 → isM p S F T H fr M ze si → x_K P (d + 6) mMO_run 9 [some (.ref bm), some (.int (nI t)), some (.int 1), v3, v4] [] (mh h0 bm ze si) Φ := by
  intro n
  induction n with
  | zero =>
    intro t S T H fr M ze si v3 v4 ht hR hS hf k
    have et : t = 200 := by omega
    subst et
    have eR : R = (S, 200) := hR.symm
    subst eR
    refine eMO_run_9 ?_
    refine eMO_run_10 (fun c => absurd c (by decide)) (fun c10 => ?_)
    refine eMO_run_13 ?_
    refine eMO_run_14 ?_
    refine eMO_run_17 (fun c17 => ?_) (fun c => absurd (nI_le (a := 200) (Nat.le_refl _) (by decide)) c)
    refine eMO_run_133 ?_
    exact eMO_run_134 (kk ze si T H fr M hS hf k)
  | succ n ih =>
    intro t S T H fr M ze si v3 v4 ht hR hS hf k
    refine eMO_run_9 ?_
    refine eMO_run_10 (fun c => absurd c (by decide)) (fun c10 => ?_)
    refine eMO_run_13 ?_
    refine eMO_run_14 ?_
    refine eMO_run_17 (fun c => absurd c (nI_ge (b := 200) (by omega) (by decide))) (fun c17 => ?_)
    refine eMO_run_20 ?_
    refine eMO_run_21 ?_
    refine eMO_run_22 ?_
    refine eMO_run_24 ?_
    skip
    refine lMO_which k (fun wh v4 hw => ?_) 36 (-1) 35 (fun z => by omega) (fun _ => rfl) (Nat.le_refl _) (Or.inl ⟨rfl, rfl⟩)
    rcases hw with ⟨e1, e2⟩ | ⟨i, j, e1, e2, e3, e4⟩
    · subst e1
      have eR : R = (S, t) := by
        rw [← hR]
        show (match fbF p S 36 0 with | none => (S, t) | some j => rnF p n (t + 1) (tkF p S j)) = _
        rw [e2]
      subst eR
      refine eMO_run_81 ?_
      refine eMO_run_82 (fun c82 => ?_) (fun c => absurd (by decide) c)
      refine eMO_run_89 ?_
      refine eMO_run_90 ?_
      refine eMO_run_91 ?_
      refine eMO_run_92 (fun c92 => ?_) (fun c => absurd rfl c)
      refine eMO_run_110 ?_
      refine eMO_run_111 ?_
      refine eMO_run_113 ?_
      refine eMO_run_114 (fun c114 => ?_) (fun c => absurd rfl c)
      refine eMO_run_128 ?_
      refine eMO_run_129 ?_
      skip
      refine eMO_run_130 ?_
      refine eMO_run_9 ?_
      refine eMO_run_10 (fun c10 => ?_) (fun c => absurd rfl c)
      refine eMO_run_133 ?_
      exact eMO_run_134 (kk ze si T H fr M hS hf k)
    · subst e2
      have hR' : rnF p n (t + 1) (tkF p S j) = R := by
        rw [← hR]
        show _ = (match fbF p S 36 0 with | none => (S, t) | some j => rnF p n (t + 1) (tkF p S j))
        rw [e4]
      obtain ⟨g1, g2, g3⟩ := hI S fr j hS e4
      have hne := (fbF_spec (p := p) (S := S) 36 0 e4 (by omega)).2
      have hj := (fbF_spec (p := p) (S := S) 36 0 e4 (by omega)).1
      obtain ⟨m, l, hQ⟩ : ∃ m l, b_Q S j = m :: l := by
        cases h9 : b_Q S j with
        | nil => exact absurd h9 hne
        | cons m l => exact ⟨m, l, rfl⟩
      obtain ⟨v, r, hM, hv⟩ := k.qM hj hQ
      have ei : 6 * (i / 6) + i % 6 = i := by omega
      have hT := sMO_taken (P := P) (d := d) (h0 := h0) (bm := bm) (u := i / 6) (t := i % 6) k hp (by omega) (by omega) (by rw [ei]; exact e3) hM g2 g3
      have ediv : nI i / 6 = nI (i / 6) := pk_div (by omega) (by decide) (by decide)
      have erem : nI i - nI i / 6 * 6 = nI (i % 6) := pk_rem (by omega) (by decide) (by decide)
      refine eMO_run_81 ?_
      refine eMO_run_82 (fun c => absurd c (nI_pos (by omega))) (fun c82 => ?_)
      refine eMO_run_85 ?_
      refine eMO_run_86 ?_
      refine eMO_run_90 ?_
      refine eMO_run_91 ?_
      refine eMO_run_92 (fun c => absurd c (by decide)) (fun c92 => ?_)
      refine eMO_run_95 rfl ?_
      refine eMO_run_96 ?_
      refine eMO_run_97 ?_
      refine eMO_run_99 (by decide) ?_
      rw [ediv]
      refine eMO_run_100 ?_
      refine eMO_run_101 ?_
      refine eMO_run_103 (by decide) ?_
      rw [erem]
      refine eMO_run_104 mh_o (Nat.le_of_ble_eq_true rfl) hT ?_
      rintro _ _ ⟨ze', si', T', H', M', rfl, rfl, k'⟩
      refine ⟨_, rfl, ?_⟩
      refine eMO_run_107 ?_
      refine eMO_run_111 ?_
      refine eMO_run_113 ?_
      refine eMO_run_114 (fun c => absurd c (by decide)) (fun c114 => ?_)
      refine eMO_run_117 ?_
      refine eMO_run_119 (fun c => absurd c (nI_pos (by omega))) (fun c119 => ?_)
      refine eMO_run_122 ?_
      refine eMO_run_123 ?_
      refine eMO_run_124 ?_
      rw [nI_1]
      refine eMO_run_125 ?_
      refine eMO_run_129 ?_
      skip
      refine eMO_run_130 ?_
      exact ih (t + 1) _ T' H' _ M' ze' si' _ _ (by omega) hR' g1 (by rw [ub_ne (by omega)]; exact hf) k'
theorem sMO_run {I : bS → (Nat → Nat) → Prop} {S : bS} {T H M : Nat → List Nat} {fr : Nat → Nat} {ze : Nat → Int32} {si : Nat → Nat → Int32} (hp : isP p)
  (hI : ∀ S fr j, I S fr → fbF p S 36 0 = some j → I (tkF p S j) (ub fr j (fr j + 1)) ∧ (∀ i, i < 10 → (ub fr j (fr j + 1)) i + (b_Q (tkF p S j) i).length ≤ 1000) ∧ ∀ c, c < 8 → fr (10 + c) + (b_Q (tkF p S j) (10 + c)).length ≤ 520)
  (h18 : ∀ S fr v, I S fr → I S (ub fr 18 v)) (hS : I S fr) (k : isM p S F T H fr M ze si) : x_K P (d + 6) mMO_run 0 [some (.ref bm), none, none, none, none] [] (mh h0 bm ze si) (fun oc h' => oc = .returned (some (.int (nI (rnF p 200 0 S).2))) ∧ ∃ ze' si' T' H' fr' M', h' = mh h0 bm ze' si' ∧ I (rnF p 200 0 S).1 fr' ∧ fr' 18 = 0 ∧ isM p (rnF p 200 0 S).1 F T' H' fr' M' ze' si') := by
  have k1 := k.flt 0 (x := 0) rfl
  refine eMO_run_0 rfl ?_
  refine eMO_run_1 ?_
  refine eMO_run_2 mh_o (Nat.le_of_ble_eq_true rfl) ?_
  rw [mh_f0]
  refine eMO_run_5 ?_
  refine eMO_run_6 ?_
  refine eMO_run_7 ?_
  refine eMO_run_8 ?_
  skip
  exact lMO_run hp hI h18 (fun ze' si' T' H' fr' M' a b c => ⟨rfl, ze', si', T', H', fr', M', rfl, a, b, c⟩) 200 0 S T H _ M _ si _ _ rfl rfl (h18 S fr 0 hS) ub_same k1
end

