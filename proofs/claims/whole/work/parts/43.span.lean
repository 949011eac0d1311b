/-! Span: from lo to hi without ex -/
def isSp (h : x_H) (s : Nat) (lo hi : Int32) (ex : List Int32) : Prop := ∃ f : Nat → Int32, h.1 s = some (.inr (7, [.int lo, .int hi, .ref (s + 1), .int (nI ex.length)])) ∧ h.1 (s + 1) = some (.inl (0, 3, .inl f)) ∧ ex.length ≤ 3 ∧ ∀ (i : Nat) (v : Int32), ex[i]? = some v → f i = v
theorem isSp.keep {h h' : x_H} {s : Nat} {lo hi : Int32} {ex : List Int32} (k : isSp h s lo hi ex) (o1 : h'.1 s = h.1 s) (o2 : h'.1 (s + 1) = h.1 (s + 1)) : isSp h' s lo hi ex := by
  obtain ⟨f, a, b, z⟩ := k
  exact ⟨f, o1.trans a, o2.trans b, z⟩
def spHas (lo hi : Int32) (ex : List Int32) (v : Int32) : Bool := !(decide (v < lo)) && decide (v ≤ hi) && !(ex.contains v)
def spInc (lo hi : Int32) (ex : List Int32) (lo2 hi2 : Int32) (ex2 : List Int32) : Bool := !(decide (lo2 < lo)) && decide (hi2 ≤ hi) && !(ex.any (fun v => spHas lo2 hi2 ex2 v))
def spTs (ex : List Int32) (p : Int32 × Int32) : Int32 × Int32 :=
  let lo := if spHas p.1 p.2 ex p.1 then p.1 else p.1 + 1
  (lo, if spHas lo p.2 ex p.2 then p.2 else p.2 - 1)
def spTn (ex : List Int32) : Nat → Int32 × Int32 → Int32 × Int32
  | 0, p => p
  | n + 1, p => spTn ex n (spTs ex p)
def b2i (b : Bool) : Int32 := if b then 1 else 0
theorem b2i_n (b : Bool) : narrow .boolean (.int (b2i b)) = .int (b2i b) := by cases b <;> rfl
theorem b2i_t : b2i true = 1 := rfl
theorem b2i_f : b2i false = 0 := rfl
section
variable {P : x_P} {d : Nat} {h : x_H} {s : Nat} {lo hi : Int32} {ex : List Int32}
theorem lSP_has {v : Int32} (k0 : isSp h s lo hi ex) : ∀ (j k : Nat), k + j = ex.length → x_K P d mSP_has 20 [some (.ref s), some (.int v), some (.int (nI k))] [] h (fun oc h' => oc = .returned (some (.int (b2i (!((ex.drop k).contains v))))) ∧ h' = h) := by
  obtain ⟨f, hs, ha, hlen, hf⟩ := k0
  intro j
  induction j with
  | zero =>
    intro k hk
    refine eSP_has_20 ?_
    refine eSP_has_21 rfl ?_
    refine eSP_has_22 hs rfl ?_
    refine eSP_has_25 (fun _ => ?_) (fun c => absurd (nI_le (by omega) (by omega)) c)
    refine eSP_has_46 ?_
    refine eSP_has_47 rfl ⟨?_, rfl⟩
    rw [List.drop_eq_nil_of_le (by omega)]
    rfl
  | succ j ih =>
    intro k hk
    have hkl : k < ex.length := by omega
    have hy : ex[k]? = some ex[k] := List.getElem?_eq_getElem hkl
    have hd : ex.drop k = ex[k] :: ex.drop (k + 1) := List.drop_eq_getElem_cons hkl
    refine eSP_has_20 ?_
    refine eSP_has_21 rfl ?_
    refine eSP_has_22 hs rfl ?_
    refine eSP_has_25 (fun c => absurd c (nI_ge hkl (by omega))) (fun _ => ?_)
    refine eSP_has_28 rfl ?_
    refine eSP_has_29 hs rfl ?_
    refine eSP_has_32 ?_
    refine eSP_has_33 ha (xn_in (by omega) (by decide)) ?_
    refine eSP_has_34 ?_
    rw [nI_clamp (by omega), hf k _ hy]
    refine eSP_has_35 (fun c => ?_) (fun c => ?_)
    · refine eSP_has_40 ?_
      refine eSP_has_43 ?_
      rw [nI_1]
      refine x_Kmono (ih (k + 1) (by omega)) (fun oc h' z => ⟨?_, z.2⟩)
      rw [z.1, hd, List.contains_cons, show (v == ex[k]) = false from beq_eq_false_iff_ne.mpr (fun e => c e.symm), Bool.false_or]
    · refine eSP_has_38 ?_
      refine eSP_has_39 rfl ⟨?_, rfl⟩
      rw [hd, List.contains_cons, show (v == ex[k]) = true from beq_iff_eq.mpr c.symm, Bool.true_or]
      rfl
theorem sSP_has {v : Int32} (k : isSp h s lo hi ex) : x_K P d mSP_has 0 [some (.ref s), some (.int v), none] [] h (fun oc h' => oc = .returned (some (.int (b2i (spHas lo hi ex v)))) ∧ h' = h) := by
  have k0 := k
  obtain ⟨f, hs, ha, hlen, hf⟩ := k
  refine eSP_has_0 ?_
  refine eSP_has_1 rfl ?_
  refine eSP_has_2 hs rfl ?_
  refine eSP_has_5 (fun c => ?_) (fun c => ?_)
  · refine eSP_has_16 ?_
    refine eSP_has_17 rfl ⟨?_, rfl⟩
    simp [spHas, c, b2i]
  · refine eSP_has_8 ?_
    refine eSP_has_9 rfl ?_
    refine eSP_has_10 hs rfl ?_
    refine eSP_has_13 (fun c2 => ?_) (fun c2 => ?_)
    · refine eSP_has_18 ?_
      refine eSP_has_19 ?_
      refine x_Kmono (lSP_has k0 ex.length 0 (by omega)) (fun oc h' z => ⟨?_, z.2⟩)
      rw [z.1]
      simp [spHas, c, c2]
    · refine eSP_has_16 ?_
      refine eSP_has_17 rfl ⟨?_, rfl⟩
      simp [spHas, c2, b2i]
theorem sSP_isEmpty (k : isSp h s lo hi ex) : x_K P d mSP_isEmpty 0 [some (.ref s)] [] h (fun oc h' => oc = .returned (some (.int (b2i (!(decide (lo ≤ hi)))))) ∧ h' = h) := by
  obtain ⟨f, hs, -⟩ := k
  refine eSP_isEmpty_0 rfl ?_
  refine eSP_isEmpty_1 hs rfl ?_
  refine eSP_isEmpty_4 rfl ?_
  refine eSP_isEmpty_5 hs rfl ?_
  refine eSP_isEmpty_8 (fun c => ?_) (fun c => ?_)
  · refine eSP_isEmpty_15 ?_
    refine eSP_isEmpty_16 rfl ⟨?_, rfl⟩
    simp [c, b2i]
  · refine eSP_isEmpty_11 ?_
    refine eSP_isEmpty_12 ?_
    refine eSP_isEmpty_16 rfl ⟨?_, rfl⟩
    simp [c, b2i]
theorem sSP_keep {u v : Int32} (k : isSp h s lo hi ex) : x_K P (d + 1) mSP_keep 0 [some (.ref s), some (.int u), some (.int v)] [] h (fun oc h' => oc = .returned none ∧ isSp h' s (if lo < u then u else lo) (if v < hi then v else hi) ex ∧ x_only h h' [s]) := by
  obtain ⟨f, hs, ha, hlen, hf⟩ := k
  refine eSP_keep_0 rfl ?_
  refine eSP_keep_1 rfl ?_
  refine eSP_keep_2 hs rfl ?_
  refine eSP_keep_5 ?_
  refine eSP_keep_6 (Nat.le_of_ble_eq_true rfl) ?_
  refine eSP_keep_9 hs (Nat.le_of_ble_eq_true rfl) ?_
  refine eSP_keep_12 rfl ?_
  refine eSP_keep_13 rfl ?_
  refine eSP_keep_14 xq_eq rfl ?_
  refine eSP_keep_17 ?_
  refine eSP_keep_18 (Nat.le_of_ble_eq_true rfl) ?_
  refine eSP_keep_21 xq_eq (Nat.le_of_ble_eq_true rfl) ?_
  refine eSP_keep_24 ⟨rfl, ⟨f, xq_eq, xq_ne (by omega) (xq_ne (by omega) ha), hlen, hf⟩, (x_only.rf.put (by simp)).put (by simp)⟩
theorem sSP_exclude {v : Int32} (k : isSp h s lo hi ex) (hl : ex.length < 3) : x_K P d mSP_exclude 0 [some (.ref s), some (.int v)] [] h (fun oc h' => oc = .returned none ∧ isSp h' s lo hi (ex ++ [v]) ∧ x_only h h' [s, s + 1]) := by
  obtain ⟨f, hs, ha, hlen, hf⟩ := k
  refine eSP_exclude_0 rfl ?_
  refine eSP_exclude_1 hs rfl ?_
  refine eSP_exclude_4 rfl ?_
  refine eSP_exclude_5 hs rfl ?_
  refine eSP_exclude_8 ha rfl ?_
  refine eSP_exclude_9 (fun c => absurd c (nI_ge (b := 3) hl (by decide))) (fun _ => ?_)
  refine eSP_exclude_12 rfl ?_
  refine eSP_exclude_13 hs rfl ?_
  refine eSP_exclude_16 rfl ?_
  refine eSP_exclude_17 hs rfl ?_
  refine eSP_exclude_20 ?_
  refine eSP_exclude_21 ha (xn_in hl (by decide)) ?_
  refine eSP_exclude_22 rfl ?_
  refine eSP_exclude_23 rfl ?_
  refine eSP_exclude_24 (xq_ne (by omega) hs) rfl ?_
  refine eSP_exclude_27 ?_
  refine eSP_exclude_28 ?_
  refine eSP_exclude_29 (xq_ne (by omega) hs) (Nat.le_of_ble_eq_true rfl) ?_
  refine eSP_exclude_32 ⟨rfl, ⟨upd f ex.length v, ?_, ?_, by rw [List.length_append, List.length_singleton]; omega, ?_⟩, (x_only.rf.put (by simp)).put (by simp)⟩
  · rw [xq_eq]
    simp only [List.set_cons_succ, List.set_cons_zero, List.length_append, List.length_singleton]
    rw [nI_1]
  · rw [xq_of (by omega), xq_eq, nI_clamp (by omega)]
  · intro i u hu
    rw [List.getElem?_append] at hu
    split at hu
    · rename_i hil
      rw [upd, if_neg (by omega)]
      exact hf i u hu
    · rename_i hil
      have hz : i - ex.length < 1 := (List.getElem?_eq_some_iff.mp hu).1
      have hz' : i = ex.length := by omega
      subst hz'
      rw [Nat.sub_self] at hu
      cases hu
      rw [upd, if_pos rfl]
theorem lSP_tighten {Φ : Outcome → x_H → Prop} {h0 : x_H} (kk : ∀ h1, x_only h0 h1 [s] → isSp h1 s (spTn ex ex.length (lo, hi)).1 (spTn ex ex.length (lo, hi)).2 ex → Φ (.returned none) h1) :
    ∀ (j k : Nat) (h1 : x_H) (p : Int32 × Int32), k + j = ex.length → isSp h1 s p.1 p.2 ex → x_only h0 h1 [s] → spTn ex ex.length (lo, hi) = spTn ex j p → x_K P (d + 1) mSP_tighten 2 [some (.ref s), some (.int (nI k))] [] h1 Φ := by
  intro j
  induction j with
  | zero =>
    intro k h1 p hk k1 ho hp
    have k0 := k1
    obtain ⟨f, hs, ha, hlen, hf⟩ := k1
    refine eSP_tighten_2 ?_
    refine eSP_tighten_3 rfl ?_
    refine eSP_tighten_4 hs rfl ?_
    refine eSP_tighten_7 (fun _ => ?_) (fun c => absurd (nI_le (by omega) (by omega)) c)
    refine eSP_tighten_58 (kk h1 ho ?_)
    rw [hp]
    exact k0
  | succ j ih =>
    intro k h1 p hk k1 ho hp
    obtain ⟨plo, phi⟩ := p
    have k0 := k1
    obtain ⟨f, hs, ha, hlen, hf⟩ := k1
    have hkl : k < ex.length := by omega
    refine eSP_tighten_2 ?_
    refine eSP_tighten_3 rfl ?_
    refine eSP_tighten_4 hs rfl ?_
    refine eSP_tighten_7 (fun c => absurd c (nI_ge hkl (by omega))) (fun _ => ?_)
    refine eSP_tighten_10 rfl ?_
    refine eSP_tighten_11 rfl ?_
    refine eSP_tighten_12 hs rfl ?_
    have step2 : ∀ (h2 : x_H) (l2 : Int32), isSp h2 s l2 phi ex → x_only h0 h2 [s] → l2 = (if spHas plo phi ex plo then plo else plo + 1) → x_K P (d + 1) mSP_tighten 31 [some (.ref s), some (.int (nI k))] [] h2 Φ := by
      intro h2 l2 k2 ho2 hl2
      have k20 := k2
      obtain ⟨f2, hs2, ha2, hlen2, hf2⟩ := k2
      refine eSP_tighten_31 rfl ?_
      refine eSP_tighten_32 rfl ?_
      refine eSP_tighten_33 hs2 rfl ?_
      refine eSP_tighten_36 hs2 (Nat.le_of_ble_eq_true rfl) (sSP_has k20) ?_
      rintro _ h3 ⟨rfl, rfl⟩
      refine ⟨_, rfl, ?_⟩
      refine eSP_tighten_39 (fun c => ?_) (fun c => ?_)
      · have hh : spHas l2 phi ex phi = true := by
          cases hc : spHas l2 phi ex phi with
          | true => rfl
          | false => rw [hc] at c; exact absurd rfl c
        refine eSP_tighten_52 ?_
        refine eSP_tighten_55 ?_
        rw [nI_1]
        refine ih (k + 1) h3 (l2, phi) (by omega) k20 ho2 ?_
        rw [hp]
        show spTn ex j (spTs ex (plo, phi)) = _
        congr 1
        simp only [spTs]
        rw [← hl2, hh, if_pos rfl]
      · have hh : spHas l2 phi ex phi = false := by
          cases hc : spHas l2 phi ex phi with
          | false => rfl
          | true => rw [hc] at c; exact absurd c (by decide)
        refine eSP_tighten_42 rfl ?_
        refine eSP_tighten_43 rfl ?_
        refine eSP_tighten_44 hs2 rfl ?_
        refine eSP_tighten_47 ?_
        refine eSP_tighten_48 ?_
        refine eSP_tighten_49 hs2 (Nat.le_of_ble_eq_true rfl) ?_
        refine eSP_tighten_52 ?_
        refine eSP_tighten_55 ?_
        rw [nI_1]
        refine ih (k + 1) _ (l2, phi - 1) (by omega) ⟨f2, xq_eq, xq_ne (by omega) ha2, hlen2, hf2⟩ (ho2.put (by simp)) ?_
        rw [hp]
        show spTn ex j (spTs ex (plo, phi)) = _
        congr 1
        simp only [spTs]
        rw [← hl2, hh]
        rfl
    refine eSP_tighten_15 hs (Nat.le_of_ble_eq_true rfl) (sSP_has k0) ?_
    rintro _ h3 ⟨rfl, rfl⟩
    refine ⟨_, rfl, ?_⟩
    refine eSP_tighten_18 (fun c => ?_) (fun c => ?_)
    · have hh : spHas plo phi ex plo = true := by
        cases hc : spHas plo phi ex plo with
        | true => rfl
        | false => rw [hc] at c; exact absurd rfl c
      exact step2 h3 plo k0 ho (by rw [hh, if_pos rfl])
    · have hh : spHas plo phi ex plo = false := by
        cases hc : spHas plo phi ex plo with
        | false => rfl
        | true => rw [hc] at c; exact absurd c (by decide)
      refine eSP_tighten_21 rfl ?_
      refine eSP_tighten_22 rfl ?_
      refine eSP_tighten_23 hs rfl ?_
      refine eSP_tighten_26 ?_
      refine eSP_tighten_27 ?_
      refine eSP_tighten_28 hs (Nat.le_of_ble_eq_true rfl) ?_
      exact step2 _ (plo + 1) ⟨f, xq_eq, xq_ne (by omega) ha, hlen, hf⟩ (ho.put (by simp)) (by rw [hh]; rfl)
theorem sSP_tighten (k : isSp h s lo hi ex) : x_K P (d + 1) mSP_tighten 0 [some (.ref s), none] [] h (fun oc h' => oc = .returned none ∧ isSp h' s (spTn ex ex.length (lo, hi)).1 (spTn ex ex.length (lo, hi)).2 ex ∧ x_only h h' [s]) := by
  refine eSP_tighten_0 ?_
  refine eSP_tighten_1 ?_
  exact lSP_tighten (h0 := h) (lo := lo) (hi := hi) (fun h1 a b => ⟨rfl, b, a⟩) ex.length 0 h (lo, hi) (by omega) k x_only.rf rfl
theorem lSP_includes {o : Nat} {lo2 hi2 : Int32} {ex2 : List Int32} (k0 : isSp h s lo hi ex) (k2 : isSp h o lo2 hi2 ex2) : ∀ (j k : Nat), k + j = ex.length → x_K P (d + 1) mSP_includes 26 [some (.ref s), some (.ref o), some (.int (nI k))] [] h (fun oc h' => oc = .returned (some (.int (b2i (!((ex.drop k).any (fun v => spHas lo2 hi2 ex2 v)))))) ∧ h' = h) := by
  obtain ⟨f, hs, ha, hlen, hf⟩ := k0
  have k20 := k2
  obtain ⟨f2, hs2, -⟩ := k2
  intro j
  induction j with
  | zero =>
    intro k hk
    refine eSP_includes_26 ?_
    refine eSP_includes_27 rfl ?_
    refine eSP_includes_28 hs rfl ?_
    refine eSP_includes_31 (fun _ => ?_) (fun c => absurd (nI_le (by omega) (by omega)) c)
    refine eSP_includes_55 ?_
    refine eSP_includes_56 rfl ⟨?_, rfl⟩
    rw [List.drop_eq_nil_of_le (by omega)]
    rfl
  | succ j ih =>
    intro k hk
    have hkl : k < ex.length := by omega
    have hy : ex[k]? = some ex[k] := List.getElem?_eq_getElem hkl
    have hd : ex.drop k = ex[k] :: ex.drop (k + 1) := List.drop_eq_getElem_cons hkl
    refine eSP_includes_26 ?_
    refine eSP_includes_27 rfl ?_
    refine eSP_includes_28 hs rfl ?_
    refine eSP_includes_31 (fun c => absurd c (nI_ge hkl (by omega))) (fun _ => ?_)
    refine eSP_includes_34 rfl ?_
    refine eSP_includes_35 rfl ?_
    refine eSP_includes_36 hs rfl ?_
    refine eSP_includes_39 ?_
    refine eSP_includes_40 ha (xn_in (by omega) (by decide)) ?_
    rw [nI_clamp (by omega), hf k _ hy]
    refine eSP_includes_41 hs2 (Nat.le_of_ble_eq_true rfl) (sSP_has k20) ?_
    rintro _ h3 ⟨rfl, rfl⟩
    refine ⟨_, rfl, ?_⟩
    refine eSP_includes_44 (fun c => ?_) (fun c => ?_)
    · have hh : spHas lo2 hi2 ex2 ex[k] = false := by
        cases hc : spHas lo2 hi2 ex2 ex[k] with
        | false => rfl
        | true => rw [hc] at c; exact absurd c (by decide)
      refine eSP_includes_49 ?_
      refine eSP_includes_52 ?_
      rw [nI_1]
      refine x_Kmono (ih (k + 1) (by omega)) (fun oc h' z => ⟨?_, z.2⟩)
      rw [z.1, hd, List.any_cons, hh, Bool.false_or]
    · have hh : spHas lo2 hi2 ex2 ex[k] = true := by
        cases hc : spHas lo2 hi2 ex2 ex[k] with
        | true => rfl
        | false => rw [hc] at c; exact absurd rfl c
      refine eSP_includes_47 ?_
      refine eSP_includes_48 rfl ⟨?_, rfl⟩
      rw [hd, List.any_cons, hh]
      rfl
theorem sSP_includes {o : Nat} {lo2 hi2 : Int32} {ex2 : List Int32} (k : isSp h s lo hi ex) (k2 : isSp h o lo2 hi2 ex2) : x_K P (d + 1) mSP_includes 0 [some (.ref s), some (.ref o), none] [] h (fun oc h' => oc = .returned (some (.int (b2i (spInc lo hi ex lo2 hi2 ex2)))) ∧ h' = h) := by
  have k0 := k
  have k20 := k2
  obtain ⟨f, hs, ha, hlen, hf⟩ := k
  obtain ⟨f2, hs2, -⟩ := k2
  refine eSP_includes_0 rfl ?_
  refine eSP_includes_1 hs2 rfl ?_
  refine eSP_includes_4 rfl ?_
  refine eSP_includes_5 hs rfl ?_
  refine eSP_includes_8 (fun c => ?_) (fun c => ?_)
  · refine eSP_includes_22 ?_
    refine eSP_includes_23 rfl ⟨?_, rfl⟩
    simp [spInc, c, b2i]
  · refine eSP_includes_11 rfl ?_
    refine eSP_includes_12 hs2 rfl ?_
    refine eSP_includes_15 rfl ?_
    refine eSP_includes_16 hs rfl ?_
    refine eSP_includes_19 (fun c2 => ?_) (fun c2 => ?_)
    · refine eSP_includes_24 ?_
      refine eSP_includes_25 ?_
      refine x_Kmono (lSP_includes k0 k20 ex.length 0 (by omega)) (fun oc h' z => ⟨?_, z.2⟩)
      rw [z.1]
      simp [spInc, c, c2]
    · refine eSP_includes_22 ?_
      refine eSP_includes_23 rfl ⟨?_, rfl⟩
      simp [spInc, c2, b2i]
end

