/-! Texts, read by the reference and by the class -/
theorem isLt_iff {c : Nat} : isLt c = true ↔ 97 ≤ c ∧ c ≤ 122 := by unfold isLt; exact decide_eq_true_iff
theorem isDg_iff {c : Nat} : isDg c = true ↔ 48 ≤ c ∧ c ≤ 57 := by unfold isDg; exact decide_eq_true_iff
def dgN (g : Nat → Nat) (e : Nat) : Nat → Nat → Nat
  | 0, _ => 0
  | j + 1, k => if isDg (atF g e k) then dgN g e j (k + 1) + 1 else 0
section
variable {g : Nat → Nat} {e : Nat}
theorem atF_in {k : Nat} (h : atF g e k ≠ 0) : k < e ∧ atF g e k = g k := by
  unfold atF at h ⊢
  by_cases h1 : k < e
  · rw [if_pos h1]; exact ⟨h1, rfl⟩
  · rw [if_neg h1] at h; exact absurd rfl h
theorem ltN_spec : ∀ (j k : Nat), ltN g e j k ≤ j ∧ (∀ i, i < ltN g e j k → k + i < e ∧ 97 ≤ g (k + i) ∧ g (k + i) ≤ 122) ∧ (ltN g e j k < j → k + ltN g e j k < e → ¬ (97 ≤ g (k + ltN g e j k) ∧ g (k + ltN g e j k) ≤ 122)) := by
  intro j
  induction j with
  | zero => intro k; exact ⟨Nat.le_refl _, fun i hi => absurd hi (Nat.not_lt_zero _), fun h => absurd h (Nat.not_lt_zero _)⟩
  | succ j ih =>
    intro k
    by_cases h1 : isLt (atF g e k) = true
    · have h2 := isLt_iff.mp h1
      have h3 := atF_in (g := g) (e := e) (k := k) (by omega)
      rw [h3.2] at h2
      obtain ⟨a, b, c⟩ := ih (k + 1)
      have e1 : ltN g e (j + 1) k = ltN g e j (k + 1) + 1 := by simp only [ltN]; rw [if_pos h1]
      rw [e1]
      refine ⟨by omega, fun i hi => ?_, fun h4 h5 => ?_⟩
      · cases i with
        | zero => exact ⟨h3.1, h2⟩
        | succ i =>
          have := b i (by omega)
          rw [show k + 1 + i = k + (i + 1) by omega] at this
          exact this
      · have := c (by omega) (by omega)
        rw [show k + 1 + ltN g e j (k + 1) = k + (ltN g e j (k + 1) + 1) by omega] at this
        exact this
    · have e1 : ltN g e (j + 1) k = 0 := by simp only [ltN]; rw [if_neg h1]
      rw [e1]
      refine ⟨Nat.zero_le _, fun i hi => absurd hi (Nat.not_lt_zero _), fun _ h5 h6 => h1 (isLt_iff.mpr ?_)⟩
      rw [Nat.add_zero] at h5 h6
      unfold atF
      rw [if_pos h5]
      exact h6
theorem dgN_spec : ∀ (j k : Nat), dgN g e j k ≤ j ∧ (∀ i, i < dgN g e j k → k + i < e ∧ 48 ≤ g (k + i) ∧ g (k + i) ≤ 57) ∧ (dgN g e j k < j → k + dgN g e j k < e → ¬ (48 ≤ g (k + dgN g e j k) ∧ g (k + dgN g e j k) ≤ 57)) := by
  intro j
  induction j with
  | zero => intro k; exact ⟨Nat.le_refl _, fun i hi => absurd hi (Nat.not_lt_zero _), fun h => absurd h (Nat.not_lt_zero _)⟩
  | succ j ih =>
    intro k
    by_cases h1 : isDg (atF g e k) = true
    · have h2 := isDg_iff.mp h1
      have h3 := atF_in (g := g) (e := e) (k := k) (by omega)
      rw [h3.2] at h2
      obtain ⟨a, b, c⟩ := ih (k + 1)
      have e1 : dgN g e (j + 1) k = dgN g e j (k + 1) + 1 := by simp only [dgN]; rw [if_pos h1]
      rw [e1]
      refine ⟨by omega, fun i hi => ?_, fun h4 h5 => ?_⟩
      · cases i with
        | zero => exact ⟨h3.1, h2⟩
        | succ i =>
          have := b i (by omega)
          rw [show k + 1 + i = k + (i + 1) by omega] at this
          exact this
      · have := c (by omega) (by omega)
        rw [show k + 1 + dgN g e j (k + 1) = k + (dgN g e j (k + 1) + 1) by omega] at this
        exact this
    · have e1 : dgN g e (j + 1) k = 0 := by simp only [dgN]; rw [if_neg h1]
      rw [e1]
      refine ⟨Nat.zero_le _, fun i hi => absurd hi (Nat.not_lt_zero _), fun _ h5 h6 => h1 (isDg_iff.mpr ?_)⟩
      rw [Nat.add_zero] at h5 h6
      unfold atF
      rw [if_pos h5]
      exact h6
theorem wordN_no : ∀ (j k acc i : Nat), i < j → ¬ (97 ≤ g (k + i) ∧ g (k + i) ≤ 122) → wordN g j k acc = none := by
  intro j
  induction j with
  | zero => intro k acc i hi; exact absurd hi (Nat.not_lt_zero _)
  | succ j ih =>
    intro k acc i hi hn
    simp only [wordN]
    split
    · cases i with
      | zero => rename_i h; exact absurd h hn
      | succ i => exact ih (k + 1) _ i (by omega) (by rw [show k + 1 + i = k + (i + 1) by omega]; exact hn)
    · rfl
theorem numN_no : ∀ (j k acc i : Nat), i < j → ¬ (48 ≤ g (k + i) ∧ g (k + i) ≤ 57) → numN g j k acc = none := by
  intro j
  induction j with
  | zero => intro k acc i hi; exact absurd hi (Nat.not_lt_zero _)
  | succ j ih =>
    intro k acc i hi hn
    simp only [numN]
    split
    · cases i with
      | zero => rename_i h; exact absurd h hn
      | succ i => exact ih (k + 1) _ i (by omega) (by rw [show k + 1 + i = k + (i + 1) by omega]; exact hn)
    · rfl
/-- n letters as a word -/
theorem wordV_yes {k n : Nat} (h1 : 1 ≤ n) (h4 : n ≤ 4) (hl : ∀ i, i < n → 97 ≤ g (k + i) ∧ g (k + i) ≤ 122) : wordV g k (k + n) = some (wdN g k n 4 0 0) ∧ wOk (wdN g k n 4 0 0) n := by
  unfold wordV wOk
  rw [Nat.add_sub_cancel_left, if_neg (by omega)]
  have h2 : n = 1 ∨ n = 2 ∨ n = 3 ∨ n = 4 := by omega
  rcases h2 with q | q | q | q <;> subst q
  · have a0 := hl 0 (by decide)
    rw [Nat.add_zero] at a0
    simp only [wordN, wdN, if_pos a0]
    simp
    omega
  · have a0 := hl 0 (by decide)
    have a1 := hl 1 (by decide)
    rw [Nat.add_zero] at a0
    simp only [wordN, wdN, if_pos a0, if_pos a1]
    simp
    omega
  · have a0 := hl 0 (by decide)
    have a1 := hl 1 (by decide)
    have a2 := hl 2 (by decide)
    rw [Nat.add_zero] at a0
    simp only [wordN, wdN, Nat.add_assoc, if_pos a0, if_pos a1, if_pos a2]
    simp
    omega
  · have a0 := hl 0 (by decide)
    have a1 := hl 1 (by decide)
    have a2 := hl 2 (by decide)
    have a3 := hl 3 (by decide)
    rw [Nat.add_zero] at a0
    simp only [wordN, wdN, Nat.add_assoc, if_pos a0, if_pos a1, if_pos a2, if_pos a3]
    simp
    omega
theorem wordV_no {k b i : Nat} (hi : k + i < b) (hn : ¬ (97 ≤ g (k + i) ∧ g (k + i) ≤ 122)) : wordV g k b = none := by
  unfold wordV
  split
  · rfl
  · rw [wordN_no _ _ _ i (by omega) hn]; rfl
theorem wordV_long {k b : Nat} (h : k + 4 < b) : wordV g k b = none := by
  unfold wordV
  rw [if_pos (by omega)]
theorem fnd_at {c : Nat} : ∀ (j k x : Nat), k ≤ x → x ≤ k + j → (∀ i, k ≤ i → i < x → g i ≠ c) → (x = k + j ∨ g x = c) → fnd g c j k = x := by
  intro j
  induction j with
  | zero =>
    intro k x h1 h2 _ _
    show k = x
    omega
  | succ j ih =>
    intro k x h1 h2 h3 h4
    simp only [fnd]
    by_cases h5 : g k = c
    · rw [if_pos h5]
      exact Classical.byContradiction fun h6 => h3 k (Nat.le_refl _) (by omega) h5
    · rw [if_neg h5]
      have h6 : x ≠ k := fun z => by
        rcases h4 with h7 | h7
        · omega
        · exact h5 (by rw [← z]; exact h7)
      exact ih (k + 1) x (by omega) (by omega) (fun i a b => h3 i (by omega) b) (h4.imp (fun z => by omega) id)
theorem fnd_ge {c : Nat} : ∀ (j k x : Nat), x ≤ k + j → (∀ i, k ≤ i → i < x → g i ≠ c) → x ≤ fnd g c j k := by
  intro j
  induction j with
  | zero => intro k x h1 _; exact h1
  | succ j ih =>
    intro k x h1 h2
    simp only [fnd]
    split
    · rename_i h5
      exact Classical.byContradiction fun h6 => h2 k (Nat.le_refl _) (by omega) h5
    · exact ih (k + 1) x (by omega) (fun i a b => h2 i (by omega) b)
theorem fnE_at {k to x : Nat} (h0 : k ≤ to) (h1 : k ≤ x) (h2 : x ≤ to) (h3 : ∀ i, k ≤ i → i < x → g i ≠ 38) (h4 : x = to ∨ g x = 38) : fnE g 38 k to = x := by
  unfold fnE
  rw [if_pos h0]
  exact fnd_at _ _ _ h1 (by omega) h3 (h4.imp (fun z => by omega) id)
theorem fnE_ge {k to x : Nat} (h0 : k ≤ to) (h2 : x ≤ to) (h3 : ∀ i, k ≤ i → i < x → g i ≠ 38) : x ≤ fnE g 38 k to := by
  unfold fnE
  rw [if_pos h0]
  exact fnd_ge _ _ _ (by omega) h3
theorem addC_short {F : sp3} {a b : Nat} (h : b < a + 3) : addC F g a b = none := by
  unfold addC
  rw [if_pos h]
theorem addC_name {F : sp3} {a b : Nat} (h1 : g a ≠ 99) (h2 : g a ≠ 97) (h3 : g a ≠ 98) : addC F g a b = none := by
  unfold addC
  rw [if_neg h1, if_neg h2, if_neg h3]
  split <;> rfl
theorem addC_w {F : sp3} {a b : Nat} (h : g a = 99) (h2 : wordV g (a + 2) b = none) : addC F g a b = none := by
  unfold addC
  rw [if_pos h, h2]
  split <;> rfl
theorem addC_n {F : sp3} {a b : Nat} (h0 : g a ≠ 99) (h2 : numV g (a + 2) b = none) : addC F g a b = none := by
  unfold addC
  rw [if_neg h0, h2]
  split
  · rfl
  · split
    · rfl
    · split <;> rfl
theorem addC_ws {F : sp3} {a b : Nat} (h : g a = 99) (h2 : ¬ (g (a + 1) = 61 ∨ g (a + 1) = 33 ∨ g (a + 1) = 94)) : addC F g a b = none := by
  unfold addC
  rw [if_pos h]
  split
  · rfl
  · split
    · rfl
    · have : ∀ s v n, nword s (g (a + 1)) v n = none := fun s v n => by
        unfold nword
        rw [if_neg (fun z => h2 (Or.inl z)), if_neg (fun z => h2 (Or.inr (Or.inl z))), if_neg (fun z => h2 (Or.inr (Or.inr z)))]
      rw [this]
      rfl
theorem addC_ns {F : sp3} {a b : Nat} (h0 : g a ≠ 99) (h2 : ¬ (g (a + 1) = 61 ∨ g (a + 1) = 33 ∨ g (a + 1) = 60 ∨ g (a + 1) = 62 ∨ g (a + 1) = 91 ∨ g (a + 1) = 93)) : addC F g a b = none := by
  have : ∀ s v, nnum s (g (a + 1)) v = none := fun s v => by
    cases h : nnum s (g (a + 1)) v with
    | none => rfl
    | some T => exact absurd (nnum_eq h).2 h2
  unfold addC
  rw [if_neg h0]
  split
  · rfl
  · split
    · split
      · rfl
      · rw [this]; rfl
    · split
      · split
        · rfl
        · rw [this]; rfl
      · rfl
/-- the number that the reference's loop makes -/
def vlN (g : Nat → Nat) : Nat → Nat → Nat → Nat
  | 0, _, v => v
  | j + 1, k, v => vlN g j (k + 1) (10 * v + g k - 48)
theorem numN_yes : ∀ (j k acc : Nat), (∀ i, i < j → 48 ≤ g (k + i) ∧ g (k + i) ≤ 57) → numN g j k acc = some (vlN g j k acc) := by
  intro j
  induction j with
  | zero => intro k acc _; rfl
  | succ j ih =>
    intro k acc h
    have h1 := h 0 (Nat.succ_pos j)
    rw [Nat.add_zero] at h1
    simp only [numN, vlN]
    rw [if_pos h1, ih (k + 1) _ (fun i hi => by rw [show k + 1 + i = k + (i + 1) by omega]; exact h (i + 1) (by omega)), show 10 * acc + (g k - 48) = 10 * acc + g k - 48 by omega]
end
theorem fnd_hit {g : Nat → Nat} {c : Nat} : ∀ (j k : Nat), fnd g c j k < k + j → g (fnd g c j k) = c := by
  intro j
  induction j with
  | zero => intro k h; exact absurd h (Nat.lt_irrefl _)
  | succ j ih =>
    intro k h
    simp only [fnd] at h ⊢
    by_cases h5 : g k = c
    · rw [if_pos h5] at h ⊢; exact h5
    · rw [if_neg h5] at h ⊢
      exact ih (k + 1) (by omega)
theorem fnE_hit {g : Nat → Nat} {k to : Nat} (h0 : k ≤ to) (h : fnE g 38 k to < to) : g (fnE g 38 k to) = 38 := by
  unfold fnE at h ⊢
  rw [if_pos h0] at h ⊢
  exact fnd_hit _ _ (by omega)
def rec3 (si : Nat → Nat → Int32) (f : Nat) (F : sp3) : Prop := isRN si (2 * f) F.1 ∧ isRN si (2 * f + 1) F.2.1 ∧ isRW si f F.2.2
def cnR (g : Nat → Nat) (k to : Nat) (F : sp3) (f : Nat) (si si' : Nat → Nat → Int32) (oc : Outcome) : Prop := frm f si si' ∧ ((oc = .returned (some (.int (-1))) ∧ addC F g k (fnE g 38 k to) = none) ∨ ∃ e G, k < e ∧ e ≤ to ∧ oc = .returned (some (.int (nI e))) ∧ (∀ i, k ≤ i → i < e → g i ≠ 38) ∧ addC F g k e = some G ∧ rec3 si' f G ∧ (e < to → g e ≠ 38 → addC F g k (fnE g 38 k to) = none))
section
variable {P : x_P} {d : Nat} {h0 : x_H} {bm : Nat} {ze : Nat → Int32} {si : Nat → Nat → Int32} {g : Nat → Nat}
theorem lMO_dig {fm to : Nat} {v1 v2 v4 v5 v6 : Option Value} {Φ : Outcome → x_H → Prop} (kt : mTx (si 1) g) (hto : to ≤ 30) (hfm : fm < 60000) : ∀ (j n v : Nat), n + j = 3 → (x_K P (d + 1) mMO_condition 246 [some (.ref bm), v1, v2, some (.int (nI to)), v4, v5, v6, some (.int (nI fm)), some (.int (nI (n + dgN g to j (fm + n)))), some (.int (nI (vlN g (dgN g to j (fm + n)) (fm + n) v)))] [] (mh h0 bm ze si) Φ) → x_K P (d + 1) mMO_condition 197 [some (.ref bm), v1, v2, some (.int (nI to)), v4, v5, v6, some (.int (nI fm)), some (.int (nI n)), some (.int (nI v))] [] (mh h0 bm ze si) Φ := by
  intro j
  induction j with
  | zero =>
    intro n v hn kk
    refine eMO_condition_197 ?_
    refine eMO_condition_199 ?_
    refine eMO_condition_200 (fun c200 => ?_) (fun c => absurd (nI_le (a := 3) (by omega) (by omega)) c)
    exact kk
  | succ j ih =>
    intro n v hn kk
    have hlt := atF_lt (k := fm + n) kt hto
    cases hd : isDg (atF g to (fm + n)) with
    | false =>
      have e1 : dgN g to (j + 1) (fm + n) = 0 := by
        simp only [dgN]
        rw [hd]
        rfl
      rw [e1] at kk
      refine eMO_condition_197 ?_
      refine eMO_condition_199 ?_
      refine eMO_condition_200 (fun c => absurd c (nI_ge (b := 3) (by omega) (by decide))) (fun c200 => ?_)
      refine eMO_condition_203 rfl ?_
      refine eMO_condition_204 ?_
      refine eMO_condition_206 ?_
      refine eMO_condition_208 ?_
      rw [nI_add]
      refine eMO_condition_209 ?_
      refine eMO_condition_210 mh_o (Nat.le_of_ble_eq_true rfl) (sMO_at kt hto (by omega)) ?_
      rintro _ _ ⟨rfl, rfl⟩
      refine ⟨_, rfl, ?_⟩
      refine eMO_condition_213 (Nat.le_of_ble_eq_true rfl) (sMO_isDigit hlt) ?_
      rintro _ _ ⟨rfl, rfl⟩
      refine ⟨_, rfl, ?_⟩
      rw [hd]
      refine eMO_condition_216 (fun c216 => ?_) (fun c => absurd rfl c)
      exact kk
    | true =>
      have h1 := isDg_iff.mp hd
      have h2 := atF_in (g := g) (e := to) (k := fm + n) (by omega)
      rw [h2.2] at h1
      have e1 : dgN g to (j + 1) (fm + n) = dgN g to j (fm + (n + 1)) + 1 := by
        simp only [dgN]
        rw [hd]
        rfl
      rw [e1] at kk
      refine eMO_condition_197 ?_
      refine eMO_condition_199 ?_
      refine eMO_condition_200 (fun c => absurd c (nI_ge (b := 3) (by omega) (by decide))) (fun c200 => ?_)
      refine eMO_condition_203 rfl ?_
      refine eMO_condition_204 ?_
      refine eMO_condition_206 ?_
      refine eMO_condition_208 ?_
      rw [nI_add]
      refine eMO_condition_209 ?_
      refine eMO_condition_210 mh_o (Nat.le_of_ble_eq_true rfl) (sMO_at kt hto (by omega)) ?_
      rintro _ _ ⟨rfl, rfl⟩
      refine ⟨_, rfl, ?_⟩
      refine eMO_condition_213 (Nat.le_of_ble_eq_true rfl) (sMO_isDigit hlt) ?_
      rintro _ _ ⟨rfl, rfl⟩
      refine ⟨_, rfl, ?_⟩
      rw [hd]
      refine eMO_condition_216 (fun c => absurd c (by decide)) (fun c216 => ?_)
      refine eMO_condition_219 ?_
      refine eMO_condition_221 ?_
      refine eMO_condition_223 ?_
      rw [mx10]
      refine eMO_condition_224 rfl ?_
      refine eMO_condition_225 mh_o rfl ?_
      refine eMO_condition_228 ?_
      refine eMO_condition_230 ?_
      refine eMO_condition_232 ?_
      rw [nI_add]
      refine eMO_condition_233 mh_a1 (xn_in (by omega) (by decide)) ?_
      rw [nI_clamp (by omega)]
      rw [(kt (fm + n) (by omega)).1]
      refine eMO_condition_234 ?_
      rw [nI_add]
      refine eMO_condition_235 ?_
      refine eMO_condition_237 ?_
      rw [show nI (10 * v + g (fm + n)) - 48 = nI (10 * v + g (fm + n) - 48) from pk_sub (b := 48) (by omega)]
      refine eMO_condition_238 ?_
      refine eMO_condition_240 ?_
      rw [nI_1]
      skip
      refine eMO_condition_243 ?_
      refine ih (n + 1) _ (by omega) ?_
      rw [show n + 1 + dgN g to j (fm + (n + 1)) = n + (dgN g to j (fm + (n + 1)) + 1) by omega]
      exact kk
theorem kMO_condW {f k to : Nat} {F : sp3} {v6 v7 v8 v9 : Option Value} (kt : mTx (si 1) g) (hto : to ≤ 30) (hk : k ≤ to) (hf : f < 18) (kr : rec3 si f F) (hL : fiL F 2) (hnm : atF g to k = 99) :
  x_K P (d + 2) mMO_condition 25 [some (.ref bm), some (.int (nI f)), some (.int (nI k)), some (.int (nI to)), some (.int (nI 99)), some (.int (nI (atF g to (k + 1)))), v6, v7, v8, v9] [] (mh h0 bm ze si) (fun oc h' => ∃ si', h' = mh h0 bm ze si' ∧ cnR g k to F f si si' oc) := by
  have h1 := atF_in (g := g) (e := to) (k := k) (by omega)
  have hgk : g k = 99 := h1.2.symm.trans hnm
  have hlt := atF_lt (k := k + 1) kt hto
  obtain ⟨l1, l2, l3⟩ := ltN_spec (g := g) (e := to) 5 (k + 2)
  have hb := fnE_le (g := g) (c := 38) (a := k) (b := to)
  have bad : ∀ si', frm f si si' → addC F g k (fnE g 38 k to) = none → ∃ si'', mh h0 bm ze si' = mh h0 bm ze si'' ∧ cnR g k to F f si si'' (.returned (some (.int (-1)))) := fun si' a b => ⟨si', rfl, a, Or.inl ⟨rfl, b⟩⟩
  by_cases c1 : ltN g to 5 (k + 2) < 1
  · refine eMO_condition_25 rfl ?_
    refine eMO_condition_26 ?_
    refine eMO_condition_27 ?_
    refine eMO_condition_28 ?_
    rw [nI_a2]
    refine eMO_condition_29 ?_
    refine eMO_condition_30 mh_o (Nat.le_of_ble_eq_true rfl) (sMO_lettersAt kt hto (by omega)) ?_
    rintro _ _ ⟨rfl, rfl⟩
    refine ⟨_, rfl, ?_⟩
    refine eMO_condition_33 ?_
    refine eMO_condition_35 ?_
    refine eMO_condition_37 ?_
    refine eMO_condition_38 (fun c38 => ?_) (fun c => absurd (nI_lt (b := 1) c1 (by decide)) c)
    refine eMO_condition_68 ?_
    refine eMO_condition_69 (bad _ frm.rf ?_)
    by_cases c2 : fnE g 38 k to < k + 3
    · exact addC_short c2
    · refine addC_w hgk (wordV_no (i := 0) (by omega) ?_)
      have e0 : ltN g to 5 (k + 2) = 0 := by omega
      rw [e0] at l3
      exact l3 (by omega) (by omega)
  · by_cases c2 : 4 < ltN g to 5 (k + 2)
    · refine eMO_condition_25 rfl ?_
      refine eMO_condition_26 ?_
      refine eMO_condition_27 ?_
      refine eMO_condition_28 ?_
      rw [nI_a2]
      refine eMO_condition_29 ?_
      refine eMO_condition_30 mh_o (Nat.le_of_ble_eq_true rfl) (sMO_lettersAt kt hto (by omega)) ?_
      rintro _ _ ⟨rfl, rfl⟩
      refine ⟨_, rfl, ?_⟩
      refine eMO_condition_33 ?_
      refine eMO_condition_35 ?_
      refine eMO_condition_37 ?_
      refine eMO_condition_38 (fun c => absurd c (nI_nlt (b := 1) (by omega) (by omega))) (fun c38 => ?_)
      refine eMO_condition_41 ?_
      refine eMO_condition_43 ?_
      refine eMO_condition_44 (fun c44 => ?_) (fun c => absurd (nI_lt (a := 4) c2 (by omega)) c)
      refine eMO_condition_68 ?_
      refine eMO_condition_69 (bad _ frm.rf ?_)
      by_cases c3 : fnE g 38 k to < k + 3
      · exact addC_short c3
      · refine addC_w hgk (wordV_long ?_)
        refine Classical.byContradiction fun c4 => ?_
        have z := l2 (fnE g 38 k to - (k + 2)) (by omega)
        have z2 := l2 4 (by omega)
        have z3 := fnE_hit (g := g) hk (by omega)
        rw [show k + 2 + (fnE g 38 k to - (k + 2)) = fnE g 38 k to by omega] at z
        omega
    · generalize hn : ltN g to 5 (k + 2) = n at *
      have hlet : ∀ i, i < n → 97 ≤ g (k + 2 + i) ∧ g (k + 2 + i) ≤ 122 := fun i hi => (l2 i hi).2
      have hend : k + 2 + n ≤ to := by
        have := l2 (n - 1) (by omega)
        omega
      obtain ⟨hwv, hwo⟩ := wordV_yes (g := g) (k := k + 2) (n := n) (by omega) (by omega) hlet
      have hsg : atF g to (k + 1) = g (k + 1) := by
        unfold atF
        rw [if_pos (by omega)]
      by_cases c3 : g (k + 1) = 61 ∨ g (k + 1) = 33 ∨ g (k + 1) = 94
      · have hT : ∃ T, nword F.2.2 (g (k + 1)) (wdN g (k + 2) n 4 0 0) n = some T := by
          unfold nword
          rcases c3 with q | q | q <;> rw [q] <;> simp
        obtain ⟨T, hT⟩ := hT
        have eG : addC F g k (k + 2 + n) = some (F.1, F.2.1, T) := by
          unfold addC
          rw [if_neg (by omega), if_pos hgk, hwv]
          show Option.map _ (nword F.2.2 (g (k + 1)) _ (k + 2 + n - k - 2)) = _
          rw [show k + 2 + n - k - 2 = n by omega, hT]
          rfl
        have fin : ∀ si', frW f si si' → isRW si' f T → ∃ si'', mh h0 bm ze si' = mh h0 bm ze si'' ∧ cnR g k to F f si si'' (.returned (some (.int (nI (k + 2 + n))))) := by
          intro si' a b
          refine ⟨si', rfl, a.m, Or.inr ⟨k + 2 + n, (F.1, F.2.1, T), by omega, hend, rfl, fun i hi1 hi2 => ?_, eG, ⟨kr.1.kW a, kr.2.1.kW a, b⟩, fun he1 he2 => ?_⟩⟩
          · by_cases i0 : i = k
            · rw [i0, hgk]; decide
            · by_cases i1 : i = k + 1
              · rw [i1]; omega
              · have := hlet (i - (k + 2)) (by omega)
                rw [show k + 2 + (i - (k + 2)) = i by omega] at this
                omega
          · by_cases c4 : fnE g 38 k to < k + 3
            · exact addC_short c4
            · have c5 : k + 2 + n < fnE g 38 k to := by
                refine fnE_ge (x := k + 2 + n + 1) hk (by omega) (fun i hi1 hi2 => ?_)
                by_cases i0 : i = k
                · rw [i0, hgk]; decide
                · by_cases i1 : i = k + 1
                  · rw [i1]; omega
                  · by_cases i2 : i = k + 2 + n
                    · rw [i2]; exact he2
                    · have := hlet (i - (k + 2)) (by omega)
                      rw [show k + 2 + (i - (k + 2)) = i by omega] at this
                      omega
              exact addC_w hgk (wordV_no (i := n) (by omega) (l3 (by omega) (by omega)))
        have tail : x_K P (d + 2) mMO_condition 70 [some (.ref bm), some (.int (nI f)), some (.int (nI k)), some (.int (nI to)), some (.int (nI 99)), some (.int (nI (g (k + 1)))), some (.int (nI n)), v7, v8, v9] [] (mh h0 bm ze si) (fun oc h' => ∃ si', h' = mh h0 bm ze si' ∧ cnR g k to F f si si' oc) := by
          refine eMO_condition_70 rfl ?_
          refine eMO_condition_71 ?_
          refine eMO_condition_72 ?_
          refine eMO_condition_74 rfl ?_
          refine eMO_condition_75 ?_
          refine eMO_condition_76 ?_
          refine eMO_condition_77 ?_
          rw [nI_a2]
          refine eMO_condition_78 ?_
          refine eMO_condition_80 mh_o (Nat.le_of_ble_eq_true rfl) (sMO_wordAt kt (by omega) (by omega) (fun i hi => (hlet i hi).1)) ?_
          rintro _ _ ⟨rfl, rfl⟩
          refine ⟨_, rfl, ?_⟩
          refine eMO_condition_83 ?_
          refine eMO_condition_85 mh_o (Nat.le_of_ble_eq_true rfl) (sMO_wordly kr.2.2 hf (by have := hL.2.2; omega) (by omega) hwo hT (by omega)) ?_
          rintro _ h9 ⟨rfl, si', rfl, fw, rw'⟩
          refine ⟨_, rfl, ?_⟩
          refine eMO_condition_88 ?_
          refine eMO_condition_89 ?_
          refine eMO_condition_90 ?_
          rw [nI_a2]
          refine eMO_condition_91 ?_
          refine eMO_condition_93 ?_
          rw [nI_add]
          exact eMO_condition_94 (fin si' fw rw')
        have e61 : nI (g (k + 1)) = nI 61 ↔ g (k + 1) = 61 := nI_eq (by omega) (by omega)
        have e33 : nI (g (k + 1)) = nI 33 ↔ g (k + 1) = 33 := nI_eq (by omega) (by omega)
        have e94 : nI (g (k + 1)) = nI 94 ↔ g (k + 1) = 94 := nI_eq (by omega) (by omega)
        rw [hsg]
        by_cases q1 : g (k + 1) = 61
        · refine eMO_condition_25 rfl ?_
          refine eMO_condition_26 ?_
          refine eMO_condition_27 ?_
          refine eMO_condition_28 ?_
          rw [nI_a2]
          refine eMO_condition_29 ?_
          refine eMO_condition_30 mh_o (Nat.le_of_ble_eq_true rfl) (sMO_lettersAt kt hto (by omega)) ?_
          rintro _ _ ⟨rfl, rfl⟩
          refine ⟨_, rfl, ?_⟩
          rw [hn]
          refine eMO_condition_33 ?_
          refine eMO_condition_35 ?_
          refine eMO_condition_37 ?_
          refine eMO_condition_38 (fun c => absurd c (nI_nlt (b := 1) (by omega) (by omega))) (fun c38 => ?_)
          refine eMO_condition_41 ?_
          refine eMO_condition_43 ?_
          refine eMO_condition_44 (fun c => absurd c (nI_nlt (a := 4) (by omega) (by decide))) (fun c44 => ?_)
          refine eMO_condition_47 ?_
          refine eMO_condition_49 ?_
          refine eMO_condition_51 (fun c51 => ?_) (fun c => absurd (e61.mpr q1) c)
          exact tail
        · by_cases q2 : g (k + 1) = 33
          · refine eMO_condition_25 rfl ?_
            refine eMO_condition_26 ?_
            refine eMO_condition_27 ?_
            refine eMO_condition_28 ?_
            rw [nI_a2]
            refine eMO_condition_29 ?_
            refine eMO_condition_30 mh_o (Nat.le_of_ble_eq_true rfl) (sMO_lettersAt kt hto (by omega)) ?_
            rintro _ _ ⟨rfl, rfl⟩
            refine ⟨_, rfl, ?_⟩
            rw [hn]
            refine eMO_condition_33 ?_
            refine eMO_condition_35 ?_
            refine eMO_condition_37 ?_
            refine eMO_condition_38 (fun c => absurd c (nI_nlt (b := 1) (by omega) (by omega))) (fun c38 => ?_)
            refine eMO_condition_41 ?_
            refine eMO_condition_43 ?_
            refine eMO_condition_44 (fun c => absurd c (nI_nlt (a := 4) (by omega) (by decide))) (fun c44 => ?_)
            refine eMO_condition_47 ?_
            refine eMO_condition_49 ?_
            refine eMO_condition_51 (fun c => absurd (e61.mp c) q1) (fun c51 => ?_)
            refine eMO_condition_54 ?_
            refine eMO_condition_56 ?_
            refine eMO_condition_58 (fun c58 => ?_) (fun c => absurd (e33.mpr q2) c)
            exact tail
          · refine eMO_condition_25 rfl ?_
            refine eMO_condition_26 ?_
            refine eMO_condition_27 ?_
            refine eMO_condition_28 ?_
            rw [nI_a2]
            refine eMO_condition_29 ?_
            refine eMO_condition_30 mh_o (Nat.le_of_ble_eq_true rfl) (sMO_lettersAt kt hto (by omega)) ?_
            rintro _ _ ⟨rfl, rfl⟩
            refine ⟨_, rfl, ?_⟩
            rw [hn]
            refine eMO_condition_33 ?_
            refine eMO_condition_35 ?_
            refine eMO_condition_37 ?_
            refine eMO_condition_38 (fun c => absurd c (nI_nlt (b := 1) (by omega) (by omega))) (fun c38 => ?_)
            refine eMO_condition_41 ?_
            refine eMO_condition_43 ?_
            refine eMO_condition_44 (fun c => absurd c (nI_nlt (a := 4) (by omega) (by decide))) (fun c44 => ?_)
            refine eMO_condition_47 ?_
            refine eMO_condition_49 ?_
            refine eMO_condition_51 (fun c => absurd (e61.mp c) q1) (fun c51 => ?_)
            refine eMO_condition_54 ?_
            refine eMO_condition_56 ?_
            refine eMO_condition_58 (fun c => absurd (e33.mp c) q2) (fun c58 => ?_)
            refine eMO_condition_61 ?_
            refine eMO_condition_63 ?_
            refine eMO_condition_65 (fun c65 => ?_) (fun c => absurd (e94.mpr (by omega)) c)
            exact tail
      · have e61 : nI (g (k + 1)) = nI 61 ↔ g (k + 1) = 61 := nI_eq (by omega) (by omega)
        have e33 : nI (g (k + 1)) = nI 33 ↔ g (k + 1) = 33 := nI_eq (by omega) (by omega)
        have e94 : nI (g (k + 1)) = nI 94 ↔ g (k + 1) = 94 := nI_eq (by omega) (by omega)
        rw [hsg]
        refine eMO_condition_25 rfl ?_
        refine eMO_condition_26 ?_
        refine eMO_condition_27 ?_
        refine eMO_condition_28 ?_
        rw [nI_a2]
        refine eMO_condition_29 ?_
        refine eMO_condition_30 mh_o (Nat.le_of_ble_eq_true rfl) (sMO_lettersAt kt hto (by omega)) ?_
        rintro _ _ ⟨rfl, rfl⟩
        refine ⟨_, rfl, ?_⟩
        rw [hn]
        refine eMO_condition_33 ?_
        refine eMO_condition_35 ?_
        refine eMO_condition_37 ?_
        refine eMO_condition_38 (fun c => absurd c (nI_nlt (b := 1) (by omega) (by omega))) (fun c38 => ?_)
        refine eMO_condition_41 ?_
        refine eMO_condition_43 ?_
        refine eMO_condition_44 (fun c => absurd c (nI_nlt (a := 4) (by omega) (by decide))) (fun c44 => ?_)
        refine eMO_condition_47 ?_
        refine eMO_condition_49 ?_
        refine eMO_condition_51 (fun c => absurd (Or.inl (e61.mp c)) c3) (fun c51 => ?_)
        refine eMO_condition_54 ?_
        refine eMO_condition_56 ?_
        refine eMO_condition_58 (fun c => absurd (Or.inr (Or.inl (e33.mp c))) c3) (fun c58 => ?_)
        refine eMO_condition_61 ?_
        refine eMO_condition_63 ?_
        refine eMO_condition_65 (fun c => absurd (Or.inr (Or.inr (e94.mp c))) c3) (fun c65 => ?_)
        refine eMO_condition_68 ?_
        exact eMO_condition_69 (bad _ frm.rf (addC_ws hgk c3))
theorem vlN_lt : ∀ (j k v : Nat), (∀ i, i < j → 48 ≤ g (k + i) ∧ g (k + i) ≤ 57) → vlN g j k v < (v + 1) * 10 ^ j := by
  intro j
  induction j with
  | zero => intro k v _; simp [vlN]
  | succ j ih =>
    intro k v h
    have h1 := h 0 (Nat.succ_pos j)
    rw [Nat.add_zero] at h1
    simp only [vlN]
    have h2 := ih (k + 1) (10 * v + g k - 48) (fun i hi => by rw [show k + 1 + i = k + (i + 1) by omega]; exact h (i + 1) (by omega))
    refine Nat.lt_of_lt_of_le h2 ?_
    rw [Nat.pow_succ, Nat.mul_comm (10 ^ j) 10, ← Nat.mul_assoc]
    exact Nat.mul_le_mul_right _ (by omega)
/-- the two numbers' attributes: u says which -/
theorem kMO_condN {f k to u : Nat} {F : sp3} {v6 v7 v8 v9 : Option Value} (kt : mTx (si 1) g) (hto : to ≤ 30) (hk : k ≤ to) (hf : f < 18) (kr : rec3 si f F) (hL : fiL F 2) (hu : u < 2) (hnm : atF g to k = 97 + u) :
  x_K P (d + 2) mMO_condition 111 [some (.ref bm), some (.int (nI f)), some (.int (nI k)), some (.int (nI to)), some (.int (nI (97 + u))), some (.int (nI (atF g to (k + 1)))), v6, v7, v8, v9] [] (mh h0 bm ze si) (fun oc h' => ∃ si', h' = mh h0 bm ze si' ∧ cnR g k to F f si si' oc) := by
  have h1 := atF_in (g := g) (e := to) (k := k) (by omega)
  have hgk : g k = 97 + u := h1.2.symm.trans hnm
  have hlt := atF_lt (k := k + 1) kt hto
  have hlt2 := atF_lt (k := k + 2) kt hto
  have hb := fnE_le (g := g) (c := 38) (a := k) (b := to)
  have bad : ∀ si', frm f si si' → addC F g k (fnE g 38 k to) = none → ∃ si'', mh h0 bm ze si' = mh h0 bm ze si'' ∧ cnR g k to F f si si'' (.returned (some (.int (-1)))) := fun si' a b => ⟨si', rfl, a, Or.inl ⟨rfl, b⟩⟩
  have e61 : nI (atF g to (k + 1)) = nI 61 ↔ atF g to (k + 1) = 61 := nI_eq (by omega) (by omega)
  have e33 : nI (atF g to (k + 1)) = nI 33 ↔ atF g to (k + 1) = 33 := nI_eq (by omega) (by omega)
  have e60 : nI (atF g to (k + 1)) = nI 60 ↔ atF g to (k + 1) = 60 := nI_eq (by omega) (by omega)
  have e62 : nI (atF g to (k + 1)) = nI 62 ↔ atF g to (k + 1) = 62 := nI_eq (by omega) (by omega)
  have e91 : nI (atF g to (k + 1)) = nI 91 ↔ atF g to (k + 1) = 91 := nI_eq (by omega) (by omega)
  have e93 : nI (atF g to (k + 1)) = nI 93 ↔ atF g to (k + 1) = 93 := nI_eq (by omega) (by omega)
  by_cases c3 : atF g to (k + 1) = 61 ∨ atF g to (k + 1) = 33 ∨ atF g to (k + 1) = 60 ∨ atF g to (k + 1) = 62 ∨ atF g to (k + 1) = 91 ∨ atF g to (k + 1) = 93
  · have h2 := atF_in (g := g) (e := to) (k := k + 1) (by omega)
    rw [h2.2] at c3 e61 e33 e60 e62 e91 e93 ⊢
    have tail : x_K P (d + 2) mMO_condition 155 [some (.ref bm), some (.int (nI f)), some (.int (nI k)), some (.int (nI to)), some (.int (nI (97 + u))), some (.int (nI (g (k + 1)))), v6, v7, v8, v9] [] (mh h0 bm ze si) (fun oc h' => ∃ si', h' = mh h0 bm ze si' ∧ cnR g k to F f si si' oc) := by
      -- from 191 on: fm, whether a minus stands before it
      have tail2 : ∀ (mi : Bool) (fm : Nat), (mi = true → fm = k + 3 ∧ k + 2 < to ∧ g (k + 2) = 45) → (mi = false → fm = k + 2 ∧ (k + 2 < to → g (k + 2) ≠ 45)) → x_K P (d + 2) mMO_condition 191 [some (.ref bm), some (.int (nI f)), some (.int (nI k)), some (.int (nI to)), some (.int (nI (97 + u))), some (.int (nI (g (k + 1)))), some (.int (b2i mi)), some (.int (nI fm)), v8, v9] [] (mh h0 bm ze si) (fun oc h' => ∃ si', h' = mh h0 bm ze si' ∧ cnR g k to F f si si' oc) := by
        intro mi fm hm1 hm2
        have hfm : fm ≤ k + 3 ∧ k + 2 ≤ fm := by
          cases mi with
          | true => have := (hm1 rfl).1; omega
          | false => have := (hm2 rfl).1; omega
        obtain ⟨l1, l2, l3⟩ := dgN_spec (g := g) (e := to) 3 fm
        refine eMO_condition_191 ?_
        refine eMO_condition_192 ?_
        refine eMO_condition_194 ?_
        refine eMO_condition_195 ?_
        skip
        refine lMO_dig kt hto (by omega) 3 0 0 rfl ?_
        have ez : fm + 0 = fm := Nat.add_zero fm
        rw [Nat.zero_add, ez]
        by_cases c1 : dgN g to 3 fm = 0
        · rw [c1] at l3 ⊢
          refine eMO_condition_246 ?_
          refine eMO_condition_248 (fun c => absurd rfl c) (fun c248 => ?_)
          refine eMO_condition_251 ?_
          refine eMO_condition_252 (bad _ frm.rf ?_)
          by_cases c4 : fnE g 38 k to < k + 3
          · exact addC_short c4
          · refine addC_n (by omega) ?_
            unfold numV
            cases mi with
            | true =>
              obtain ⟨q1, q2, q3⟩ := hm1 rfl
              rw [if_pos q3]
              split
              · rfl
              · rw [numN_no _ (k + 2 + 1) 0 0 (by omega) (by rw [q1, Nat.add_zero] at l3; exact l3 (by decide) (by omega))]; rfl
            | false =>
              obtain ⟨q1, q2⟩ := hm2 rfl
              rw [if_neg (q2 (by omega))]
              split
              · rfl
              · rw [numN_no _ (k + 2) 0 0 (by omega) (by rw [q1, Nat.add_zero] at l3; exact l3 (by decide) (by omega))]; rfl
        · generalize hn : dgN g to 3 fm = n at *
          have hdig : ∀ i, i < n → 48 ≤ g (fm + i) ∧ g (fm + i) ≤ 57 := fun i hi => (l2 i hi).2
          have hend : fm + n ≤ to := by
            have := l2 (n - 1) (by omega)
            omega
          have hvl : vlN g n fm 0 < 1000 := by
            have := vlN_lt n fm 0 hdig
            rw [Nat.zero_add, Nat.one_mul] at this
            exact Nat.lt_of_lt_of_le this (Nat.pow_le_pow_right (n := 10) (by decide) l1)
          have hno : ∀ i, k ≤ i → i < fm + n → g i ≠ 38 := by
            intro i hi1 hi2
            by_cases i0 : i = k
            · rw [i0]; omega
            · by_cases i1 : i = k + 1
              · rw [i1]; omega
              · by_cases i2 : i < fm
                · cases mi with
                  | true =>
                    have := hm1 rfl
                    rw [show i = k + 2 by omega]
                    omega
                  | false => have := hm2 rfl; omega
                · have := hdig (i - fm) (by omega)
                  rw [show fm + (i - fm) = i by omega] at this
                  omega
          have hnv : numV g (k + 2) (fm + n) = some (if mi then -(nI (vlN g n fm 0)) else nI (vlN g n fm 0)) := by
            unfold numV
            cases mi with
            | true =>
              obtain ⟨q1, q2, q3⟩ := hm1 rfl
              rw [if_pos q3, if_neg (by omega), q1, show k + 3 + n - (k + 2 + 1) = n by omega, show k + 2 + 1 = k + 3 from rfl, ← q1, numN_yes n fm 0 hdig]
              rfl
            | false =>
              obtain ⟨q1, q2⟩ := hm2 rfl
              rw [if_neg (q2 (by omega)), if_neg (by omega), q1, show k + 2 + n - (k + 2) = n by omega, ← q1, numN_yes n fm 0 hdig]
              rfl
          have hlong : fm + n < to → g (fm + n) ≠ 38 → addC F g k (fnE g 38 k to) = none := by
            intro he1 he2
            by_cases c4 : fnE g 38 k to < k + 3
            · exact addC_short c4
            · have c5 : fm + n < fnE g 38 k to := by
                refine fnE_ge (x := fm + n + 1) hk (by omega) (fun i hi1 hi2 => ?_)
                by_cases i2 : i = fm + n
                · rw [i2]; exact he2
                · exact hno i hi1 (by omega)
              refine addC_n (by omega) ?_
              unfold numV
              cases mi with
              | true =>
                obtain ⟨q1, q2, q3⟩ := hm1 rfl
                rw [if_pos q3]
                split
                · rfl
                · rename_i z
                  rw [numN_no _ (k + 2 + 1) 0 n (by omega) (by rw [show k + 2 + 1 + n = fm + n by omega]; exact l3 (by omega) he1)]; rfl
              | false =>
                obtain ⟨q1, q2⟩ := hm2 rfl
                rw [if_neg (q2 (by omega))]
                split
                · rfl
                · rename_i z
                  rw [numN_no _ (k + 2) 0 n (by omega) (by rw [show k + 2 + n = fm + n by omega]; exact l3 (by omega) he1)]; rfl
          have hvin : -1000 < (if mi then -(nI (vlN g n fm 0)) else nI (vlN g n fm 0)).toInt ∧ (if mi then -(nI (vlN g n fm 0)) else nI (vlN g n fm 0)).toInt < 1000 := numV_in hnv
          generalize hv : (if mi then -(nI (vlN g n fm 0)) else nI (vlN g n fm 0)) = v at *
          -- the call of bound, at 278
          have last : x_K P (d + 2) mMO_condition 278 [some (.ref bm), some (.int (nI f)), some (.int (nI k)), some (.int (nI to)), some (.int (nI (97 + u))), some (.int (nI (g (k + 1)))), some (.int (b2i mi)), some (.int (nI fm)), some (.int (nI n)), some (.int (nI (vlN g n fm 0)))] [.int v, .int (nI (g (k + 1))), .int (nI (2 * f + u)), .ref bm] (mh h0 bm ze si) (fun oc h' => ∃ si', h' = mh h0 bm ze si' ∧ cnR g k to F f si si' oc) := by
            have hsome : ∀ s : sp, ∃ T, nnum s (g (k + 1)) v = some T := fun s => by
              cases h : nnum s (g (k + 1)) v with
              | some T => exact ⟨T, rfl⟩
              | none => exact absurd c3 (nnum_no h)
            have hu2 : u = 0 ∨ u = 1 := by omega
            rcases hu2 with q | q <;> subst q
            · obtain ⟨T, hT⟩ := hsome F.1
              have eG : addC F g k (fm + n) = some (T, F.2.1, F.2.2) := by
                unfold addC
                rw [if_neg (by omega), if_neg (by omega), if_pos (by omega), hnv]
                show Option.map _ (nnum F.1 (g (k + 1)) v) = _
                rw [hT]
                rfl
              refine eMO_condition_278 mh_o (Nat.le_of_ble_eq_true rfl) (sMO_bound (t := 2 * f + 0) kr.1 (by omega) (by have := hL.1; omega) hvin hT (by omega)) ?_
              rintro _ h9 ⟨rfl, si', rfl, fw, rw'⟩
              refine ⟨_, rfl, ?_⟩
              refine eMO_condition_281 ?_
              refine eMO_condition_283 ?_
              refine eMO_condition_285 ?_
              rw [nI_add]
              exact eMO_condition_286 ⟨si', rfl, fw.m (by omega), Or.inr ⟨fm + n, (T, F.2.1, F.2.2), by omega, hend, rfl, hno, eG, ⟨rw', kr.2.1.kN fw (by omega), kr.2.2.kN fw⟩, hlong⟩⟩
            · obtain ⟨T, hT⟩ := hsome F.2.1
              have eG : addC F g k (fm + n) = some (F.1, T, F.2.2) := by
                unfold addC
                rw [if_neg (by omega), if_neg (by omega), if_neg (by omega), if_pos (by omega), hnv]
                show Option.map _ (nnum F.2.1 (g (k + 1)) v) = _
                rw [hT]
                rfl
              refine eMO_condition_278 mh_o (Nat.le_of_ble_eq_true rfl) (sMO_bound (t := 2 * f + 1) kr.2.1 (by omega) (by have := hL.2.1; omega) hvin hT (by omega)) ?_
              rintro _ h9 ⟨rfl, si', rfl, fw, rw'⟩
              refine ⟨_, rfl, ?_⟩
              refine eMO_condition_281 ?_
              refine eMO_condition_283 ?_
              refine eMO_condition_285 ?_
              rw [nI_add]
              exact eMO_condition_286 ⟨si', rfl, fw.m (by omega), Or.inr ⟨fm + n, (F.1, T, F.2.2), by omega, hend, rfl, hno, eG, ⟨kr.1.kN fw (by omega), rw', kr.2.2.kN fw⟩, hlong⟩⟩
          have e97 : nI (2 * f + (97 + u)) - 97 = nI (2 * f + u) := by
            rw [show 2 * f + (97 + u) = 2 * f + u + 97 by omega]
            exact (pk_sub (b := 97) (by omega)).trans (by rw [Nat.add_sub_cancel])
          have e9 : nI n = nI 0 → False := fun z => c1 ((nI_eq (by omega) (by omega)).mp z)
          cases mi with
          | true =>
            rw [if_pos rfl] at hv
            refine eMO_condition_246 ?_
            refine eMO_condition_248 (fun c248 => ?_) (fun c => absurd c e9)
            refine eMO_condition_253 rfl ?_
            refine eMO_condition_254 ?_
            refine eMO_condition_255 ?_
            refine eMO_condition_256 ?_
            rw [mx2]
            refine eMO_condition_257 ?_
            refine eMO_condition_259 ?_
            rw [nI_add]
            refine eMO_condition_260 ?_
            refine eMO_condition_262 ?_
            rw [e97]
            refine eMO_condition_263 ?_
            refine eMO_condition_265 ?_
            refine eMO_condition_267 (fun c => absurd c (by decide)) (fun c267 => ?_)
            refine eMO_condition_270 ?_
            refine eMO_condition_272 ?_
            rw [hv]
            refine eMO_condition_273 ?_
            exact last
          | false =>
            rw [if_neg (by decide)] at hv
            rw [hv] at last ⊢
            refine eMO_condition_246 ?_
            refine eMO_condition_248 (fun c248 => ?_) (fun c => absurd c e9)
            refine eMO_condition_253 rfl ?_
            refine eMO_condition_254 ?_
            refine eMO_condition_255 ?_
            refine eMO_condition_256 ?_
            rw [mx2]
            refine eMO_condition_257 ?_
            refine eMO_condition_259 ?_
            rw [nI_add]
            refine eMO_condition_260 ?_
            refine eMO_condition_262 ?_
            rw [e97]
            refine eMO_condition_263 ?_
            refine eMO_condition_265 ?_
            refine eMO_condition_267 (fun c267 => ?_) (fun c => absurd rfl c)
            refine eMO_condition_276 ?_
            exact last
      have e45 : nI (atF g to (k + 2)) = nI 45 ↔ atF g to (k + 2) = 45 := nI_eq (by omega) (by omega)
      by_cases c4 : atF g to (k + 2) = 45
      · have h5 := atF_in (g := g) (e := to) (k := k + 2) (by omega)
        refine eMO_condition_155 rfl ?_
        refine eMO_condition_156 ?_
        refine eMO_condition_157 ?_
        refine eMO_condition_158 ?_
        rw [nI_a2]
        refine eMO_condition_159 ?_
        refine eMO_condition_160 mh_o (Nat.le_of_ble_eq_true rfl) (sMO_at kt hto (by omega)) ?_
        rintro _ _ ⟨rfl, rfl⟩
        refine ⟨_, rfl, ?_⟩
        refine eMO_condition_163 ?_
        refine eMO_condition_165 (fun c => absurd (e45.mpr c4) c) (fun c165 => ?_)
        refine eMO_condition_168 ?_
        refine eMO_condition_169 ?_
        refine eMO_condition_173 ?_
        refine eMO_condition_175 ?_
        refine eMO_condition_177 (fun c => absurd c (by decide)) (fun c177 => ?_)
        refine eMO_condition_180 ?_
        refine eMO_condition_181 ?_
        refine eMO_condition_182 ?_
        rw [nI_a3]
        refine eMO_condition_183 ?_
        refine eMO_condition_189 ?_
        exact tail2 true (k + 3) (fun _ => ⟨rfl, h5.1, h5.2.symm.trans c4⟩) (fun z => by cases z)
      · refine eMO_condition_155 rfl ?_
        refine eMO_condition_156 ?_
        refine eMO_condition_157 ?_
        refine eMO_condition_158 ?_
        rw [nI_a2]
        refine eMO_condition_159 ?_
        refine eMO_condition_160 mh_o (Nat.le_of_ble_eq_true rfl) (sMO_at kt hto (by omega)) ?_
        rintro _ _ ⟨rfl, rfl⟩
        refine ⟨_, rfl, ?_⟩
        refine eMO_condition_163 ?_
        refine eMO_condition_165 (fun c165 => ?_) (fun c => absurd (e45.mp c) c4)
        refine eMO_condition_172 ?_
        refine eMO_condition_173 ?_
        refine eMO_condition_175 ?_
        refine eMO_condition_177 (fun c177 => ?_) (fun c => absurd rfl c)
        refine eMO_condition_186 ?_
        refine eMO_condition_187 ?_
        refine eMO_condition_188 ?_
        rw [nI_a2]
        refine eMO_condition_189 ?_
        exact tail2 false (k + 2) (fun z => by cases z) (fun _ => ⟨rfl, fun z y => c4 (by unfold atF; rw [if_pos z]; exact y)⟩)
    by_cases q1 : g (k + 1) = 61
    · refine eMO_condition_111 ?_
      refine eMO_condition_113 ?_
      refine eMO_condition_115 (fun c115 => ?_) (fun c => absurd (e61.mpr q1) c)
      exact tail
    · by_cases q2 : g (k + 1) = 33
      · refine eMO_condition_111 ?_
        refine eMO_condition_113 ?_
        refine eMO_condition_115 (fun c => absurd (e61.mp c) q1) (fun c115 => ?_)
        refine eMO_condition_118 ?_
        refine eMO_condition_120 ?_
        refine eMO_condition_122 (fun c122 => ?_) (fun c => absurd (e33.mpr q2) c)
        exact tail
      · by_cases q3 : g (k + 1) = 60
        · refine eMO_condition_111 ?_
          refine eMO_condition_113 ?_
          refine eMO_condition_115 (fun c => absurd (e61.mp c) q1) (fun c115 => ?_)
          refine eMO_condition_118 ?_
          refine eMO_condition_120 ?_
          refine eMO_condition_122 (fun c => absurd (e33.mp c) q2) (fun c122 => ?_)
          refine eMO_condition_125 ?_
          refine eMO_condition_127 ?_
          refine eMO_condition_129 (fun c129 => ?_) (fun c => absurd (e60.mpr q3) c)
          exact tail
        · by_cases q4 : g (k + 1) = 62
          · refine eMO_condition_111 ?_
            refine eMO_condition_113 ?_
            refine eMO_condition_115 (fun c => absurd (e61.mp c) q1) (fun c115 => ?_)
            refine eMO_condition_118 ?_
            refine eMO_condition_120 ?_
            refine eMO_condition_122 (fun c => absurd (e33.mp c) q2) (fun c122 => ?_)
            refine eMO_condition_125 ?_
            refine eMO_condition_127 ?_
            refine eMO_condition_129 (fun c => absurd (e60.mp c) q3) (fun c129 => ?_)
            refine eMO_condition_132 ?_
            refine eMO_condition_134 ?_
            refine eMO_condition_136 (fun c136 => ?_) (fun c => absurd (e62.mpr q4) c)
            exact tail
          · by_cases q5 : g (k + 1) = 91
            · refine eMO_condition_111 ?_
              refine eMO_condition_113 ?_
              refine eMO_condition_115 (fun c => absurd (e61.mp c) q1) (fun c115 => ?_)
              refine eMO_condition_118 ?_
              refine eMO_condition_120 ?_
              refine eMO_condition_122 (fun c => absurd (e33.mp c) q2) (fun c122 => ?_)
              refine eMO_condition_125 ?_
              refine eMO_condition_127 ?_
              refine eMO_condition_129 (fun c => absurd (e60.mp c) q3) (fun c129 => ?_)
              refine eMO_condition_132 ?_
              refine eMO_condition_134 ?_
              refine eMO_condition_136 (fun c => absurd (e62.mp c) q4) (fun c136 => ?_)
              refine eMO_condition_139 ?_
              refine eMO_condition_141 ?_
              refine eMO_condition_143 (fun c143 => ?_) (fun c => absurd (e91.mpr q5) c)
              exact tail
            · refine eMO_condition_111 ?_
              refine eMO_condition_113 ?_
              refine eMO_condition_115 (fun c => absurd (e61.mp c) q1) (fun c115 => ?_)
              refine eMO_condition_118 ?_
              refine eMO_condition_120 ?_
              refine eMO_condition_122 (fun c => absurd (e33.mp c) q2) (fun c122 => ?_)
              refine eMO_condition_125 ?_
              refine eMO_condition_127 ?_
              refine eMO_condition_129 (fun c => absurd (e60.mp c) q3) (fun c129 => ?_)
              refine eMO_condition_132 ?_
              refine eMO_condition_134 ?_
              refine eMO_condition_136 (fun c => absurd (e62.mp c) q4) (fun c136 => ?_)
              refine eMO_condition_139 ?_
              refine eMO_condition_141 ?_
              refine eMO_condition_143 (fun c => absurd (e91.mp c) q5) (fun c143 => ?_)
              refine eMO_condition_146 ?_
              refine eMO_condition_148 ?_
              refine eMO_condition_150 (fun c150 => ?_) (fun c => absurd (e93.mpr (by omega)) c)
              exact tail
  · refine eMO_condition_111 ?_
    refine eMO_condition_113 ?_
    refine eMO_condition_115 (fun c => absurd (Or.inl (e61.mp c)) c3) (fun c115 => ?_)
    refine eMO_condition_118 ?_
    refine eMO_condition_120 ?_
    refine eMO_condition_122 (fun c => absurd (Or.inr (Or.inl (e33.mp c))) c3) (fun c122 => ?_)
    refine eMO_condition_125 ?_
    refine eMO_condition_127 ?_
    refine eMO_condition_129 (fun c => absurd (Or.inr (Or.inr (Or.inl (e60.mp c)))) c3) (fun c129 => ?_)
    refine eMO_condition_132 ?_
    refine eMO_condition_134 ?_
    refine eMO_condition_136 (fun c => absurd (Or.inr (Or.inr (Or.inr (Or.inl (e62.mp c))))) c3) (fun c136 => ?_)
    refine eMO_condition_139 ?_
    refine eMO_condition_141 ?_
    refine eMO_condition_143 (fun c => absurd (Or.inr (Or.inr (Or.inr (Or.inr (Or.inl (e91.mp c)))))) c3) (fun c143 => ?_)
    refine eMO_condition_146 ?_
    refine eMO_condition_148 ?_
    refine eMO_condition_150 (fun c => absurd (Or.inr (Or.inr (Or.inr (Or.inr (Or.inr (e93.mp c)))))) c3) (fun c150 => ?_)
    refine eMO_condition_153 ?_
    refine eMO_condition_154 (bad _ frm.rf ?_)
    by_cases c4 : fnE g 38 k to < k + 3
    · exact addC_short c4
    · refine addC_ns (by omega) (fun z => c3 ?_)
      have e5 : atF g to (k + 1) = g (k + 1) := by
        unfold atF
        rw [if_pos (by omega)]
      rw [e5]
      exact z
theorem sMO_condition {f k to : Nat} {F : sp3} (kt : mTx (si 1) g) (hto : to ≤ 30) (hk : k ≤ to) (hf : f < 18) (kr : rec3 si f F) (hL : fiL F 2) :
  x_K P (d + 2) mMO_condition 0 [some (.ref bm), some (.int (nI f)), some (.int (nI k)), some (.int (nI to)), none, none, none, none, none, none] [] (mh h0 bm ze si) (fun oc h' => ∃ si', h' = mh h0 bm ze si' ∧ cnR g k to F f si si' oc) := by
  have hlt := atF_lt (k := k) kt hto
  have e99 : nI (atF g to k) = nI 99 ↔ atF g to k = 99 := nI_eq (by omega) (by omega)
  have e97 : nI (atF g to k) = nI 97 ↔ atF g to k = 97 := nI_eq (by omega) (by omega)
  have e98 : nI (atF g to k) = nI 98 ↔ atF g to k = 98 := nI_eq (by omega) (by omega)
  by_cases c1 : atF g to k = 99
  · refine eMO_condition_0 rfl ?_
    refine eMO_condition_1 ?_
    refine eMO_condition_2 ?_
    refine eMO_condition_3 mh_o (Nat.le_of_ble_eq_true rfl) (sMO_at kt hto (by omega)) ?_
    rintro _ _ ⟨rfl, rfl⟩
    refine ⟨_, rfl, ?_⟩
    refine eMO_condition_6 ?_
    refine eMO_condition_8 rfl ?_
    refine eMO_condition_9 ?_
    refine eMO_condition_10 ?_
    refine eMO_condition_11 ?_
    rw [nI_1]
    refine eMO_condition_12 ?_
    refine eMO_condition_13 mh_o (Nat.le_of_ble_eq_true rfl) (sMO_at kt hto (by omega)) ?_
    rintro _ _ ⟨rfl, rfl⟩
    refine ⟨_, rfl, ?_⟩
    refine eMO_condition_16 ?_
    refine eMO_condition_18 ?_
    refine eMO_condition_20 ?_
    refine eMO_condition_22 (fun c => absurd (e99.mpr c1) c) (fun c22 => ?_)
    skip
    rw [c1]
    exact kMO_condW kt hto hk hf kr hL c1
  · by_cases c2 : atF g to k = 97
    · refine eMO_condition_0 rfl ?_
      refine eMO_condition_1 ?_
      refine eMO_condition_2 ?_
      refine eMO_condition_3 mh_o (Nat.le_of_ble_eq_true rfl) (sMO_at kt hto (by omega)) ?_
      rintro _ _ ⟨rfl, rfl⟩
      refine ⟨_, rfl, ?_⟩
      refine eMO_condition_6 ?_
      refine eMO_condition_8 rfl ?_
      refine eMO_condition_9 ?_
      refine eMO_condition_10 ?_
      refine eMO_condition_11 ?_
      rw [nI_1]
      refine eMO_condition_12 ?_
      refine eMO_condition_13 mh_o (Nat.le_of_ble_eq_true rfl) (sMO_at kt hto (by omega)) ?_
      rintro _ _ ⟨rfl, rfl⟩
      refine ⟨_, rfl, ?_⟩
      refine eMO_condition_16 ?_
      refine eMO_condition_18 ?_
      refine eMO_condition_20 ?_
      refine eMO_condition_22 (fun c22 => ?_) (fun c => absurd (e99.mp c) c1)
      refine eMO_condition_95 ?_
      refine eMO_condition_97 ?_
      refine eMO_condition_99 (fun c99 => ?_) (fun c => absurd (e97.mpr c2) c)
      skip
      rw [c2]
      exact kMO_condN (u := 0) kt hto hk hf kr hL (by decide) c2
    · by_cases c3 : atF g to k = 98
      · refine eMO_condition_0 rfl ?_
        refine eMO_condition_1 ?_
        refine eMO_condition_2 ?_
        refine eMO_condition_3 mh_o (Nat.le_of_ble_eq_true rfl) (sMO_at kt hto (by omega)) ?_
        rintro _ _ ⟨rfl, rfl⟩
        refine ⟨_, rfl, ?_⟩
        refine eMO_condition_6 ?_
        refine eMO_condition_8 rfl ?_
        refine eMO_condition_9 ?_
        refine eMO_condition_10 ?_
        refine eMO_condition_11 ?_
        rw [nI_1]
        refine eMO_condition_12 ?_
        refine eMO_condition_13 mh_o (Nat.le_of_ble_eq_true rfl) (sMO_at kt hto (by omega)) ?_
        rintro _ _ ⟨rfl, rfl⟩
        refine ⟨_, rfl, ?_⟩
        refine eMO_condition_16 ?_
        refine eMO_condition_18 ?_
        refine eMO_condition_20 ?_
        refine eMO_condition_22 (fun c22 => ?_) (fun c => absurd (e99.mp c) c1)
        refine eMO_condition_95 ?_
        refine eMO_condition_97 ?_
        refine eMO_condition_99 (fun c => absurd (e97.mp c) c2) (fun c99 => ?_)
        refine eMO_condition_102 ?_
        refine eMO_condition_104 ?_
        refine eMO_condition_106 (fun c106 => ?_) (fun c => absurd (e98.mpr c3) c)
        skip
        rw [c3]
        exact kMO_condN (u := 1) kt hto hk hf kr hL (by decide) c3
      · refine eMO_condition_0 rfl ?_
        refine eMO_condition_1 ?_
        refine eMO_condition_2 ?_
        refine eMO_condition_3 mh_o (Nat.le_of_ble_eq_true rfl) (sMO_at kt hto (by omega)) ?_
        rintro _ _ ⟨rfl, rfl⟩
        refine ⟨_, rfl, ?_⟩
        refine eMO_condition_6 ?_
        refine eMO_condition_8 rfl ?_
        refine eMO_condition_9 ?_
        refine eMO_condition_10 ?_
        refine eMO_condition_11 ?_
        rw [nI_1]
        refine eMO_condition_12 ?_
        refine eMO_condition_13 mh_o (Nat.le_of_ble_eq_true rfl) (sMO_at kt hto (by omega)) ?_
        rintro _ _ ⟨rfl, rfl⟩
        refine ⟨_, rfl, ?_⟩
        refine eMO_condition_16 ?_
        refine eMO_condition_18 ?_
        refine eMO_condition_20 ?_
        refine eMO_condition_22 (fun c22 => ?_) (fun c => absurd (e99.mp c) c1)
        refine eMO_condition_95 ?_
        refine eMO_condition_97 ?_
        refine eMO_condition_99 (fun c => absurd (e97.mp c) c2) (fun c99 => ?_)
        refine eMO_condition_102 ?_
        refine eMO_condition_104 ?_
        refine eMO_condition_106 (fun c => absurd (e98.mp c) c3) (fun c106 => ?_)
        refine eMO_condition_109 ?_
        refine eMO_condition_110 ⟨_, rfl, frm.rf, Or.inl ⟨rfl, ?_⟩⟩
        by_cases c4 : k < to
        · have e5 : atF g to k = g k := by
            unfold atF
            rw [if_pos c4]
          rw [e5] at c1 c2 c3
          exact addC_name c1 c2 c3
        · have := fnE_le (g := g) (c := 38) (a := k) (b := to)
          exact addC_short (by omega)
/-! reads -/
theorem beg.rec {f : Nat} (k : beg si f) : rec3 si f fi0 := by
  obtain ⟨a, b, c1, c2, c3, c4, c5, c6⟩ := k
  refine ⟨a, b, ⟨c5, Nat.zero_le _, fun i v hi => by simp [fi0] at hi⟩, fun v hv => by simp [fi0] at hv, by unfold sB fi0; decide, Or.inl ⟨c1, c2, c6, c3, c4, rfl⟩⟩
theorem lMO_reads {f to : Nat} {v2 : Option Value} {si0 : Nat → Nat → Int32} (hto : to ≤ 30) (hf : f < 18) (kt : mTx (si0 1) g) : ∀ (j n k : Nat) (F : sp3) (si : Nat → Nat → Int32) (v7 : Option Value), n + j = 3 → k ≤ to → frm f si0 si → rec3 si f F → fiL F n → x_K P (d + 3) mMO_reads 14 [some (.ref bm), some (.int (nI f)), v2, some (.int (nI to)), some (.int (nI k)), some (.int (nI n)), some (.int 1), v7] [] (mh h0 bm ze si) (fun oc h' => ∃ si', h' = mh h0 bm ze si' ∧ frm f si0 si' ∧ oc = .returned (some (.int (b2i (parseF g to j k F).isSome))) ∧ ∀ G, parseF g to j k F = some G → isRF si' f G) := by
  intro j
  induction j with
  | zero =>
    intro n k F si v7 hn hk hfr kr hL
    refine eMO_reads_14 ?_
    refine eMO_reads_16 (fun c => absurd c (by decide)) (fun c16 => ?_)
    refine eMO_reads_19 ?_
    refine eMO_reads_21 ?_
    refine eMO_reads_22 (fun c22 => ?_) (fun c => absurd (nI_le (a := 3) (by omega) (by omega)) c)
    refine eMO_reads_36 ?_
    refine eMO_reads_37 ?_
    refine eMO_reads_39 ?_
    refine eMO_reads_42 ?_
    refine eMO_reads_44 (fun c => absurd c (by decide)) (fun c44 => ?_)
    refine eMO_reads_47 ?_
    refine eMO_reads_48 rfl ⟨si, rfl, hfr, rfl, fun G hG => by cases hG⟩
  | succ j ih =>
    intro n k F si v7 hn hk hfr kr hL
    have kt' : mTx (si 1) g := fun i hi => by rw [hfr.at (Or.inl (by decide))]; exact kt i hi
    refine eMO_reads_14 ?_
    refine eMO_reads_16 (fun c => absurd c (by decide)) (fun c16 => ?_)
    refine eMO_reads_19 ?_
    refine eMO_reads_21 ?_
    refine eMO_reads_22 (fun c => absurd c (nI_ge (b := 3) (by omega) (by decide))) (fun c22 => ?_)
    refine eMO_reads_25 rfl ?_
    refine eMO_reads_26 ?_
    refine eMO_reads_27 ?_
    refine eMO_reads_29 ?_
    skip
    refine eMO_reads_30 mh_o (Nat.le_of_ble_eq_true rfl) (sMO_condition kt' hto hk hf kr ⟨by have := hL.1; omega, by have := hL.2.1; omega, by have := hL.2.2; omega⟩) ?_
    rintro oc h9 ⟨si1, rfl, fr1, hR⟩
    have hfr1 := hfr.trans fr1
    have kt1 : mTx (si1 1) g := fun i hi => by rw [hfr1.at (Or.inl (by decide))]; exact kt i hi
    rcases hR with ⟨rfl, hN⟩ | ⟨e, G, e1, e2, rfl, e3, e4, e5, e6⟩
    · refine ⟨_, rfl, ?_⟩
      have eP : parseF g to (j + 1) k F = none := by
        simp only [parseF]
        rw [hN]
      rw [eP]
      refine eMO_reads_33 ?_
      refine eMO_reads_37 ?_
      refine eMO_reads_39 ?_
      rw [nI_1]
      refine eMO_reads_42 ?_
      refine eMO_reads_44 (fun c => absurd c (by decide)) (fun c44 => ?_)
      refine eMO_reads_47 ?_
      refine eMO_reads_48 rfl ⟨si1, rfl, hfr1, rfl, fun G hG => by cases hG⟩
    · refine ⟨_, rfl, ?_⟩
      have hL' := addC_len e4 hL
      have hat := atF_lt (k := e) kt1 hto
      have e38 : nI (atF g to e) = nI 38 ↔ atF g to e = 38 := nI_eq (by omega) (by omega)
      by_cases c1 : atF g to e = 38
      · have h5 := atF_in (g := g) (e := to) (k := e) (by omega)
        have h6 : g e = 38 := h5.2.symm.trans c1
        have hE := fnE_at (g := g) hk (by omega) e2 e3 (Or.inr h6)
        have eP : parseF g to (j + 1) k F = parseF g to j (e + 1) G := by
          simp only [parseF]
          rw [hE, e4]
          show (if e = to then _ else _) = _
          rw [if_neg (by omega)]
        rw [eP]
        refine eMO_reads_33 ?_
        refine eMO_reads_37 ?_
        refine eMO_reads_39 ?_
        rw [nI_1]
        refine eMO_reads_42 ?_
        refine eMO_reads_44 (fun c44 => ?_) (fun c => absurd (nI_pos' (by omega)) c)
        refine eMO_reads_49 rfl ?_
        refine eMO_reads_50 ?_
        refine eMO_reads_52 ?_
        refine eMO_reads_53 mh_o (Nat.le_of_ble_eq_true rfl) (sMO_at kt1 hto (by omega)) ?_
        rintro _ _ ⟨rfl, rfl⟩
        refine ⟨_, rfl, ?_⟩
        refine eMO_reads_56 ?_
        refine eMO_reads_58 (fun c => absurd (e38.mpr c1) c) (fun c58 => ?_)
        refine eMO_reads_61 ?_
        refine eMO_reads_62 ?_
        refine eMO_reads_66 ?_
        refine eMO_reads_68 ?_
        refine eMO_reads_70 (fun c => absurd c (by decide)) (fun c70 => ?_)
        refine eMO_reads_73 ?_
        refine eMO_reads_75 ?_
        refine eMO_reads_76 ?_
        rw [nI_1]
        refine eMO_reads_77 ?_
        refine eMO_reads_82 ?_
        skip
        refine eMO_reads_84 ?_
        exact ih (n + 1) (e + 1) G si1 _ (by omega) (by omega) hfr1 e5 hL'
      · have c2 : e < to → g e ≠ 38 := fun z y => c1 (by unfold atF; rw [if_pos z]; exact y)
        refine eMO_reads_33 ?_
        refine eMO_reads_37 ?_
        refine eMO_reads_39 ?_
        rw [nI_1]
        refine eMO_reads_42 ?_
        refine eMO_reads_44 (fun c44 => ?_) (fun c => absurd (nI_pos' (by omega)) c)
        refine eMO_reads_49 rfl ?_
        refine eMO_reads_50 ?_
        refine eMO_reads_52 ?_
        refine eMO_reads_53 mh_o (Nat.le_of_ble_eq_true rfl) (sMO_at kt1 hto (by omega)) ?_
        rintro _ _ ⟨rfl, rfl⟩
        refine ⟨_, rfl, ?_⟩
        refine eMO_reads_56 ?_
        refine eMO_reads_58 (fun c58 => ?_) (fun c => absurd (e38.mp c) c1)
        refine eMO_reads_65 ?_
        refine eMO_reads_66 ?_
        refine eMO_reads_68 ?_
        refine eMO_reads_70 (fun c70 => ?_) (fun c => absurd rfl c)
        refine eMO_reads_80 ?_
        refine eMO_reads_82 ?_
        skip
        refine eMO_reads_84 ?_
        refine eMO_reads_14 ?_
        refine eMO_reads_16 (fun c16 => ?_) (fun c => absurd rfl c)
        refine eMO_reads_87 rfl ?_
        refine eMO_reads_88 ?_
        skip
        refine eMO_reads_89 mh_o (Nat.le_of_ble_eq_true rfl) (sMO_settleBounds hf e5.1 e5.2.1 e5.2.2) ?_
        rintro _ h9 ⟨rfl, si2, rfl, fr2, hF⟩
        refine ⟨_, rfl, ?_⟩
        by_cases c3 : e = to
        · have hE := fnE_at (g := g) hk (by omega) e2 e3 (Or.inl c3)
          have eP : parseF g to (j + 1) k F = some (fiT G) := by
            simp only [parseF]
            rw [hE, e4]
            show (if e = to then _ else _) = _
            rw [if_pos c3]
          rw [eP]
          refine eMO_reads_92 ?_
          refine eMO_reads_94 ?_
          refine eMO_reads_95 (fun c => absurd (by rw [c3]) c) (fun c95 => ?_)
          refine eMO_reads_98 ?_
          refine eMO_reads_99 ?_
          refine eMO_reads_103 rfl ⟨si2, rfl, hfr1.trans fr2, rfl, fun H hH => ?_⟩
          rw [← Option.some.inj hH]
          exact hF
        · have eP : parseF g to (j + 1) k F = none := by
            simp only [parseF]
            rw [e6 (by omega) (c2 (by omega))]
          rw [eP]
          refine eMO_reads_92 ?_
          refine eMO_reads_94 ?_
          refine eMO_reads_95 (fun c95 => ?_) (fun c => absurd ((nI_eq (by omega) (by omega)).mp c) c3)
          refine eMO_reads_102 ?_
          refine eMO_reads_103 rfl ⟨si2, rfl, hfr1.trans fr2, rfl, fun H hH => by cases hH⟩
theorem sMO_reads {f a to : Nat} (hto : to ≤ 30) (hf : f < 18) (ha : a ≤ to) (kt : mTx (si 1) g) : x_K P (d + 3) mMO_reads 0 [some (.ref bm), some (.int (nI f)), some (.int (nI a)), some (.int (nI to)), none, none, none, none] [] (mh h0 bm ze si) (fun oc h' => ∃ si', h' = mh h0 bm ze si' ∧ frm f si si' ∧ oc = .returned (some (.int (b2i (parseF g to 3 a fi0).isSome))) ∧ ∀ G, parseF g to 3 a fi0 = some G → isRF si' f G) := by
  refine eMO_reads_0 rfl ?_
  refine eMO_reads_1 ?_
  skip
  refine eMO_reads_2 mh_o (Nat.le_of_ble_eq_true rfl) (sMO_begin hf) ?_
  rintro _ h9 ⟨rfl, si1, rfl, fr1, hB⟩
  refine ⟨_, rfl, ?_⟩
  refine eMO_reads_5 ?_
  refine eMO_reads_6 ?_
  refine eMO_reads_8 ?_
  refine eMO_reads_9 ?_
  refine eMO_reads_11 ?_
  refine eMO_reads_12 ?_
  skip
  exact lMO_reads hto hf kt 3 0 a fi0 si1 none rfl ha fr1 hB.rec ⟨Nat.le_refl _, Nat.le_refl _, Nat.le_refl _⟩
end

