/-! The reference: its small methods -/
theorem mx2 {l : Nat} : (2 : Int32) * nI l = nI (2 * l) := by rw [show (2 : Int32) = nI 2 by decide, pk_mul]
theorem mx3 {l : Nat} : (3 : Int32) * nI l = nI (3 * l) := by rw [show (3 : Int32) = nI 3 by decide, pk_mul]
theorem mx4 {l : Nat} : (4 : Int32) * nI l = nI (4 * l) := by rw [show (4 : Int32) = nI 4 by decide, pk_mul]
theorem mx6 {l : Nat} : (6 : Int32) * nI l = nI (6 * l) := by rw [show (6 : Int32) = nI 6 by decide, pk_mul]
theorem mx10 {l : Nat} : (10 : Int32) * nI l = nI (10 * l) := by rw [show (10 : Int32) = nI 10 by decide, pk_mul]
theorem mx16 {l : Nat} : (16 : Int32) * nI l = nI (16 * l) := by rw [show (16 : Int32) = nI 16 by decide, pk_mul]
theorem mx32 {l : Nat} : (32 : Int32) * nI l = nI (32 * l) := by rw [show (32 : Int32) = nI 32 by decide, pk_mul]
theorem mx520 {l : Nat} : (520 : Int32) * nI l = nI (520 * l) := by rw [show (520 : Int32) = nI 520 by decide, pk_mul]
theorem mx1000 {l : Nat} : (1000 : Int32) * nI l = nI (1000 * l) := by rw [show (1000 : Int32) = nI 1000 by decide, pk_mul]
theorem nI_a2 {a : Nat} : nI a + 2 = nI (a + 2) := nI_add a 2
theorem nI_a3 {a : Nat} : nI a + 3 = nI (a + 3) := nI_add a 3
theorem nI_a6 {a : Nat} : nI a + 6 = nI (a + 6) := nI_add a 6
theorem nI_lt_of {a b : Nat} (h : ¬ nI b ≤ nI a) (hb : a < 2 ^ 31) : a < b := Classical.byContradiction fun z => h (nI_le (Nat.not_lt.mp z) hb)
theorem nI_le_of {a b : Nat} (h : nI b ≤ nI a) (hb : b < 2 ^ 31) : b ≤ a := Classical.byContradiction fun z => nI_ge (Nat.not_le.mp z) hb h
theorem b2i_nar (b : Bool) : vp_nar .boolean (b2i b) = b2i b := by cases b <;> rfl
theorem b2i_0 {b : Bool} : b2i b = 0 ↔ b = false := by cases b <;> decide
def atF (g : Nat → Nat) (e k : Nat) : Nat := if k < e then g k else 0
def mTx (f : Nat → Int32) (g : Nat → Nat) : Prop := ∀ i, i < 30 → f i = nI (g i) ∧ g i < 65536
def isLt (c : Nat) : Bool := decide (97 ≤ c ∧ c ≤ 122)
def isDg (c : Nat) : Bool := decide (48 ≤ c ∧ c ≤ 57)
def ltN (g : Nat → Nat) (e : Nat) : Nat → Nat → Nat
  | 0, _ => 0
  | j + 1, k => if isLt (atF g e k) then ltN g e j (k + 1) + 1 else 0
def wdN (g : Nat → Nat) (k n : Nat) : Nat → Nat → Nat → Nat
  | 0, _, v => v
  | j + 1, i, v => wdN g k n j (i + 1) (32 * v + (if i < n then g (k + i) - 96 else 0))
section
variable {P : x_P} {d : Nat} {h0 : x_H} {bm : Nat} {ze : Nat → Int32} {si : Nat → Nat → Int32} {h : x_H} {g : Nat → Nat}
theorem atF_lt {k e : Nat} (kt : mTx (si 1) g) (he : e ≤ 30) : atF g e k < 65536 := by
  unfold atF
  split
  · exact (kt k (by omega)).2
  · decide
theorem sMO_at {k e : Nat} (kt : mTx (si 1) g) (he : e ≤ 30) (hk : k < 65536) : x_K P d mMO_at 0 [some (.ref bm), some (.int (nI k)), some (.int (nI e))] [] (mh h0 bm ze si) (fun oc h' => oc = .returned (some (.int (nI (atF g e k)))) ∧ h' = mh h0 bm ze si) := by
  refine eMO_at_0 ?_
  refine eMO_at_1 ?_
  refine eMO_at_2 (fun c => ?_) (fun c => ?_)
  · have h1 : e ≤ k := nI_le_of c (by omega)
    refine eMO_at_14 ?_
    refine eMO_at_15 rfl ⟨?_, rfl⟩
    unfold atF
    rw [if_neg (by omega)]
    rfl
  · have h1 : k < e := nI_lt_of c (by omega)
    refine eMO_at_5 rfl ?_
    refine eMO_at_6 mh_o rfl ?_
    refine eMO_at_9 ?_
    refine eMO_at_10 mh_a1 (xn_in (by omega) (by decide)) ?_
    refine eMO_at_11 ?_
    rw [nI_clamp (by omega), (kt k (by omega)).1]
    refine eMO_at_15 (pk_charN (kt k (by omega)).2).1 ⟨?_, rfl⟩
    unfold atF
    rw [if_pos h1]
theorem sMO_isLetter {c : Nat} (hc : c < 65536) : x_K P d mMO_isLetter 0 [some (.int (nI c))] [] h (fun oc h' => oc = .returned (some (.int (b2i (isLt c)))) ∧ h' = h) := by
  refine eMO_isLetter_0 ?_
  refine eMO_isLetter_1 ?_
  refine eMO_isLetter_3 (fun c1 => ?_) (fun c1 => ?_)
  · refine eMO_isLetter_16 ?_
    refine eMO_isLetter_17 rfl ⟨?_, rfl⟩
    have h1 : ¬ 97 ≤ c := fun z => nI_nlt (b := 97) z (by omega) c1
    unfold isLt
    rw [decide_eq_false (by omega)]
    rfl
  · have h1 : 97 ≤ c := Classical.byContradiction fun z => c1 (nI_lt (b := 97) (by omega) (by decide))
    refine eMO_isLetter_6 ?_
    refine eMO_isLetter_7 ?_
    refine eMO_isLetter_9 (fun c2 => ?_) (fun c2 => ?_)
    · refine eMO_isLetter_16 ?_
      refine eMO_isLetter_17 rfl ⟨?_, rfl⟩
      have h2 : ¬ c ≤ 122 := fun z => nI_nlt (a := 122) z (by decide) c2
      unfold isLt
      rw [decide_eq_false (by omega)]
      rfl
    · refine eMO_isLetter_12 ?_
      refine eMO_isLetter_13 ?_
      refine eMO_isLetter_17 rfl ⟨?_, rfl⟩
      have h2 : c ≤ 122 := Classical.byContradiction fun z => c2 (nI_lt (a := 122) (by omega) (by omega))
      unfold isLt
      rw [decide_eq_true ⟨h1, h2⟩]
      rfl
theorem sMO_isDigit {c : Nat} (hc : c < 65536) : x_K P d mMO_isDigit 0 [some (.int (nI c))] [] h (fun oc h' => oc = .returned (some (.int (b2i (isDg c)))) ∧ h' = h) := by
  refine eMO_isDigit_0 ?_
  refine eMO_isDigit_1 ?_
  refine eMO_isDigit_3 (fun c1 => ?_) (fun c1 => ?_)
  · refine eMO_isDigit_16 ?_
    refine eMO_isDigit_17 rfl ⟨?_, rfl⟩
    have h1 : ¬ 48 ≤ c := fun z => nI_nlt (b := 48) z (by omega) c1
    unfold isDg
    rw [decide_eq_false (by omega)]
    rfl
  · have h1 : 48 ≤ c := Classical.byContradiction fun z => c1 (nI_lt (b := 48) (by omega) (by decide))
    refine eMO_isDigit_6 ?_
    refine eMO_isDigit_7 ?_
    refine eMO_isDigit_9 (fun c2 => ?_) (fun c2 => ?_)
    · refine eMO_isDigit_16 ?_
      refine eMO_isDigit_17 rfl ⟨?_, rfl⟩
      have h2 : ¬ c ≤ 57 := fun z => nI_nlt (a := 57) z (by decide) c2
      unfold isDg
      rw [decide_eq_false (by omega)]
      rfl
    · refine eMO_isDigit_12 ?_
      refine eMO_isDigit_13 ?_
      refine eMO_isDigit_17 rfl ⟨?_, rfl⟩
      have h2 : c ≤ 57 := Classical.byContradiction fun z => c2 (nI_lt (a := 57) (by omega) (by omega))
      unfold isDg
      rw [decide_eq_true ⟨h1, h2⟩]
      rfl
theorem lMO_lettersAt {k e : Nat} (kt : mTx (si 1) g) (he : e ≤ 30) (hk : k < 60000) : ∀ (j n : Nat), n + j = 5 → x_K P (d + 1) mMO_lettersAt 2 [some (.ref bm), some (.int (nI k)), some (.int (nI e)), some (.int (nI n))] [] (mh h0 bm ze si) (fun oc h' => oc = .returned (some (.int (nI (n + ltN g e j (k + n))))) ∧ h' = mh h0 bm ze si) := by
  intro j
  induction j with
  | zero =>
    intro n hn
    refine eMO_lettersAt_2 ?_
    refine eMO_lettersAt_3 ?_
    refine eMO_lettersAt_4 (fun _ => ?_) (fun c => absurd (nI_le (a := 5) (by omega) (by omega)) c)
    refine eMO_lettersAt_27 ?_
    exact eMO_lettersAt_28 ⟨rfl, rfl⟩
  | succ j ih =>
    intro n hn
    refine eMO_lettersAt_2 ?_
    refine eMO_lettersAt_3 ?_
    refine eMO_lettersAt_4 (fun c => absurd c (nI_ge (b := 5) (by omega) (by decide))) (fun _ => ?_)
    refine eMO_lettersAt_7 rfl ?_
    refine eMO_lettersAt_8 ?_
    refine eMO_lettersAt_9 ?_
    refine eMO_lettersAt_10 ?_
    refine eMO_lettersAt_11 ?_
    rw [nI_add]
    refine eMO_lettersAt_12 mh_o (Nat.le_of_ble_eq_true rfl) (sMO_at (k := k + n) (e := e) kt he (by omega)) ?_
    rintro _ h1 ⟨rfl, rfl⟩
    refine ⟨_, rfl, ?_⟩
    refine eMO_lettersAt_15 (Nat.le_of_ble_eq_true rfl) (sMO_isLetter (atF_lt kt he)) ?_
    rintro _ h1 ⟨rfl, rfl⟩
    refine ⟨_, rfl, ?_⟩
    refine eMO_lettersAt_18 (fun c => ?_) (fun c => ?_)
    · refine eMO_lettersAt_27 ?_
      refine eMO_lettersAt_28 ⟨?_, rfl⟩
      simp only [ltN]
      rw [b2i_0.mp c]
      rfl
    · refine eMO_lettersAt_21 ?_
      rw [nI_1]
      refine eMO_lettersAt_24 ?_
      refine x_Kmono (ih (n + 1) (by omega)) ?_
      rintro oc h' ⟨rfl, rfl⟩
      refine ⟨?_, rfl⟩
      have h2 : isLt (atF g e (k + n)) = true := by
        cases h3 : isLt (atF g e (k + n)) with
        | true => rfl
        | false => rw [h3] at c; exact absurd rfl c
      simp only [ltN]
      rw [h2, if_pos rfl, show n + 1 + ltN g e j (k + (n + 1)) = n + (ltN g e j (k + n + 1) + 1) by rw [Nat.add_assoc k n 1]; omega]
theorem sMO_lettersAt {k e : Nat} (kt : mTx (si 1) g) (he : e ≤ 30) (hk : k < 60000) : x_K P (d + 1) mMO_lettersAt 0 [some (.ref bm), some (.int (nI k)), some (.int (nI e)), none] [] (mh h0 bm ze si) (fun oc h' => oc = .returned (some (.int (nI (ltN g e 5 k)))) ∧ h' = mh h0 bm ze si) := by
  refine eMO_lettersAt_0 ?_
  refine eMO_lettersAt_1 ?_
  refine x_Kmono (lMO_lettersAt (n := 0) kt he hk 5 rfl) ?_
  rintro oc h' ⟨rfl, rfl⟩
  exact ⟨by rw [Nat.zero_add, Nat.add_zero], rfl⟩
theorem lMO_wordAt {k n : Nat} (kt : mTx (si 1) g) (hn : n ≤ 4) (hk : k + n ≤ 30) (hl : ∀ i, i < n → 97 ≤ g (k + i)) : ∀ (j i v : Nat), i + j = 4 → x_K P d mMO_wordAt 5 [some (.ref bm), some (.int (nI k)), some (.int (nI n)), some (.int (nI v)), some (.int (nI i))] [] (mh h0 bm ze si) (fun oc h' => oc = .returned (some (.int (nI (wdN g k n j i v)))) ∧ h' = mh h0 bm ze si) := by
  intro j
  induction j with
  | zero =>
    intro i v hi
    refine eMO_wordAt_5 ?_
    refine eMO_wordAt_7 ?_
    refine eMO_wordAt_8 (fun _ => ?_) (fun c => absurd (nI_le (a := 4) (by omega) (by omega)) c)
    refine eMO_wordAt_45 ?_
    exact eMO_wordAt_46 ⟨rfl, rfl⟩
  | succ j ih =>
    intro i v hi
    refine eMO_wordAt_5 ?_
    refine eMO_wordAt_7 ?_
    refine eMO_wordAt_8 (fun c => absurd c (nI_ge (b := 4) (by omega) (by decide))) (fun _ => ?_)
    refine eMO_wordAt_11 ?_
    refine eMO_wordAt_13 ?_
    refine eMO_wordAt_14 ?_
    refine eMO_wordAt_15 ?_
    refine eMO_wordAt_17 ?_
    rw [mx32]
    refine eMO_wordAt_18 (fun c => ?_) (fun c => ?_)
    · have h1 : n ≤ i := nI_le_of c (by omega)
      refine eMO_wordAt_36 ?_
      refine eMO_wordAt_37 ?_
      refine eMO_wordAt_38 ?_
      refine eMO_wordAt_39 ?_
      rw [nI_1, show nI (32 * v) + 0 = nI (32 * v) from nI_add _ 0]
      refine eMO_wordAt_42 ?_
      refine x_Kmono (ih (i + 1) (32 * v) (by omega)) ?_
      rintro oc h' ⟨rfl, rfl⟩
      refine ⟨?_, rfl⟩
      have e0 : (if i < n then g (k + i) - 96 else 0) = 0 := if_neg (by omega)
      exact congrArg (fun x => Outcome.returned (some (Value.int (nI (wdN g k n j (i + 1) (32 * v + x)))))) e0.symm
    · have h1 : i < n := nI_lt_of c (by omega)
      refine eMO_wordAt_21 rfl ?_
      refine eMO_wordAt_22 mh_o rfl ?_
      refine eMO_wordAt_25 ?_
      refine eMO_wordAt_26 ?_
      refine eMO_wordAt_28 ?_
      rw [nI_add]
      refine eMO_wordAt_29 mh_a1 (xn_in (by omega) (by decide)) ?_
      rw [nI_clamp (by omega), (kt (k + i) (by omega)).1]
      refine eMO_wordAt_30 ?_
      refine eMO_wordAt_32 ?_
      refine eMO_wordAt_33 ?_
      refine eMO_wordAt_37 ?_
      refine eMO_wordAt_38 ?_
      refine eMO_wordAt_39 ?_
      rw [nI_1, show nI (g (k + i)) - 96 = nI (g (k + i) - 96) from pk_sub (Nat.le_trans (by decide) (hl i h1)), nI_add]
      refine eMO_wordAt_42 ?_
      refine x_Kmono (ih (i + 1) (32 * v + (g (k + i) - 96)) (by omega)) ?_
      rintro oc h' ⟨rfl, rfl⟩
      refine ⟨?_, rfl⟩
      simp only [wdN]
      rw [if_pos h1]
theorem sMO_wordAt {k n : Nat} (kt : mTx (si 1) g) (hn : n ≤ 4) (hk : k + n ≤ 30) (hl : ∀ i, i < n → 97 ≤ g (k + i)) : x_K P d mMO_wordAt 0 [some (.ref bm), some (.int (nI k)), some (.int (nI n)), none, none] [] (mh h0 bm ze si) (fun oc h' => oc = .returned (some (.int (nI (wdN g k n 4 0 0)))) ∧ h' = mh h0 bm ze si) := by
  refine eMO_wordAt_0 ?_
  refine eMO_wordAt_1 ?_
  refine eMO_wordAt_2 ?_
  refine eMO_wordAt_3 ?_
  exact lMO_wordAt kt hn hk hl 4 0 0 rfl
theorem sMO_thrown : x_K P d mMO_thrown 0 [some (.ref bm)] [] (mh h0 bm ze si) (fun oc h' => oc = .returned (some (.int (ze 0))) ∧ h' = mh h0 bm ze si) := by
  refine eMO_thrown_0 rfl ?_
  refine eMO_thrown_1 mh_o rfl ?_
  exact eMO_thrown_4 ⟨rfl, rfl⟩
theorem sMO_fails {c : Int32} : x_K P d mMO_fails 0 [some (.ref bm), some (.int c)] [] (mh h0 bm ze si) (fun oc h' => oc = .returned (some (.int 0)) ∧ h' = mh h0 bm (upd ze 0 c) si) := by
  refine eMO_fails_0 rfl ?_
  refine eMO_fails_1 ?_
  refine eMO_fails_2 mh_o (Nat.le_of_ble_eq_true rfl) ?_
  rw [mh_f0]
  refine eMO_fails_5 ?_
  exact eMO_fails_6 ⟨rfl, rfl⟩
theorem sMO_isClient {c : Int32} : x_K P d mMO_isClient 0 [some (.int c)] [] h (fun oc h' => oc = .returned (some (.int (b2i (decide (0 ≤ c) && decide (c < 8))))) ∧ h' = h) := by
  refine eMO_isClient_0 ?_
  refine eMO_isClient_1 (fun c1 => ?_) (fun c1 => ?_)
  · refine eMO_isClient_14 ?_
    refine eMO_isClient_15 rfl ⟨?_, rfl⟩
    rw [decide_eq_false (p := 0 ≤ c) (fun z => by have h1 := Int32.le_iff_toInt_le.mp z; have h2 := Int32.lt_iff_toInt_lt.mp c1; omega)]
    rfl
  · have h1 : 0 ≤ c := by
      have h2 : ¬ c.toInt < (0 : Int32).toInt := fun z => c1 (Int32.lt_iff_toInt_lt.mpr z)
      exact Int32.le_iff_toInt_le.mpr (by omega)
    refine eMO_isClient_4 ?_
    refine eMO_isClient_5 ?_
    refine eMO_isClient_7 (fun c2 => ?_) (fun c2 => ?_)
    · refine eMO_isClient_14 ?_
      refine eMO_isClient_15 rfl ⟨?_, rfl⟩
      rw [decide_eq_false (p := c < 8) (fun z => by have h1 := Int32.le_iff_toInt_le.mp c2; have h2 := Int32.lt_iff_toInt_lt.mp z; omega), Bool.and_false]
      rfl
    · have h3 : c < 8 := by
        have h2 : ¬ (8 : Int32).toInt ≤ c.toInt := fun z => c2 (Int32.le_iff_toInt_le.mpr z)
        exact Int32.lt_iff_toInt_lt.mpr (by omega)
      refine eMO_isClient_10 ?_
      refine eMO_isClient_11 ?_
      refine eMO_isClient_15 rfl ⟨?_, rfl⟩
      rw [decide_eq_true h1, decide_eq_true h3]
      rfl
theorem sMO_isBroker {c : Int32} : x_K P d mMO_isBroker 0 [some (.int c)] [] h (fun oc h' => oc = .returned (some (.int (b2i (decide (0 ≤ c) && decide (c < 6))))) ∧ h' = h) := by
  refine eMO_isBroker_0 ?_
  refine eMO_isBroker_1 (fun c1 => ?_) (fun c1 => ?_)
  · refine eMO_isBroker_14 ?_
    refine eMO_isBroker_15 rfl ⟨?_, rfl⟩
    rw [decide_eq_false (p := 0 ≤ c) (fun z => by have h1 := Int32.le_iff_toInt_le.mp z; have h2 := Int32.lt_iff_toInt_lt.mp c1; omega)]
    rfl
  · have h1 : 0 ≤ c := by
      have h2 : ¬ c.toInt < (0 : Int32).toInt := fun z => c1 (Int32.lt_iff_toInt_lt.mpr z)
      exact Int32.le_iff_toInt_le.mpr (by omega)
    refine eMO_isBroker_4 ?_
    refine eMO_isBroker_5 ?_
    refine eMO_isBroker_7 (fun c2 => ?_) (fun c2 => ?_)
    · refine eMO_isBroker_14 ?_
      refine eMO_isBroker_15 rfl ⟨?_, rfl⟩
      rw [decide_eq_false (p := c < 6) (fun z => by have h1 := Int32.le_iff_toInt_le.mp c2; have h2 := Int32.lt_iff_toInt_lt.mp z; omega), Bool.and_false]
      rfl
    · have h3 : c < 6 := by
        have h2 : ¬ (6 : Int32).toInt ≤ c.toInt := fun z => c2 (Int32.le_iff_toInt_le.mpr z)
        exact Int32.lt_iff_toInt_lt.mpr (by omega)
      refine eMO_isBroker_10 ?_
      refine eMO_isBroker_11 ?_
      refine eMO_isBroker_15 rfl ⟨?_, rfl⟩
      rw [decide_eq_true h1, decide_eq_true h3]
      rfl
end

