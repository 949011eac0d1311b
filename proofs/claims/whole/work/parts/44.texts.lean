/-! Texts: a text is an array of chars whose places hold the numbers g -/
def isT (h : x_H) (t n : Nat) (g : Nat → Nat) : Prop := ∃ f : Nat → Int32, h.1 t = some (.inl (2, n, .inl f)) ∧ n < 65536 ∧ (∀ i, i < n → f i = nI (g i)) ∧ ∀ i, i < n → g i < 65536
def fnd (g : Nat → Nat) (c : Nat) : Nat → Nat → Nat
  | 0, k => k
  | j + 1, k => if g k = c then k else fnd g c j (k + 1)
theorem fnd_le (g : Nat → Nat) (c : Nat) : ∀ j k, k ≤ fnd g c j k ∧ fnd g c j k ≤ k + j := by
  intro j
  induction j with
  | zero => intro k; exact ⟨Nat.le_refl _, Nat.le_refl _⟩
  | succ j ih =>
    intro k
    simp only [fnd]
    split
    · omega
    · have := ih (k + 1)
      omega
def numN (g : Nat → Nat) : Nat → Nat → Nat → Option Nat
  | 0, _, acc => some acc
  | j + 1, k, acc => if 48 ≤ g k ∧ g k ≤ 57 then numN g j (k + 1) (10 * acc + (g k - 48)) else none
def wordN (g : Nat → Nat) : Nat → Nat → Nat → Option Nat
  | 0, _, acc => some acc
  | j + 1, k, acc => if 97 ≤ g k ∧ g k ≤ 122 then wordN g j (k + 1) (acc * 32 + (g k - 96)) else none
theorem numN_lt (g : Nat → Nat) : ∀ j k acc v, numN g j k acc = some v → acc * 10 ^ j ≤ v ∧ v < (acc + 1) * 10 ^ j := by
  intro j
  induction j with
  | zero =>
    intro k acc v h
    simp only [numN, Option.some.injEq] at h
    subst h
    simp
  | succ j ih =>
    intro k acc v h
    simp only [numN] at h
    split at h
    · rename_i hc
      have h1 := ih _ _ _ h
      rw [Nat.pow_succ]
      have e1 : acc * (10 ^ j * 10) = 10 * acc * 10 ^ j := by rw [Nat.mul_comm (10 ^ j) 10, ← Nat.mul_assoc, Nat.mul_comm acc 10]
      have e2 : (acc + 1) * (10 ^ j * 10) = (10 * acc + 10) * 10 ^ j := by rw [Nat.mul_comm (10 ^ j) 10, ← Nat.mul_assoc, Nat.add_mul, Nat.mul_comm acc 10]
      rw [e1, e2]
      constructor
      · exact Nat.le_trans (Nat.mul_le_mul_right _ (by omega)) h1.1
      · exact Nat.lt_of_lt_of_le h1.2 (Nat.mul_le_mul_right _ (by omega))
    · cases h
theorem wordN_lt (g : Nat → Nat) : ∀ j k acc v, wordN g j k acc = some v → acc * 32 ^ j ≤ v ∧ v < (acc + 1) * 32 ^ j := by
  intro j
  induction j with
  | zero =>
    intro k acc v h
    simp only [wordN, Option.some.injEq] at h
    subst h
    simp
  | succ j ih =>
    intro k acc v h
    simp only [wordN] at h
    split at h
    · rename_i hc
      have h1 := ih _ _ _ h
      rw [Nat.pow_succ]
      have e1 : acc * (32 ^ j * 32) = acc * 32 * 32 ^ j := by rw [Nat.mul_comm (32 ^ j) 32, ← Nat.mul_assoc]
      have e2 : (acc + 1) * (32 ^ j * 32) = (acc * 32 + 32) * 32 ^ j := by rw [Nat.mul_comm (32 ^ j) 32, ← Nat.mul_assoc, Nat.add_mul]
      rw [e1, e2]
      constructor
      · exact Nat.le_trans (Nat.mul_le_mul_right _ (by omega)) h1.1
      · exact Nat.lt_of_lt_of_le h1.2 (Nat.mul_le_mul_right _ (by omega))
    · cases h
def unread : Int32 := -2147483648
section
variable {P : x_P} {d : Nat} {h : x_H} {t n : Nat} {g : Nat → Nat}
theorem lTX_find {c a b : Nat} (k0 : isT h t n g) (hc : c < 65536) (hb : b ≤ n) : ∀ (j k : Nat), k + j = b → x_K P d mTX_find 3 [some (.int (nI c)), some (.ref t), some (.int (nI a)), some (.int (nI b)), some (.int (nI k))] [] h (fun oc h' => oc = .returned (some (.int (nI (fnd g c j k)))) ∧ h' = h) := by
  obtain ⟨f, ht, hn, hf, hg⟩ := k0
  intro j
  induction j with
  | zero =>
    intro k hk
    refine eTX_find_3 ?_
    refine eTX_find_5 ?_
    refine eTX_find_6 (fun _ => ?_) (fun c9 => absurd (nI_le (by omega) (by omega)) c9)
    refine eTX_find_26 ?_
    refine eTX_find_27 ⟨?_, rfl⟩
    rw [show b = k by omega]
    rfl
  | succ j ih =>
    intro k hk
    refine eTX_find_3 ?_
    refine eTX_find_5 ?_
    refine eTX_find_6 (fun c9 => absurd c9 (nI_ge (by omega) (by omega))) (fun _ => ?_)
    refine eTX_find_9 rfl ?_
    refine eTX_find_10 ?_
    refine eTX_find_12 ht (xn_in (by omega) (by omega)) ?_
    refine eTX_find_13 ?_
    rw [nI_clamp (by omega), hf k (by omega)]
    have hgk := hg k (by omega)
    refine eTX_find_14 (fun c9 => ?_) (fun c9 => ?_)
    · refine eTX_find_20 ?_
      refine eTX_find_23 ?_
      rw [nI_1]
      have hne : ¬ g k = c := fun z => c9 (by rw [z])
      refine x_Kmono (ih (k + 1) (by omega)) (fun oc h' z => ⟨?_, z.2⟩)
      rw [z.1]
      simp only [fnd, if_neg hne]
    · refine eTX_find_17 ?_
      refine eTX_find_19 ⟨?_, rfl⟩
      have he : g k = c := (nI_eq (by omega) (by omega)).mp c9
      simp only [fnd, if_pos he]
theorem sTX_find {c a b : Nat} (k0 : isT h t n g) (hc : c < 65536) (hb : b ≤ n) (hab : a ≤ b) : x_K P d mTX_find 0 [some (.int (nI c)), some (.ref t), some (.int (nI a)), some (.int (nI b)), none] [] h (fun oc h' => oc = .returned (some (.int (nI (fnd g c (b - a) a)))) ∧ h' = h) := by
  refine eTX_find_0 ?_
  refine eTX_find_1 ?_
  exact lTX_find k0 hc hb (b - a) a (by omega)
/-- the part is empty, and begins behind its end -/
theorem sTX_findE {c a b : Nat} (ha : a < 65536) (hab : b ≤ a) : x_K P d mTX_find 0 [some (.int (nI c)), some (.ref t), some (.int (nI a)), some (.int (nI b)), none] [] h (fun oc h' => oc = .returned (some (.int (nI b))) ∧ h' = h) := by
  refine eTX_find_0 ?_
  refine eTX_find_1 ?_
  refine eTX_find_3 ?_
  refine eTX_find_5 ?_
  refine eTX_find_6 (fun _ => ?_) (fun c9 => absurd (nI_le hab (by omega)) c9)
  refine eTX_find_26 ?_
  exact eTX_find_27 ⟨rfl, rfl⟩
theorem lTX_number {a b s neg : Nat} (k0 : isT h t n g) (hb : b ≤ n) : ∀ (j k acc : Nat) (v7 : Option Value), k + j = b → x_K P d mTX_number 58 [some (.ref t), some (.int (nI a)), some (.int (nI b)), some (.int (nI neg)), some (.int (nI s)), some (.int (nI acc)), some (.int (nI k)), v7] [] h (fun oc h' => oc = .returned (some (.int (match numN g j k acc with | none => unread | some v => if nI neg = 0 then nI v else -(nI v)))) ∧ h' = h) := by
  obtain ⟨f, ht, hn, hf, hg⟩ := k0
  intro j
  induction j with
  | zero =>
    intro k acc v7 hk
    refine eTX_number_58 ?_
    refine eTX_number_60 ?_
    refine eTX_number_61 (fun _ => ?_) (fun c9 => absurd (nI_le (by omega) (by omega)) c9)
    refine eTX_number_106 ?_
    refine eTX_number_107 (fun c => ?_) (fun c => ?_)
    · refine eTX_number_116 ?_
      refine eTX_number_118 ⟨?_, rfl⟩
      simp only [numN, if_pos c]
    · refine eTX_number_110 ?_
      refine eTX_number_112 ?_
      refine eTX_number_113 ?_
      refine eTX_number_118 ⟨?_, rfl⟩
      simp only [numN, if_neg c]
  | succ j ih =>
    intro k acc v7 hk
    have hgk := hg k (by omega)
    refine eTX_number_58 ?_
    refine eTX_number_60 ?_
    refine eTX_number_61 (fun c9 => absurd c9 (nI_ge (by omega) (by omega))) (fun _ => ?_)
    refine eTX_number_64 rfl ?_
    refine eTX_number_65 ?_
    refine eTX_number_67 ht (xn_in (by omega) (by omega)) ?_
    refine eTX_number_68 ?_
    refine eTX_number_70 ?_
    refine eTX_number_72 ?_
    rw [nI_clamp (by omega), hf k (by omega)]
    refine eTX_number_74 (fun c => ?_) (fun c => ?_)
    · refine eTX_number_84 ?_
      refine eTX_number_86 ⟨?_, rfl⟩
      have h1 : g k < 48 := (nI_ltI (by omega) (by decide)).mp c
      simp only [numN]
      rw [if_neg (by omega)]
      rfl
    · have h1 : ¬ g k < 48 := fun z => c (nI_lt z (by decide))
      refine eTX_number_77 ?_
      refine eTX_number_79 ?_
      refine eTX_number_81 (fun c2 => ?_) (fun c2 => ?_)
      · have h2 : g k ≤ 57 := (nI_leI (by omega) (by decide)).mp c2
        refine eTX_number_87 ?_
        refine eTX_number_89 ?_
        refine eTX_number_91 ?_
        refine eTX_number_92 ?_
        refine eTX_number_94 ?_
        refine eTX_number_96 ?_
        refine eTX_number_97 ?_
        refine eTX_number_98 ?_
        refine eTX_number_100 ?_
        refine eTX_number_103 ?_
        rw [show (10 : Int32) = nI 10 by decide, show (48 : Int32) = nI 48 by decide, pk_mul, pk_sub (by omega), nI_add, nI_1]
        refine x_Kmono (ih (k + 1) (10 * acc + (g k - 48)) _ (by omega)) (fun oc h' z => ⟨?_, z.2⟩)
        rw [z.1]
        simp only [numN]
        rw [if_pos ⟨by omega, h2⟩]
      · refine eTX_number_84 ?_
        refine eTX_number_86 ⟨?_, rfl⟩
        have h2 : ¬ g k ≤ 57 := fun z => c2 (nI_le z (by decide))
        simp only [numN]
        rw [if_neg (by omega)]
        rfl
/-- what number answers for the part from a to b -/
def numV (g : Nat → Nat) (a b : Nat) : Option Int32 :=
  if g a = 45 then (if b - (a + 1) < 1 ∨ 3 < b - (a + 1) then none else (numN g (b - (a + 1)) (a + 1) 0).map (fun v => -(nI v)))
  else (if 3 < b - a then none else (numN g (b - a) a 0).map nI)
theorem sTX_number {a b : Nat} (k0 : isT h t n g) (hb : b ≤ n) (hab : a < b) : x_K P d mTX_number 0 [some (.ref t), some (.int (nI a)), some (.int (nI b)), none, none, none, none, none] [] h (fun oc h' => oc = .returned (some (.int ((numV g a b).getD unread))) ∧ h' = h) := by
  have k1 := k0
  obtain ⟨f, ht, hn, hf, hg⟩ := k0
  have hga := hg a (by omega)
  refine eTX_number_0 ?_
  refine eTX_number_1 ?_
  refine eTX_number_2 (fun c => absurd c (nI_ge hab (by omega))) (fun _ => ?_)
  refine eTX_number_5 rfl ?_
  refine eTX_number_6 ?_
  refine eTX_number_7 ht (xn_in (by omega) (by omega)) ?_
  refine eTX_number_8 ?_
  rw [nI_clamp (by omega), hf a (by omega)]
  have rest : ∀ (neg s : Nat), s ≤ b → (neg = 0 ∨ neg = 1) → x_K P d mTX_number 32 [some (.ref t), some (.int (nI a)), some (.int (nI b)), some (.int (nI neg)), some (.int (nI s)), none, none, none] [] h (fun oc h' => oc = .returned (some (.int (if b - s < 1 ∨ 3 < b - s then unread else match numN g (b - s) s 0 with | none => unread | some v => if nI neg = 0 then nI v else -(nI v)))) ∧ h' = h) := by
    intro neg s hs hneg
    refine eTX_number_32 ?_
    refine eTX_number_33 ?_
    refine eTX_number_35 ?_
    refine eTX_number_36 ?_
    rw [pk_sub hs, show (1 : Int32) = nI 1 by decide]
    refine eTX_number_37 (fun c => ?_) (fun c => ?_)
    · have h1 : b - s < 1 := (nI_ltI (by omega) (by decide)).mp c
      refine eTX_number_48 ?_
      refine eTX_number_50 ⟨?_, rfl⟩
      rw [if_pos (Or.inl h1)]
      rfl
    · have h1 : ¬ b - s < 1 := fun z => c (nI_lt z (by decide))
      refine eTX_number_40 ?_
      refine eTX_number_41 ?_
      refine eTX_number_43 ?_
      refine eTX_number_44 ?_
      rw [pk_sub hs, show (3 : Int32) = nI 3 by decide]
      refine eTX_number_45 (fun c2 => ?_) (fun c2 => ?_)
      · have h2 : b - s ≤ 3 := (nI_leI (by omega) (by decide)).mp c2
        refine eTX_number_51 ?_
        refine eTX_number_52 ?_
        refine eTX_number_54 ?_
        refine eTX_number_56 ?_
        rw [← nI_0]
        refine x_Kmono (lTX_number k1 hb (b - s) s 0 none (by omega)) (fun oc h' z => ⟨?_, z.2⟩)
        rw [z.1, if_neg (by omega)]
        rfl
      · have h2 : ¬ b - s ≤ 3 := fun z => c2 (nI_le z (by decide))
        refine eTX_number_48 ?_
        refine eTX_number_50 ⟨?_, rfl⟩
        rw [if_pos (Or.inr (by omega))]
        rfl
  refine eTX_number_10 (fun c => ?_) (fun c => ?_)
  · have hne : ¬ g a = 45 := fun z => c (by rw [z]; decide)
    refine eTX_number_17 ?_
    refine eTX_number_18 ?_
    refine eTX_number_19 ?_
    refine eTX_number_20 (fun _ => ?_) (fun c => absurd rfl c)
    refine eTX_number_29 ?_
    refine eTX_number_30 ?_
    refine x_Kmono (rest 0 a (by omega) (Or.inl rfl)) (fun oc h' z => ⟨?_, z.2⟩)
    rw [z.1]
    congr 3
    unfold numV
    rw [if_neg hne]
    by_cases h3 : 3 < b - a
    · rw [if_pos (Or.inr h3), if_pos h3]; rfl
    · rw [if_neg (by omega), if_neg h3]
      cases numN g (b - a) a 0 with
      | none => rfl
      | some v => simp [nI_0]
  · have he : g a = 45 := (nI_eq (by omega) (by decide)).mp c
    refine eTX_number_13 ?_
    refine eTX_number_14 ?_
    refine eTX_number_18 ?_
    refine eTX_number_19 ?_
    refine eTX_number_20 (fun c => absurd c (by decide)) (fun _ => ?_)
    refine eTX_number_23 ?_
    refine eTX_number_24 ?_
    refine eTX_number_25 ?_
    refine eTX_number_26 ?_
    refine eTX_number_30 ?_
    rw [nI_1]
    refine x_Kmono (rest 1 (a + 1) (by omega) (Or.inr rfl)) (fun oc h' z => ⟨?_, z.2⟩)
    rw [z.1]
    congr 3
    unfold numV
    rw [if_pos he]
    by_cases h3 : b - (a + 1) < 1 ∨ 3 < b - (a + 1)
    · rw [if_pos h3, if_pos h3]; rfl
    · rw [if_neg h3, if_neg h3]
      cases numN g (b - (a + 1)) (a + 1) 0 with
      | none => rfl
      | some v => rfl
theorem xn_or5 {a b : Nat} (hb : b < 32) : (nI a <<< ((5 : Int32) &&& 31)) ||| nI b = nI (a * 32 + b) := by
  have h1 : nI a <<< ((5 : Int32) &&& 31) = nI (a * 32) := by
    apply Int32.toBitVec_inj.mp
    apply BitVec.eq_of_toNat_eq
    rw [pk_shl (nI a) ((5 : Int32) &&& 31) 5 (by decide)]
    show (BitVec.ofNat 32 a).toNat * 2 ^ 5 % 2 ^ 32 = (BitVec.ofNat 32 (a * 32)).toNat
    rw [BitVec.toNat_ofNat, BitVec.toNat_ofNat]
    omega
  rw [h1, xn_or]
  congr 1
  rw [show a * 32 = a <<< 5 by rw [Nat.shiftLeft_eq], Nat.shiftLeft_add_eq_or_of_lt (by omega : b < 2 ^ 5)]
theorem lTX_word {a b : Nat} (k0 : isT h t n g) (hb : b ≤ n) (hab : a ≤ b) (h4 : b - a ≤ 4) : ∀ (j k acc : Nat) (v5 : Option Value), k + j = b → x_K P d mTX_word 22 [some (.ref t), some (.int (nI a)), some (.int (nI b)), some (.int (nI acc)), some (.int (nI k)), v5] [] h (fun oc h' => oc = .returned (some (.int (match wordN g j k acc with | none => unread | some v => nI v <<< (nI (5 * (4 - (b - a))) &&& 31)))) ∧ h' = h) := by
  obtain ⟨f, ht, hn, hf, hg⟩ := k0
  intro j
  induction j with
  | zero =>
    intro k acc v5 hk
    refine eTX_word_22 ?_
    refine eTX_word_24 ?_
    refine eTX_word_25 (fun _ => ?_) (fun c9 => absurd (nI_le (by omega) (by omega)) c9)
    refine eTX_word_69 ?_
    refine eTX_word_70 ?_
    refine eTX_word_71 ?_
    refine eTX_word_72 ?_
    refine eTX_word_73 ?_
    refine eTX_word_74 ?_
    refine eTX_word_75 ?_
    refine eTX_word_76 ?_
    refine eTX_word_77 ?_
    rw [pk_sub hab, show (4 : Int32) = nI 4 by decide, pk_sub h4, show (5 : Int32) = nI 5 by decide, pk_mul]
    exact eTX_word_78 ⟨rfl, rfl⟩
  | succ j ih =>
    intro k acc v5 hk
    have hgk := hg k (by omega)
    refine eTX_word_22 ?_
    refine eTX_word_24 ?_
    refine eTX_word_25 (fun c9 => absurd c9 (nI_ge (by omega) (by omega))) (fun _ => ?_)
    refine eTX_word_28 rfl ?_
    refine eTX_word_29 ?_
    refine eTX_word_31 ht (xn_in (by omega) (by omega)) ?_
    refine eTX_word_32 ?_
    refine eTX_word_34 ?_
    refine eTX_word_36 ?_
    rw [nI_clamp (by omega), hf k (by omega)]
    refine eTX_word_38 (fun c => ?_) (fun c => ?_)
    · refine eTX_word_48 ?_
      refine eTX_word_50 ⟨?_, rfl⟩
      have h1 : g k < 97 := (nI_ltI (by omega) (by decide)).mp c
      simp only [wordN]
      rw [if_neg (by omega)]
      rfl
    · have h1 : ¬ g k < 97 := fun z => c (nI_lt z (by decide))
      refine eTX_word_41 ?_
      refine eTX_word_43 ?_
      refine eTX_word_45 (fun c2 => ?_) (fun c2 => ?_)
      · have h2 : g k ≤ 122 := (nI_leI (by omega) (by decide)).mp c2
        refine eTX_word_51 ?_
        refine eTX_word_52 ?_
        refine eTX_word_53 ?_
        refine eTX_word_54 ?_
        refine eTX_word_56 ?_
        refine eTX_word_58 ?_
        refine eTX_word_59 ?_
        refine eTX_word_60 ?_
        refine eTX_word_61 ?_
        refine eTX_word_62 ?_
        refine eTX_word_63 ?_
        refine eTX_word_66 ?_
        rw [show (97 : Int32) = nI 97 by decide, pk_sub (by omega), nI_1, xn_or5 (by omega), nI_1]
        refine x_Kmono (ih (k + 1) (acc * 32 + (g k - 97 + 1)) _ (by omega)) (fun oc h' z => ⟨?_, z.2⟩)
        rw [z.1]
        simp only [wordN]
        rw [if_pos ⟨by omega, h2⟩, show g k - 97 + 1 = g k - 96 by omega]
      · refine eTX_word_48 ?_
        refine eTX_word_50 ⟨?_, rfl⟩
        have h2 : ¬ g k ≤ 122 := fun z => c2 (nI_le z (by decide))
        simp only [wordN]
        rw [if_neg (by omega)]
        rfl
/-- the code of the word from a to b -/
def wordV (g : Nat → Nat) (a b : Nat) : Option Nat := if b - a < 1 ∨ 4 < b - a then none else (wordN g (b - a) a 0).map (fun v => v * 32 ^ (4 - (b - a)))
theorem sTX_word {a b : Nat} (k0 : isT h t n g) (hb : b ≤ n) (hab : a ≤ b) : x_K P d mTX_word 0 [some (.ref t), some (.int (nI a)), some (.int (nI b)), none, none, none] [] h (fun oc h' => oc = .returned (some (.int (((wordV g a b).map nI).getD unread))) ∧ h' = h) := by
  have hn : n < 65536 := k0.choose_spec.2.1
  refine eTX_word_0 ?_
  refine eTX_word_1 ?_
  refine eTX_word_2 ?_
  refine eTX_word_3 ?_
  rw [pk_sub hab, show (1 : Int32) = nI 1 by decide]
  refine eTX_word_4 (fun c => ?_) (fun c => ?_)
  · have h1 : b - a < 1 := (nI_ltI (by omega) (by decide)).mp c
    refine eTX_word_14 ?_
    refine eTX_word_16 ⟨?_, rfl⟩
    unfold wordV
    rw [if_pos (Or.inl h1)]
    rfl
  · have h1 : ¬ b - a < 1 := fun z => c (nI_lt z (by decide))
    refine eTX_word_7 ?_
    refine eTX_word_8 ?_
    refine eTX_word_9 ?_
    refine eTX_word_10 ?_
    rw [pk_sub hab, show (4 : Int32) = nI 4 by decide]
    refine eTX_word_11 (fun c2 => ?_) (fun c2 => ?_)
    · have h2 : b - a ≤ 4 := (nI_leI (by omega) (by decide)).mp c2
      refine eTX_word_17 ?_
      refine eTX_word_18 ?_
      refine eTX_word_19 ?_
      refine eTX_word_20 ?_
      rw [← nI_0]
      refine x_Kmono (lTX_word k0 hb hab h2 (b - a) a 0 none (by omega)) (fun oc h' z => ⟨?_, z.2⟩)
      rw [z.1]
      unfold wordV
      rw [if_neg (by omega)]
      cases hw : wordN g (b - a) a 0 with
      | none => rfl
      | some v =>
        have hv := (wordN_lt g _ _ _ _ hw).2
        have hpow : 32 ^ (4 - (b - a)) = 2 ^ (5 * (4 - (b - a))) := by rw [Nat.pow_mul]
        have h20 : v * 2 ^ (5 * (4 - (b - a))) < 2 ^ 32 := by
          rw [← hpow]
          rw [Nat.zero_add, Nat.one_mul] at hv
          have h5 : v * 32 ^ (4 - (b - a)) < 32 ^ (b - a) * 32 ^ (4 - (b - a)) := Nat.mul_lt_mul_of_pos_right hv (Nat.pow_pos (by decide))
          rw [← Nat.pow_add, show b - a + (4 - (b - a)) = 4 by omega] at h5
          omega
        simp only [Option.map_some, Option.getD_some]
        rw [pk_shlN (nI (5 * (4 - (b - a))) &&& 31) (5 * (4 - (b - a))) (xn_s _ (by omega)) h20, hpow]
    · have h2 : ¬ b - a ≤ 4 := fun z => c2 (nI_le z (by decide))
      refine eTX_word_14 ?_
      refine eTX_word_16 ⟨?_, rfl⟩
      unfold wordV
      rw [if_pos (Or.inr (by omega))]
      rfl
theorem sTX_endings {n : Nat} (h1 : n ≤ 4) (h0 : 1 ≤ n) : x_K P d mTX_endings 0 [some (.int (nI n))] [] h (fun oc h' => oc = .returned (some (.int (nI (32 ^ (4 - n) - 1)))) ∧ h' = h) := by
  refine eTX_endings_0 ?_
  refine eTX_endings_1 ?_
  refine eTX_endings_2 ?_
  refine eTX_endings_3 ?_
  refine eTX_endings_4 ?_
  refine eTX_endings_5 ?_
  refine eTX_endings_6 ?_
  refine eTX_endings_7 ?_
  refine eTX_endings_8 ?_
  refine eTX_endings_9 ⟨?_, rfl⟩
  rw [show (4 : Int32) = nI 4 by decide, pk_sub h1, show (5 : Int32) = nI 5 by decide, pk_mul]
  have hn : n = 1 ∨ n = 2 ∨ n = 3 ∨ n = 4 := by omega
  rcases hn with rfl | rfl | rfl | rfl <;> decide
end

