/-! a condition, and a filter out of a text -/
def addC (F : sp3) (g : Nat → Nat) (a b : Nat) : Option sp3 :=
  if b < a + 3 then none
  else if g a = 99 then (match wordV g (a + 2) b with | none => none | some w => (nword F.2.2 (g (a + 1)) w (b - a - 2)).map (fun T => (F.1, F.2.1, T)))
  else if g a = 97 then (match numV g (a + 2) b with | none => none | some v => (nnum F.1 (g (a + 1)) v).map (fun T => (T, F.2.1, F.2.2)))
  else if g a = 98 then (match numV g (a + 2) b with | none => none | some v => (nnum F.2.1 (g (a + 1)) v).map (fun T => (F.1, T, F.2.2)))
  else none
def fnE (g : Nat → Nat) (c s b : Nat) : Nat := if s ≤ b then fnd g c (b - s) s else b
def parseF (g : Nat → Nat) (b : Nat) : Nat → Nat → sp3 → Option sp3
  | 0, _, _ => none
  | j + 1, s, F => match addC F g s (fnE g 38 s b) with
    | none => none
    | some G => if fnE g 38 s b = b then some (fiT G) else parseF g b j (fnE g 38 s b + 1) G
def fi0 : sp3 := ((-999, 1000, []), (-999, 1000, []), (0, 1048575, []))
theorem numV_in {g : Nat → Nat} {a b : Nat} {v : Int32} (h : numV g a b = some v) : -1000 < v.toInt ∧ v.toInt < 1000 := by
  unfold numV at h
  have key : ∀ j k w, j ≤ 3 → numN g j k 0 = some w → w < 1000 := by
    intro j k w hj hw
    have h1 := (numN_lt g j k 0 w hw).2
    rw [Nat.zero_add, Nat.one_mul] at h1
    exact Nat.lt_of_lt_of_le h1 (Nat.pow_le_pow_right (n := 10) (by decide) hj)
  split at h
  · split at h
    · cases h
    · rename_i hc
      cases hw : numN g (b - (a + 1)) (a + 1) 0 with
      | none => rw [hw] at h; cases h
      | some w =>
        rw [hw] at h
        simp only [Option.map_some, Option.some.injEq] at h
        have hw3 := key _ _ _ (by omega) hw
        rw [← h, sb_negT (by omega)]
        omega
  · split at h
    · cases h
    · rename_i hc
      cases hw : numN g (b - a) a 0 with
      | none => rw [hw] at h; cases h
      | some w =>
        rw [hw] at h
        simp only [Option.map_some, Option.some.injEq] at h
        have hw3 := key _ _ _ (by omega) hw
        rw [← h, nI_toInt (by omega)]
        omega
theorem numV_ne {g : Nat → Nat} {a b : Nat} {v : Int32} (h : numV g a b = some v) : ¬ v = unread := by
  intro z
  have h1 := numV_in h
  rw [z, show unread.toInt = -2147483648 by decide] at h1
  omega
theorem wordV_lt {g : Nat → Nat} {a b v : Nat} (h : wordV g a b = some v) : v < 1048576 ∧ 1 ≤ b - a ∧ b - a ≤ 4 := by
  unfold wordV at h
  split at h
  · cases h
  · rename_i hc
    cases hw : wordN g (b - a) a 0 with
    | none => rw [hw] at h; cases h
    | some w =>
      rw [hw] at h
      simp only [Option.map_some, Option.some.injEq] at h
      have h1 := (wordN_lt g _ _ _ _ hw).2
      rw [Nat.zero_add, Nat.one_mul] at h1
      have h5 : w * 32 ^ (4 - (b - a)) < 32 ^ (b - a) * 32 ^ (4 - (b - a)) := Nat.mul_lt_mul_of_pos_right h1 (Nat.pow_pos (by decide))
      rw [← Nat.pow_add, show b - a + (4 - (b - a)) = 4 by omega] at h5
      exact ⟨by omega, by omega, by omega⟩
theorem isT.keep {h h' : x_H} {t n : Nat} {g : Nat → Nat} (k : isT h t n g) (o : h'.1 t = h.1 t) : isT h' t n g := by
  obtain ⟨f, a, b⟩ := k
  exact ⟨f, o.trans a, b⟩
def fiL (F : sp3) (n : Nat) : Prop := F.1.2.2.length ≤ n ∧ F.2.1.2.2.length ≤ n ∧ F.2.2.2.2.length ≤ n
theorem spK_ex (s : sp) (u v : Int32) : (spK s u v).2.2 = s.2.2 := rfl
theorem nnum_len {s T : sp} {g : Nat} {v : Int32} (h : nnum s g v = some T) : T.2.2.length ≤ s.2.2.length + 1 := by
  unfold nnum at h
  repeat' split at h
  all_goals first | cases h | skip
  all_goals simp [spK, spX]
theorem nword_len {s T : sp} {g v n : Nat} (h : nword s g v n = some T) : T.2.2.length ≤ s.2.2.length + 1 := by
  unfold nword at h
  repeat' split at h
  all_goals first | cases h | skip
  all_goals simp [spK, spX]
theorem addC_len {F G : sp3} {g : Nat → Nat} {a b n : Nat} (h : addC F g a b = some G) (hF : fiL F n) : fiL G (n + 1) := by
  obtain ⟨h1, h2, h3⟩ := hF
  unfold addC at h
  split at h
  · cases h
  · split at h
    · split at h
      · cases h
      · rename_i w _
        cases hq : nword F.2.2 (g (a + 1)) w (b - a - 2) with
        | none => rw [hq] at h; cases h
        | some T =>
          rw [hq] at h
          cases h
          have := nword_len hq
          exact ⟨by simp only; omega, by simp only; omega, by simp only; omega⟩
    · split at h
      · split at h
        · cases h
        · rename_i w _
          cases hq : nnum F.1 (g (a + 1)) w with
          | none => rw [hq] at h; cases h
          | some T =>
            rw [hq] at h
            cases h
            have := nnum_len hq
            exact ⟨by simp only; omega, by simp only; omega, by simp only; omega⟩
      · split at h
        · split at h
          · cases h
          · rename_i w _
            cases hq : nnum F.2.1 (g (a + 1)) w with
            | none => rw [hq] at h; cases h
            | some T =>
              rw [hq] at h
              cases h
              have := nnum_len hq
              exact ⟨by simp only; omega, by simp only; omega, by simp only; omega⟩
        · cases h
section
variable {P : x_P} {d : Nat} {h : x_H}
theorem sFI_narrowNumberU {u x : Value} : x_K P d mFI_narrowNumber 0 [some u, some x, some (.int unread)] [] h (fun oc h' => oc = .returned (some (.int 0)) ∧ h' = h) := by
  refine eFI_narrowNumber_0 ?_
  refine eFI_narrowNumber_1 ?_
  refine eFI_narrowNumber_3 (fun c => absurd rfl c) (fun _ => ?_)
  refine eFI_narrowNumber_6 ?_
  exact eFI_narrowNumber_7 rfl ⟨rfl, rfl⟩
theorem sFI_narrowWordU {u x y : Value} : x_K P d mFI_narrowWord 0 [some u, some x, some (.int unread), some y] [] h (fun oc h' => oc = .returned (some (.int 0)) ∧ h' = h) := by
  refine eFI_narrowWord_0 ?_
  refine eFI_narrowWord_1 ?_
  refine eFI_narrowWord_3 (fun c => absurd rfl c) (fun _ => ?_)
  refine eFI_narrowWord_6 ?_
  exact eFI_narrowWord_7 rfl ⟨rfl, rfl⟩
abbrev fiS (q : Nat) : List Nat := [q + 1, q + 2, q + 3, q + 4, q + 5, q + 6]
theorem sFI_addCondition {q t n a b : Nat} {g : Nat → Nat} {F : sp3} (k : isFi h q F) (kt : isT h t n g) (hL : fiL F 2) (hb : b ≤ n) (ha : a < 65536) : x_K P (d + 3) mFI_addCondition 0 [some (.ref q), some (.ref t), some (.int (nI a)), some (.int (nI b)), none, none] [] h (fun oc h' => (match addC F g a b with | none => oc = .returned (some (.int 0)) | some G => oc = .returned (some (.int 1)) ∧ isFi h' q G) ∧ x_only h h' (fiS q)) := by
  have kt0 := kt
  have kf0 := k
  obtain ⟨f, ht, hn, hf, hg⟩ := kt
  obtain ⟨ho, k1, k2, k3⟩ := k
  refine eFI_addCondition_0 ?_
  refine eFI_addCondition_1 (fun c => absurd c (nI_pos (by omega))) (fun _ => ?_)
  refine eFI_addCondition_4 ?_
  refine eFI_addCondition_5 rfl ?_
  refine eFI_addCondition_6 ht rfl ?_
  refine eFI_addCondition_7 (fun c => absurd c (nI_nlt hb (by omega))) (fun _ => ?_)
  refine eFI_addCondition_10 ?_
  refine eFI_addCondition_11 ?_
  refine eFI_addCondition_12 ?_
  refine eFI_addCondition_13 ?_
  have hsub : (nI b - nI a).toInt = (b : Int) - a := pk_sub_toInt (by omega) (by omega)
  refine eFI_addCondition_14 (fun c => ?_) (fun c => ?_)
  · have hab : ¬ b < a + 3 := by
      intro z
      rw [Int32.le_iff_toInt_le, hsub, show (3 : Int32).toInt = 3 by decide] at c
      omega
    have hga := hg a (by omega)
    have hga1 := hg (a + 1) (by omega)
    refine eFI_addCondition_19 rfl ?_
    refine eFI_addCondition_20 ?_
    refine eFI_addCondition_21 ht (xn_in (by omega) (by omega)) ?_
    refine eFI_addCondition_22 ?_
    rw [nI_clamp (by omega), hf a (by omega)]
    refine eFI_addCondition_24 rfl ?_
    refine eFI_addCondition_25 ?_
    refine eFI_addCondition_26 ?_
    refine eFI_addCondition_27 ?_
    rw [nI_1]
    refine eFI_addCondition_28 ht (xn_in (by omega) (by omega)) ?_
    refine eFI_addCondition_29 ?_
    refine eFI_addCondition_31 ?_
    refine eFI_addCondition_33 ?_
    rw [nI_clamp (by omega), hf (a + 1) (by omega)]
    refine eFI_addCondition_35 (fun c1 => ?_) (fun c1 => ?_)
    · have n99 : ¬ g a = 99 := fun z => c1 (by rw [z]; decide)
      refine eFI_addCondition_58 ?_
      refine eFI_addCondition_60 ?_
      have rest : ∀ (s : Nat) (S : sp) (mk : sp → sp3), isSp h s S.1 S.2.1 S.2.2 → S.2.2.length < 3 → (∀ x ∈ [s, s + 1], x ∈ fiS q) → (∀ (h2 : x_H) (T : sp), isSp h2 s T.1 T.2.1 T.2.2 → x_only h h2 [s, s + 1] → isFi h2 q (mk T)) →
          addC F g a b = (match numV g (a + 2) b with | none => none | some v => (nnum S (g (a + 1)) v).map mk) →
          x_K P (d + 3) mFI_addCondition 90 [some (.ref q), some (.ref t), some (.int (nI a)), some (.int (nI b)), some (.int (nI (g a))), some (.int (nI (g (a + 1))))] [.ref s] h (fun oc h' => (match addC F g a b with | none => oc = .returned (some (.int 0)) | some G => oc = .returned (some (.int 1)) ∧ isFi h' q G) ∧ x_only h h' (fiS q)) := by
        intro s S mk kS hS hin hmk hadd
        rw [hadd]
        refine eFI_addCondition_90 ?_
        refine eFI_addCondition_92 rfl ?_
        refine eFI_addCondition_93 ?_
        refine eFI_addCondition_94 ?_
        refine eFI_addCondition_95 ?_
        refine eFI_addCondition_96 ?_
        rw [show (2 : Int32) = nI 2 by decide, nI_add]
        refine eFI_addCondition_97 rfl (Nat.le_of_ble_eq_true rfl) (sTX_number kt0 hb (by omega)) ?_
        rintro _ h1 ⟨rfl, rfl⟩
        refine ⟨_, rfl, ?_⟩
        cases hv : numV g (a + 2) b with
        | none =>
          refine eFI_addCondition_100 rfl (Nat.le_of_ble_eq_true rfl) sFI_narrowNumberU ?_
          rintro _ h2 ⟨rfl, rfl⟩
          refine ⟨_, rfl, ?_⟩
          exact eFI_addCondition_103 rfl ⟨rfl, x_only.rf⟩
        | some v =>
          refine eFI_addCondition_100 rfl (Nat.le_of_ble_eq_true rfl) (sFI_narrowNumber (v := v) kS hS hga1 (numV_ne hv)) ?_
          rintro _ h2 ⟨hm, u2⟩
          cases hq : nnum S (g (a + 1)) v with
          | none =>
            rw [hq] at hm
            subst hm
            exact ⟨_, rfl, eFI_addCondition_103 rfl ⟨by simp [hq], u2.trans x_only.rf (S2 := []) hin (by simp)⟩⟩
          | some T =>
            rw [hq] at hm
            obtain ⟨rfl, kT⟩ := hm
            exact ⟨_, rfl, eFI_addCondition_103 rfl ⟨by simp only [hq, Option.map_some]; first | exact ⟨rfl, hmk h2 T kT u2⟩ | exact ⟨trivial, hmk h2 T kT u2⟩, u2.trans x_only.rf (S2 := []) hin (by simp)⟩⟩
      have restA : g a = 97 → x_K P (d + 3) mFI_addCondition 72 [some (.ref q), some (.ref t), some (.int (nI a)), some (.int (nI b)), some (.int (nI (g a))), some (.int (nI (g (a + 1))))] [] h (fun oc h' => (match addC F g a b with | none => oc = .returned (some (.int 0)) | some G => oc = .returned (some (.int 1)) ∧ isFi h' q G) ∧ x_only h h' (fiS q)) := by
        intro e97
        refine eFI_addCondition_72 ?_
        refine eFI_addCondition_74 ?_
        refine eFI_addCondition_76 (fun c2 => absurd (show nI (g a) = 97 by rw [e97]; decide) c2) (fun _ => ?_)
        refine eFI_addCondition_79 rfl ?_
        refine eFI_addCondition_80 ho rfl ?_
        refine eFI_addCondition_83 ?_
        refine rest (q + 1) F.1 (fun T => (T, F.2.1, F.2.2)) k1 (by have := hL.1; omega) (by simp) ?_ ?_
        · intro h2 T kT u2
          exact ⟨u2.at (by simp <;> omega) ho, kT, k2.keep (u2.2 _ (by simp <;> omega)) (u2.2 _ (by simp <;> omega)), k3.keep (u2.2 _ (by simp <;> omega)) (u2.2 _ (by simp <;> omega))⟩
        · unfold addC
          rw [if_neg hab, if_neg n99, if_pos e97]
      refine eFI_addCondition_62 (fun c2 => ?_) (fun c2 => ?_)
      · exact restA ((nI_eq (by omega) (by decide)).mp c2)
      · have n97 : ¬ g a = 97 := fun z => c2 (by rw [z]; decide)
        refine eFI_addCondition_65 ?_
        refine eFI_addCondition_67 ?_
        refine eFI_addCondition_69 (fun c3 => ?_) (fun c3 => ?_)
        · have n98 : ¬ g a = 98 := fun z => c3 (by rw [z]; decide)
          refine eFI_addCondition_104 ?_
          refine eFI_addCondition_105 rfl ⟨?_, x_only.rf⟩
          have hadd : addC F g a b = none := by unfold addC; rw [if_neg hab, if_neg n99, if_neg n97, if_neg n98]
          rw [hadd]
        · have e98 : g a = 98 := (nI_eq (by omega) (by decide)).mp c3
          refine eFI_addCondition_72 ?_
          refine eFI_addCondition_74 ?_
          refine eFI_addCondition_76 (fun _ => ?_) (fun c4 => absurd c4 c2)
          refine eFI_addCondition_86 rfl ?_
          refine eFI_addCondition_87 ho rfl ?_
          refine rest (q + 3) F.2.1 (fun T => (F.1, T, F.2.2)) k2 (by have := hL.2.1; omega) (by simp) ?_ ?_
          · intro h2 T kT u2
            exact ⟨u2.at (by simp <;> omega) ho, k1.keep (u2.2 _ (by simp <;> omega)) (u2.2 _ (by simp <;> omega)), kT, k3.keep (u2.2 _ (by simp <;> omega)) (u2.2 _ (by simp <;> omega))⟩
          · unfold addC
            rw [if_neg hab, if_neg n99, if_neg n97, if_pos e98]
    · have e99 : g a = 99 := (nI_eq (by omega) (by decide)).mp c1
      have hadd : addC F g a b = (match wordV g (a + 2) b with | none => none | some w => (nword F.2.2 (g (a + 1)) w (b - a - 2)).map (fun T => (F.1, F.2.1, T))) := by
        unfold addC
        rw [if_neg hab, if_pos e99]
      rw [hadd]
      refine eFI_addCondition_38 rfl ?_
      refine eFI_addCondition_39 ?_
      refine eFI_addCondition_41 rfl ?_
      refine eFI_addCondition_42 ?_
      refine eFI_addCondition_43 ?_
      refine eFI_addCondition_44 ?_
      refine eFI_addCondition_45 ?_
      rw [show (2 : Int32) = nI 2 by decide, nI_add]
      refine eFI_addCondition_46 rfl (Nat.le_of_ble_eq_true rfl) (sTX_word kt0 hb (by omega)) ?_
      rintro _ h1 ⟨rfl, rfl⟩
      refine ⟨_, rfl, ?_⟩
      refine eFI_addCondition_49 ?_
      refine eFI_addCondition_50 ?_
      refine eFI_addCondition_51 ?_
      refine eFI_addCondition_52 ?_
      refine eFI_addCondition_53 ?_
      rw [pk_sub (by omega), show (2 : Int32) = nI 2 by decide, pk_sub (by omega)]
      cases hv : wordV g (a + 2) b with
      | none =>
        refine eFI_addCondition_54 ho (Nat.le_of_ble_eq_true rfl) sFI_narrowWordU ?_
        rintro _ h2 ⟨rfl, rfl⟩
        refine ⟨_, rfl, ?_⟩
        exact eFI_addCondition_57 rfl ⟨rfl, x_only.rf⟩
      | some w =>
        have hw := wordV_lt hv
        refine eFI_addCondition_54 ho (Nat.le_of_ble_eq_true rfl) (sFI_narrowWord (v := w) kf0 (by have := hL.2.2; omega) hga1 hw.1 (by omega) (by omega)) ?_
        rintro _ h2 ⟨hm, u2⟩
        cases hq : nword F.2.2 (g (a + 1)) w (b - a - 2) with
        | none =>
          rw [hq] at hm
          subst hm
          exact ⟨_, rfl, eFI_addCondition_57 rfl ⟨by simp [hq], u2.trans x_only.rf (S2 := []) (by simp) (by simp)⟩⟩
        | some T =>
          rw [hq] at hm
          obtain ⟨rfl, kT⟩ := hm
          exact ⟨_, rfl, eFI_addCondition_57 rfl ⟨by simp only [hq, Option.map_some]; first | exact ⟨rfl, kT⟩ | exact ⟨trivial, kT⟩, u2.trans x_only.rf (S2 := []) (by simp) (by simp)⟩⟩
  · have hab : b < a + 3 := by
      rw [Int32.le_iff_toInt_le, hsub, show (3 : Int32).toInt = 3 by decide] at c
      omega
    refine eFI_addCondition_17 ?_
    refine eFI_addCondition_18 rfl ⟨?_, x_only.rf⟩
    have hadd : addC F g a b = none := by unfold addC; rw [if_pos hab]
    rw [hadd]
theorem sTX_fnE {t n c a b : Nat} {g : Nat → Nat} (k0 : isT h t n g) (hc : c < 65536) (hb : b ≤ n) (ha : a < 65536) : x_K P d mTX_find 0 [some (.int (nI c)), some (.ref t), some (.int (nI a)), some (.int (nI b)), none] [] h (fun oc h' => oc = .returned (some (.int (nI (fnE g c a b)))) ∧ h' = h) := by
  unfold fnE
  split
  · rename_i hab
    exact sTX_find k0 hc hb hab
  · exact sTX_findE ha (by omega)
theorem fnE_le {g : Nat → Nat} {c a b : Nat} : fnE g c a b ≤ b := by
  unfold fnE
  split
  · have := (fnd_le g c (b - a) a).2
    omega
  · omega
theorem lFI_parse {q t n a b : Nat} {g : Nat → Nat} (hb : b ≤ n) (hn : n < 65000) (htq : t < q) : ∀ (j k s : Nat) (F : sp3) (h1 : x_H) (v6 : Option Value), k + j = 3 → s ≤ b + 1 → isFi h1 q F → isT h1 t n g → fiL F k → x_K P (d + 4) mFI_parse 14 [some (.ref t), some (.int (nI a)), some (.int (nI b)), some (.ref q), some (.int (nI s)), some (.int (nI k)), v6] [] h1 (fun oc h' => (match parseF g b j s F with | none => oc = .returned (some .null) | some G => oc = .returned (some (.ref q)) ∧ isFi h' q G) ∧ x_only h1 h' (fiS q)) := by
  intro j
  induction j with
  | zero =>
    intro k s F h1 v6 hk hs kF kt hL
    refine eFI_parse_14 ?_
    refine eFI_parse_16 ?_
    refine eFI_parse_17 (fun _ => ?_) (fun c => absurd (nI_le (a := 3) (by omega) (by omega)) c)
    refine eFI_parse_69 ?_
    exact eFI_parse_70 rfl ⟨rfl, x_only.rf⟩
  | succ j ih =>
    intro k s F h1 v6 hk hs kF kt hL
    refine eFI_parse_14 ?_
    refine eFI_parse_16 ?_
    refine eFI_parse_17 (fun c => absurd c (nI_ge (b := 3) (by omega) (by decide))) (fun _ => ?_)
    refine eFI_parse_20 ?_
    refine eFI_parse_22 rfl ?_
    refine eFI_parse_23 ?_
    refine eFI_parse_25 ?_
    refine eFI_parse_26 rfl (Nat.le_of_ble_eq_true rfl) (sTX_fnE (c := 38) kt (by decide) hb (by omega)) ?_
    rintro _ h2 ⟨rfl, rfl⟩
    refine ⟨_, rfl, ?_⟩
    have he := fnE_le (g := g) (c := 38) (a := s) (b := b)
    refine eFI_parse_29 ?_
    refine eFI_parse_31 rfl ?_
    refine eFI_parse_32 rfl ?_
    refine eFI_parse_33 ?_
    refine eFI_parse_35 ?_
    refine eFI_parse_37 kF.1 rfl (Nat.le_of_ble_eq_true rfl) (sFI_addCondition kF kt (by obtain ⟨l1, l2, l3⟩ := hL; exact ⟨by omega, by omega, by omega⟩) (by omega) (by omega)) ?_
    rintro _ h3 ⟨hm, u3⟩
    simp only [parseF]
    cases hadd : addC F g s (fnE g 38 s b) with
    | none =>
      rw [hadd] at hm
      subst hm
      refine ⟨_, rfl, ?_⟩
      refine eFI_parse_40 (fun c => absurd rfl c) (fun _ => ?_)
      refine eFI_parse_43 ?_
      exact eFI_parse_44 rfl ⟨rfl, u3⟩
    | some G =>
      rw [hadd] at hm
      obtain ⟨rfl, kG⟩ := hm
      refine ⟨_, rfl, ?_⟩
      refine eFI_parse_40 (fun _ => ?_) (fun c => absurd c (by decide))
      refine eFI_parse_45 ?_
      refine eFI_parse_47 ?_
      have kt3 : isT h3 t n g := kt.keep (u3.2 t (by simp; omega))
      refine eFI_parse_48 (fun c => ?_) (fun c => ?_)
      · have hne : ¬ fnE g 38 s b = b := fun z => c (by rw [z])
        refine eFI_parse_57 ?_
        refine eFI_parse_59 ?_
        refine eFI_parse_60 ?_
        refine eFI_parse_61 ?_
        refine eFI_parse_63 ?_
        refine eFI_parse_66 ?_
        rw [nI_1, nI_1]
        simp only [if_neg hne]
        refine x_Kmono (ih (k + 1) (fnE g 38 s b + 1) G h3 _ (by omega) (by omega) kG kt3 (addC_len hadd hL)) (fun oc h' z => ⟨z.1, u3.trans z.2 (fun _ z => z) (fun _ z => z)⟩)
      · have heq : fnE g 38 s b = b := (nI_eq (by omega) (by omega)).mp c
        simp only [if_pos heq]
        refine eFI_parse_51 rfl ?_
        refine eFI_parse_52 kG.1 (Nat.le_of_ble_eq_true rfl) ((sFI_tighten kG).up (d := d + 2) (by omega)) ?_
        rintro _ h4 ⟨rfl, k4, u4⟩
        refine ⟨_, rfl, ?_⟩
        refine eFI_parse_55 rfl ?_
        exact eFI_parse_56 rfl ⟨⟨rfl, k4⟩, u3.trans u4 (fun _ z => z) (by simp)⟩
/-- a filter out of the text from a to b: seven cells come -/
theorem sFI_parse {t n a b : Nat} {g : Nat → Nat} (kt : isT h t n g) (hb : b ≤ n) (hn : n < 65000) (ha : a ≤ b + 1) (ht : t < h.2.1) : x_K P (d + 4) mFI_parse 0 [some (.ref t), some (.int (nI a)), some (.int (nI b)), none, none, none, none] [] h (fun oc h' => (match parseF g b 3 a fi0 with | none => oc = .returned (some .null) | some G => oc = .returned (some (.ref h.2.1)) ∧ isFi h' h.2.1 G) ∧ x_gr h h' 7 24 []) := by
  refine eFI_parse_0 ?_
  refine eFI_parse_3 rfl ?_
  refine eFI_parse_4 (Nat.le_of_ble_eq_true rfl) ((sFI_init (a := h.2.1) xw_eq rfl).up (d := d + 2) (by omega)) ?_
  rintro _ h1 ⟨rfl, k1, g1⟩
  refine ⟨_, rfl, ?_⟩
  have kt1 : isT h1 t n g := kt.keep ((g1.2.2 t (by show t < h.2.1 + 1; omega) (by simp; omega)).trans (by show (if t = h.2.1 then _ else _) = _; rw [if_neg (by omega)]))
  refine eFI_parse_7 rfl ?_
  refine eFI_parse_8 ?_
  refine eFI_parse_9 ?_
  refine eFI_parse_11 ?_
  refine eFI_parse_12 ?_
  rw [← nI_0]
  refine x_Kmono (lFI_parse hb hn ht 3 0 a fi0 h1 none (by omega) ha k1 kt1 ⟨by decide, by decide, by decide⟩) (fun oc h' z => ⟨z.1, ?_⟩)
  have u := z.2
  refine ⟨?_, ?_, fun q hq _ => ?_⟩
  · rw [u.1, g1.1]
    show h.2.1 + 1 + 6 = _
    omega
  · rw [u.1, g1.2.1]
    show h.2.2 + 3 + 21 = _
    omega
  · rw [u.2 q (by simp; omega), g1.2.2 q (by show q < h.2.1 + 1; omega) (by simp; omega)]
    show (if q = h.2.1 then _ else _) = _
    rw [if_neg (by omega)]
end

