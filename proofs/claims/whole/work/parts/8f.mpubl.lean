/-! The reference: publish, subscribe -/
/-- the word of a note, as it stands in the text -/
def pwV (g : Nat → Nat) (n : Nat) : Option Nat := if n = 0 then some 0 else wordV g 0 n
theorem pw_yes {g : Nat → Nat} {n : Nat} (h1 : ltN g n 5 0 = n) (h2 : n < 5) : pwV g n = some (wdN g 0 n 4 0 0) ∧ wdN g 0 n 4 0 0 < 1048576 ∧ ∀ i, i < n → 97 ≤ g (0 + i) := by
  obtain ⟨l1, l2, l3⟩ := ltN_spec (g := g) (e := n) 5 0
  rw [h1] at l2
  unfold pwV
  by_cases c : n = 0
  · subst c
    exact ⟨rfl, (by show (0 : Nat) < 1048576; decide), fun i hi => absurd hi (Nat.not_lt_zero _)⟩
  · rw [if_neg c]
    obtain ⟨a, b⟩ := wordV_yes (g := g) (k := 0) (n := n) (by omega) (by omega) (fun i hi => (l2 i hi).2)
    rw [Nat.zero_add] at a
    exact ⟨a, b.1, fun i hi => (l2 i hi).2.1⟩
theorem pw_no {g : Nat → Nat} {n : Nat} (h : ¬ (ltN g n 5 0 = n ∧ ltN g n 5 0 < 5)) : pwV g n = none := by
  obtain ⟨l1, l2, l3⟩ := ltN_spec (g := g) (e := n) 5 0
  have c : n ≠ 0 := by
    intro z
    subst z
    apply h
    have : ltN g 0 5 0 = 0 := by
      refine Classical.byContradiction fun q => ?_
      have := (l2 0 (by omega)).1
      omega
    rw [this]
    decide
  unfold pwV
  rw [if_neg c]
  by_cases c2 : ltN g n 5 0 < 5
  · have c3 : ltN g n 5 0 < n := by
      refine Classical.byContradiction fun q => h ⟨?_, c2⟩
      refine Nat.le_antisymm ?_ (by omega)
      refine Classical.byContradiction fun q2 => ?_
      have := (l2 n (by omega)).1
      omega
    exact wordV_no (i := ltN g n 5 0) (by omega) (l3 c2 (by omega))
  · refine wordV_long ?_
    have := (l2 4 (by omega)).1
    omega
section
variable {p : Nat → Nat} {S S' : bS} {F : Nat → sp3} {T H M : Nat → List Nat} {fr fr' : Nat → Nat} {ze ze' : Nat → Int32} {si si' : Nat → Nat → Int32}
def pbS (S : bS) (q : Nat × Int32 × Int32 × Int32) : bS := bs_N (bs_n S 0) (b_N S ++ [q])
theorem isM.pb {q : Nat × Int32 × Int32 × Int32} {w : Nat} (k : isM p S F T H fr M ze si) (hl : (b_N S).length < 512) (ha : -999 ≤ q.2.1.toInt ∧ q.2.1.toInt ≤ 1000) (hb : -999 ≤ q.2.2.1.toInt ∧ q.2.2.1.toInt ≤ 1000) (hw : q.2.2.2 = nI w) (hw2 : w < 1048576) (hz1 : ze 1 = 0) :
  isM p (pbS S q) F T H fr M (upd ze 5 (nI ((b_N S).length + 1))) (va_up (va_up (va_up si 27 (upd (si 27) (b_N S).length q.2.1)) 28 (upd (si 28) (b_N S).length q.2.2.1)) 29 (upd (si 29) (b_N S).length q.2.2.2)) := by
  obtain ⟨a1, a2, a3, a4, a5, a6, a7, a8, a9, a10, a11, a12⟩ := k
  have eN : b_N (pbS S q) = b_N S ++ [q] := rfl
  refine ⟨⟨a1.1, hz1, Nat.zero_le _, a1.2.2.2⟩, a2, a3, fun f hf => (a4 f hf).kA (fun K h1 h2 => (if_neg (show K ≠ 29 by omega)).trans ((if_neg (show K ≠ 28 by omega)).trans (if_neg (show K ≠ 27 by omega)))), a5, ⟨?_, ?_, fun i r hr => ?_⟩, a7, a8, a9, ⟨a10.1, fun j hj => ⟨(a10.2 j hj).1, fun x hx => ⟨((a10.2 j hj).2 x hx).1, ((a10.2 j hj).2 x hx).2.1, fun z => ?_⟩⟩⟩, a11, a12⟩
  · rw [eN, List.length_append]
    exact pk_us
  · rw [eN, List.length_append]
    show _ + 1 ≤ 512
    omega
  · rw [eN] at hr
    show (upd (si 27) (b_N S).length q.2.1 i = _ ∧ upd (si 28) (b_N S).length q.2.2.1 i = _ ∧ upd (si 29) (b_N S).length q.2.2.2 i = _) ∧ _
    by_cases e : i = (b_N S).length
    · subst e
      rw [List.getElem?_append_right (Nat.le_refl _), Nat.sub_self] at hr
      have er : q = r := Option.some.inj hr
      subst er
      rw [pk_us, pk_us, pk_us]
      exact ⟨⟨rfl, rfl, rfl⟩, ha, hb, w, hw, hw2⟩
    · have h3 := (List.getElem?_eq_some_iff.mp hr).1
      rw [List.length_append, List.length_singleton] at h3
      rw [List.getElem?_append_left (by omega)] at hr
      rw [pk_un e, pk_un e, pk_un e]
      exact a6.2.2 i r hr
  · have := ((a10.2 j hj).2 x hx).2.2 z
    rw [eN, List.length_append]
    show _ < _ + 1
    omega
end
section
variable {P : x_P} {d : Nat} {h0 : x_H} {bm : Nat} {p : Nat → Nat} {S : bS} {F : Nat → sp3} {T H M : Nat → List Nat} {fr : Nat → Nat} {ze : Nat → Int32} {si : Nat → Nat → Int32} {Φ : Outcome → x_H → Prop}
/-- up to 61: the text is read -/
theorem kMO_publ {c a b : Int32} (k : isM p S F T H fr M ze si)
  (kk : ∀ v4, (∀ w, pwV (b_g S) (b_n S) = some w → w < 1048576) → x_K P (d + 3) mMO_publish 61 [some (.ref bm), some (.int c), some (.int a), some (.int b), v4, some (.int (b2i (pwV (b_g S) (b_n S)).isSome)), some (.int (nI ((pwV (b_g S) (b_n S)).getD 0)))] [] (mh h0 bm (upd (upd ze 0 0) 1 0) si) Φ) :
  x_K P (d + 3) mMO_publish 0 [some (.ref bm), some (.int c), some (.int a), some (.int b), none, none, none] [] (mh h0 bm ze si) Φ := by
  have k1 := k.flt 0 (x := 0) rfl
  have e1 : upd ze 0 0 1 = nI (b_n S) := k1.1.2.1
  have kt : mTx (si 1) (b_g S) := k.1.1
  have hn := k.1.2.2.1
  have hL := (sMO_lettersAt (P := P) (d := d + 1) (h0 := h0) (bm := bm) (ze := upd ze 0 0) (k := 0) (e := b_n S) kt hn (by decide))
  obtain ⟨l1, -, -⟩ := ltN_spec (g := b_g S) (e := b_n S) 5 0
  by_cases c1 : ltN (b_g S) (b_n S) 5 0 = b_n S
  · by_cases c2 : b_n S < 5
    · obtain ⟨q1, q2, q3⟩ := pw_yes c1 c2
      rw [q1] at kk
      rw [c1] at hL
      refine eMO_publish_0 rfl ?_
      refine eMO_publish_1 ?_
      refine eMO_publish_2 mh_o (Nat.le_of_ble_eq_true rfl) ?_
      rw [mh_f0]
      refine eMO_publish_5 rfl ?_
      refine eMO_publish_6 ?_
      refine eMO_publish_7 rfl ?_
      refine eMO_publish_8 mh_o rfl ?_
      rw [e1]
      refine eMO_publish_11 mh_o (Nat.le_of_ble_eq_true rfl) (hL) ?_
      rintro _ _ ⟨rfl, rfl⟩
      refine ⟨_, rfl, ?_⟩
      refine eMO_publish_14 ?_
      refine eMO_publish_16 ?_
      refine eMO_publish_18 rfl ?_
      refine eMO_publish_19 mh_o rfl ?_
      rw [e1]
      refine eMO_publish_22 (fun z => absurd rfl z) (fun c22 => ?_)
      refine eMO_publish_25 ?_
      refine eMO_publish_27 ?_
      refine eMO_publish_28 (fun z => absurd z (nI_ge (b := 5) c2 (by decide))) (fun c28 => ?_)
      refine eMO_publish_31 ?_
      refine eMO_publish_32 ?_
      refine eMO_publish_36 ?_
      refine eMO_publish_38 ?_
      refine eMO_publish_40 (fun z => absurd z (by decide)) (fun c40 => ?_)
      refine eMO_publish_43 rfl ?_
      refine eMO_publish_44 ?_
      refine eMO_publish_45 ?_
      refine eMO_publish_47 mh_o (Nat.le_of_ble_eq_true rfl) ((sMO_wordAt (k := 0) (n := b_n S) kt (by omega) (by omega) q3)) ?_
      rintro _ _ ⟨rfl, rfl⟩
      refine ⟨_, rfl, ?_⟩
      refine eMO_publish_50 ?_
      refine eMO_publish_54 ?_
      refine eMO_publish_56 rfl ?_
      refine eMO_publish_57 ?_
      refine eMO_publish_58 mh_o (Nat.le_of_ble_eq_true rfl) ?_
      rw [mh_f1]
      exact kk _ (fun w hw => by rw [← Option.some.inj hw]; exact q2)
    · have q1 := pw_no (g := b_g S) (n := b_n S) (fun z => by omega)
      rw [q1] at kk
      rw [c1] at hL
      refine eMO_publish_0 rfl ?_
      refine eMO_publish_1 ?_
      refine eMO_publish_2 mh_o (Nat.le_of_ble_eq_true rfl) ?_
      rw [mh_f0]
      refine eMO_publish_5 rfl ?_
      refine eMO_publish_6 ?_
      refine eMO_publish_7 rfl ?_
      refine eMO_publish_8 mh_o rfl ?_
      rw [e1]
      refine eMO_publish_11 mh_o (Nat.le_of_ble_eq_true rfl) (hL) ?_
      rintro _ _ ⟨rfl, rfl⟩
      refine ⟨_, rfl, ?_⟩
      refine eMO_publish_14 ?_
      refine eMO_publish_16 ?_
      refine eMO_publish_18 rfl ?_
      refine eMO_publish_19 mh_o rfl ?_
      rw [e1]
      refine eMO_publish_22 (fun z => absurd rfl z) (fun c22 => ?_)
      refine eMO_publish_25 ?_
      refine eMO_publish_27 ?_
      refine eMO_publish_28 (fun c28 => ?_) (fun z => absurd (nI_le (a := 5) (by omega) (by omega)) z)
      refine eMO_publish_35 ?_
      refine eMO_publish_36 ?_
      refine eMO_publish_38 ?_
      refine eMO_publish_40 (fun c40 => ?_) (fun z => absurd rfl z)
      refine eMO_publish_53 ?_
      refine eMO_publish_54 ?_
      refine eMO_publish_56 rfl ?_
      refine eMO_publish_57 ?_
      refine eMO_publish_58 mh_o (Nat.le_of_ble_eq_true rfl) ?_
      rw [mh_f1]
      exact kk _ (fun w hw => by cases hw)
  · have q1 := pw_no (g := b_g S) (n := b_n S) (fun z => c1 z.1)
    rw [q1] at kk
    refine eMO_publish_0 rfl ?_
    refine eMO_publish_1 ?_
    refine eMO_publish_2 mh_o (Nat.le_of_ble_eq_true rfl) ?_
    rw [mh_f0]
    refine eMO_publish_5 rfl ?_
    refine eMO_publish_6 ?_
    refine eMO_publish_7 rfl ?_
    refine eMO_publish_8 mh_o rfl ?_
    rw [e1]
    refine eMO_publish_11 mh_o (Nat.le_of_ble_eq_true rfl) (hL) ?_
    rintro _ _ ⟨rfl, rfl⟩
    refine ⟨_, rfl, ?_⟩
    refine eMO_publish_14 ?_
    refine eMO_publish_16 ?_
    refine eMO_publish_18 rfl ?_
    refine eMO_publish_19 mh_o rfl ?_
    rw [e1]
    refine eMO_publish_22 (fun c22 => ?_) (fun z => absurd ((nI_eq (by omega) (by omega)).mp z) c1)
    refine eMO_publish_35 ?_
    refine eMO_publish_36 ?_
    refine eMO_publish_38 ?_
    refine eMO_publish_40 (fun c40 => ?_) (fun z => absurd rfl z)
    refine eMO_publish_53 ?_
    refine eMO_publish_54 ?_
    refine eMO_publish_56 rfl ?_
    refine eMO_publish_57 ?_
    refine eMO_publish_58 mh_o (Nat.le_of_ble_eq_true rfl) ?_
    rw [mh_f1]
    exact kk _ (fun w hw => by cases hw)
theorem sMO_publT {c a b : Int32} (k : isM p S F T H fr M ze si) (hbad : ¬ ((0 ≤ c ∧ c < 8) ∧ (-999 ≤ a ∧ a ≤ 1000) ∧ (-999 ≤ b ∧ b ≤ 1000)) ∨ pwV (b_g S) (b_n S) = none) : x_K P (d + 3) mMO_publish 0 [some (.ref bm), some (.int c), some (.int a), some (.int b), none, none, none] [] (mh h0 bm ze si) (fun oc h' => oc = .returned (some (.int 0)) ∧ ∃ ze' si', h' = mh h0 bm ze' si' ∧ isM p (bs_n S 0) F T H (ub fr 18 1) M ze' si') := by
  refine kMO_publ k (fun v4 _ => ?_)
  have k2 := ((k.flt 0 (x := 0) rfl).n0).flt 1 (x := 1) rfl
  rw [ub_ub] at k2
  have fin : ∀ v5 v6, x_K P (d + 3) mMO_publish 101 [some (.ref bm), some (.int c), some (.int a), some (.int b), v4, v5, v6] [] (mh h0 bm (upd (upd ze 0 0) 1 0) si) (fun oc h' => oc = .returned (some (.int 0)) ∧ ∃ ze' si', h' = mh h0 bm ze' si' ∧ isM p (bs_n S 0) F T H (ub fr 18 1) M ze' si') := by
    intro v5 v6
    refine eMO_publish_101 rfl ?_
    refine eMO_publish_102 ?_
    refine eMO_publish_103 mh_o (Nat.le_of_ble_eq_true rfl) sMO_fails ?_
    rintro _ _ ⟨rfl, rfl⟩
    refine ⟨_, rfl, ?_⟩
    exact eMO_publish_106 ⟨rfl, _, _, rfl, k2⟩
  cases c1 : (decide (0 ≤ c) && decide (c < 8)) with
  | false =>
    refine eMO_publish_61 ?_
    refine eMO_publish_62 (Nat.le_of_ble_eq_true rfl) (sMO_isClient) ?_
    rintro _ _ ⟨rfl, rfl⟩
    refine ⟨_, rfl, ?_⟩
    rw [c1]
    refine eMO_publish_65 (fun c65 => ?_) (fun z => absurd rfl z)
    exact fin _ _
  | true =>
    by_cases c2 : a < -999
    · refine eMO_publish_61 ?_
      refine eMO_publish_62 (Nat.le_of_ble_eq_true rfl) (sMO_isClient) ?_
      rintro _ _ ⟨rfl, rfl⟩
      refine ⟨_, rfl, ?_⟩
      rw [c1]
      refine eMO_publish_65 (fun z => absurd z (by decide)) (fun c65 => ?_)
      refine eMO_publish_68 ?_
      refine eMO_publish_69 ?_
      refine eMO_publish_72 (fun c72 => ?_) (fun z => absurd c2 z)
      exact fin _ _
    · by_cases c3 : 1000 < a
      · refine eMO_publish_61 ?_
        refine eMO_publish_62 (Nat.le_of_ble_eq_true rfl) (sMO_isClient) ?_
        rintro _ _ ⟨rfl, rfl⟩
        refine ⟨_, rfl, ?_⟩
        rw [c1]
        refine eMO_publish_65 (fun z => absurd z (by decide)) (fun c65 => ?_)
        refine eMO_publish_68 ?_
        refine eMO_publish_69 ?_
        refine eMO_publish_72 (fun z => absurd z c2) (fun c72 => ?_)
        refine eMO_publish_75 ?_
        refine eMO_publish_76 ?_
        refine eMO_publish_79 (fun c79 => ?_) (fun z => absurd c3 z)
        exact fin _ _
      · by_cases c4 : b < -999
        · refine eMO_publish_61 ?_
          refine eMO_publish_62 (Nat.le_of_ble_eq_true rfl) (sMO_isClient) ?_
          rintro _ _ ⟨rfl, rfl⟩
          refine ⟨_, rfl, ?_⟩
          rw [c1]
          refine eMO_publish_65 (fun z => absurd z (by decide)) (fun c65 => ?_)
          refine eMO_publish_68 ?_
          refine eMO_publish_69 ?_
          refine eMO_publish_72 (fun z => absurd z c2) (fun c72 => ?_)
          refine eMO_publish_75 ?_
          refine eMO_publish_76 ?_
          refine eMO_publish_79 (fun z => absurd z c3) (fun c79 => ?_)
          refine eMO_publish_82 ?_
          refine eMO_publish_83 ?_
          refine eMO_publish_86 (fun c86 => ?_) (fun z => absurd c4 z)
          exact fin _ _
        · by_cases c5 : 1000 < b
          · refine eMO_publish_61 ?_
            refine eMO_publish_62 (Nat.le_of_ble_eq_true rfl) (sMO_isClient) ?_
            rintro _ _ ⟨rfl, rfl⟩
            refine ⟨_, rfl, ?_⟩
            rw [c1]
            refine eMO_publish_65 (fun z => absurd z (by decide)) (fun c65 => ?_)
            refine eMO_publish_68 ?_
            refine eMO_publish_69 ?_
            refine eMO_publish_72 (fun z => absurd z c2) (fun c72 => ?_)
            refine eMO_publish_75 ?_
            refine eMO_publish_76 ?_
            refine eMO_publish_79 (fun z => absurd z c3) (fun c79 => ?_)
            refine eMO_publish_82 ?_
            refine eMO_publish_83 ?_
            refine eMO_publish_86 (fun z => absurd z c4) (fun c86 => ?_)
            refine eMO_publish_89 ?_
            refine eMO_publish_90 ?_
            refine eMO_publish_93 (fun c93 => ?_) (fun z => absurd c5 z)
            exact fin _ _
          · have hN : pwV (b_g S) (b_n S) = none := by
              refine hbad.resolve_left (fun z => z ?_)
              rw [Bool.and_eq_true, decide_eq_true_eq, decide_eq_true_eq] at c1
              exact ⟨c1, ⟨Int32.not_lt.mp c2, Int32.not_lt.mp c3⟩, ⟨Int32.not_lt.mp c4, Int32.not_lt.mp c5⟩⟩
            rw [hN]
            refine eMO_publish_61 ?_
            refine eMO_publish_62 (Nat.le_of_ble_eq_true rfl) (sMO_isClient) ?_
            rintro _ _ ⟨rfl, rfl⟩
            refine ⟨_, rfl, ?_⟩
            rw [c1]
            refine eMO_publish_65 (fun z => absurd z (by decide)) (fun c65 => ?_)
            refine eMO_publish_68 ?_
            refine eMO_publish_69 ?_
            refine eMO_publish_72 (fun z => absurd z c2) (fun c72 => ?_)
            refine eMO_publish_75 ?_
            refine eMO_publish_76 ?_
            refine eMO_publish_79 (fun z => absurd z c3) (fun c79 => ?_)
            refine eMO_publish_82 ?_
            refine eMO_publish_83 ?_
            refine eMO_publish_86 (fun z => absurd z c4) (fun c86 => ?_)
            refine eMO_publish_89 ?_
            refine eMO_publish_90 ?_
            refine eMO_publish_93 (fun z => absurd z c5) (fun c93 => ?_)
            refine eMO_publish_96 ?_
            refine eMO_publish_98 (fun z => absurd rfl z) (fun c98 => ?_)
            exact fin _ _
theorem sMO_publish {c w q : Nat} {a b : Int32} (k : isM p S F T H fr M ze si) (hc : c < 8) (ha : -999 ≤ a ∧ a ≤ 1000) (hb : -999 ≤ b ∧ b ≤ 1000) (hw : pwV (b_g S) (b_n S) = some w) (hl : (b_N S).length < 512)
  (hq : ∀ j, j < 10 → fr j + (b_Q (handleF p (c % 6) (b_N S).length (-1) (a, b, nI w) (pbS S (q, a, b, nI w))) j).length ≤ 1000) (hq2 : ∀ c', c' < 8 → fr (10 + c') + (b_Q (handleF p (c % 6) (b_N S).length (-1) (a, b, nI w) (pbS S (q, a, b, nI w))) (10 + c')).length ≤ 520) :
  x_K P (d + 3) mMO_publish 0 [some (.ref bm), some (.int (nI c)), some (.int a), some (.int b), none, none, none] [] (mh h0 bm ze si) (fun oc h' => oc = .returned (some (.int (nI (b_N S).length))) ∧ ∃ ze' si' M', h' = mh h0 bm ze' si' ∧ isM p (handleF p (c % 6) (b_N S).length (-1) (a, b, nI w) (pbS S (q, a, b, nI w))) F T H (ub fr 18 0) M' ze' si') := by
  refine kMO_publ k (fun v4 hw2 => ?_)
  have hwb := hw2 w hw
  rw [hw]
  have k1 := k.flt 0 (x := 0) rfl
  have i1 : ∀ x : Int32, -999 ≤ x ∧ x ≤ 1000 → -999 ≤ x.toInt ∧ x.toInt ≤ 1000 := fun x hx => by
    obtain ⟨c1, c2, c3⟩ := i999
    have h1 := Int32.le_iff_toInt_le.mp hx.1
    have h2 := Int32.le_iff_toInt_le.mp hx.2
    rw [c1] at h1
    rw [c3] at h2
    exact ⟨h1, h2⟩
  have k1n := k1.n0
  have k2 := k1n.pb (q := (q, a, b, nI w)) (w := w) hl (i1 a ha) (i1 b hb) rfl hwb pk_us
  have e5 : upd (upd ze 0 0) 1 0 5 = nI (b_N S).length := k1n.2.2.2.2.2.1.1
  have ebs : pbS (bs_n S 0) (q, a, b, nI w) = pbS S (q, a, b, nI w) := rfl
  rw [ebs] at k2
  have e5' : upd (upd (upd ze 0 0) 1 0) 5 (nI ((b_N S).length + 1)) 5 = nI ((b_N S).length + 1) := pk_us
  have em : nI ((b_N S).length + 1) - 1 = nI (b_N S).length := nI_pred _
  have erem : nI c - nI c / 6 * 6 = nI (c % 6) := pk_rem (by omega) (by decide) (by decide)
  have hi : (b_N (pbS S (q, a, b, nI w)))[(b_N S).length]? = some (q, (a, b, nI w)) := by
    show (b_N S ++ [(q, a, b, nI w)])[(b_N S).length]? = _
    rw [List.getElem?_append_right (Nat.le_refl _), Nat.sub_self]
    rfl
  have hH := sMO_handle (P := P) (d := d) (h0 := h0) (bm := bm) (u := c % 6) (x := -1) k2 (by omega) hi (fun j hj => by rw [ub18 (by omega)]; exact hq j hj) (fun c' hc' => by rw [ub18 (by omega)]; exact hq2 c' hc')
  have e5'' : ∀ ze' si' M', isM p (handleF p (c % 6) (b_N S).length (-1) (a, b, nI w) (pbS S (q, a, b, nI w))) F T H (ub fr 18 0) M' ze' si' → ze' 5 = nI ((b_N S).length + 1) := by
    intro ze' si' M' k'
    have eN : b_N (handleF p (c % 6) (b_N S).length (-1) (a, b, nI w) (pbS S (q, a, b, nI w))) = b_N (pbS S (q, a, b, nI w)) := (lp_N (fun k S => hdL_N) _ _ _).trans (lp_N (fun k S => hdI_N) _ _ _)
    rw [k'.2.2.2.2.2.1.1, eN]
    show nI (b_N S ++ [(q, a, b, nI w)]).length = _
    rw [List.length_append]
    rfl
  refine eMO_publish_61 ?_
  refine eMO_publish_62 (Nat.le_of_ble_eq_true rfl) (sMO_isClient) ?_
  rintro _ _ ⟨rfl, rfl⟩
  refine ⟨_, rfl, ?_⟩
  rw [isCl hc]
  refine eMO_publish_65 (fun z => absurd z (by decide)) (fun c65 => ?_)
  refine eMO_publish_68 ?_
  refine eMO_publish_69 ?_
  refine eMO_publish_72 (fun z => absurd ha.1 (Int32.not_le.mpr z)) (fun c72 => ?_)
  refine eMO_publish_75 ?_
  refine eMO_publish_76 ?_
  refine eMO_publish_79 (fun z => absurd ha.2 (Int32.not_le.mpr z)) (fun c79 => ?_)
  refine eMO_publish_82 ?_
  refine eMO_publish_83 ?_
  refine eMO_publish_86 (fun z => absurd hb.1 (Int32.not_le.mpr z)) (fun c86 => ?_)
  refine eMO_publish_89 ?_
  refine eMO_publish_90 ?_
  refine eMO_publish_93 (fun z => absurd hb.2 (Int32.not_le.mpr z)) (fun c93 => ?_)
  refine eMO_publish_96 ?_
  refine eMO_publish_98 (fun c98 => ?_) (fun z => absurd z (show ¬ b2i true = 0 by decide))
  refine eMO_publish_107 rfl ?_
  refine eMO_publish_108 mh_o rfl ?_
  refine eMO_publish_111 rfl ?_
  refine eMO_publish_112 mh_o rfl ?_
  rw [e5]
  refine eMO_publish_115 ?_
  refine eMO_publish_116 mh_a27 (xn_in (by omega) (by decide)) ?_
  rw [mh_p27, nI_clamp (by omega)]
  refine eMO_publish_117 rfl ?_
  refine eMO_publish_118 mh_o rfl ?_
  refine eMO_publish_121 rfl ?_
  refine eMO_publish_122 mh_o rfl ?_
  rw [e5]
  refine eMO_publish_125 ?_
  refine eMO_publish_126 mh_a28 (xn_in (by omega) (by decide)) ?_
  rw [mh_p28, nI_clamp (by omega)]
  refine eMO_publish_127 rfl ?_
  refine eMO_publish_128 mh_o rfl ?_
  refine eMO_publish_131 rfl ?_
  refine eMO_publish_132 mh_o rfl ?_
  rw [e5]
  refine eMO_publish_135 ?_
  refine eMO_publish_137 mh_a29 (xn_in (by omega) (by decide)) ?_
  rw [mh_p29, nI_clamp (by omega)]
  refine eMO_publish_138 rfl ?_
  refine eMO_publish_139 rfl ?_
  refine eMO_publish_140 mh_o rfl ?_
  rw [e5]
  refine eMO_publish_143 ?_
  refine eMO_publish_144 ?_
  rw [nI_1]
  refine eMO_publish_145 mh_o (Nat.le_of_ble_eq_true rfl) ?_
  rw [mh_f5]
  refine eMO_publish_148 rfl ?_
  refine eMO_publish_149 ?_
  refine eMO_publish_150 ?_
  refine eMO_publish_152 (by decide) ?_
  rw [erem]
  refine eMO_publish_153 rfl ?_
  refine eMO_publish_154 mh_o rfl ?_
  rw [e5']
  refine eMO_publish_157 ?_
  refine eMO_publish_158 ?_
  rw [em]
  refine eMO_publish_159 ?_
  refine eMO_publish_160 mh_o (Nat.le_of_ble_eq_true rfl) hH ?_
  rintro _ _ ⟨rfl, ze', si', M', rfl, k'⟩
  refine ⟨_, rfl, ?_⟩
  refine eMO_publish_163 rfl ?_
  refine eMO_publish_164 mh_o rfl ?_
  rw [e5'' ze' si' M' k']
  refine eMO_publish_167 ?_
  refine eMO_publish_168 ?_
  rw [em]
  exact eMO_publish_169 ⟨rfl, ze', si', M', rfl, k'⟩
end

