/-! The reference: covers and matches, over records -/
theorem all_cons {α : Type} {p : α → Bool} {l : List α} {i : Nat} {w : α} (h : l[i]? = some w) : (l.drop i).all p = (p w && (l.drop (i + 1)).all p) := by
  have h1 := (List.getElem?_eq_some_iff.mp h)
  rw [List.drop_eq_getElem_cons h1.1, h1.2, List.all_cons]
section
variable {P : x_P} {d : Nat} {h0 : x_H} {bm : Nat} {ze : Nat → Int32} {si : Nat → Nat → Int32}
theorem tMO_cN {s t i : Nat} {w : Int32} {ex : List Int32} {T : sp} {acc : Bool} {Φ : Outcome → x_H → Prop} (hs : s < 36) (ht : t < 36) (ks : exR (si 5) (si 6) s ex) (kt : exR (si 5) (si 6) t T.2.2) (hT : acc = true → si 3 t = T.1 ∧ si 4 t = T.2.1) (hw : ex[i]? = some w)
  (kk : x_K P (d + 1) mMO_coversNumber 61 [some (.ref bm), some (.int (nI s)), some (.int (nI t)), some (.int (b2i (acc && !(spH T w)))), some (.int (nI (3 * s + (i + 1))))] [] (mh h0 bm ze si) Φ) :
  x_K P (d + 1) mMO_coversNumber 61 [some (.ref bm), some (.int (nI s)), some (.int (nI t)), some (.int (b2i acc)), some (.int (nI (3 * s + i)))] [] (mh h0 bm ze si) Φ := by
  have hl := ks.2.1
  have hi := (List.getElem?_eq_some_iff.mp hw).1
  cases acc with
  | false =>
    refine eMO_coversNumber_61 ?_
    refine eMO_coversNumber_63 ?_
    refine eMO_coversNumber_64 ?_
    refine eMO_coversNumber_65 ?_
    rw [mx3]
    refine eMO_coversNumber_66 rfl ?_
    refine eMO_coversNumber_67 mh_o rfl ?_
    refine eMO_coversNumber_70 ?_
    refine eMO_coversNumber_71 mh_a5 (xn_in hs (by decide)) ?_
    rw [nI_clamp (by omega)]
    rw [ks.1]
    refine eMO_coversNumber_72 ?_
    rw [nI_add]
    refine eMO_coversNumber_73 (fun c => absurd c (nI_ge (by omega) (by omega))) (fun c73 => ?_)
    refine eMO_coversNumber_76 ?_
    refine eMO_coversNumber_77 (fun c77 => ?_) (fun c => absurd rfl c)
    refine eMO_coversNumber_131 ?_
    refine eMO_coversNumber_132 ?_
    refine eMO_coversNumber_133 ?_
    refine eMO_coversNumber_136 ?_
    rw [nI_1]
    exact kk
  | true =>
    obtain ⟨e3, e4⟩ := hT rfl
    by_cases c1 : w < T.1
    · have hH : spH T w = false := by
        rw [← Bool.not_eq_true, spH_iff]
        exact fun z => by have := z.1; have := Int32.lt_iff_toInt_lt.mp c1; omega
      rw [hH] at kk
      refine eMO_coversNumber_61 ?_
      refine eMO_coversNumber_63 ?_
      refine eMO_coversNumber_64 ?_
      refine eMO_coversNumber_65 ?_
      rw [mx3]
      refine eMO_coversNumber_66 rfl ?_
      refine eMO_coversNumber_67 mh_o rfl ?_
      refine eMO_coversNumber_70 ?_
      refine eMO_coversNumber_71 mh_a5 (xn_in hs (by decide)) ?_
      rw [nI_clamp (by omega)]
      rw [ks.1]
      refine eMO_coversNumber_72 ?_
      rw [nI_add]
      refine eMO_coversNumber_73 (fun c => absurd c (nI_ge (by omega) (by omega))) (fun c73 => ?_)
      refine eMO_coversNumber_76 ?_
      refine eMO_coversNumber_77 (fun c => absurd c (by decide)) (fun c77 => ?_)
      refine eMO_coversNumber_80 rfl ?_
      refine eMO_coversNumber_81 mh_o rfl ?_
      refine eMO_coversNumber_84 ?_
      refine eMO_coversNumber_86 mh_a6 (xn_in (by omega) (by decide)) ?_
      rw [nI_clamp (by omega)]
      rw [ks.2.2 i w hw]
      refine eMO_coversNumber_87 rfl ?_
      refine eMO_coversNumber_88 mh_o rfl ?_
      refine eMO_coversNumber_91 ?_
      refine eMO_coversNumber_92 mh_a3 (xn_in ht (by decide)) ?_
      rw [nI_clamp (by omega)]
      rw [e3]
      refine eMO_coversNumber_93 (fun c93 => ?_) (fun c => absurd c1 c)
      refine eMO_coversNumber_127 ?_
      refine eMO_coversNumber_128 ?_
      refine eMO_coversNumber_132 ?_
      refine eMO_coversNumber_133 ?_
      refine eMO_coversNumber_136 ?_
      rw [nI_1]
      exact kk
    · by_cases c2 : T.2.1 < w
      · have hH : spH T w = false := by
          rw [← Bool.not_eq_true, spH_iff]
          exact fun z => by have := z.2.1; have := Int32.lt_iff_toInt_lt.mp c2; omega
        rw [hH] at kk
        refine eMO_coversNumber_61 ?_
        refine eMO_coversNumber_63 ?_
        refine eMO_coversNumber_64 ?_
        refine eMO_coversNumber_65 ?_
        rw [mx3]
        refine eMO_coversNumber_66 rfl ?_
        refine eMO_coversNumber_67 mh_o rfl ?_
        refine eMO_coversNumber_70 ?_
        refine eMO_coversNumber_71 mh_a5 (xn_in hs (by decide)) ?_
        rw [nI_clamp (by omega)]
        rw [ks.1]
        refine eMO_coversNumber_72 ?_
        rw [nI_add]
        refine eMO_coversNumber_73 (fun c => absurd c (nI_ge (by omega) (by omega))) (fun c73 => ?_)
        refine eMO_coversNumber_76 ?_
        refine eMO_coversNumber_77 (fun c => absurd c (by decide)) (fun c77 => ?_)
        refine eMO_coversNumber_80 rfl ?_
        refine eMO_coversNumber_81 mh_o rfl ?_
        refine eMO_coversNumber_84 ?_
        refine eMO_coversNumber_86 mh_a6 (xn_in (by omega) (by decide)) ?_
        rw [nI_clamp (by omega)]
        rw [ks.2.2 i w hw]
        refine eMO_coversNumber_87 rfl ?_
        refine eMO_coversNumber_88 mh_o rfl ?_
        refine eMO_coversNumber_91 ?_
        refine eMO_coversNumber_92 mh_a3 (xn_in ht (by decide)) ?_
        rw [nI_clamp (by omega)]
        rw [e3]
        refine eMO_coversNumber_93 (fun c => absurd c c1) (fun c93 => ?_)
        refine eMO_coversNumber_96 rfl ?_
        refine eMO_coversNumber_97 mh_o rfl ?_
        refine eMO_coversNumber_100 ?_
        refine eMO_coversNumber_102 mh_a6 (xn_in (by omega) (by decide)) ?_
        rw [nI_clamp (by omega)]
        rw [ks.2.2 i w hw]
        refine eMO_coversNumber_103 rfl ?_
        refine eMO_coversNumber_104 mh_o rfl ?_
        refine eMO_coversNumber_107 ?_
        refine eMO_coversNumber_108 mh_a4 (xn_in ht (by decide)) ?_
        rw [nI_clamp (by omega)]
        rw [e4]
        refine eMO_coversNumber_109 (fun c109 => ?_) (fun c => absurd c2 c)
        refine eMO_coversNumber_127 ?_
        refine eMO_coversNumber_128 ?_
        refine eMO_coversNumber_132 ?_
        refine eMO_coversNumber_133 ?_
        refine eMO_coversNumber_136 ?_
        rw [nI_1]
        exact kk
      · have hH : spH T w = !(T.2.2.contains w) := by
          unfold spH spHas
          rw [decide_eq_false c1, decide_eq_true (Int32.not_lt.mp c2)]
          rfl
        rw [hH, Bool.not_not] at kk
        cases c3 : T.2.2.contains w with
        | true =>
          rw [c3] at kk
          refine eMO_coversNumber_61 ?_
          refine eMO_coversNumber_63 ?_
          refine eMO_coversNumber_64 ?_
          refine eMO_coversNumber_65 ?_
          rw [mx3]
          refine eMO_coversNumber_66 rfl ?_
          refine eMO_coversNumber_67 mh_o rfl ?_
          refine eMO_coversNumber_70 ?_
          refine eMO_coversNumber_71 mh_a5 (xn_in hs (by decide)) ?_
          rw [nI_clamp (by omega)]
          rw [ks.1]
          refine eMO_coversNumber_72 ?_
          rw [nI_add]
          refine eMO_coversNumber_73 (fun c => absurd c (nI_ge (by omega) (by omega))) (fun c73 => ?_)
          refine eMO_coversNumber_76 ?_
          refine eMO_coversNumber_77 (fun c => absurd c (by decide)) (fun c77 => ?_)
          refine eMO_coversNumber_80 rfl ?_
          refine eMO_coversNumber_81 mh_o rfl ?_
          refine eMO_coversNumber_84 ?_
          refine eMO_coversNumber_86 mh_a6 (xn_in (by omega) (by decide)) ?_
          rw [nI_clamp (by omega)]
          rw [ks.2.2 i w hw]
          refine eMO_coversNumber_87 rfl ?_
          refine eMO_coversNumber_88 mh_o rfl ?_
          refine eMO_coversNumber_91 ?_
          refine eMO_coversNumber_92 mh_a3 (xn_in ht (by decide)) ?_
          rw [nI_clamp (by omega)]
          rw [e3]
          refine eMO_coversNumber_93 (fun c => absurd c c1) (fun c93 => ?_)
          refine eMO_coversNumber_96 rfl ?_
          refine eMO_coversNumber_97 mh_o rfl ?_
          refine eMO_coversNumber_100 ?_
          refine eMO_coversNumber_102 mh_a6 (xn_in (by omega) (by decide)) ?_
          rw [nI_clamp (by omega)]
          rw [ks.2.2 i w hw]
          refine eMO_coversNumber_103 rfl ?_
          refine eMO_coversNumber_104 mh_o rfl ?_
          refine eMO_coversNumber_107 ?_
          refine eMO_coversNumber_108 mh_a4 (xn_in ht (by decide)) ?_
          rw [nI_clamp (by omega)]
          rw [e4]
          refine eMO_coversNumber_109 (fun c => absurd c c2) (fun c109 => ?_)
          refine eMO_coversNumber_112 rfl ?_
          refine eMO_coversNumber_113 ?_
          refine eMO_coversNumber_114 rfl ?_
          refine eMO_coversNumber_115 mh_o rfl ?_
          refine eMO_coversNumber_118 ?_
          refine eMO_coversNumber_120 mh_a6 (xn_in (by omega) (by decide)) ?_
          rw [nI_clamp (by omega)]
          rw [ks.2.2 i w hw]
          refine eMO_coversNumber_121 mh_o (Nat.le_of_ble_eq_true rfl) (sMO_isOut kt ht) ?_
          rintro _ _ ⟨rfl, rfl⟩
          refine ⟨_, rfl, ?_⟩
          rw [c3]
          refine eMO_coversNumber_124 (fun c => absurd c (by decide)) (fun c124 => ?_)
          refine eMO_coversNumber_127 ?_
          refine eMO_coversNumber_128 ?_
          refine eMO_coversNumber_132 ?_
          refine eMO_coversNumber_133 ?_
          refine eMO_coversNumber_136 ?_
          rw [nI_1]
          exact kk
        | false =>
          rw [c3] at kk
          refine eMO_coversNumber_61 ?_
          refine eMO_coversNumber_63 ?_
          refine eMO_coversNumber_64 ?_
          refine eMO_coversNumber_65 ?_
          rw [mx3]
          refine eMO_coversNumber_66 rfl ?_
          refine eMO_coversNumber_67 mh_o rfl ?_
          refine eMO_coversNumber_70 ?_
          refine eMO_coversNumber_71 mh_a5 (xn_in hs (by decide)) ?_
          rw [nI_clamp (by omega)]
          rw [ks.1]
          refine eMO_coversNumber_72 ?_
          rw [nI_add]
          refine eMO_coversNumber_73 (fun c => absurd c (nI_ge (by omega) (by omega))) (fun c73 => ?_)
          refine eMO_coversNumber_76 ?_
          refine eMO_coversNumber_77 (fun c => absurd c (by decide)) (fun c77 => ?_)
          refine eMO_coversNumber_80 rfl ?_
          refine eMO_coversNumber_81 mh_o rfl ?_
          refine eMO_coversNumber_84 ?_
          refine eMO_coversNumber_86 mh_a6 (xn_in (by omega) (by decide)) ?_
          rw [nI_clamp (by omega)]
          rw [ks.2.2 i w hw]
          refine eMO_coversNumber_87 rfl ?_
          refine eMO_coversNumber_88 mh_o rfl ?_
          refine eMO_coversNumber_91 ?_
          refine eMO_coversNumber_92 mh_a3 (xn_in ht (by decide)) ?_
          rw [nI_clamp (by omega)]
          rw [e3]
          refine eMO_coversNumber_93 (fun c => absurd c c1) (fun c93 => ?_)
          refine eMO_coversNumber_96 rfl ?_
          refine eMO_coversNumber_97 mh_o rfl ?_
          refine eMO_coversNumber_100 ?_
          refine eMO_coversNumber_102 mh_a6 (xn_in (by omega) (by decide)) ?_
          rw [nI_clamp (by omega)]
          rw [ks.2.2 i w hw]
          refine eMO_coversNumber_103 rfl ?_
          refine eMO_coversNumber_104 mh_o rfl ?_
          refine eMO_coversNumber_107 ?_
          refine eMO_coversNumber_108 mh_a4 (xn_in ht (by decide)) ?_
          rw [nI_clamp (by omega)]
          rw [e4]
          refine eMO_coversNumber_109 (fun c => absurd c c2) (fun c109 => ?_)
          refine eMO_coversNumber_112 rfl ?_
          refine eMO_coversNumber_113 ?_
          refine eMO_coversNumber_114 rfl ?_
          refine eMO_coversNumber_115 mh_o rfl ?_
          refine eMO_coversNumber_118 ?_
          refine eMO_coversNumber_120 mh_a6 (xn_in (by omega) (by decide)) ?_
          rw [nI_clamp (by omega)]
          rw [ks.2.2 i w hw]
          refine eMO_coversNumber_121 mh_o (Nat.le_of_ble_eq_true rfl) (sMO_isOut kt ht) ?_
          rintro _ _ ⟨rfl, rfl⟩
          refine ⟨_, rfl, ?_⟩
          rw [c3]
          refine eMO_coversNumber_124 (fun c124 => ?_) (fun c => absurd rfl c)
          refine eMO_coversNumber_131 ?_
          refine eMO_coversNumber_132 ?_
          refine eMO_coversNumber_133 ?_
          refine eMO_coversNumber_136 ?_
          rw [nI_1]
          exact kk
theorem lMO_cN {s t : Nat} {ex : List Int32} {T : sp} (hs : s < 36) (ht : t < 36) (ks : exR (si 5) (si 6) s ex) (kt : exR (si 5) (si 6) t T.2.2) : ∀ (j i : Nat) (acc : Bool), i + j = ex.length → (acc = true → si 3 t = T.1 ∧ si 4 t = T.2.1) → x_K P (d + 1) mMO_coversNumber 61 [some (.ref bm), some (.int (nI s)), some (.int (nI t)), some (.int (b2i acc)), some (.int (nI (3 * s + i)))] [] (mh h0 bm ze si) (fun oc h' => oc = .returned (some (.int (b2i (acc && (ex.drop i).all (fun w => !(spH T w)))))) ∧ h' = mh h0 bm ze si) := by
  intro j
  induction j with
  | zero =>
    intro i acc hi _
    have hl := ks.2.1
    rw [List.drop_eq_nil_of_le (by omega), List.all_nil, Bool.and_true]
    refine eMO_coversNumber_61 ?_
    refine eMO_coversNumber_63 ?_
    refine eMO_coversNumber_64 ?_
    refine eMO_coversNumber_65 ?_
    rw [mx3]
    refine eMO_coversNumber_66 rfl ?_
    refine eMO_coversNumber_67 mh_o rfl ?_
    refine eMO_coversNumber_70 ?_
    refine eMO_coversNumber_71 mh_a5 (xn_in hs (by decide)) ?_
    rw [nI_clamp (by omega)]
    rw [ks.1]
    refine eMO_coversNumber_72 ?_
    rw [nI_add]
    refine eMO_coversNumber_73 (fun c73 => ?_) (fun c => absurd (nI_le (by omega) (by omega)) c)
    refine eMO_coversNumber_139 ?_
    exact eMO_coversNumber_140 (b2i_n _) ⟨rfl, rfl⟩
  | succ j ih =>
    intro i acc hi hT
    obtain ⟨w, hw⟩ : ∃ w, ex[i]? = some w := ⟨ex[i]'(by omega), List.getElem?_eq_getElem (by omega)⟩
    rw [all_cons hw, ← Bool.and_assoc]
    exact tMO_cN hs ht ks kt hT hw (ih (i + 1) _ (by omega) (fun z => hT (by cases acc <;> simp_all)))
theorem spI_bool {s t : sp} : spI s t = ((decide (s.1 ≤ t.1) && decide (t.2.1 ≤ s.2.1)) && s.2.2.all (fun w => !(spH t w))) := by
  cases h : spI s t with
  | true =>
    have h1 := spI_iff.mp h
    rw [decide_eq_true (Int32.le_iff_toInt_le.mpr h1.1), decide_eq_true (Int32.le_iff_toInt_le.mpr h1.2.1), List.all_eq_true.mpr (fun w hw => ?_)]
    · rfl
    · rw [Bool.not_eq_true', ← Bool.not_eq_true, spH_iff]
      exact h1.2.2 w hw
  | false =>
    symm
    rw [← Bool.not_eq_true]
    intro z
    rw [Bool.and_eq_true, Bool.and_eq_true, decide_eq_true_eq, decide_eq_true_eq, List.all_eq_true] at z
    rw [spI_iff.mpr ⟨Int32.le_iff_toInt_le.mp z.1.1, Int32.le_iff_toInt_le.mp z.1.2, fun w hw y => ?_⟩] at h
    · cases h
    · have := z.2 w hw
      rw [spH_iff.mpr y] at this
      cases this
theorem sMO_coversNumber {s t : Nat} {S T : sp} (hs : s < 36) (ht : t < 36) (ks : isRT si s S) (kt : isRT si t T) (hS : spE S = false) (hT : spE T = false) : x_K P (d + 1) mMO_coversNumber 0 [some (.ref bm), some (.int (nI s)), some (.int (nI t)), none, none] [] (mh h0 bm ze si) (fun oc h' => oc = .returned (some (.int (b2i (spI S T)))) ∧ h' = mh h0 bm ze si) := by
  obtain ⟨c1, c2, c3⟩ := i999
  obtain ⟨nS, rS⟩ := ks.2 hS
  obtain ⟨nT, rT⟩ := kt.2 hT
  rcases rS with ⟨s1, s2⟩ | ⟨s1, s2, s3, s4, s5⟩
  · have e : spI S T = true := by
      refine spI_iff.mpr ⟨?_, ?_, fun v hv => by rw [s2] at hv; cases hv⟩
      · rw [s2, c1]
        rcases rT with ⟨_, t2⟩ | ⟨_, _, _, t4, _⟩
        · rw [t2, c1]; exact Int.le_refl _
        · exact t4
      · rw [s2, c3]
        rcases rT with ⟨_, t2⟩ | ⟨_, _, _, _, t5⟩
        · rw [t2, c3]; exact Int.le_refl _
        · omega
    rw [e]
    refine eMO_coversNumber_0 rfl ?_
    refine eMO_coversNumber_1 mh_o rfl ?_
    refine eMO_coversNumber_4 ?_
    refine eMO_coversNumber_5 mh_a11 (xn_in hs (by decide)) ?_
    rw [nI_clamp (by omega)]
    rw [s1]
    refine eMO_coversNumber_6 (fun c => absurd rfl c) (fun c6 => ?_)
    refine eMO_coversNumber_9 ?_
    exact eMO_coversNumber_10 rfl ⟨rfl, rfl⟩
  · rcases rT with ⟨t1, t2⟩ | ⟨t1, t2, t3, t4, t5⟩
    · have e : spI S T = false := by
        rw [← Bool.not_eq_true, spI_iff]
        intro z
        have z2 := z.2.1
        rw [t2, c3] at z2
        omega
      rw [e]
      refine eMO_coversNumber_0 rfl ?_
      refine eMO_coversNumber_1 mh_o rfl ?_
      refine eMO_coversNumber_4 ?_
      refine eMO_coversNumber_5 mh_a11 (xn_in hs (by decide)) ?_
      rw [nI_clamp (by omega)]
      rw [s1]
      refine eMO_coversNumber_6 (fun c6 => ?_) (fun c => absurd c (by decide))
      refine eMO_coversNumber_11 rfl ?_
      refine eMO_coversNumber_12 mh_o rfl ?_
      refine eMO_coversNumber_15 ?_
      refine eMO_coversNumber_16 mh_a11 (xn_in ht (by decide)) ?_
      rw [nI_clamp (by omega)]
      rw [t1]
      refine eMO_coversNumber_17 (fun c17 => ?_) (fun c => absurd rfl c)
      refine eMO_coversNumber_54 ?_
      refine eMO_coversNumber_55 ?_
      refine eMO_coversNumber_56 ?_
      refine eMO_coversNumber_57 ?_
      refine eMO_coversNumber_58 ?_
      rw [mx3]
      refine eMO_coversNumber_59 ?_
      skip
      exact lMO_cN hs ht ks.1 kt.1 S.2.2.length 0 false (Nat.zero_add _) (fun z => by cases z)
    · rw [spI_bool]
      have fin : x_K P (d + 1) mMO_coversNumber 56 [some (.ref bm), some (.int (nI s)), some (.int (nI t)), some (.int (b2i (decide (S.1 ≤ T.1) && decide (T.2.1 ≤ S.2.1)))), none] [] (mh h0 bm ze si) (fun oc h' => oc = .returned (some (.int (b2i ((decide (S.1 ≤ T.1) && decide (T.2.1 ≤ S.2.1)) && S.2.2.all (fun w => !(spH T w)))))) ∧ h' = mh h0 bm ze si) := by
        refine eMO_coversNumber_56 ?_
        refine eMO_coversNumber_57 ?_
        refine eMO_coversNumber_58 ?_
        rw [mx3]
        refine eMO_coversNumber_59 ?_
        skip
        exact lMO_cN hs ht ks.1 kt.1 S.2.2.length 0 _ (Nat.zero_add _) (fun _ => ⟨t2, t3⟩)
      by_cases d1 : S.1 ≤ T.1
      · by_cases d2 : T.2.1 ≤ S.2.1
        · rw [decide_eq_true d1, decide_eq_true d2] at fin ⊢
          refine eMO_coversNumber_0 rfl ?_
          refine eMO_coversNumber_1 mh_o rfl ?_
          refine eMO_coversNumber_4 ?_
          refine eMO_coversNumber_5 mh_a11 (xn_in hs (by decide)) ?_
          rw [nI_clamp (by omega)]
          rw [s1]
          refine eMO_coversNumber_6 (fun c6 => ?_) (fun c => absurd c (by decide))
          refine eMO_coversNumber_11 rfl ?_
          refine eMO_coversNumber_12 mh_o rfl ?_
          refine eMO_coversNumber_15 ?_
          refine eMO_coversNumber_16 mh_a11 (xn_in ht (by decide)) ?_
          rw [nI_clamp (by omega)]
          rw [t1]
          refine eMO_coversNumber_17 (fun c => absurd c (by decide)) (fun c17 => ?_)
          refine eMO_coversNumber_20 rfl ?_
          refine eMO_coversNumber_21 mh_o rfl ?_
          refine eMO_coversNumber_24 ?_
          refine eMO_coversNumber_25 mh_a3 (xn_in hs (by decide)) ?_
          rw [nI_clamp (by omega)]
          rw [s2]
          refine eMO_coversNumber_26 rfl ?_
          refine eMO_coversNumber_27 mh_o rfl ?_
          refine eMO_coversNumber_30 ?_
          refine eMO_coversNumber_31 mh_a3 (xn_in ht (by decide)) ?_
          rw [nI_clamp (by omega)]
          rw [t2]
          refine eMO_coversNumber_32 (fun c => absurd d1 (Int32.not_le.mpr c)) (fun c32 => ?_)
          refine eMO_coversNumber_35 rfl ?_
          refine eMO_coversNumber_36 mh_o rfl ?_
          refine eMO_coversNumber_39 ?_
          refine eMO_coversNumber_40 mh_a4 (xn_in hs (by decide)) ?_
          rw [nI_clamp (by omega)]
          rw [s3]
          refine eMO_coversNumber_41 rfl ?_
          refine eMO_coversNumber_42 mh_o rfl ?_
          refine eMO_coversNumber_45 ?_
          refine eMO_coversNumber_46 mh_a4 (xn_in ht (by decide)) ?_
          rw [nI_clamp (by omega)]
          rw [t3]
          refine eMO_coversNumber_47 (fun c => absurd d2 (Int32.not_le.mpr c)) (fun c47 => ?_)
          refine eMO_coversNumber_50 ?_
          refine eMO_coversNumber_51 ?_
          refine eMO_coversNumber_55 ?_
          exact fin
        · rw [decide_eq_true d1, decide_eq_false d2] at fin ⊢
          refine eMO_coversNumber_0 rfl ?_
          refine eMO_coversNumber_1 mh_o rfl ?_
          refine eMO_coversNumber_4 ?_
          refine eMO_coversNumber_5 mh_a11 (xn_in hs (by decide)) ?_
          rw [nI_clamp (by omega)]
          rw [s1]
          refine eMO_coversNumber_6 (fun c6 => ?_) (fun c => absurd c (by decide))
          refine eMO_coversNumber_11 rfl ?_
          refine eMO_coversNumber_12 mh_o rfl ?_
          refine eMO_coversNumber_15 ?_
          refine eMO_coversNumber_16 mh_a11 (xn_in ht (by decide)) ?_
          rw [nI_clamp (by omega)]
          rw [t1]
          refine eMO_coversNumber_17 (fun c => absurd c (by decide)) (fun c17 => ?_)
          refine eMO_coversNumber_20 rfl ?_
          refine eMO_coversNumber_21 mh_o rfl ?_
          refine eMO_coversNumber_24 ?_
          refine eMO_coversNumber_25 mh_a3 (xn_in hs (by decide)) ?_
          rw [nI_clamp (by omega)]
          rw [s2]
          refine eMO_coversNumber_26 rfl ?_
          refine eMO_coversNumber_27 mh_o rfl ?_
          refine eMO_coversNumber_30 ?_
          refine eMO_coversNumber_31 mh_a3 (xn_in ht (by decide)) ?_
          rw [nI_clamp (by omega)]
          rw [t2]
          refine eMO_coversNumber_32 (fun c => absurd d1 (Int32.not_le.mpr c)) (fun c32 => ?_)
          refine eMO_coversNumber_35 rfl ?_
          refine eMO_coversNumber_36 mh_o rfl ?_
          refine eMO_coversNumber_39 ?_
          refine eMO_coversNumber_40 mh_a4 (xn_in hs (by decide)) ?_
          rw [nI_clamp (by omega)]
          rw [s3]
          refine eMO_coversNumber_41 rfl ?_
          refine eMO_coversNumber_42 mh_o rfl ?_
          refine eMO_coversNumber_45 ?_
          refine eMO_coversNumber_46 mh_a4 (xn_in ht (by decide)) ?_
          rw [nI_clamp (by omega)]
          rw [t3]
          refine eMO_coversNumber_47 (fun c47 => ?_) (fun c => absurd (Int32.not_le.mp d2) c)
          refine eMO_coversNumber_54 ?_
          refine eMO_coversNumber_55 ?_
          exact fin
      · rw [decide_eq_false d1] at fin ⊢
        refine eMO_coversNumber_0 rfl ?_
        refine eMO_coversNumber_1 mh_o rfl ?_
        refine eMO_coversNumber_4 ?_
        refine eMO_coversNumber_5 mh_a11 (xn_in hs (by decide)) ?_
        rw [nI_clamp (by omega)]
        rw [s1]
        refine eMO_coversNumber_6 (fun c6 => ?_) (fun c => absurd c (by decide))
        refine eMO_coversNumber_11 rfl ?_
        refine eMO_coversNumber_12 mh_o rfl ?_
        refine eMO_coversNumber_15 ?_
        refine eMO_coversNumber_16 mh_a11 (xn_in ht (by decide)) ?_
        rw [nI_clamp (by omega)]
        rw [t1]
        refine eMO_coversNumber_17 (fun c => absurd c (by decide)) (fun c17 => ?_)
        refine eMO_coversNumber_20 rfl ?_
        refine eMO_coversNumber_21 mh_o rfl ?_
        refine eMO_coversNumber_24 ?_
        refine eMO_coversNumber_25 mh_a3 (xn_in hs (by decide)) ?_
        rw [nI_clamp (by omega)]
        rw [s2]
        refine eMO_coversNumber_26 rfl ?_
        refine eMO_coversNumber_27 mh_o rfl ?_
        refine eMO_coversNumber_30 ?_
        refine eMO_coversNumber_31 mh_a3 (xn_in ht (by decide)) ?_
        rw [nI_clamp (by omega)]
        rw [t2]
        refine eMO_coversNumber_32 (fun c32 => ?_) (fun c => absurd (Int32.not_le.mp d1) c)
        refine eMO_coversNumber_54 ?_
        refine eMO_coversNumber_55 ?_
        exact fin
end
/-! words: what covering is in the end -/
section
variable {si : Nat → Nat → Int32} {f g : Nat} {S T : sp}
theorem sM_nI {a b : Nat} {ex : List Int32} {v : Int32} (ha : a < 2 ^ 31) (hb : b < 2 ^ 31) : sM (nI a, nI b, ex) v ↔ (a : Int) ≤ v.toInt ∧ v.toInt ≤ b ∧ v ∉ ex := by
  unfold sM
  show (nI a).toInt ≤ _ ∧ _ ≤ (nI b).toInt ∧ _ ↔ _
  rw [nI_toInt ha, nI_toInt hb]
theorem i32_nat {v : Int32} (h : 0 ≤ v.toInt) : ∃ x : Nat, v = nI x ∧ (x : Int) = v.toInt ∧ x < 2 ^ 31 := by
  obtain ⟨j, h1, h2⟩ := nI_of (x := v) (fun z => by
    have := Int32.lt_iff_toInt_lt.mp z
    rw [show (0 : Int32).toInt = 0 by decide] at this
    omega)
  exact ⟨j, h2, by rw [h2, nI_toInt h1], h1⟩
/-- one word only -/
theorem sM_one {w : Nat} (hN : sN S) (h1 : S.1 = nI w) (h2 : S.2.1 = nI w) (hw : w < 2 ^ 31) {v : Int32} : sM S v ↔ v = nI w := by
  constructor
  · intro z
    have z1 := z.1
    have z2 := z.2.1
    rw [h1] at z1
    rw [h2] at z2
    exact i32_ext (by omega)
  · intro z
    rw [z, ← h1]
    exact hN.1
/-- a word among those that begin so -/
theorem sM_pre {w n x : Nat} {ex : List Int32} (hw : wOk w n) (hn : n ≤ 3) (hx : 1 ≤ x) (hx2 : x < 2 ^ 31) : sM (nI (max 1 w), nI (w + 32 ^ (4 - n) - 1), ex) (nI x) ↔ x / 32 ^ (4 - n) = w / 32 ^ (4 - n) ∧ nI x ∉ ex := by
  have h1 := wOk_top hw
  have h2 := wP (n := n)
  rw [sM_nI (by have := hw.1; omega) (by omega), nI_toInt hx2]
  constructor
  · rintro ⟨a, b, c⟩
    refine ⟨?_, c⟩
    refine Classical.byContradiction fun z => ?_
    have := wOk_lohi2 hw z
    omega
  · rintro ⟨a, b⟩
    have := wOk_lohi hw a
    exact ⟨by omega, by omega, b⟩
theorem pre_top {w n : Nat} {ex : List Int32} (hw : wOk w n) (hn : n ≤ 3) (hx : ∀ v ∈ ex, ∃ e m, v = nI e ∧ 1 ≤ m ∧ wOk e m) : sM (nI (max 1 w), nI (w + 32 ^ (4 - n) - 1), ex) (nI (w + 32 ^ (4 - n) - 1)) := by
  have h1 := wOk_top hw
  have h3 : 32 ≤ 32 ^ (4 - n) := by
    rcases wOk_pw (n := n) (by omega) with ⟨q, r⟩ | ⟨q, r⟩ | ⟨q, r⟩ | ⟨q, r⟩ | ⟨q, r⟩ <;> omega
  rw [sM_nI (by have := hw.1; omega) (by omega), nI_toInt (by omega)]
  exact ⟨by omega, by omega, wOk_tex hw hn hx⟩
/-- two beginnings -/
theorem cov_pre {w n w' n' : Nat} (hw : wOk w n) (hn : n ≤ 3) (hw' : wOk w' n') (hn' : n' ≤ 3) (xS : ∀ v ∈ S.2.2, ∃ e m, v = nI e ∧ 1 ≤ m ∧ wOk e m) (xT : ∀ v ∈ T.2.2, ∃ e m, v = nI e ∧ 1 ≤ m ∧ wOk e m)
  (mS : ∀ v, sM S v ↔ sM (nI (max 1 w), nI (w + 32 ^ (4 - n) - 1), S.2.2) v) (mT : ∀ v, sM T v ↔ sM (nI (max 1 w'), nI (w' + 32 ^ (4 - n') - 1), T.2.2) v) :
  (∀ v, sM T v → sM S v) ↔ (n ≤ n' ∧ w' / 32 ^ (4 - n) = w / 32 ^ (4 - n)) ∧ ∀ e : Nat, e < 1048576 → nI e ∈ S.2.2 → e / 32 ^ (4 - n') = w' / 32 ^ (4 - n') → nI e ∈ T.2.2 := by
  have b1 := hw.1
  have b2 := hw'.1
  have b3 := wOk_top hw
  have b4 := wOk_top hw'
  have b5 := wP (n := n)
  have b6 : 32 ≤ 32 ^ (4 - n') := by
    rcases wOk_pw (n := n') (by omega) with ⟨q, r⟩ | ⟨q, r⟩ | ⟨q, r⟩ | ⟨q, r⟩ | ⟨q, r⟩ <;> omega
  constructor
  · intro h
    have h1 := (mS _).mp (h _ ((mT _).mpr (pre_top hw' hn' xT)))
    rw [sM_pre hw hn (by omega) (by omega)] at h1
    have h2 : n ≤ n' := by
      refine Classical.byContradiction fun z => ?_
      obtain ⟨p1, p2, a0, a1, a2, a3, d1, d2, d3, d4⟩ := hw
      obtain ⟨q1, q2, c0, c1, c2, c3, -⟩ := hw'
      have h3 := h1.1
      rcases wOk_pw (n := n) (by omega) with ⟨e, r⟩ | ⟨e, r⟩ | ⟨e, r⟩ | ⟨e, r⟩ | ⟨e, r⟩ <;> rcases wOk_pw (n := n') (by omega) with ⟨e', r'⟩ | ⟨e', r'⟩ | ⟨e', r'⟩ | ⟨e', r'⟩ | ⟨e', r'⟩ <;> rw [r, r'] at h3 <;> subst e <;> subst e' <;> omega
    have h3 : w' / 32 ^ (4 - n) = w / 32 ^ (4 - n) := by
      rw [← h1.1]
      obtain ⟨q1, q2, c0, c1, c2, c3, -⟩ := hw'
      rcases wOk_pw (n := n) (by omega) with ⟨e, r⟩ | ⟨e, r⟩ | ⟨e, r⟩ | ⟨e, r⟩ | ⟨e, r⟩ <;> rcases wOk_pw (n := n') (by omega) with ⟨e', r'⟩ | ⟨e', r'⟩ | ⟨e', r'⟩ | ⟨e', r'⟩ | ⟨e', r'⟩ <;> rw [r, r'] <;> subst e <;> subst e' <;> omega
    refine ⟨⟨h2, h3⟩, fun e he hS hp => Classical.byContradiction fun hT => ?_⟩
    have e1 : 1 ≤ e := by
      obtain ⟨e', m, x1, x2, x3⟩ := xS _ hS
      have x4 := (nI_eq (by omega) (by have := x3.1; omega)).mp x1
      have := wOk_1 x3 x2
      omega
    have h4 := (mS _).mp (h _ ((mT _).mpr ((sM_pre hw' hn' e1 (by omega)).mpr ⟨hp, hT⟩)))
    exact h4.2.2 hS
  · rintro ⟨⟨h1, h2⟩, h3⟩ v hv
    have hv2 := (mT v).mp hv
    have hv3 := (sM_nI (by omega) (by omega)).mp hv2
    obtain ⟨x, x1, x2, x3⟩ := i32_nat (v := v) (by omega)
    subst x1
    have hv4 := (sM_pre hw' hn' (by omega) x3).mp hv2
    refine (mS _).mpr ((sM_pre hw hn (by omega) x3).mpr ⟨?_, fun z => hv4.2 (h3 x (by omega) z hv4.1)⟩)
    have h4 := hv4.1
    rw [← h2]
    rcases wOk_pw (n := n) (by omega) with ⟨e, r⟩ | ⟨e, r⟩ | ⟨e, r⟩ | ⟨e, r⟩ | ⟨e, r⟩ <;> rcases wOk_pw (n := n') (by omega) with ⟨e', r'⟩ | ⟨e', r'⟩ | ⟨e', r'⟩ | ⟨e', r'⟩ | ⟨e', r'⟩ <;> rw [r] <;> rw [r'] at h4 <;> subst e <;> subst e' <;> omega
end
def cW (ex : List Int32) (w n : Nat) (v : Int32) : Bool := !(decide (v.toInt / 32 ^ (4 - n) = (nI w).toInt / 32 ^ (4 - n))) || ex.contains v
theorem bool_ext {a b : Bool} (h : a = true ↔ b = true) : a = b := by
  cases a <;> cases b <;> simp_all
theorem cW_nI {ex : List Int32} {w n e : Nat} (hw : w < 2 ^ 31) (he : e < 2 ^ 31) : cW ex w n (nI e) = true ↔ (e / 32 ^ (4 - n) = w / 32 ^ (4 - n) → nI e ∈ ex) := by
  unfold cW
  rw [Bool.or_eq_true, Bool.not_eq_true', decide_eq_false_iff_not, List.contains_iff_mem, nI_toInt hw, nI_toInt he]
  have e1 : ((e : Int) / 32 ^ (4 - n) = (w : Int) / 32 ^ (4 - n)) ↔ e / 32 ^ (4 - n) = w / 32 ^ (4 - n) := by
    constructor
    · intro z
      exact_mod_cast z
    · intro z
      exact_mod_cast z
  rw [e1]
  constructor
  · intro h z
    exact h.resolve_left (fun y => y z)
  · intro h
    by_cases z : e / 32 ^ (4 - n) = w / 32 ^ (4 - n)
    · exact Or.inr (h z)
    · exact Or.inl z
section
variable {P : x_P} {d : Nat} {h0 : x_H} {bm : Nat} {ze : Nat → Int32} {si : Nat → Nat → Int32}
theorem tMO_cW {f g i w n : Nat} {v : Int32} {ex ex' : List Int32} {acc : Bool} {Φ : Outcome → x_H → Prop} (hf : f < 18) (hg : g < 18) (kf : exR (si 9) (si 10) f ex) (kg : exR (si 9) (si 10) g ex') (h7 : si 7 g = nI w) (h8 : si 8 g = nI n) (hn : n ≤ 4) (hv : ex[i]? = some v)
  (kk : x_K P (d + 1) mMO_coversWord 164 [some (.ref bm), some (.int (nI f)), some (.int (nI g)), some (.int (b2i (acc && cW ex' w n v))), some (.int (nI (3 * f + (i + 1))))] [] (mh h0 bm ze si) Φ) :
  x_K P (d + 1) mMO_coversWord 164 [some (.ref bm), some (.int (nI f)), some (.int (nI g)), some (.int (b2i acc)), some (.int (nI (3 * f + i)))] [] (mh h0 bm ze si) Φ := by
  have hl := kf.2.1
  have hi := (List.getElem?_eq_some_iff.mp hv).1
  cases acc with
  | false =>
    refine eMO_coversWord_164 ?_
    refine eMO_coversWord_166 ?_
    refine eMO_coversWord_167 ?_
    refine eMO_coversWord_168 ?_
    rw [mx3]
    refine eMO_coversWord_169 rfl ?_
    refine eMO_coversWord_170 mh_o rfl ?_
    refine eMO_coversWord_173 ?_
    refine eMO_coversWord_174 mh_a9 (xn_in hf (by decide)) ?_
    rw [nI_clamp (by omega)]
    rw [kf.1]
    refine eMO_coversWord_175 ?_
    rw [nI_add]
    refine eMO_coversWord_176 (fun c => absurd c (nI_ge (by omega) (by omega))) (fun c176 => ?_)
    refine eMO_coversWord_179 ?_
    refine eMO_coversWord_180 (fun c180 => ?_) (fun c => absurd rfl c)
    refine eMO_coversWord_227 ?_
    refine eMO_coversWord_228 ?_
    refine eMO_coversWord_229 ?_
    refine eMO_coversWord_232 ?_
    rw [nI_1]
    exact kk
  | true =>
    rw [Bool.true_and] at kk
    cases c1 : decide (v.toInt / 32 ^ (4 - n) = (nI w).toInt / 32 ^ (4 - n)) with
    | false =>
      rw [show cW ex' w n v = true by unfold cW; rw [c1]; rfl] at kk
      refine eMO_coversWord_164 ?_
      refine eMO_coversWord_166 ?_
      refine eMO_coversWord_167 ?_
      refine eMO_coversWord_168 ?_
      rw [mx3]
      refine eMO_coversWord_169 rfl ?_
      refine eMO_coversWord_170 mh_o rfl ?_
      refine eMO_coversWord_173 ?_
      refine eMO_coversWord_174 mh_a9 (xn_in hf (by decide)) ?_
      rw [nI_clamp (by omega)]
      rw [kf.1]
      refine eMO_coversWord_175 ?_
      rw [nI_add]
      refine eMO_coversWord_176 (fun c => absurd c (nI_ge (by omega) (by omega))) (fun c176 => ?_)
      refine eMO_coversWord_179 ?_
      refine eMO_coversWord_180 (fun c => absurd c (by decide)) (fun c180 => ?_)
      refine eMO_coversWord_183 rfl ?_
      refine eMO_coversWord_184 mh_o rfl ?_
      refine eMO_coversWord_187 ?_
      refine eMO_coversWord_189 mh_a10 (xn_in (by omega) (by decide)) ?_
      rw [nI_clamp (by omega)]
      rw [kf.2.2 i v hv]
      refine eMO_coversWord_190 rfl ?_
      refine eMO_coversWord_191 mh_o rfl ?_
      refine eMO_coversWord_194 ?_
      refine eMO_coversWord_195 mh_a7 (xn_in hg (by decide)) ?_
      rw [nI_clamp (by omega)]
      rw [h7]
      refine eMO_coversWord_196 rfl ?_
      refine eMO_coversWord_197 mh_o rfl ?_
      refine eMO_coversWord_200 ?_
      refine eMO_coversWord_201 mh_a8 (xn_in hg (by decide)) ?_
      rw [nI_clamp (by omega)]
      rw [h8]
      refine eMO_coversWord_202 (Nat.le_of_ble_eq_true rfl) (sMO_begins hn) ?_
      rintro _ _ ⟨rfl, rfl⟩
      refine ⟨_, rfl, ?_⟩
      rw [c1]
      refine eMO_coversWord_205 (fun c205 => ?_) (fun c => absurd rfl c)
      refine eMO_coversWord_223 ?_
      refine eMO_coversWord_224 ?_
      refine eMO_coversWord_228 ?_
      refine eMO_coversWord_229 ?_
      refine eMO_coversWord_232 ?_
      rw [nI_1]
      exact kk
    | true =>
      cases c2 : ex'.contains v with
      | true =>
        rw [show cW ex' w n v = true by unfold cW; rw [c1, c2]; rfl] at kk
        refine eMO_coversWord_164 ?_
        refine eMO_coversWord_166 ?_
        refine eMO_coversWord_167 ?_
        refine eMO_coversWord_168 ?_
        rw [mx3]
        refine eMO_coversWord_169 rfl ?_
        refine eMO_coversWord_170 mh_o rfl ?_
        refine eMO_coversWord_173 ?_
        refine eMO_coversWord_174 mh_a9 (xn_in hf (by decide)) ?_
        rw [nI_clamp (by omega)]
        rw [kf.1]
        refine eMO_coversWord_175 ?_
        rw [nI_add]
        refine eMO_coversWord_176 (fun c => absurd c (nI_ge (by omega) (by omega))) (fun c176 => ?_)
        refine eMO_coversWord_179 ?_
        refine eMO_coversWord_180 (fun c => absurd c (by decide)) (fun c180 => ?_)
        refine eMO_coversWord_183 rfl ?_
        refine eMO_coversWord_184 mh_o rfl ?_
        refine eMO_coversWord_187 ?_
        refine eMO_coversWord_189 mh_a10 (xn_in (by omega) (by decide)) ?_
        rw [nI_clamp (by omega)]
        rw [kf.2.2 i v hv]
        refine eMO_coversWord_190 rfl ?_
        refine eMO_coversWord_191 mh_o rfl ?_
        refine eMO_coversWord_194 ?_
        refine eMO_coversWord_195 mh_a7 (xn_in hg (by decide)) ?_
        rw [nI_clamp (by omega)]
        rw [h7]
        refine eMO_coversWord_196 rfl ?_
        refine eMO_coversWord_197 mh_o rfl ?_
        refine eMO_coversWord_200 ?_
        refine eMO_coversWord_201 mh_a8 (xn_in hg (by decide)) ?_
        rw [nI_clamp (by omega)]
        rw [h8]
        refine eMO_coversWord_202 (Nat.le_of_ble_eq_true rfl) (sMO_begins hn) ?_
        rintro _ _ ⟨rfl, rfl⟩
        refine ⟨_, rfl, ?_⟩
        rw [c1]
        refine eMO_coversWord_205 (fun c => absurd c (by decide)) (fun c205 => ?_)
        refine eMO_coversWord_208 rfl ?_
        refine eMO_coversWord_209 ?_
        refine eMO_coversWord_210 rfl ?_
        refine eMO_coversWord_211 mh_o rfl ?_
        refine eMO_coversWord_214 ?_
        refine eMO_coversWord_216 mh_a10 (xn_in (by omega) (by decide)) ?_
        rw [nI_clamp (by omega)]
        rw [kf.2.2 i v hv]
        refine eMO_coversWord_217 mh_o (Nat.le_of_ble_eq_true rfl) (sMO_isWordOut kg hg) ?_
        rintro _ _ ⟨rfl, rfl⟩
        refine ⟨_, rfl, ?_⟩
        rw [c2]
        refine eMO_coversWord_220 (fun c => absurd c (by decide)) (fun c220 => ?_)
        refine eMO_coversWord_223 ?_
        refine eMO_coversWord_224 ?_
        refine eMO_coversWord_228 ?_
        refine eMO_coversWord_229 ?_
        refine eMO_coversWord_232 ?_
        rw [nI_1]
        exact kk
      | false =>
        rw [show cW ex' w n v = false by unfold cW; rw [c1, c2]; rfl] at kk
        refine eMO_coversWord_164 ?_
        refine eMO_coversWord_166 ?_
        refine eMO_coversWord_167 ?_
        refine eMO_coversWord_168 ?_
        rw [mx3]
        refine eMO_coversWord_169 rfl ?_
        refine eMO_coversWord_170 mh_o rfl ?_
        refine eMO_coversWord_173 ?_
        refine eMO_coversWord_174 mh_a9 (xn_in hf (by decide)) ?_
        rw [nI_clamp (by omega)]
        rw [kf.1]
        refine eMO_coversWord_175 ?_
        rw [nI_add]
        refine eMO_coversWord_176 (fun c => absurd c (nI_ge (by omega) (by omega))) (fun c176 => ?_)
        refine eMO_coversWord_179 ?_
        refine eMO_coversWord_180 (fun c => absurd c (by decide)) (fun c180 => ?_)
        refine eMO_coversWord_183 rfl ?_
        refine eMO_coversWord_184 mh_o rfl ?_
        refine eMO_coversWord_187 ?_
        refine eMO_coversWord_189 mh_a10 (xn_in (by omega) (by decide)) ?_
        rw [nI_clamp (by omega)]
        rw [kf.2.2 i v hv]
        refine eMO_coversWord_190 rfl ?_
        refine eMO_coversWord_191 mh_o rfl ?_
        refine eMO_coversWord_194 ?_
        refine eMO_coversWord_195 mh_a7 (xn_in hg (by decide)) ?_
        rw [nI_clamp (by omega)]
        rw [h7]
        refine eMO_coversWord_196 rfl ?_
        refine eMO_coversWord_197 mh_o rfl ?_
        refine eMO_coversWord_200 ?_
        refine eMO_coversWord_201 mh_a8 (xn_in hg (by decide)) ?_
        rw [nI_clamp (by omega)]
        rw [h8]
        refine eMO_coversWord_202 (Nat.le_of_ble_eq_true rfl) (sMO_begins hn) ?_
        rintro _ _ ⟨rfl, rfl⟩
        refine ⟨_, rfl, ?_⟩
        rw [c1]
        refine eMO_coversWord_205 (fun c => absurd c (by decide)) (fun c205 => ?_)
        refine eMO_coversWord_208 rfl ?_
        refine eMO_coversWord_209 ?_
        refine eMO_coversWord_210 rfl ?_
        refine eMO_coversWord_211 mh_o rfl ?_
        refine eMO_coversWord_214 ?_
        refine eMO_coversWord_216 mh_a10 (xn_in (by omega) (by decide)) ?_
        rw [nI_clamp (by omega)]
        rw [kf.2.2 i v hv]
        refine eMO_coversWord_217 mh_o (Nat.le_of_ble_eq_true rfl) (sMO_isWordOut kg hg) ?_
        rintro _ _ ⟨rfl, rfl⟩
        refine ⟨_, rfl, ?_⟩
        rw [c2]
        refine eMO_coversWord_220 (fun c220 => ?_) (fun c => absurd rfl c)
        refine eMO_coversWord_227 ?_
        refine eMO_coversWord_228 ?_
        refine eMO_coversWord_229 ?_
        refine eMO_coversWord_232 ?_
        rw [nI_1]
        exact kk
theorem lMO_cW {f g w n : Nat} {ex ex' : List Int32} (hf : f < 18) (hg : g < 18) (kf : exR (si 9) (si 10) f ex) (kg : exR (si 9) (si 10) g ex') (h7 : si 7 g = nI w) (h8 : si 8 g = nI n) (hn : n ≤ 4) : ∀ (j i : Nat) (acc : Bool), i + j = ex.length → x_K P (d + 1) mMO_coversWord 164 [some (.ref bm), some (.int (nI f)), some (.int (nI g)), some (.int (b2i acc)), some (.int (nI (3 * f + i)))] [] (mh h0 bm ze si) (fun oc h' => oc = .returned (some (.int (b2i (acc && (ex.drop i).all (cW ex' w n))))) ∧ h' = mh h0 bm ze si) := by
  intro j
  induction j with
  | zero =>
    intro i acc hi
    have hl := kf.2.1
    rw [List.drop_eq_nil_of_le (by omega), List.all_nil, Bool.and_true]
    refine eMO_coversWord_164 ?_
    refine eMO_coversWord_166 ?_
    refine eMO_coversWord_167 ?_
    refine eMO_coversWord_168 ?_
    rw [mx3]
    refine eMO_coversWord_169 rfl ?_
    refine eMO_coversWord_170 mh_o rfl ?_
    refine eMO_coversWord_173 ?_
    refine eMO_coversWord_174 mh_a9 (xn_in hf (by decide)) ?_
    rw [nI_clamp (by omega)]
    rw [kf.1]
    refine eMO_coversWord_175 ?_
    rw [nI_add]
    refine eMO_coversWord_176 (fun c176 => ?_) (fun c => absurd (nI_le (by omega) (by omega)) c)
    refine eMO_coversWord_235 ?_
    exact eMO_coversWord_236 (b2i_n _) ⟨rfl, rfl⟩
  | succ j ih =>
    intro i acc hi
    obtain ⟨v, hv⟩ : ∃ v, ex[i]? = some v := ⟨ex[i]'(by omega), List.getElem?_eq_getElem (by omega)⟩
    rw [all_cons hv, ← Bool.and_assoc]
    exact tMO_cW hf hg kf kg h7 h8 hn hv (ih (i + 1) _ (by omega))
theorem sMO_coversWord {f g : Nat} {S T : sp} (hf : f < 18) (hg : g < 18) (kS : isRX si f S) (kT : isRX si g T) : x_K P (d + 1) mMO_coversWord 0 [some (.ref bm), some (.int (nI f)), some (.int (nI g)), none, none] [] (mh h0 bm ze si) (fun oc h' => oc = .returned (some (.int (b2i (spI S T)))) ∧ h' = mh h0 bm ze si) := by
  obtain ⟨eS, xS, nS, rS⟩ := kS
  obtain ⟨eT, xT, nT, rT⟩ := kT
  rcases rS with ⟨s1, s2⟩ | ⟨s1, s2, w, n, s3, s4, s5, s6, s7⟩ | ⟨s1, s2, w, n, s3, s4, s5, s6, s7, s8⟩
  · have e : spI S T = true := by
      rw [s2]
      refine (spI_set nT).mpr (fun v hv => ?_)
      have hh : 0 ≤ v.toInt ∧ v.toInt ≤ 1048575 := by
        rcases rT with ⟨_, t2⟩ | ⟨_, _, w', n', t3, t4, t5, t6, t7⟩ | ⟨_, _, w', n', t3, t4, t5, t6, t7, t8⟩
        · rw [t2] at hv
          exact ⟨hv.1, hv.2.1⟩
        · have b := t4.1
          rw [(sM_one nT t6 t7 (by omega)).mp hv, nI_toInt (by omega)]
          omega
        · have b := wOk_top t4
          have b2 := t4.1
          have := (sM_nI (by omega) (by omega)).mp ((t7 v).mp hv)
          omega
      exact ⟨hh.1, hh.2, by simp⟩
    rw [e]
    refine eMO_coversWord_0 rfl ?_
    refine eMO_coversWord_1 mh_o rfl ?_
    refine eMO_coversWord_4 ?_
    refine eMO_coversWord_5 mh_a12 (xn_in hf (by decide)) ?_
    rw [nI_clamp (by omega)]
    rw [s1]
    refine eMO_coversWord_6 (fun c => absurd rfl c) (fun c6 => ?_)
    refine eMO_coversWord_9 ?_
    exact eMO_coversWord_10 rfl ⟨rfl, rfl⟩
  · have b1 := s4.1
    have b2 := wOk_1 s4 s3
    rcases rT with ⟨t1, t2⟩ | ⟨t1, t2, w', n', t3, t4, t5, t6, t7⟩ | ⟨t1, t2, w', n', t3, t4, t5, t6, t7, t8⟩
    · have e : spI S T = false := by
        rw [← Bool.not_eq_true, spI_set nT]
        intro z
        have z1 := (sM_one nS s6 s7 (by omega)).mp (z 0 (by rw [t2]; exact ⟨by decide, by decide, by simp⟩))
        have := (nI_eq (a := 0) (by decide) (by omega)).mp z1
        omega
      rw [e]
      refine eMO_coversWord_0 rfl ?_
      refine eMO_coversWord_1 mh_o rfl ?_
      refine eMO_coversWord_4 ?_
      refine eMO_coversWord_5 mh_a12 (xn_in hf (by decide)) ?_
      rw [nI_clamp (by omega)]
      rw [s1]
      refine eMO_coversWord_6 (fun c6 => ?_) (fun c => absurd c (by decide))
      refine eMO_coversWord_11 rfl ?_
      refine eMO_coversWord_12 mh_o rfl ?_
      refine eMO_coversWord_15 ?_
      refine eMO_coversWord_16 mh_a12 (xn_in hg (by decide)) ?_
      rw [nI_clamp (by omega)]
      rw [t1]
      refine eMO_coversWord_17 (fun c => absurd rfl c) (fun c17 => ?_)
      refine eMO_coversWord_20 ?_
      exact eMO_coversWord_21 rfl ⟨rfl, rfl⟩
    · have b3 := t4.1
      have e : spI S T = decide (w = w') := by
        refine bool_ext ?_
        rw [spI_set nT, decide_eq_true_eq]
        constructor
        · intro z
          have z1 := (sM_one nS s6 s7 (by omega)).mp (z _ ((sM_one nT t6 t7 (by omega)).mpr rfl))
          exact ((nI_eq (by omega) (by omega)).mp z1).symm
        · intro z v hv
          rw [(sM_one nT t6 t7 (by omega)).mp hv, ← z]
          exact (sM_one nS s6 s7 (by omega)).mpr rfl
      rw [e]
      by_cases c1 : w = w'
      · rw [decide_eq_true c1]
        refine eMO_coversWord_0 rfl ?_
        refine eMO_coversWord_1 mh_o rfl ?_
        refine eMO_coversWord_4 ?_
        refine eMO_coversWord_5 mh_a12 (xn_in hf (by decide)) ?_
        rw [nI_clamp (by omega)]
        rw [s1]
        refine eMO_coversWord_6 (fun c6 => ?_) (fun c => absurd c (by decide))
        refine eMO_coversWord_11 rfl ?_
        refine eMO_coversWord_12 mh_o rfl ?_
        refine eMO_coversWord_15 ?_
        refine eMO_coversWord_16 mh_a12 (xn_in hg (by decide)) ?_
        rw [nI_clamp (by omega)]
        rw [t1]
        refine eMO_coversWord_17 (fun c17 => ?_) (fun c => absurd c (by decide))
        refine eMO_coversWord_22 rfl ?_
        refine eMO_coversWord_23 mh_o rfl ?_
        refine eMO_coversWord_26 ?_
        refine eMO_coversWord_27 mh_a13 (xn_in hf (by decide)) ?_
        rw [nI_clamp (by omega)]
        rw [s2]
        refine eMO_coversWord_28 (fun c => absurd c (by decide)) (fun c28 => ?_)
        refine eMO_coversWord_31 rfl ?_
        refine eMO_coversWord_32 mh_o rfl ?_
        refine eMO_coversWord_35 ?_
        refine eMO_coversWord_36 mh_a13 (xn_in hg (by decide)) ?_
        rw [nI_clamp (by omega)]
        rw [t2]
        refine eMO_coversWord_37 (fun c => absurd c (by decide)) (fun c37 => ?_)
        refine eMO_coversWord_40 rfl ?_
        refine eMO_coversWord_41 mh_o rfl ?_
        refine eMO_coversWord_44 ?_
        refine eMO_coversWord_45 mh_a7 (xn_in hf (by decide)) ?_
        rw [nI_clamp (by omega)]
        rw [s5]
        refine eMO_coversWord_46 rfl ?_
        refine eMO_coversWord_47 mh_o rfl ?_
        refine eMO_coversWord_50 ?_
        refine eMO_coversWord_51 mh_a7 (xn_in hg (by decide)) ?_
        rw [nI_clamp (by omega)]
        rw [t5]
        refine eMO_coversWord_52 (fun c => absurd (by rw [c1]) c) (fun c52 => ?_)
        refine eMO_coversWord_55 ?_
        refine eMO_coversWord_56 ?_
        exact eMO_coversWord_60 rfl ⟨rfl, rfl⟩
      · rw [decide_eq_false c1]
        refine eMO_coversWord_0 rfl ?_
        refine eMO_coversWord_1 mh_o rfl ?_
        refine eMO_coversWord_4 ?_
        refine eMO_coversWord_5 mh_a12 (xn_in hf (by decide)) ?_
        rw [nI_clamp (by omega)]
        rw [s1]
        refine eMO_coversWord_6 (fun c6 => ?_) (fun c => absurd c (by decide))
        refine eMO_coversWord_11 rfl ?_
        refine eMO_coversWord_12 mh_o rfl ?_
        refine eMO_coversWord_15 ?_
        refine eMO_coversWord_16 mh_a12 (xn_in hg (by decide)) ?_
        rw [nI_clamp (by omega)]
        rw [t1]
        refine eMO_coversWord_17 (fun c17 => ?_) (fun c => absurd c (by decide))
        refine eMO_coversWord_22 rfl ?_
        refine eMO_coversWord_23 mh_o rfl ?_
        refine eMO_coversWord_26 ?_
        refine eMO_coversWord_27 mh_a13 (xn_in hf (by decide)) ?_
        rw [nI_clamp (by omega)]
        rw [s2]
        refine eMO_coversWord_28 (fun c => absurd c (by decide)) (fun c28 => ?_)
        refine eMO_coversWord_31 rfl ?_
        refine eMO_coversWord_32 mh_o rfl ?_
        refine eMO_coversWord_35 ?_
        refine eMO_coversWord_36 mh_a13 (xn_in hg (by decide)) ?_
        rw [nI_clamp (by omega)]
        rw [t2]
        refine eMO_coversWord_37 (fun c => absurd c (by decide)) (fun c37 => ?_)
        refine eMO_coversWord_40 rfl ?_
        refine eMO_coversWord_41 mh_o rfl ?_
        refine eMO_coversWord_44 ?_
        refine eMO_coversWord_45 mh_a7 (xn_in hf (by decide)) ?_
        rw [nI_clamp (by omega)]
        rw [s5]
        refine eMO_coversWord_46 rfl ?_
        refine eMO_coversWord_47 mh_o rfl ?_
        refine eMO_coversWord_50 ?_
        refine eMO_coversWord_51 mh_a7 (xn_in hg (by decide)) ?_
        rw [nI_clamp (by omega)]
        rw [t5]
        refine eMO_coversWord_52 (fun c52 => ?_) (fun c => absurd ((nI_eq (by omega) (by omega)).mp c) c1)
        refine eMO_coversWord_59 ?_
        exact eMO_coversWord_60 rfl ⟨rfl, rfl⟩
    · have e : spI S T = false := by
        rw [← Bool.not_eq_true, spI_set nT]
        intro z
        have b := wOk_top t4
        have z1 := (sM_one nS s6 s7 (by omega)).mp (z _ nT.2)
        rw [t8] at z1
        have z2 := (nI_eq (by omega) (by omega)).mp z1
        have z3 := wOk_t31 t4 t3
        have z4 := wOk_31 s4 s3
        rw [z2] at z3
        omega
      rw [e]
      refine eMO_coversWord_0 rfl ?_
      refine eMO_coversWord_1 mh_o rfl ?_
      refine eMO_coversWord_4 ?_
      refine eMO_coversWord_5 mh_a12 (xn_in hf (by decide)) ?_
      rw [nI_clamp (by omega)]
      rw [s1]
      refine eMO_coversWord_6 (fun c6 => ?_) (fun c => absurd c (by decide))
      refine eMO_coversWord_11 rfl ?_
      refine eMO_coversWord_12 mh_o rfl ?_
      refine eMO_coversWord_15 ?_
      refine eMO_coversWord_16 mh_a12 (xn_in hg (by decide)) ?_
      rw [nI_clamp (by omega)]
      rw [t1]
      refine eMO_coversWord_17 (fun c17 => ?_) (fun c => absurd c (by decide))
      refine eMO_coversWord_22 rfl ?_
      refine eMO_coversWord_23 mh_o rfl ?_
      refine eMO_coversWord_26 ?_
      refine eMO_coversWord_27 mh_a13 (xn_in hf (by decide)) ?_
      rw [nI_clamp (by omega)]
      rw [s2]
      refine eMO_coversWord_28 (fun c => absurd c (by decide)) (fun c28 => ?_)
      refine eMO_coversWord_31 rfl ?_
      refine eMO_coversWord_32 mh_o rfl ?_
      refine eMO_coversWord_35 ?_
      refine eMO_coversWord_36 mh_a13 (xn_in hg (by decide)) ?_
      rw [nI_clamp (by omega)]
      rw [t2]
      refine eMO_coversWord_37 (fun c37 => ?_) (fun c => absurd rfl c)
      refine eMO_coversWord_59 ?_
      exact eMO_coversWord_60 rfl ⟨rfl, rfl⟩
  · have b1 := s4.1
    have b1' := wOk_top s4
    have b1'' := wP (n := n)
    rcases rT with ⟨t1, t2⟩ | ⟨t1, t2, w', n', t3, t4, t5, t6, t7⟩ | ⟨t1, t2, w', n', t3, t4, t5, t6, t7, t8⟩
    · have e : spI S T = false := by
        rw [← Bool.not_eq_true, spI_set nT]
        intro z
        have z1 := (sM_nI (by omega) (by omega)).mp ((s7 _).mp (z 0 (by rw [t2]; exact ⟨by decide, by decide, by simp⟩)))
        rw [show (0 : Int32).toInt = 0 by decide] at z1
        omega
      rw [e]
      refine eMO_coversWord_0 rfl ?_
      refine eMO_coversWord_1 mh_o rfl ?_
      refine eMO_coversWord_4 ?_
      refine eMO_coversWord_5 mh_a12 (xn_in hf (by decide)) ?_
      rw [nI_clamp (by omega)]
      rw [s1]
      refine eMO_coversWord_6 (fun c6 => ?_) (fun c => absurd c (by decide))
      refine eMO_coversWord_11 rfl ?_
      refine eMO_coversWord_12 mh_o rfl ?_
      refine eMO_coversWord_15 ?_
      refine eMO_coversWord_16 mh_a12 (xn_in hg (by decide)) ?_
      rw [nI_clamp (by omega)]
      rw [t1]
      refine eMO_coversWord_17 (fun c => absurd rfl c) (fun c17 => ?_)
      refine eMO_coversWord_20 ?_
      exact eMO_coversWord_21 rfl ⟨rfl, rfl⟩
    · have b3 := t4.1
      have b4 := wOk_1 t4 t3
      have e : spI S T = (decide (w' / 32 ^ (4 - n) = w / 32 ^ (4 - n)) && !(S.2.2.contains (nI w'))) := by
        refine bool_ext ?_
        rw [spI_set nT, Bool.and_eq_true, decide_eq_true_eq, Bool.not_eq_true', ← Bool.not_eq_true, List.contains_iff_mem, ← sM_pre s4 s3 b4 (by omega), ← s7]
        constructor
        · intro z
          exact z _ ((sM_one nT t6 t7 (by omega)).mpr rfl)
        · intro z v hv
          rw [(sM_one nT t6 t7 (by omega)).mp hv]
          exact z
      rw [e]
      cases c1 : decide (w' / 32 ^ (4 - n) = w / 32 ^ (4 - n)) with
      | false =>
        refine eMO_coversWord_0 rfl ?_
        refine eMO_coversWord_1 mh_o rfl ?_
        refine eMO_coversWord_4 ?_
        refine eMO_coversWord_5 mh_a12 (xn_in hf (by decide)) ?_
        rw [nI_clamp (by omega)]
        rw [s1]
        refine eMO_coversWord_6 (fun c6 => ?_) (fun c => absurd c (by decide))
        refine eMO_coversWord_11 rfl ?_
        refine eMO_coversWord_12 mh_o rfl ?_
        refine eMO_coversWord_15 ?_
        refine eMO_coversWord_16 mh_a12 (xn_in hg (by decide)) ?_
        rw [nI_clamp (by omega)]
        rw [t1]
        refine eMO_coversWord_17 (fun c17 => ?_) (fun c => absurd c (by decide))
        refine eMO_coversWord_22 rfl ?_
        refine eMO_coversWord_23 mh_o rfl ?_
        refine eMO_coversWord_26 ?_
        refine eMO_coversWord_27 mh_a13 (xn_in hf (by decide)) ?_
        rw [nI_clamp (by omega)]
        rw [s2]
        refine eMO_coversWord_28 (fun c28 => ?_) (fun c => absurd rfl c)
        refine eMO_coversWord_61 rfl ?_
        refine eMO_coversWord_62 mh_o rfl ?_
        refine eMO_coversWord_65 ?_
        refine eMO_coversWord_66 mh_a13 (xn_in hg (by decide)) ?_
        rw [nI_clamp (by omega)]
        rw [t2]
        refine eMO_coversWord_67 (fun c => absurd c (by decide)) (fun c67 => ?_)
        refine eMO_coversWord_70 rfl ?_
        refine eMO_coversWord_71 mh_o rfl ?_
        refine eMO_coversWord_74 ?_
        refine eMO_coversWord_75 mh_a7 (xn_in hg (by decide)) ?_
        rw [nI_clamp (by omega)]
        rw [t5]
        refine eMO_coversWord_76 rfl ?_
        refine eMO_coversWord_77 mh_o rfl ?_
        refine eMO_coversWord_80 ?_
        refine eMO_coversWord_81 mh_a7 (xn_in hf (by decide)) ?_
        rw [nI_clamp (by omega)]
        rw [s5]
        refine eMO_coversWord_82 rfl ?_
        refine eMO_coversWord_83 mh_o rfl ?_
        refine eMO_coversWord_86 ?_
        refine eMO_coversWord_87 mh_a8 (xn_in hf (by decide)) ?_
        rw [nI_clamp (by omega)]
        rw [s6]
        refine eMO_coversWord_88 (Nat.le_of_ble_eq_true rfl) (sMO_beginsN (by omega) (by omega) (by omega)) ?_
        rintro _ _ ⟨rfl, rfl⟩
        refine ⟨_, rfl, ?_⟩
        rw [c1]
        refine eMO_coversWord_91 (fun c91 => ?_) (fun c => absurd rfl c)
        refine eMO_coversWord_112 ?_
        exact eMO_coversWord_113 rfl ⟨rfl, rfl⟩
      | true =>
        cases c2 : S.2.2.contains (nI w') with
        | true =>
          refine eMO_coversWord_0 rfl ?_
          refine eMO_coversWord_1 mh_o rfl ?_
          refine eMO_coversWord_4 ?_
          refine eMO_coversWord_5 mh_a12 (xn_in hf (by decide)) ?_
          rw [nI_clamp (by omega)]
          rw [s1]
          refine eMO_coversWord_6 (fun c6 => ?_) (fun c => absurd c (by decide))
          refine eMO_coversWord_11 rfl ?_
          refine eMO_coversWord_12 mh_o rfl ?_
          refine eMO_coversWord_15 ?_
          refine eMO_coversWord_16 mh_a12 (xn_in hg (by decide)) ?_
          rw [nI_clamp (by omega)]
          rw [t1]
          refine eMO_coversWord_17 (fun c17 => ?_) (fun c => absurd c (by decide))
          refine eMO_coversWord_22 rfl ?_
          refine eMO_coversWord_23 mh_o rfl ?_
          refine eMO_coversWord_26 ?_
          refine eMO_coversWord_27 mh_a13 (xn_in hf (by decide)) ?_
          rw [nI_clamp (by omega)]
          rw [s2]
          refine eMO_coversWord_28 (fun c28 => ?_) (fun c => absurd rfl c)
          refine eMO_coversWord_61 rfl ?_
          refine eMO_coversWord_62 mh_o rfl ?_
          refine eMO_coversWord_65 ?_
          refine eMO_coversWord_66 mh_a13 (xn_in hg (by decide)) ?_
          rw [nI_clamp (by omega)]
          rw [t2]
          refine eMO_coversWord_67 (fun c => absurd c (by decide)) (fun c67 => ?_)
          refine eMO_coversWord_70 rfl ?_
          refine eMO_coversWord_71 mh_o rfl ?_
          refine eMO_coversWord_74 ?_
          refine eMO_coversWord_75 mh_a7 (xn_in hg (by decide)) ?_
          rw [nI_clamp (by omega)]
          rw [t5]
          refine eMO_coversWord_76 rfl ?_
          refine eMO_coversWord_77 mh_o rfl ?_
          refine eMO_coversWord_80 ?_
          refine eMO_coversWord_81 mh_a7 (xn_in hf (by decide)) ?_
          rw [nI_clamp (by omega)]
          rw [s5]
          refine eMO_coversWord_82 rfl ?_
          refine eMO_coversWord_83 mh_o rfl ?_
          refine eMO_coversWord_86 ?_
          refine eMO_coversWord_87 mh_a8 (xn_in hf (by decide)) ?_
          rw [nI_clamp (by omega)]
          rw [s6]
          refine eMO_coversWord_88 (Nat.le_of_ble_eq_true rfl) (sMO_beginsN (by omega) (by omega) (by omega)) ?_
          rintro _ _ ⟨rfl, rfl⟩
          refine ⟨_, rfl, ?_⟩
          rw [c1]
          refine eMO_coversWord_91 (fun c => absurd c (by decide)) (fun c91 => ?_)
          refine eMO_coversWord_94 rfl ?_
          refine eMO_coversWord_95 ?_
          refine eMO_coversWord_96 rfl ?_
          refine eMO_coversWord_97 mh_o rfl ?_
          refine eMO_coversWord_100 ?_
          refine eMO_coversWord_101 mh_a7 (xn_in hg (by decide)) ?_
          rw [nI_clamp (by omega)]
          rw [t5]
          refine eMO_coversWord_102 mh_o (Nat.le_of_ble_eq_true rfl) (sMO_isWordOut eS hf) ?_
          rintro _ _ ⟨rfl, rfl⟩
          refine ⟨_, rfl, ?_⟩
          rw [c2]
          refine eMO_coversWord_105 (fun c105 => ?_) (fun c => absurd c (by decide))
          refine eMO_coversWord_112 ?_
          exact eMO_coversWord_113 rfl ⟨rfl, rfl⟩
        | false =>
          refine eMO_coversWord_0 rfl ?_
          refine eMO_coversWord_1 mh_o rfl ?_
          refine eMO_coversWord_4 ?_
          refine eMO_coversWord_5 mh_a12 (xn_in hf (by decide)) ?_
          rw [nI_clamp (by omega)]
          rw [s1]
          refine eMO_coversWord_6 (fun c6 => ?_) (fun c => absurd c (by decide))
          refine eMO_coversWord_11 rfl ?_
          refine eMO_coversWord_12 mh_o rfl ?_
          refine eMO_coversWord_15 ?_
          refine eMO_coversWord_16 mh_a12 (xn_in hg (by decide)) ?_
          rw [nI_clamp (by omega)]
          rw [t1]
          refine eMO_coversWord_17 (fun c17 => ?_) (fun c => absurd c (by decide))
          refine eMO_coversWord_22 rfl ?_
          refine eMO_coversWord_23 mh_o rfl ?_
          refine eMO_coversWord_26 ?_
          refine eMO_coversWord_27 mh_a13 (xn_in hf (by decide)) ?_
          rw [nI_clamp (by omega)]
          rw [s2]
          refine eMO_coversWord_28 (fun c28 => ?_) (fun c => absurd rfl c)
          refine eMO_coversWord_61 rfl ?_
          refine eMO_coversWord_62 mh_o rfl ?_
          refine eMO_coversWord_65 ?_
          refine eMO_coversWord_66 mh_a13 (xn_in hg (by decide)) ?_
          rw [nI_clamp (by omega)]
          rw [t2]
          refine eMO_coversWord_67 (fun c => absurd c (by decide)) (fun c67 => ?_)
          refine eMO_coversWord_70 rfl ?_
          refine eMO_coversWord_71 mh_o rfl ?_
          refine eMO_coversWord_74 ?_
          refine eMO_coversWord_75 mh_a7 (xn_in hg (by decide)) ?_
          rw [nI_clamp (by omega)]
          rw [t5]
          refine eMO_coversWord_76 rfl ?_
          refine eMO_coversWord_77 mh_o rfl ?_
          refine eMO_coversWord_80 ?_
          refine eMO_coversWord_81 mh_a7 (xn_in hf (by decide)) ?_
          rw [nI_clamp (by omega)]
          rw [s5]
          refine eMO_coversWord_82 rfl ?_
          refine eMO_coversWord_83 mh_o rfl ?_
          refine eMO_coversWord_86 ?_
          refine eMO_coversWord_87 mh_a8 (xn_in hf (by decide)) ?_
          rw [nI_clamp (by omega)]
          rw [s6]
          refine eMO_coversWord_88 (Nat.le_of_ble_eq_true rfl) (sMO_beginsN (by omega) (by omega) (by omega)) ?_
          rintro _ _ ⟨rfl, rfl⟩
          refine ⟨_, rfl, ?_⟩
          rw [c1]
          refine eMO_coversWord_91 (fun c => absurd c (by decide)) (fun c91 => ?_)
          refine eMO_coversWord_94 rfl ?_
          refine eMO_coversWord_95 ?_
          refine eMO_coversWord_96 rfl ?_
          refine eMO_coversWord_97 mh_o rfl ?_
          refine eMO_coversWord_100 ?_
          refine eMO_coversWord_101 mh_a7 (xn_in hg (by decide)) ?_
          rw [nI_clamp (by omega)]
          rw [t5]
          refine eMO_coversWord_102 mh_o (Nat.le_of_ble_eq_true rfl) (sMO_isWordOut eS hf) ?_
          rintro _ _ ⟨rfl, rfl⟩
          refine ⟨_, rfl, ?_⟩
          rw [c2]
          refine eMO_coversWord_105 (fun c => absurd rfl c) (fun c105 => ?_)
          refine eMO_coversWord_108 ?_
          refine eMO_coversWord_109 ?_
          exact eMO_coversWord_113 rfl ⟨rfl, rfl⟩
    · have b3 := t4.1
      have b3' := wOk_top t4
      have e : spI S T = ((decide (n ≤ n') && decide (w' / 32 ^ (4 - n) = w / 32 ^ (4 - n))) && S.2.2.all (cW T.2.2 w' n')) := by
        refine bool_ext ?_
        rw [spI_set nT, cov_pre s4 s3 t4 t3 xS xT s7 t7, Bool.and_eq_true, Bool.and_eq_true, decide_eq_true_eq, decide_eq_true_eq, List.all_eq_true]
        constructor
        · rintro ⟨h1, h2⟩
          refine ⟨h1, fun v hv => ?_⟩
          obtain ⟨x, m, x1, x2, x3⟩ := xS v hv
          subst x1
          have x4 := x3.1
          exact (cW_nI (by omega) (by omega)).mpr (h2 x x4 hv)
        · rintro ⟨h1, h2⟩
          exact ⟨h1, fun x hx hv => (cW_nI (by omega) (by omega)).mp (h2 _ hv)⟩
      rw [e]
      have fin : x_K P (d + 1) mMO_coversWord 159 [some (.ref bm), some (.int (nI f)), some (.int (nI g)), some (.int (b2i (decide (n ≤ n') && decide (w' / 32 ^ (4 - n) = w / 32 ^ (4 - n))))), none] [] (mh h0 bm ze si) (fun oc h' => oc = .returned (some (.int (b2i ((decide (n ≤ n') && decide (w' / 32 ^ (4 - n) = w / 32 ^ (4 - n))) && S.2.2.all (cW T.2.2 w' n'))))) ∧ h' = mh h0 bm ze si) := by
        refine eMO_coversWord_159 ?_
        refine eMO_coversWord_160 ?_
        refine eMO_coversWord_161 ?_
        rw [mx3]
        refine eMO_coversWord_162 ?_
        skip
        exact lMO_cW hf hg eS eT t5 t6 (by omega) S.2.2.length 0 _ (Nat.zero_add _)
      by_cases c0 : n ≤ n'
      · rw [decide_eq_true c0] at fin ⊢
        cases c1 : decide (w' / 32 ^ (4 - n) = w / 32 ^ (4 - n)) with
        | false =>
          rw [c1] at fin
          refine eMO_coversWord_0 rfl ?_
          refine eMO_coversWord_1 mh_o rfl ?_
          refine eMO_coversWord_4 ?_
          refine eMO_coversWord_5 mh_a12 (xn_in hf (by decide)) ?_
          rw [nI_clamp (by omega)]
          rw [s1]
          refine eMO_coversWord_6 (fun c6 => ?_) (fun c => absurd c (by decide))
          refine eMO_coversWord_11 rfl ?_
          refine eMO_coversWord_12 mh_o rfl ?_
          refine eMO_coversWord_15 ?_
          refine eMO_coversWord_16 mh_a12 (xn_in hg (by decide)) ?_
          rw [nI_clamp (by omega)]
          rw [t1]
          refine eMO_coversWord_17 (fun c17 => ?_) (fun c => absurd c (by decide))
          refine eMO_coversWord_22 rfl ?_
          refine eMO_coversWord_23 mh_o rfl ?_
          refine eMO_coversWord_26 ?_
          refine eMO_coversWord_27 mh_a13 (xn_in hf (by decide)) ?_
          rw [nI_clamp (by omega)]
          rw [s2]
          refine eMO_coversWord_28 (fun c28 => ?_) (fun c => absurd rfl c)
          refine eMO_coversWord_61 rfl ?_
          refine eMO_coversWord_62 mh_o rfl ?_
          refine eMO_coversWord_65 ?_
          refine eMO_coversWord_66 mh_a13 (xn_in hg (by decide)) ?_
          rw [nI_clamp (by omega)]
          rw [t2]
          refine eMO_coversWord_67 (fun c67 => ?_) (fun c => absurd rfl c)
          refine eMO_coversWord_114 rfl ?_
          refine eMO_coversWord_115 mh_o rfl ?_
          refine eMO_coversWord_118 ?_
          refine eMO_coversWord_119 mh_a8 (xn_in hg (by decide)) ?_
          rw [nI_clamp (by omega)]
          rw [t6]
          refine eMO_coversWord_120 rfl ?_
          refine eMO_coversWord_121 mh_o rfl ?_
          refine eMO_coversWord_124 ?_
          refine eMO_coversWord_125 mh_a8 (xn_in hf (by decide)) ?_
          rw [nI_clamp (by omega)]
          rw [s6]
          refine eMO_coversWord_126 (fun c => absurd c (nI_nlt c0 (by omega))) (fun c126 => ?_)
          refine eMO_coversWord_129 rfl ?_
          refine eMO_coversWord_130 mh_o rfl ?_
          refine eMO_coversWord_133 ?_
          refine eMO_coversWord_134 mh_a7 (xn_in hg (by decide)) ?_
          rw [nI_clamp (by omega)]
          rw [t5]
          refine eMO_coversWord_135 rfl ?_
          refine eMO_coversWord_136 mh_o rfl ?_
          refine eMO_coversWord_139 ?_
          refine eMO_coversWord_140 mh_a7 (xn_in hf (by decide)) ?_
          rw [nI_clamp (by omega)]
          rw [s5]
          refine eMO_coversWord_141 rfl ?_
          refine eMO_coversWord_142 mh_o rfl ?_
          refine eMO_coversWord_145 ?_
          refine eMO_coversWord_146 mh_a8 (xn_in hf (by decide)) ?_
          rw [nI_clamp (by omega)]
          rw [s6]
          refine eMO_coversWord_147 (Nat.le_of_ble_eq_true rfl) (sMO_beginsN (by omega) (by omega) (by omega)) ?_
          rintro _ _ ⟨rfl, rfl⟩
          refine ⟨_, rfl, ?_⟩
          rw [c1]
          refine eMO_coversWord_150 (fun c150 => ?_) (fun c => absurd rfl c)
          refine eMO_coversWord_157 ?_
          refine eMO_coversWord_158 ?_
          exact fin
        | true =>
          rw [c1] at fin
          refine eMO_coversWord_0 rfl ?_
          refine eMO_coversWord_1 mh_o rfl ?_
          refine eMO_coversWord_4 ?_
          refine eMO_coversWord_5 mh_a12 (xn_in hf (by decide)) ?_
          rw [nI_clamp (by omega)]
          rw [s1]
          refine eMO_coversWord_6 (fun c6 => ?_) (fun c => absurd c (by decide))
          refine eMO_coversWord_11 rfl ?_
          refine eMO_coversWord_12 mh_o rfl ?_
          refine eMO_coversWord_15 ?_
          refine eMO_coversWord_16 mh_a12 (xn_in hg (by decide)) ?_
          rw [nI_clamp (by omega)]
          rw [t1]
          refine eMO_coversWord_17 (fun c17 => ?_) (fun c => absurd c (by decide))
          refine eMO_coversWord_22 rfl ?_
          refine eMO_coversWord_23 mh_o rfl ?_
          refine eMO_coversWord_26 ?_
          refine eMO_coversWord_27 mh_a13 (xn_in hf (by decide)) ?_
          rw [nI_clamp (by omega)]
          rw [s2]
          refine eMO_coversWord_28 (fun c28 => ?_) (fun c => absurd rfl c)
          refine eMO_coversWord_61 rfl ?_
          refine eMO_coversWord_62 mh_o rfl ?_
          refine eMO_coversWord_65 ?_
          refine eMO_coversWord_66 mh_a13 (xn_in hg (by decide)) ?_
          rw [nI_clamp (by omega)]
          rw [t2]
          refine eMO_coversWord_67 (fun c67 => ?_) (fun c => absurd rfl c)
          refine eMO_coversWord_114 rfl ?_
          refine eMO_coversWord_115 mh_o rfl ?_
          refine eMO_coversWord_118 ?_
          refine eMO_coversWord_119 mh_a8 (xn_in hg (by decide)) ?_
          rw [nI_clamp (by omega)]
          rw [t6]
          refine eMO_coversWord_120 rfl ?_
          refine eMO_coversWord_121 mh_o rfl ?_
          refine eMO_coversWord_124 ?_
          refine eMO_coversWord_125 mh_a8 (xn_in hf (by decide)) ?_
          rw [nI_clamp (by omega)]
          rw [s6]
          refine eMO_coversWord_126 (fun c => absurd c (nI_nlt c0 (by omega))) (fun c126 => ?_)
          refine eMO_coversWord_129 rfl ?_
          refine eMO_coversWord_130 mh_o rfl ?_
          refine eMO_coversWord_133 ?_
          refine eMO_coversWord_134 mh_a7 (xn_in hg (by decide)) ?_
          rw [nI_clamp (by omega)]
          rw [t5]
          refine eMO_coversWord_135 rfl ?_
          refine eMO_coversWord_136 mh_o rfl ?_
          refine eMO_coversWord_139 ?_
          refine eMO_coversWord_140 mh_a7 (xn_in hf (by decide)) ?_
          rw [nI_clamp (by omega)]
          rw [s5]
          refine eMO_coversWord_141 rfl ?_
          refine eMO_coversWord_142 mh_o rfl ?_
          refine eMO_coversWord_145 ?_
          refine eMO_coversWord_146 mh_a8 (xn_in hf (by decide)) ?_
          rw [nI_clamp (by omega)]
          rw [s6]
          refine eMO_coversWord_147 (Nat.le_of_ble_eq_true rfl) (sMO_beginsN (by omega) (by omega) (by omega)) ?_
          rintro _ _ ⟨rfl, rfl⟩
          refine ⟨_, rfl, ?_⟩
          rw [c1]
          refine eMO_coversWord_150 (fun c => absurd c (by decide)) (fun c150 => ?_)
          refine eMO_coversWord_153 ?_
          refine eMO_coversWord_154 ?_
          refine eMO_coversWord_158 ?_
          exact fin
      · rw [decide_eq_false c0] at fin ⊢
        refine eMO_coversWord_0 rfl ?_
        refine eMO_coversWord_1 mh_o rfl ?_
        refine eMO_coversWord_4 ?_
        refine eMO_coversWord_5 mh_a12 (xn_in hf (by decide)) ?_
        rw [nI_clamp (by omega)]
        rw [s1]
        refine eMO_coversWord_6 (fun c6 => ?_) (fun c => absurd c (by decide))
        refine eMO_coversWord_11 rfl ?_
        refine eMO_coversWord_12 mh_o rfl ?_
        refine eMO_coversWord_15 ?_
        refine eMO_coversWord_16 mh_a12 (xn_in hg (by decide)) ?_
        rw [nI_clamp (by omega)]
        rw [t1]
        refine eMO_coversWord_17 (fun c17 => ?_) (fun c => absurd c (by decide))
        refine eMO_coversWord_22 rfl ?_
        refine eMO_coversWord_23 mh_o rfl ?_
        refine eMO_coversWord_26 ?_
        refine eMO_coversWord_27 mh_a13 (xn_in hf (by decide)) ?_
        rw [nI_clamp (by omega)]
        rw [s2]
        refine eMO_coversWord_28 (fun c28 => ?_) (fun c => absurd rfl c)
        refine eMO_coversWord_61 rfl ?_
        refine eMO_coversWord_62 mh_o rfl ?_
        refine eMO_coversWord_65 ?_
        refine eMO_coversWord_66 mh_a13 (xn_in hg (by decide)) ?_
        rw [nI_clamp (by omega)]
        rw [t2]
        refine eMO_coversWord_67 (fun c67 => ?_) (fun c => absurd rfl c)
        refine eMO_coversWord_114 rfl ?_
        refine eMO_coversWord_115 mh_o rfl ?_
        refine eMO_coversWord_118 ?_
        refine eMO_coversWord_119 mh_a8 (xn_in hg (by decide)) ?_
        rw [nI_clamp (by omega)]
        rw [t6]
        refine eMO_coversWord_120 rfl ?_
        refine eMO_coversWord_121 mh_o rfl ?_
        refine eMO_coversWord_124 ?_
        refine eMO_coversWord_125 mh_a8 (xn_in hf (by decide)) ?_
        rw [nI_clamp (by omega)]
        rw [s6]
        refine eMO_coversWord_126 (fun c126 => ?_) (fun c => absurd (nI_lt (by omega) (by omega)) c)
        refine eMO_coversWord_157 ?_
        refine eMO_coversWord_158 ?_
        exact fin
theorem sMO_coversAll {f g : Nat} {F G : sp3} (hf : f < 18) (hg : g < 18) (kF : isRF si f F) (kG : isRF si g G) : x_K P (d + 2) mMO_coversAll 0 [some (.ref bm), some (.int (nI f)), some (.int (nI g))] [] (mh h0 bm ze si) (fun oc h' => oc = .returned (some (.int (b2i (fiInc F G)))) ∧ h' = mh h0 bm ze si) := by
  cases hG : fiE G with
  | true =>
    have eG : si 14 g = b2i true := by rw [← hG]; exact kG.1
    rw [show fiInc F G = true from fiInc_iff.mpr (Or.inl hG)]
    refine eMO_coversAll_0 rfl ?_
    refine eMO_coversAll_1 mh_o rfl ?_
    refine eMO_coversAll_4 ?_
    refine eMO_coversAll_5 mh_a14 (xn_in hg (by decide)) ?_
    rw [nI_clamp (by omega)]
    rw [eG]
    refine eMO_coversAll_6 (fun c6 => ?_) (fun c => absurd c (by decide))
    refine eMO_coversAll_18 rfl ?_
    refine eMO_coversAll_19 mh_o rfl ?_
    refine eMO_coversAll_22 ?_
    refine eMO_coversAll_23 mh_a14 (xn_in hg (by decide)) ?_
    rw [nI_clamp (by omega)]
    rw [eG]
    exact eMO_coversAll_24 (b2i_n _) ⟨rfl, rfl⟩
  | false =>
    have eG : si 14 g = b2i false := by rw [← hG]; exact kG.1
    cases hF : fiE F with
    | true =>
      have eF : si 14 f = b2i true := by rw [← hF]; exact kF.1
      rw [show fiInc F G = false by
        rw [← Bool.not_eq_true]
        intro z
        rw [fiInc_E z hG] at hF
        cases hF]
      refine eMO_coversAll_0 rfl ?_
      refine eMO_coversAll_1 mh_o rfl ?_
      refine eMO_coversAll_4 ?_
      refine eMO_coversAll_5 mh_a14 (xn_in hg (by decide)) ?_
      rw [nI_clamp (by omega)]
      rw [eG]
      refine eMO_coversAll_6 (fun c => absurd rfl c) (fun c6 => ?_)
      refine eMO_coversAll_9 rfl ?_
      refine eMO_coversAll_10 mh_o rfl ?_
      refine eMO_coversAll_13 ?_
      refine eMO_coversAll_14 mh_a14 (xn_in hf (by decide)) ?_
      rw [nI_clamp (by omega)]
      rw [eF]
      refine eMO_coversAll_15 (fun c => absurd c (by decide)) (fun c15 => ?_)
      refine eMO_coversAll_18 rfl ?_
      refine eMO_coversAll_19 mh_o rfl ?_
      refine eMO_coversAll_22 ?_
      refine eMO_coversAll_23 mh_a14 (xn_in hg (by decide)) ?_
      rw [nI_clamp (by omega)]
      rw [eG]
      exact eMO_coversAll_24 (b2i_n _) ⟨rfl, rfl⟩
    | false =>
      have eF : si 14 f = b2i false := by rw [← hF]; exact kF.1
      obtain ⟨a1, a2, a3⟩ := kF.2 hF
      obtain ⟨b1, b2, b3⟩ := kG.2 hG
      obtain ⟨x1, x2, x3⟩ := fiE_iff.mp hF
      obtain ⟨y1, y2, y3⟩ := fiE_iff.mp hG
      have e : fiInc F G = (spI F.1 G.1 && spI F.2.1 G.2.1 && spI F.2.2 G.2.2) := by
        unfold fiInc
        rw [hG, Bool.false_or]
      rw [e]
      cases q1 : spI F.1 G.1 with
      | false =>
        refine eMO_coversAll_0 rfl ?_
        refine eMO_coversAll_1 mh_o rfl ?_
        refine eMO_coversAll_4 ?_
        refine eMO_coversAll_5 mh_a14 (xn_in hg (by decide)) ?_
        rw [nI_clamp (by omega)]
        rw [eG]
        refine eMO_coversAll_6 (fun c => absurd rfl c) (fun c6 => ?_)
        refine eMO_coversAll_9 rfl ?_
        refine eMO_coversAll_10 mh_o rfl ?_
        refine eMO_coversAll_13 ?_
        refine eMO_coversAll_14 mh_a14 (xn_in hf (by decide)) ?_
        rw [nI_clamp (by omega)]
        rw [eF]
        refine eMO_coversAll_15 (fun c15 => ?_) (fun c => absurd rfl c)
        refine eMO_coversAll_25 rfl ?_
        refine eMO_coversAll_26 ?_
        refine eMO_coversAll_27 ?_
        refine eMO_coversAll_28 ?_
        rw [mx2]
        refine eMO_coversAll_29 ?_
        refine eMO_coversAll_30 ?_
        refine eMO_coversAll_31 ?_
        rw [mx2]
        refine eMO_coversAll_32 mh_o (Nat.le_of_ble_eq_true rfl) (sMO_coversNumber (by omega) (by omega) a1 b1 x1 y1) ?_
        rintro _ _ ⟨rfl, rfl⟩
        refine ⟨_, rfl, ?_⟩
        rw [q1]
        refine eMO_coversAll_35 (fun c35 => ?_) (fun c => absurd rfl c)
        refine eMO_coversAll_68 ?_
        exact eMO_coversAll_69 rfl ⟨rfl, rfl⟩
      | true =>
        cases q2 : spI F.2.1 G.2.1 with
        | false =>
          refine eMO_coversAll_0 rfl ?_
          refine eMO_coversAll_1 mh_o rfl ?_
          refine eMO_coversAll_4 ?_
          refine eMO_coversAll_5 mh_a14 (xn_in hg (by decide)) ?_
          rw [nI_clamp (by omega)]
          rw [eG]
          refine eMO_coversAll_6 (fun c => absurd rfl c) (fun c6 => ?_)
          refine eMO_coversAll_9 rfl ?_
          refine eMO_coversAll_10 mh_o rfl ?_
          refine eMO_coversAll_13 ?_
          refine eMO_coversAll_14 mh_a14 (xn_in hf (by decide)) ?_
          rw [nI_clamp (by omega)]
          rw [eF]
          refine eMO_coversAll_15 (fun c15 => ?_) (fun c => absurd rfl c)
          refine eMO_coversAll_25 rfl ?_
          refine eMO_coversAll_26 ?_
          refine eMO_coversAll_27 ?_
          refine eMO_coversAll_28 ?_
          rw [mx2]
          refine eMO_coversAll_29 ?_
          refine eMO_coversAll_30 ?_
          refine eMO_coversAll_31 ?_
          rw [mx2]
          refine eMO_coversAll_32 mh_o (Nat.le_of_ble_eq_true rfl) (sMO_coversNumber (by omega) (by omega) a1 b1 x1 y1) ?_
          rintro _ _ ⟨rfl, rfl⟩
          refine ⟨_, rfl, ?_⟩
          rw [q1]
          refine eMO_coversAll_35 (fun c => absurd c (by decide)) (fun c35 => ?_)
          refine eMO_coversAll_38 rfl ?_
          refine eMO_coversAll_39 ?_
          refine eMO_coversAll_40 ?_
          refine eMO_coversAll_41 ?_
          rw [mx2]
          refine eMO_coversAll_42 ?_
          refine eMO_coversAll_43 ?_
          rw [nI_1]
          refine eMO_coversAll_44 ?_
          refine eMO_coversAll_45 ?_
          refine eMO_coversAll_46 ?_
          rw [mx2]
          refine eMO_coversAll_47 ?_
          refine eMO_coversAll_48 ?_
          rw [nI_1]
          refine eMO_coversAll_49 mh_o (Nat.le_of_ble_eq_true rfl) (sMO_coversNumber (by omega) (by omega) a2 b2 x2 y2) ?_
          rintro _ _ ⟨rfl, rfl⟩
          refine ⟨_, rfl, ?_⟩
          rw [q2]
          refine eMO_coversAll_52 (fun c52 => ?_) (fun c => absurd rfl c)
          refine eMO_coversAll_68 ?_
          exact eMO_coversAll_69 rfl ⟨rfl, rfl⟩
        | true =>
          cases q3 : spI F.2.2 G.2.2 with
          | false =>
            refine eMO_coversAll_0 rfl ?_
            refine eMO_coversAll_1 mh_o rfl ?_
            refine eMO_coversAll_4 ?_
            refine eMO_coversAll_5 mh_a14 (xn_in hg (by decide)) ?_
            rw [nI_clamp (by omega)]
            rw [eG]
            refine eMO_coversAll_6 (fun c => absurd rfl c) (fun c6 => ?_)
            refine eMO_coversAll_9 rfl ?_
            refine eMO_coversAll_10 mh_o rfl ?_
            refine eMO_coversAll_13 ?_
            refine eMO_coversAll_14 mh_a14 (xn_in hf (by decide)) ?_
            rw [nI_clamp (by omega)]
            rw [eF]
            refine eMO_coversAll_15 (fun c15 => ?_) (fun c => absurd rfl c)
            refine eMO_coversAll_25 rfl ?_
            refine eMO_coversAll_26 ?_
            refine eMO_coversAll_27 ?_
            refine eMO_coversAll_28 ?_
            rw [mx2]
            refine eMO_coversAll_29 ?_
            refine eMO_coversAll_30 ?_
            refine eMO_coversAll_31 ?_
            rw [mx2]
            refine eMO_coversAll_32 mh_o (Nat.le_of_ble_eq_true rfl) (sMO_coversNumber (by omega) (by omega) a1 b1 x1 y1) ?_
            rintro _ _ ⟨rfl, rfl⟩
            refine ⟨_, rfl, ?_⟩
            rw [q1]
            refine eMO_coversAll_35 (fun c => absurd c (by decide)) (fun c35 => ?_)
            refine eMO_coversAll_38 rfl ?_
            refine eMO_coversAll_39 ?_
            refine eMO_coversAll_40 ?_
            refine eMO_coversAll_41 ?_
            rw [mx2]
            refine eMO_coversAll_42 ?_
            refine eMO_coversAll_43 ?_
            rw [nI_1]
            refine eMO_coversAll_44 ?_
            refine eMO_coversAll_45 ?_
            refine eMO_coversAll_46 ?_
            rw [mx2]
            refine eMO_coversAll_47 ?_
            refine eMO_coversAll_48 ?_
            rw [nI_1]
            refine eMO_coversAll_49 mh_o (Nat.le_of_ble_eq_true rfl) (sMO_coversNumber (by omega) (by omega) a2 b2 x2 y2) ?_
            rintro _ _ ⟨rfl, rfl⟩
            refine ⟨_, rfl, ?_⟩
            rw [q2]
            refine eMO_coversAll_52 (fun c => absurd c (by decide)) (fun c52 => ?_)
            refine eMO_coversAll_55 rfl ?_
            refine eMO_coversAll_56 ?_
            refine eMO_coversAll_57 ?_
            refine eMO_coversAll_58 mh_o (Nat.le_of_ble_eq_true rfl) (sMO_coversWord hf hg a3 b3) ?_
            rintro _ _ ⟨rfl, rfl⟩
            refine ⟨_, rfl, ?_⟩
            rw [q3]
            refine eMO_coversAll_61 (fun c61 => ?_) (fun c => absurd rfl c)
            refine eMO_coversAll_68 ?_
            exact eMO_coversAll_69 rfl ⟨rfl, rfl⟩
          | true =>
            refine eMO_coversAll_0 rfl ?_
            refine eMO_coversAll_1 mh_o rfl ?_
            refine eMO_coversAll_4 ?_
            refine eMO_coversAll_5 mh_a14 (xn_in hg (by decide)) ?_
            rw [nI_clamp (by omega)]
            rw [eG]
            refine eMO_coversAll_6 (fun c => absurd rfl c) (fun c6 => ?_)
            refine eMO_coversAll_9 rfl ?_
            refine eMO_coversAll_10 mh_o rfl ?_
            refine eMO_coversAll_13 ?_
            refine eMO_coversAll_14 mh_a14 (xn_in hf (by decide)) ?_
            rw [nI_clamp (by omega)]
            rw [eF]
            refine eMO_coversAll_15 (fun c15 => ?_) (fun c => absurd rfl c)
            refine eMO_coversAll_25 rfl ?_
            refine eMO_coversAll_26 ?_
            refine eMO_coversAll_27 ?_
            refine eMO_coversAll_28 ?_
            rw [mx2]
            refine eMO_coversAll_29 ?_
            refine eMO_coversAll_30 ?_
            refine eMO_coversAll_31 ?_
            rw [mx2]
            refine eMO_coversAll_32 mh_o (Nat.le_of_ble_eq_true rfl) (sMO_coversNumber (by omega) (by omega) a1 b1 x1 y1) ?_
            rintro _ _ ⟨rfl, rfl⟩
            refine ⟨_, rfl, ?_⟩
            rw [q1]
            refine eMO_coversAll_35 (fun c => absurd c (by decide)) (fun c35 => ?_)
            refine eMO_coversAll_38 rfl ?_
            refine eMO_coversAll_39 ?_
            refine eMO_coversAll_40 ?_
            refine eMO_coversAll_41 ?_
            rw [mx2]
            refine eMO_coversAll_42 ?_
            refine eMO_coversAll_43 ?_
            rw [nI_1]
            refine eMO_coversAll_44 ?_
            refine eMO_coversAll_45 ?_
            refine eMO_coversAll_46 ?_
            rw [mx2]
            refine eMO_coversAll_47 ?_
            refine eMO_coversAll_48 ?_
            rw [nI_1]
            refine eMO_coversAll_49 mh_o (Nat.le_of_ble_eq_true rfl) (sMO_coversNumber (by omega) (by omega) a2 b2 x2 y2) ?_
            rintro _ _ ⟨rfl, rfl⟩
            refine ⟨_, rfl, ?_⟩
            rw [q2]
            refine eMO_coversAll_52 (fun c => absurd c (by decide)) (fun c52 => ?_)
            refine eMO_coversAll_55 rfl ?_
            refine eMO_coversAll_56 ?_
            refine eMO_coversAll_57 ?_
            refine eMO_coversAll_58 mh_o (Nat.le_of_ble_eq_true rfl) (sMO_coversWord hf hg a3 b3) ?_
            rintro _ _ ⟨rfl, rfl⟩
            refine ⟨_, rfl, ?_⟩
            rw [q3]
            refine eMO_coversAll_61 (fun c => absurd c (by decide)) (fun c61 => ?_)
            refine eMO_coversAll_64 ?_
            refine eMO_coversAll_65 ?_
            exact eMO_coversAll_69 rfl ⟨rfl, rfl⟩
end

