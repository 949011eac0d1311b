/-! The reference: matches -/
section
variable {P : x_P} {d : Nat} {h0 : x_H} {bm : Nat} {ze : Nat → Int32} {si : Nat → Nat → Int32}
theorem kMO_mt {f i t : Nat} {v : Int32} {S : sp} {v4 v5 : Option Value} {Φ : Outcome → x_H → Prop} (hf : f < 18) (ht : t < 2) (kS : isRT si (2 * f + t) S) (hS : spE S = false) (hv : -999 ≤ v.toInt ∧ v.toInt ≤ 1000)
  (k1 : spH S v = true → x_K P (d + 1) mMO_matches 101 [some (.ref bm), some (.int (nI f)), some (.int (nI i)), some (.int (nI t)), some (.int v), some (.int (nI (2 * f + t)))] [] (mh h0 bm ze si) Φ)
  (k0 : spH S v = false → Φ (.returned (some (.int 0))) (mh h0 bm ze si)) :
  x_K P (d + 1) mMO_matches 37 [some (.ref bm), some (.int (nI f)), some (.int (nI i)), some (.int (nI t)), v4, v5] [.int v] (mh h0 bm ze si) Φ := by
  obtain ⟨c1, c2, c3⟩ := i999
  obtain ⟨nS, rS⟩ := kS.2 hS
  rcases rS with ⟨s1, s2⟩ | ⟨s1, s2, s3, s4, s5⟩
  · have e : spH S v = true := spH_iff.mpr (by rw [s2]; exact ⟨by rw [c1]; exact hv.1, by rw [c3]; exact hv.2, by simp⟩)
    refine eMO_matches_37 ?_
    refine eMO_matches_39 ?_
    refine eMO_matches_40 ?_
    refine eMO_matches_41 ?_
    rw [mx2]
    refine eMO_matches_42 ?_
    refine eMO_matches_43 ?_
    rw [nI_add]
    refine eMO_matches_44 ?_
    refine eMO_matches_46 rfl ?_
    refine eMO_matches_47 mh_o rfl ?_
    refine eMO_matches_50 ?_
    refine eMO_matches_52 mh_a11 (xn_in (by omega) (by decide)) ?_
    rw [nI_clamp (by omega)]
    rw [s1]
    refine eMO_matches_53 (fun c53 => ?_) (fun c => absurd rfl c)
    exact k1 e
  · by_cases a1 : v = 1000
    · have e : spH S v = false := by
        rw [← Bool.not_eq_true, spH_iff]
        intro z
        have := z.2.1
        rw [a1, c3] at this
        omega
      refine eMO_matches_37 ?_
      refine eMO_matches_39 ?_
      refine eMO_matches_40 ?_
      refine eMO_matches_41 ?_
      rw [mx2]
      refine eMO_matches_42 ?_
      refine eMO_matches_43 ?_
      rw [nI_add]
      refine eMO_matches_44 ?_
      refine eMO_matches_46 rfl ?_
      refine eMO_matches_47 mh_o rfl ?_
      refine eMO_matches_50 ?_
      refine eMO_matches_52 mh_a11 (xn_in (by omega) (by decide)) ?_
      rw [nI_clamp (by omega)]
      rw [s1]
      refine eMO_matches_53 (fun c => absurd c (by decide)) (fun c53 => ?_)
      refine eMO_matches_56 ?_
      refine eMO_matches_58 ?_
      refine eMO_matches_61 (fun c61 => ?_) (fun c => absurd a1 c)
      refine eMO_matches_99 ?_
      exact eMO_matches_100 rfl (k0 e)
    · by_cases a2 : v < S.1
      · have e : spH S v = false := by
          rw [← Bool.not_eq_true, spH_iff]
          intro z
          have := z.1
          have := Int32.lt_iff_toInt_lt.mp a2
          omega
        refine eMO_matches_37 ?_
        refine eMO_matches_39 ?_
        refine eMO_matches_40 ?_
        refine eMO_matches_41 ?_
        rw [mx2]
        refine eMO_matches_42 ?_
        refine eMO_matches_43 ?_
        rw [nI_add]
        refine eMO_matches_44 ?_
        refine eMO_matches_46 rfl ?_
        refine eMO_matches_47 mh_o rfl ?_
        refine eMO_matches_50 ?_
        refine eMO_matches_52 mh_a11 (xn_in (by omega) (by decide)) ?_
        rw [nI_clamp (by omega)]
        rw [s1]
        refine eMO_matches_53 (fun c => absurd c (by decide)) (fun c53 => ?_)
        refine eMO_matches_56 ?_
        refine eMO_matches_58 ?_
        refine eMO_matches_61 (fun c => absurd c a1) (fun c61 => ?_)
        refine eMO_matches_64 ?_
        refine eMO_matches_66 rfl ?_
        refine eMO_matches_67 mh_o rfl ?_
        refine eMO_matches_70 ?_
        refine eMO_matches_72 mh_a3 (xn_in (by omega) (by decide)) ?_
        rw [nI_clamp (by omega)]
        rw [s2]
        refine eMO_matches_73 (fun c73 => ?_) (fun c => absurd a2 c)
        refine eMO_matches_99 ?_
        exact eMO_matches_100 rfl (k0 e)
      · by_cases a3 : S.2.1 < v
        · have e : spH S v = false := by
            rw [← Bool.not_eq_true, spH_iff]
            intro z
            have := z.2.1
            have := Int32.lt_iff_toInt_lt.mp a3
            omega
          refine eMO_matches_37 ?_
          refine eMO_matches_39 ?_
          refine eMO_matches_40 ?_
          refine eMO_matches_41 ?_
          rw [mx2]
          refine eMO_matches_42 ?_
          refine eMO_matches_43 ?_
          rw [nI_add]
          refine eMO_matches_44 ?_
          refine eMO_matches_46 rfl ?_
          refine eMO_matches_47 mh_o rfl ?_
          refine eMO_matches_50 ?_
          refine eMO_matches_52 mh_a11 (xn_in (by omega) (by decide)) ?_
          rw [nI_clamp (by omega)]
          rw [s1]
          refine eMO_matches_53 (fun c => absurd c (by decide)) (fun c53 => ?_)
          refine eMO_matches_56 ?_
          refine eMO_matches_58 ?_
          refine eMO_matches_61 (fun c => absurd c a1) (fun c61 => ?_)
          refine eMO_matches_64 ?_
          refine eMO_matches_66 rfl ?_
          refine eMO_matches_67 mh_o rfl ?_
          refine eMO_matches_70 ?_
          refine eMO_matches_72 mh_a3 (xn_in (by omega) (by decide)) ?_
          rw [nI_clamp (by omega)]
          rw [s2]
          refine eMO_matches_73 (fun c => absurd c a2) (fun c73 => ?_)
          refine eMO_matches_76 ?_
          refine eMO_matches_78 rfl ?_
          refine eMO_matches_79 mh_o rfl ?_
          refine eMO_matches_82 ?_
          refine eMO_matches_84 mh_a4 (xn_in (by omega) (by decide)) ?_
          rw [nI_clamp (by omega)]
          rw [s3]
          refine eMO_matches_85 (fun c85 => ?_) (fun c => absurd a3 c)
          refine eMO_matches_99 ?_
          exact eMO_matches_100 rfl (k0 e)
        · have hH : spH S v = !(S.2.2.contains v) := by
            unfold spH spHas
            rw [decide_eq_false a2, decide_eq_true (Int32.not_lt.mp a3)]
            rfl
          cases q : S.2.2.contains v with
          | true =>
            have e : spH S v = false := by rw [hH, q]; rfl
            refine eMO_matches_37 ?_
            refine eMO_matches_39 ?_
            refine eMO_matches_40 ?_
            refine eMO_matches_41 ?_
            rw [mx2]
            refine eMO_matches_42 ?_
            refine eMO_matches_43 ?_
            rw [nI_add]
            refine eMO_matches_44 ?_
            refine eMO_matches_46 rfl ?_
            refine eMO_matches_47 mh_o rfl ?_
            refine eMO_matches_50 ?_
            refine eMO_matches_52 mh_a11 (xn_in (by omega) (by decide)) ?_
            rw [nI_clamp (by omega)]
            rw [s1]
            refine eMO_matches_53 (fun c => absurd c (by decide)) (fun c53 => ?_)
            refine eMO_matches_56 ?_
            refine eMO_matches_58 ?_
            refine eMO_matches_61 (fun c => absurd c a1) (fun c61 => ?_)
            refine eMO_matches_64 ?_
            refine eMO_matches_66 rfl ?_
            refine eMO_matches_67 mh_o rfl ?_
            refine eMO_matches_70 ?_
            refine eMO_matches_72 mh_a3 (xn_in (by omega) (by decide)) ?_
            rw [nI_clamp (by omega)]
            rw [s2]
            refine eMO_matches_73 (fun c => absurd c a2) (fun c73 => ?_)
            refine eMO_matches_76 ?_
            refine eMO_matches_78 rfl ?_
            refine eMO_matches_79 mh_o rfl ?_
            refine eMO_matches_82 ?_
            refine eMO_matches_84 mh_a4 (xn_in (by omega) (by decide)) ?_
            rw [nI_clamp (by omega)]
            rw [s3]
            refine eMO_matches_85 (fun c => absurd c a3) (fun c85 => ?_)
            refine eMO_matches_88 rfl ?_
            refine eMO_matches_89 ?_
            refine eMO_matches_91 ?_
            refine eMO_matches_93 mh_o (Nat.le_of_ble_eq_true rfl) (sMO_isOut kS.1 (by omega)) ?_
            rintro _ _ ⟨rfl, rfl⟩
            refine ⟨_, rfl, ?_⟩
            rw [q]
            refine eMO_matches_96 (fun c => absurd c (by decide)) (fun c96 => ?_)
            refine eMO_matches_99 ?_
            exact eMO_matches_100 rfl (k0 e)
          | false =>
            have e : spH S v = true := by rw [hH, q]; rfl
            refine eMO_matches_37 ?_
            refine eMO_matches_39 ?_
            refine eMO_matches_40 ?_
            refine eMO_matches_41 ?_
            rw [mx2]
            refine eMO_matches_42 ?_
            refine eMO_matches_43 ?_
            rw [nI_add]
            refine eMO_matches_44 ?_
            refine eMO_matches_46 rfl ?_
            refine eMO_matches_47 mh_o rfl ?_
            refine eMO_matches_50 ?_
            refine eMO_matches_52 mh_a11 (xn_in (by omega) (by decide)) ?_
            rw [nI_clamp (by omega)]
            rw [s1]
            refine eMO_matches_53 (fun c => absurd c (by decide)) (fun c53 => ?_)
            refine eMO_matches_56 ?_
            refine eMO_matches_58 ?_
            refine eMO_matches_61 (fun c => absurd c a1) (fun c61 => ?_)
            refine eMO_matches_64 ?_
            refine eMO_matches_66 rfl ?_
            refine eMO_matches_67 mh_o rfl ?_
            refine eMO_matches_70 ?_
            refine eMO_matches_72 mh_a3 (xn_in (by omega) (by decide)) ?_
            rw [nI_clamp (by omega)]
            rw [s2]
            refine eMO_matches_73 (fun c => absurd c a2) (fun c73 => ?_)
            refine eMO_matches_76 ?_
            refine eMO_matches_78 rfl ?_
            refine eMO_matches_79 mh_o rfl ?_
            refine eMO_matches_82 ?_
            refine eMO_matches_84 mh_a4 (xn_in (by omega) (by decide)) ?_
            rw [nI_clamp (by omega)]
            rw [s3]
            refine eMO_matches_85 (fun c => absurd c a3) (fun c85 => ?_)
            refine eMO_matches_88 rfl ?_
            refine eMO_matches_89 ?_
            refine eMO_matches_91 ?_
            refine eMO_matches_93 mh_o (Nat.le_of_ble_eq_true rfl) (sMO_isOut kS.1 (by omega)) ?_
            rintro _ _ ⟨rfl, rfl⟩
            refine ⟨_, rfl, ?_⟩
            rw [q]
            refine eMO_matches_96 (fun c96 => ?_) (fun c => absurd rfl c)
            exact k1 e
theorem kMO_mw {f i c : Nat} {S : sp} {v3 v4 v5 : Option Value} {Φ : Outcome → x_H → Prop} (hf : f < 18) (hi : i < 520) (kS : isRX si f S) (hc : si 29 i = nI c) (hc2 : c < 1048576) (kk : Φ (.returned (some (.int (b2i (spH S (nI c)))))) (mh h0 bm ze si)) :
  x_K P (d + 1) mMO_matches 107 [some (.ref bm), some (.int (nI f)), some (.int (nI i)), v3, v4, v5] [] (mh h0 bm ze si) Φ := by
  obtain ⟨eS, xS, nS, rS⟩ := kS
  rcases rS with ⟨s1, s2⟩ | ⟨s1, s2, w, n, s3, s4, s5, s6, s7⟩ | ⟨s1, s2, w, n, s3, s4, s5, s6, s7, s8⟩
  · have e : spH S (nI c) = true := spH_iff.mpr (by
      rw [s2]
      refine ⟨?_, ?_, by simp⟩
      · show (0 : Int32).toInt ≤ (nI c).toInt
        rw [nI_toInt (by omega), show (0 : Int32).toInt = 0 by decide]
        omega
      · show (nI c).toInt ≤ (1048575 : Int32).toInt
        rw [nI_toInt (by omega), show (1048575 : Int32).toInt = 1048575 by decide]
        omega)
    rw [e] at kk
    refine eMO_matches_107 rfl ?_
    refine eMO_matches_108 mh_o rfl ?_
    refine eMO_matches_111 ?_
    refine eMO_matches_112 mh_a29 (xn_in hi (by decide)) ?_
    rw [nI_clamp (by omega)]
    rw [hc]
    refine eMO_matches_113 ?_
    refine eMO_matches_114 rfl ?_
    refine eMO_matches_115 mh_o rfl ?_
    refine eMO_matches_118 ?_
    refine eMO_matches_119 mh_a12 (xn_in hf (by decide)) ?_
    rw [nI_clamp (by omega)]
    rw [s1]
    refine eMO_matches_120 (fun c => absurd rfl c) (fun c120 => ?_)
    refine eMO_matches_123 ?_
    exact eMO_matches_124 rfl kk
  · have b1 := s4.1
    have b2 := wOk_1 s4 s3
    have hM : spH S (nI c) = true ↔ c = w := by
      rw [spH_iff, sM_one nS s6 s7 (by omega), nI_eq (by omega) (by omega)]
    by_cases a1 : c = 0
    · have e : spH S (nI c) = false := by
        rw [← Bool.not_eq_true, hM]
        omega
      rw [e] at kk
      refine eMO_matches_107 rfl ?_
      refine eMO_matches_108 mh_o rfl ?_
      refine eMO_matches_111 ?_
      refine eMO_matches_112 mh_a29 (xn_in hi (by decide)) ?_
      rw [nI_clamp (by omega)]
      rw [hc]
      refine eMO_matches_113 ?_
      refine eMO_matches_114 rfl ?_
      refine eMO_matches_115 mh_o rfl ?_
      refine eMO_matches_118 ?_
      refine eMO_matches_119 mh_a12 (xn_in hf (by decide)) ?_
      rw [nI_clamp (by omega)]
      rw [s1]
      refine eMO_matches_120 (fun c120 => ?_) (fun c => absurd c (by decide))
      refine eMO_matches_125 ?_
      refine eMO_matches_126 (fun c126 => ?_) (fun z => absurd (by rw [a1]; decide) z)
      refine eMO_matches_183 ?_
      exact eMO_matches_184 rfl kk
    · cases a2 : S.2.2.contains (nI c) with
      | true =>
        have e : spH S (nI c) = false := by
          rw [← Bool.not_eq_true, spH_iff]
          exact fun z => z.2.2 (List.contains_iff_mem.mp a2)
        rw [e] at kk
        refine eMO_matches_107 rfl ?_
        refine eMO_matches_108 mh_o rfl ?_
        refine eMO_matches_111 ?_
        refine eMO_matches_112 mh_a29 (xn_in hi (by decide)) ?_
        rw [nI_clamp (by omega)]
        rw [hc]
        refine eMO_matches_113 ?_
        refine eMO_matches_114 rfl ?_
        refine eMO_matches_115 mh_o rfl ?_
        refine eMO_matches_118 ?_
        refine eMO_matches_119 mh_a12 (xn_in hf (by decide)) ?_
        rw [nI_clamp (by omega)]
        rw [s1]
        refine eMO_matches_120 (fun c120 => ?_) (fun c => absurd c (by decide))
        refine eMO_matches_125 ?_
        refine eMO_matches_126 (fun z => absurd z (nI_nle (by omega) (by omega))) (fun c126 => ?_)
        refine eMO_matches_129 rfl ?_
        refine eMO_matches_130 ?_
        refine eMO_matches_131 ?_
        refine eMO_matches_132 mh_o (Nat.le_of_ble_eq_true rfl) (sMO_isWordOut eS hf) ?_
        rintro _ _ ⟨rfl, rfl⟩
        refine ⟨_, rfl, ?_⟩
        rw [a2]
        refine eMO_matches_135 (fun c135 => ?_) (fun c => absurd c (by decide))
        refine eMO_matches_183 ?_
        exact eMO_matches_184 rfl kk
      | false =>
        by_cases a3 : c = w
        · rw [hM.mpr a3] at kk
          refine eMO_matches_107 rfl ?_
          refine eMO_matches_108 mh_o rfl ?_
          refine eMO_matches_111 ?_
          refine eMO_matches_112 mh_a29 (xn_in hi (by decide)) ?_
          rw [nI_clamp (by omega)]
          rw [hc]
          refine eMO_matches_113 ?_
          refine eMO_matches_114 rfl ?_
          refine eMO_matches_115 mh_o rfl ?_
          refine eMO_matches_118 ?_
          refine eMO_matches_119 mh_a12 (xn_in hf (by decide)) ?_
          rw [nI_clamp (by omega)]
          rw [s1]
          refine eMO_matches_120 (fun c120 => ?_) (fun c => absurd c (by decide))
          refine eMO_matches_125 ?_
          refine eMO_matches_126 (fun z => absurd z (nI_nle (by omega) (by omega))) (fun c126 => ?_)
          refine eMO_matches_129 rfl ?_
          refine eMO_matches_130 ?_
          refine eMO_matches_131 ?_
          refine eMO_matches_132 mh_o (Nat.le_of_ble_eq_true rfl) (sMO_isWordOut eS hf) ?_
          rintro _ _ ⟨rfl, rfl⟩
          refine ⟨_, rfl, ?_⟩
          rw [a2]
          refine eMO_matches_135 (fun c => absurd rfl c) (fun c135 => ?_)
          refine eMO_matches_138 rfl ?_
          refine eMO_matches_139 mh_o rfl ?_
          refine eMO_matches_142 ?_
          refine eMO_matches_143 mh_a13 (xn_in hf (by decide)) ?_
          rw [nI_clamp (by omega)]
          rw [s2]
          refine eMO_matches_144 (fun c => absurd c (by decide)) (fun c144 => ?_)
          refine eMO_matches_147 ?_
          refine eMO_matches_148 rfl ?_
          refine eMO_matches_149 mh_o rfl ?_
          refine eMO_matches_152 ?_
          refine eMO_matches_153 mh_a7 (xn_in hf (by decide)) ?_
          rw [nI_clamp (by omega)]
          rw [s5]
          refine eMO_matches_154 (fun z => absurd (by rw [a3]) z) (fun c154 => ?_)
          refine eMO_matches_157 ?_
          refine eMO_matches_179 ?_
          refine eMO_matches_180 ?_
          exact eMO_matches_184 rfl kk
        · have e : spH S (nI c) = false := by
            rw [← Bool.not_eq_true, hM]
            exact a3
          rw [e] at kk
          refine eMO_matches_107 rfl ?_
          refine eMO_matches_108 mh_o rfl ?_
          refine eMO_matches_111 ?_
          refine eMO_matches_112 mh_a29 (xn_in hi (by decide)) ?_
          rw [nI_clamp (by omega)]
          rw [hc]
          refine eMO_matches_113 ?_
          refine eMO_matches_114 rfl ?_
          refine eMO_matches_115 mh_o rfl ?_
          refine eMO_matches_118 ?_
          refine eMO_matches_119 mh_a12 (xn_in hf (by decide)) ?_
          rw [nI_clamp (by omega)]
          rw [s1]
          refine eMO_matches_120 (fun c120 => ?_) (fun c => absurd c (by decide))
          refine eMO_matches_125 ?_
          refine eMO_matches_126 (fun z => absurd z (nI_nle (by omega) (by omega))) (fun c126 => ?_)
          refine eMO_matches_129 rfl ?_
          refine eMO_matches_130 ?_
          refine eMO_matches_131 ?_
          refine eMO_matches_132 mh_o (Nat.le_of_ble_eq_true rfl) (sMO_isWordOut eS hf) ?_
          rintro _ _ ⟨rfl, rfl⟩
          refine ⟨_, rfl, ?_⟩
          rw [a2]
          refine eMO_matches_135 (fun c => absurd rfl c) (fun c135 => ?_)
          refine eMO_matches_138 rfl ?_
          refine eMO_matches_139 mh_o rfl ?_
          refine eMO_matches_142 ?_
          refine eMO_matches_143 mh_a13 (xn_in hf (by decide)) ?_
          rw [nI_clamp (by omega)]
          rw [s2]
          refine eMO_matches_144 (fun c => absurd c (by decide)) (fun c144 => ?_)
          refine eMO_matches_147 ?_
          refine eMO_matches_148 rfl ?_
          refine eMO_matches_149 mh_o rfl ?_
          refine eMO_matches_152 ?_
          refine eMO_matches_153 mh_a7 (xn_in hf (by decide)) ?_
          rw [nI_clamp (by omega)]
          rw [s5]
          refine eMO_matches_154 (fun c154 => ?_) (fun z => absurd ((nI_eq (by omega) (by omega)).mp z) a3)
          refine eMO_matches_183 ?_
          exact eMO_matches_184 rfl kk
  · have b1 := s4.1
    have b2 := wOk_top s4
    by_cases a1 : c = 0
    · have e : spH S (nI c) = false := by
        rw [← Bool.not_eq_true, spH_iff, s7, sM_nI (by omega) (by omega), a1]
        rintro ⟨z, -⟩
        rw [show (nI 0).toInt = 0 by decide] at z
        omega
      rw [e] at kk
      refine eMO_matches_107 rfl ?_
      refine eMO_matches_108 mh_o rfl ?_
      refine eMO_matches_111 ?_
      refine eMO_matches_112 mh_a29 (xn_in hi (by decide)) ?_
      rw [nI_clamp (by omega)]
      rw [hc]
      refine eMO_matches_113 ?_
      refine eMO_matches_114 rfl ?_
      refine eMO_matches_115 mh_o rfl ?_
      refine eMO_matches_118 ?_
      refine eMO_matches_119 mh_a12 (xn_in hf (by decide)) ?_
      rw [nI_clamp (by omega)]
      rw [s1]
      refine eMO_matches_120 (fun c120 => ?_) (fun c => absurd c (by decide))
      refine eMO_matches_125 ?_
      refine eMO_matches_126 (fun c126 => ?_) (fun z => absurd (by rw [a1]; decide) z)
      refine eMO_matches_183 ?_
      exact eMO_matches_184 rfl kk
    · have hM : spH S (nI c) = true ↔ c / 32 ^ (4 - n) = w / 32 ^ (4 - n) ∧ nI c ∉ S.2.2 := by
        rw [spH_iff, s7, sM_pre s4 s3 (by omega) (by omega)]
      cases a2 : S.2.2.contains (nI c) with
      | true =>
        have e : spH S (nI c) = false := by
          rw [← Bool.not_eq_true, hM]
          exact fun z => z.2 (List.contains_iff_mem.mp a2)
        rw [e] at kk
        refine eMO_matches_107 rfl ?_
        refine eMO_matches_108 mh_o rfl ?_
        refine eMO_matches_111 ?_
        refine eMO_matches_112 mh_a29 (xn_in hi (by decide)) ?_
        rw [nI_clamp (by omega)]
        rw [hc]
        refine eMO_matches_113 ?_
        refine eMO_matches_114 rfl ?_
        refine eMO_matches_115 mh_o rfl ?_
        refine eMO_matches_118 ?_
        refine eMO_matches_119 mh_a12 (xn_in hf (by decide)) ?_
        rw [nI_clamp (by omega)]
        rw [s1]
        refine eMO_matches_120 (fun c120 => ?_) (fun c => absurd c (by decide))
        refine eMO_matches_125 ?_
        refine eMO_matches_126 (fun z => absurd z (nI_nle (by omega) (by omega))) (fun c126 => ?_)
        refine eMO_matches_129 rfl ?_
        refine eMO_matches_130 ?_
        refine eMO_matches_131 ?_
        refine eMO_matches_132 mh_o (Nat.le_of_ble_eq_true rfl) (sMO_isWordOut eS hf) ?_
        rintro _ _ ⟨rfl, rfl⟩
        refine ⟨_, rfl, ?_⟩
        rw [a2]
        refine eMO_matches_135 (fun c135 => ?_) (fun c => absurd c (by decide))
        refine eMO_matches_183 ?_
        exact eMO_matches_184 rfl kk
      | false =>
        have a2' : nI c ∉ S.2.2 := fun z => by rw [List.contains_iff_mem.mpr z] at a2; cases a2
        cases a3 : decide (c / 32 ^ (4 - n) = w / 32 ^ (4 - n)) with
        | true =>
          rw [hM.mpr ⟨of_decide_eq_true a3, a2'⟩] at kk
          refine eMO_matches_107 rfl ?_
          refine eMO_matches_108 mh_o rfl ?_
          refine eMO_matches_111 ?_
          refine eMO_matches_112 mh_a29 (xn_in hi (by decide)) ?_
          rw [nI_clamp (by omega)]
          rw [hc]
          refine eMO_matches_113 ?_
          refine eMO_matches_114 rfl ?_
          refine eMO_matches_115 mh_o rfl ?_
          refine eMO_matches_118 ?_
          refine eMO_matches_119 mh_a12 (xn_in hf (by decide)) ?_
          rw [nI_clamp (by omega)]
          rw [s1]
          refine eMO_matches_120 (fun c120 => ?_) (fun c => absurd c (by decide))
          refine eMO_matches_125 ?_
          refine eMO_matches_126 (fun z => absurd z (nI_nle (by omega) (by omega))) (fun c126 => ?_)
          refine eMO_matches_129 rfl ?_
          refine eMO_matches_130 ?_
          refine eMO_matches_131 ?_
          refine eMO_matches_132 mh_o (Nat.le_of_ble_eq_true rfl) (sMO_isWordOut eS hf) ?_
          rintro _ _ ⟨rfl, rfl⟩
          refine ⟨_, rfl, ?_⟩
          rw [a2]
          refine eMO_matches_135 (fun c => absurd rfl c) (fun c135 => ?_)
          refine eMO_matches_138 rfl ?_
          refine eMO_matches_139 mh_o rfl ?_
          refine eMO_matches_142 ?_
          refine eMO_matches_143 mh_a13 (xn_in hf (by decide)) ?_
          rw [nI_clamp (by omega)]
          rw [s2]
          refine eMO_matches_144 (fun c144 => ?_) (fun c => absurd rfl c)
          refine eMO_matches_160 ?_
          refine eMO_matches_161 rfl ?_
          refine eMO_matches_162 mh_o rfl ?_
          refine eMO_matches_165 ?_
          refine eMO_matches_166 mh_a7 (xn_in hf (by decide)) ?_
          rw [nI_clamp (by omega)]
          rw [s5]
          refine eMO_matches_167 rfl ?_
          refine eMO_matches_168 mh_o rfl ?_
          refine eMO_matches_171 ?_
          refine eMO_matches_172 mh_a8 (xn_in hf (by decide)) ?_
          rw [nI_clamp (by omega)]
          rw [s6]
          refine eMO_matches_173 (Nat.le_of_ble_eq_true rfl) (sMO_beginsN (by omega) (by omega) (by omega)) ?_
          rintro _ _ ⟨rfl, rfl⟩
          refine ⟨_, rfl, ?_⟩
          rw [a3]
          refine eMO_matches_176 (fun c => absurd c (by decide)) (fun c176 => ?_)
          refine eMO_matches_179 ?_
          refine eMO_matches_180 ?_
          exact eMO_matches_184 rfl kk
        | false =>
          have e : spH S (nI c) = false := by
            rw [← Bool.not_eq_true, hM]
            exact fun z => of_decide_eq_false a3 z.1
          rw [e] at kk
          refine eMO_matches_107 rfl ?_
          refine eMO_matches_108 mh_o rfl ?_
          refine eMO_matches_111 ?_
          refine eMO_matches_112 mh_a29 (xn_in hi (by decide)) ?_
          rw [nI_clamp (by omega)]
          rw [hc]
          refine eMO_matches_113 ?_
          refine eMO_matches_114 rfl ?_
          refine eMO_matches_115 mh_o rfl ?_
          refine eMO_matches_118 ?_
          refine eMO_matches_119 mh_a12 (xn_in hf (by decide)) ?_
          rw [nI_clamp (by omega)]
          rw [s1]
          refine eMO_matches_120 (fun c120 => ?_) (fun c => absurd c (by decide))
          refine eMO_matches_125 ?_
          refine eMO_matches_126 (fun z => absurd z (nI_nle (by omega) (by omega))) (fun c126 => ?_)
          refine eMO_matches_129 rfl ?_
          refine eMO_matches_130 ?_
          refine eMO_matches_131 ?_
          refine eMO_matches_132 mh_o (Nat.le_of_ble_eq_true rfl) (sMO_isWordOut eS hf) ?_
          rintro _ _ ⟨rfl, rfl⟩
          refine ⟨_, rfl, ?_⟩
          rw [a2]
          refine eMO_matches_135 (fun c => absurd rfl c) (fun c135 => ?_)
          refine eMO_matches_138 rfl ?_
          refine eMO_matches_139 mh_o rfl ?_
          refine eMO_matches_142 ?_
          refine eMO_matches_143 mh_a13 (xn_in hf (by decide)) ?_
          rw [nI_clamp (by omega)]
          rw [s2]
          refine eMO_matches_144 (fun c144 => ?_) (fun c => absurd rfl c)
          refine eMO_matches_160 ?_
          refine eMO_matches_161 rfl ?_
          refine eMO_matches_162 mh_o rfl ?_
          refine eMO_matches_165 ?_
          refine eMO_matches_166 mh_a7 (xn_in hf (by decide)) ?_
          rw [nI_clamp (by omega)]
          rw [s5]
          refine eMO_matches_167 rfl ?_
          refine eMO_matches_168 mh_o rfl ?_
          refine eMO_matches_171 ?_
          refine eMO_matches_172 mh_a8 (xn_in hf (by decide)) ?_
          rw [nI_clamp (by omega)]
          rw [s6]
          refine eMO_matches_173 (Nat.le_of_ble_eq_true rfl) (sMO_beginsN (by omega) (by omega) (by omega)) ?_
          rintro _ _ ⟨rfl, rfl⟩
          refine ⟨_, rfl, ?_⟩
          rw [a3]
          refine eMO_matches_176 (fun c176 => ?_) (fun c => absurd rfl c)
          refine eMO_matches_183 ?_
          exact eMO_matches_184 rfl kk
theorem sMO_matches {f i c : Nat} {a b : Int32} {F : sp3} (hf : f < 18) (hi : i < 520) (kF : isRF si f F) (h27 : si 27 i = a) (h28 : si 28 i = b) (h29 : si 29 i = nI c) (ha : -999 ≤ a.toInt ∧ a.toInt ≤ 1000) (hb : -999 ≤ b.toInt ∧ b.toInt ≤ 1000) (hc : c < 1048576) :
  x_K P (d + 1) mMO_matches 0 [some (.ref bm), some (.int (nI f)), some (.int (nI i)), none, none, none] [] (mh h0 bm ze si) (fun oc h' => oc = .returned (some (.int (b2i (fiM F a b (nI c))))) ∧ h' = mh h0 bm ze si) := by
  cases hF : fiE F with
  | true =>
    have eF : si 14 f = b2i true := by rw [← hF]; exact kF.1
    rw [fiM_E hF]
    refine eMO_matches_0 rfl ?_
    refine eMO_matches_1 mh_o rfl ?_
    refine eMO_matches_4 ?_
    refine eMO_matches_5 mh_a14 (xn_in hf (by decide)) ?_
    rw [nI_clamp (by omega)]
    rw [eF]
    refine eMO_matches_6 (fun c => absurd c (by decide)) (fun c6 => ?_)
    refine eMO_matches_9 ?_
    exact eMO_matches_10 rfl ⟨rfl, rfl⟩
  | false =>
    have eF : si 14 f = b2i false := by rw [← hF]; exact kF.1
    obtain ⟨a1, a2, a3⟩ := kF.2 hF
    obtain ⟨x1, x2, x3⟩ := fiE_iff.mp hF
    refine eMO_matches_0 rfl ?_
    refine eMO_matches_1 mh_o rfl ?_
    refine eMO_matches_4 ?_
    refine eMO_matches_5 mh_a14 (xn_in hf (by decide)) ?_
    rw [nI_clamp (by omega)]
    rw [eF]
    refine eMO_matches_6 (fun c6 => ?_) (fun c => absurd rfl c)
    refine eMO_matches_11 ?_
    refine eMO_matches_12 ?_
    refine eMO_matches_13 ?_
    refine eMO_matches_14 ?_
    refine eMO_matches_15 (fun c => absurd c (by decide)) (fun c15 => ?_)
    refine eMO_matches_18 ?_
    refine eMO_matches_19 (fun c => absurd rfl c) (fun c19 => ?_)
    refine eMO_matches_22 rfl ?_
    refine eMO_matches_23 mh_o rfl ?_
    refine eMO_matches_26 ?_
    refine eMO_matches_27 mh_a27 (xn_in hi (by decide)) ?_
    rw [nI_clamp (by omega)]
    rw [h27]
    refine eMO_matches_28 ?_
    skip
    refine kMO_mt (t := 0) hf (by decide) a1 x1 ha (fun q1 => ?_) (fun q1 => ⟨by unfold fiM; rw [q1]; rfl, rfl⟩)
    refine eMO_matches_101 ?_
    skip
    refine eMO_matches_104 ?_
    refine eMO_matches_13 ?_
    refine eMO_matches_14 ?_
    refine eMO_matches_15 (fun c => absurd c (by decide)) (fun c15 => ?_)
    refine eMO_matches_18 ?_
    refine eMO_matches_19 (fun c19 => ?_) (fun c => absurd c (by decide))
    refine eMO_matches_31 rfl ?_
    refine eMO_matches_32 mh_o rfl ?_
    refine eMO_matches_35 ?_
    refine eMO_matches_36 mh_a28 (xn_in hi (by decide)) ?_
    rw [nI_clamp (by omega)]
    rw [h28]
    skip
    refine kMO_mt (t := 1) hf (by decide) a2 x2 hb (fun q2 => ?_) (fun q2 => ⟨by unfold fiM; rw [q1, q2]; rfl, rfl⟩)
    refine eMO_matches_101 ?_
    skip
    refine eMO_matches_104 ?_
    refine eMO_matches_13 ?_
    refine eMO_matches_14 ?_
    refine eMO_matches_15 (fun c15 => ?_) (fun c => absurd (by decide) c)
    skip
    exact kMO_mw hf hi a3 h29 hc ⟨by unfold fiM; rw [q1, q2]; rfl, rfl⟩
end

