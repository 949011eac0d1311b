/-! The reference: handle -/
def hdC (m : Nat) (c : Nat) (S : bS) : bS := bs_cn (bs_Q S (ub (b_Q S) (10 + c) (b_Q S (10 + c) ++ [m]))) (ub (b_cn S) 1 (b_cn S 1 + 1))
theorem hdI_no {u m c : Nat} {w : Int32 × Int32 × Int32} {S : bS} (h : c % 6 ≠ u) : hdI u m w c S = S := by
  unfold hdI
  rw [if_neg (fun z => h z.1)]
theorem hdI_one {u m : Nat} {w : Int32 × Int32 × Int32} {S : bS} (hu : u < 6) : lp (hdI u m w) 8 0 S = if u < 2 then hdI u m w (u + 6) (hdI u m w u S) else hdI u m w u S := by
  have h : u = 0 ∨ u = 1 ∨ u = 2 ∨ u = 3 ∨ u = 4 ∨ u = 5 := by omega
  simp only [lp]
  rcases h with e | e | e | e | e | e <;> subst e
  · rw [hdI_no (c := 0 + 1) (by decide), hdI_no (c := 0 + 1 + 1) (by decide), hdI_no (c := 0 + 1 + 1 + 1) (by decide), hdI_no (c := 0 + 1 + 1 + 1 + 1) (by decide), hdI_no (c := 0 + 1 + 1 + 1 + 1 + 1) (by decide), hdI_no (c := 0 + 1 + 1 + 1 + 1 + 1 + 1 + 1) (by decide)]
    rfl
  · rw [hdI_no (c := 0) (by decide), hdI_no (c := 0 + 1 + 1) (by decide), hdI_no (c := 0 + 1 + 1 + 1) (by decide), hdI_no (c := 0 + 1 + 1 + 1 + 1) (by decide), hdI_no (c := 0 + 1 + 1 + 1 + 1 + 1) (by decide), hdI_no (c := 0 + 1 + 1 + 1 + 1 + 1 + 1) (by decide)]
    rfl
  · rw [hdI_no (c := 0) (by decide), hdI_no (c := 0 + 1) (by decide), hdI_no (c := 0 + 1 + 1 + 1) (by decide), hdI_no (c := 0 + 1 + 1 + 1 + 1) (by decide), hdI_no (c := 0 + 1 + 1 + 1 + 1 + 1) (by decide), hdI_no (c := 0 + 1 + 1 + 1 + 1 + 1 + 1) (by decide), hdI_no (c := 0 + 1 + 1 + 1 + 1 + 1 + 1 + 1) (by decide)]
    rfl
  · rw [hdI_no (c := 0) (by decide), hdI_no (c := 0 + 1) (by decide), hdI_no (c := 0 + 1 + 1) (by decide), hdI_no (c := 0 + 1 + 1 + 1 + 1) (by decide), hdI_no (c := 0 + 1 + 1 + 1 + 1 + 1) (by decide), hdI_no (c := 0 + 1 + 1 + 1 + 1 + 1 + 1) (by decide), hdI_no (c := 0 + 1 + 1 + 1 + 1 + 1 + 1 + 1) (by decide)]
    rfl
  · rw [hdI_no (c := 0) (by decide), hdI_no (c := 0 + 1) (by decide), hdI_no (c := 0 + 1 + 1) (by decide), hdI_no (c := 0 + 1 + 1 + 1) (by decide), hdI_no (c := 0 + 1 + 1 + 1 + 1 + 1) (by decide), hdI_no (c := 0 + 1 + 1 + 1 + 1 + 1 + 1) (by decide), hdI_no (c := 0 + 1 + 1 + 1 + 1 + 1 + 1 + 1) (by decide)]
    rfl
  · rw [hdI_no (c := 0) (by decide), hdI_no (c := 0 + 1) (by decide), hdI_no (c := 0 + 1 + 1) (by decide), hdI_no (c := 0 + 1 + 1 + 1) (by decide), hdI_no (c := 0 + 1 + 1 + 1 + 1) (by decide), hdI_no (c := 0 + 1 + 1 + 1 + 1 + 1 + 1) (by decide), hdI_no (c := 0 + 1 + 1 + 1 + 1 + 1 + 1 + 1) (by decide)]
    rfl
section
variable {p : Nat → Nat} {S S' : bS} {F : Nat → sp3} {T H M : Nat → List Nat} {fr : Nat → Nat} {ze ze' : Nat → Int32} {si si' : Nat → Nat → Int32}
theorem rlF.kMx (k : rlF S F) {x : Nat} (hx : x < b_s S) {a b c : Int32} : kM (b_K S) (b_wa S x) a b c = fiM (F x) a b c := by
  obtain ⟨q, q1, q2, q3⟩ := k.2.1 x hx
  unfold kM
  rw [q1]
  exact fiM_al q2 q3
theorem isM.inb1 {c : Nat} (k : isM p S F T H fr M ze si) (hc : c < 8) : si 30 c = nI (fr (10 + c)) ∧ si 31 c = nI (fr (10 + c) + (b_Q S (10 + c)).length) ∧ fr (10 + c) + (b_Q S (10 + c)).length ≤ 520 ∧ ∀ i x, (b_Q S (10 + c))[i]? = some x → si 32 (520 * c + (fr (10 + c) + i)) = nI x := k.inb c hc
theorem hdC_sm {m c : Nat} : sm S (hdC m c S) := by
  unfold sm hdC
  rw [bg_n_cn, bg_n_Q, bg_g_cn, bg_g_Q, bg_s_cn, bg_s_Q, bg_K_cn, bg_K_Q, bg_su_cn, bg_su_Q, bg_wa_cn, bg_wa_Q, bg_en_cn, bg_en_Q, bg_N_cn, bg_N_Q]
  exact ⟨rfl, rfl, rfl, rfl, rfl, rfl, rfl, rfl⟩
theorem isM.hdX {i c : Nat} (k : isM p S F T H fr M ze si) (hc : c < 8) (hb : fr (10 + c) + (b_Q S (10 + c)).length < 520) :
  isM p (hdC i c S) F T H fr M (upd ze 7 (ze 7 + 1)) (va_up (va_up si 32 (upd (si 32) (520 * c + (fr (10 + c) + (b_Q S (10 + c)).length)) (nI i))) 31 (upd (si 31) c (nI (fr (10 + c) + (b_Q S (10 + c)).length + 1)))) := by
  have eT : b_T (hdC i c S) = b_T S := by unfold hdC; rw [bg_T_cn, bg_T_Q]
  have eH : b_H (hdC i c S) = b_H S := by unfold hdC; rw [bg_H_cn, bg_H_Q]
  have eQ : b_Q (hdC i c S) = ub (b_Q S) (10 + c) (b_Q S (10 + c) ++ [i]) := by unfold hdC; rw [bg_Q_cn, bg_Q]
  have ec : b_cn (hdC i c S) = ub (b_cn S) 1 (b_cn S 1 + 1) := by unfold hdC; rw [bg_cn]
  refine k.ch hdC_sm ⟨rfl, rfl, rfl⟩ (fun K hK => (if_neg (show K ≠ 31 by omega)).trans (if_neg (show K ≠ 32 by omega))) k.1.2.2.2 ?_ ?_ ?_ ?_ ?_
  · rw [eT]; exact k.told
  · rw [eH]; exact k.heard
  · refine ⟨k.line.1, fun j hj => ?_⟩
    rw [eQ, ub_ne (by omega)]
    exact k.line.2 j hj
  · rw [ec]
    refine ⟨k.cnt.1, ?_, k.cnt.2.2.1, k.cnt.2.2.2⟩
    show ze 7 + 1 = _
    rw [k.cnt.2.1, nI_1, ub_same]
  · have e12 : (fun c' => b_Q (hdC i c S) (10 + c')) = ub (fun c' => b_Q S (10 + c')) c (b_Q S (10 + c) ++ [i]) := by
      funext c'
      rw [eQ]
      by_cases e : c' = c
      · subst e
        rw [ub_same, ub_same]
      · rw [ub_ne (by omega), ub_ne e]
    rw [e12]
    exact k.inb.snd (j := c) (x := i) hc hb
theorem lkF_sym {u t j : Nat} (hu : u < 6) (ht : t < 6) (h : lkF p (6 * t + u) = some j) : ∃ j', lkF p (6 * u + t) = some j' := by
  unfold lkF at h ⊢
  rw [show (6 * t + u) / 6 = t by omega, show (6 * t + u) % 6 = u by omega] at h
  rw [show (6 * u + t) / 6 = u by omega, show (6 * u + t) % 6 = t by omega]
  by_cases c1 : 0 < t ∧ p t = u
  · by_cases c2 : 0 < u ∧ p u = t
    · rw [if_pos c2]; exact ⟨_, rfl⟩
    · rw [if_neg c2, if_pos c1]; exact ⟨_, rfl⟩
  · rw [if_neg c1] at h
    by_cases c2 : 0 < u ∧ p u = t
    · rw [if_pos c2]; exact ⟨_, rfl⟩
    · rw [if_neg c2] at h; cases h
end
section
variable {P : x_P} {d : Nat} {h0 : x_H} {bm : Nat} {p : Nat → Nat} {S : bS} {F : Nat → sp3} {T H M : Nat → List Nat} {fr : Nat → Nat} {ze : Nat → Int32} {si : Nat → Nat → Int32} {Φ : Outcome → x_H → Prop}
theorem sMO_match {y i n : Nat} {w : Int32 × Int32 × Int32} (k : isM p S F T H fr M ze si) (hy : y < b_s S) (hi : (b_N S)[i]? = some (n, w)) : x_K P (d + 1) mMO_matches 0 [some (.ref bm), some (.int (nI y)), some (.int (nI i)), none, none, none] [] (mh h0 bm ze si) (fun oc h' => oc = .returned (some (.int (b2i (kM (b_K S) (b_wa S y) w.1 w.2.1 w.2.2)))) ∧ h' = mh h0 bm ze si) := by
  obtain ⟨hN1, hN2⟩ := k.2.2.2.2.2.1.2
  obtain ⟨⟨a1, a2, a3⟩, a4, a5, c, a6, a7⟩ := hN2 i (n, w) hi
  have hs := k.s16
  have hil := (List.getElem?_eq_some_iff.mp hi).1
  rw [k.rl.kMx hy, show w.2.2 = nI c from a6]
  exact sMO_matches (by omega) (by omega) (k.rf hy) a1 a2 (a3.trans a6) a4 a5 a7
theorem lMO_wants {i n c : Nat} {w : Int32 × Int32 × Int32} {v1 v3 v7 : Option Value} (k : isM p S F T H fr M ze si) (hi : (b_N S)[i]? = some (n, w)) (hc : c < 8)
  (kk : x_K P (d + 2) mMO_handle 75 [some (.ref bm), v1, some (.int (nI i)), v3, some (.int (nI c)), some (.int (b2i (wantF S c w))), some (.int (nI (b_s S))), v7] [] (mh h0 bm ze si) Φ) :
  ∀ (m q : Nat) (acc : Bool), q + m = b_s S → (acc || (List.range' q m).any (wantsF S c w)) = wantF S c w → x_K P (d + 2) mMO_handle 16 [some (.ref bm), v1, some (.int (nI i)), v3, some (.int (nI c)), some (.int (b2i acc)), some (.int (nI q)), v7] [] (mh h0 bm ze si) Φ := by
  have hs := k.s16
  intro m
  induction m with
  | zero =>
    intro q acc hq ha
    have eq : q = b_s S := by omega
    subst eq
    rw [List.range'_zero, List.any_nil, Bool.or_false] at ha
    rw [← ha] at kk
    refine eMO_handle_16 ?_
    refine eMO_handle_18 rfl ?_
    refine eMO_handle_19 mh_o rfl ?_
    rw [k.s3]
    refine eMO_handle_22 (fun c22 => ?_) (fun c => absurd (nI_le (by omega) (by omega)) c)
    exact kk
  | succ m ih =>
    intro q acc hq ha
    rw [List.range'_succ, List.any_cons, ← Bool.or_assoc] at ha
    have hqs : q < b_s S := by omega
    have e17 := k.2.2.1.2.2.2 q (by omega)
    obtain ⟨e16, e16b⟩ := k.2.2.1.2.2.1 q hqs
    have next := ih (q + 1) _ (by omega) ha
    cases acc with
    | true =>
      refine eMO_handle_16 ?_
      refine eMO_handle_18 rfl ?_
      refine eMO_handle_19 mh_o rfl ?_
      rw [k.s3]
      refine eMO_handle_22 (fun c => absurd c (nI_ge (by omega) (by omega))) (fun c22 => ?_)
      refine eMO_handle_25 ?_
      refine eMO_handle_27 (fun c27 => ?_) (fun c => absurd c (by decide))
      refine eMO_handle_62 ?_
      refine eMO_handle_63 ?_
      refine eMO_handle_67 ?_
      refine eMO_handle_69 ?_
      rw [nI_1]
      refine eMO_handle_72 ?_
      exact next
    | false =>
      rw [Bool.false_or] at next
      cases c1 : b_en S q with
      | true =>
        rw [show wantsF S c w q = false by unfold wantsF; rw [c1]; rfl] at next
        rw [c1] at e17
        refine eMO_handle_16 ?_
        refine eMO_handle_18 rfl ?_
        refine eMO_handle_19 mh_o rfl ?_
        rw [k.s3]
        refine eMO_handle_22 (fun c => absurd c (nI_ge (by omega) (by omega))) (fun c22 => ?_)
        refine eMO_handle_25 ?_
        refine eMO_handle_27 (fun c => absurd rfl c) (fun c27 => ?_)
        refine eMO_handle_30 rfl ?_
        refine eMO_handle_31 mh_o rfl ?_
        refine eMO_handle_34 ?_
        refine eMO_handle_36 mh_a17 (xn_in (by omega) (by decide)) ?_
        rw [nI_clamp (by omega)]
        rw [e17]
        refine eMO_handle_37 (fun c37 => ?_) (fun c => absurd c (by decide))
        refine eMO_handle_66 ?_
        refine eMO_handle_67 ?_
        refine eMO_handle_69 ?_
        rw [nI_1]
        refine eMO_handle_72 ?_
        exact next
      | false =>
        rw [c1] at e17
        by_cases c2 : b_su S q = c
        · have e3 : wantsF S c w q = kM (b_K S) (b_wa S q) w.1 w.2.1 w.2.2 := by
            unfold wantsF
            rw [c1, beq_iff_eq.mpr c2]
            rfl
          rw [e3] at next
          cases c3 : kM (b_K S) (b_wa S q) w.1 w.2.1 w.2.2 with
          | true =>
            rw [c3] at next
            refine eMO_handle_16 ?_
            refine eMO_handle_18 rfl ?_
            refine eMO_handle_19 mh_o rfl ?_
            rw [k.s3]
            refine eMO_handle_22 (fun c => absurd c (nI_ge (by omega) (by omega))) (fun c22 => ?_)
            refine eMO_handle_25 ?_
            refine eMO_handle_27 (fun c => absurd rfl c) (fun c27 => ?_)
            refine eMO_handle_30 rfl ?_
            refine eMO_handle_31 mh_o rfl ?_
            refine eMO_handle_34 ?_
            refine eMO_handle_36 mh_a17 (xn_in (by omega) (by decide)) ?_
            rw [nI_clamp (by omega)]
            rw [e17]
            refine eMO_handle_37 (fun c => absurd rfl c) (fun c37 => ?_)
            refine eMO_handle_40 rfl ?_
            refine eMO_handle_41 mh_o rfl ?_
            refine eMO_handle_44 ?_
            refine eMO_handle_46 mh_a16 (xn_in (by omega) (by decide)) ?_
            rw [nI_clamp (by omega)]
            rw [e16]
            refine eMO_handle_47 ?_
            refine eMO_handle_49 (fun z => absurd (by rw [c2]) z) (fun c49 => ?_)
            refine eMO_handle_52 rfl ?_
            refine eMO_handle_53 ?_
            refine eMO_handle_55 ?_
            refine eMO_handle_56 mh_o (Nat.le_of_ble_eq_true rfl) (sMO_match k hqs hi) ?_
            rintro _ _ ⟨rfl, rfl⟩
            refine ⟨_, rfl, ?_⟩
            rw [c3]
            refine eMO_handle_59 (fun c => absurd c (by decide)) (fun c59 => ?_)
            refine eMO_handle_62 ?_
            refine eMO_handle_63 ?_
            refine eMO_handle_67 ?_
            refine eMO_handle_69 ?_
            rw [nI_1]
            refine eMO_handle_72 ?_
            exact next
          | false =>
            rw [c3] at next
            refine eMO_handle_16 ?_
            refine eMO_handle_18 rfl ?_
            refine eMO_handle_19 mh_o rfl ?_
            rw [k.s3]
            refine eMO_handle_22 (fun c => absurd c (nI_ge (by omega) (by omega))) (fun c22 => ?_)
            refine eMO_handle_25 ?_
            refine eMO_handle_27 (fun c => absurd rfl c) (fun c27 => ?_)
            refine eMO_handle_30 rfl ?_
            refine eMO_handle_31 mh_o rfl ?_
            refine eMO_handle_34 ?_
            refine eMO_handle_36 mh_a17 (xn_in (by omega) (by decide)) ?_
            rw [nI_clamp (by omega)]
            rw [e17]
            refine eMO_handle_37 (fun c => absurd rfl c) (fun c37 => ?_)
            refine eMO_handle_40 rfl ?_
            refine eMO_handle_41 mh_o rfl ?_
            refine eMO_handle_44 ?_
            refine eMO_handle_46 mh_a16 (xn_in (by omega) (by decide)) ?_
            rw [nI_clamp (by omega)]
            rw [e16]
            refine eMO_handle_47 ?_
            refine eMO_handle_49 (fun z => absurd (by rw [c2]) z) (fun c49 => ?_)
            refine eMO_handle_52 rfl ?_
            refine eMO_handle_53 ?_
            refine eMO_handle_55 ?_
            refine eMO_handle_56 mh_o (Nat.le_of_ble_eq_true rfl) (sMO_match k hqs hi) ?_
            rintro _ _ ⟨rfl, rfl⟩
            refine ⟨_, rfl, ?_⟩
            rw [c3]
            refine eMO_handle_59 (fun c59 => ?_) (fun c => absurd rfl c)
            refine eMO_handle_66 ?_
            refine eMO_handle_67 ?_
            refine eMO_handle_69 ?_
            rw [nI_1]
            refine eMO_handle_72 ?_
            exact next
        · rw [show wantsF S c w q = false by unfold wantsF; rw [c1, beq_eq_false_iff_ne.mpr c2]; rfl] at next
          refine eMO_handle_16 ?_
          refine eMO_handle_18 rfl ?_
          refine eMO_handle_19 mh_o rfl ?_
          rw [k.s3]
          refine eMO_handle_22 (fun c => absurd c (nI_ge (by omega) (by omega))) (fun c22 => ?_)
          refine eMO_handle_25 ?_
          refine eMO_handle_27 (fun c => absurd rfl c) (fun c27 => ?_)
          refine eMO_handle_30 rfl ?_
          refine eMO_handle_31 mh_o rfl ?_
          refine eMO_handle_34 ?_
          refine eMO_handle_36 mh_a17 (xn_in (by omega) (by decide)) ?_
          rw [nI_clamp (by omega)]
          rw [e17]
          refine eMO_handle_37 (fun c => absurd rfl c) (fun c37 => ?_)
          refine eMO_handle_40 rfl ?_
          refine eMO_handle_41 mh_o rfl ?_
          refine eMO_handle_44 ?_
          refine eMO_handle_46 mh_a16 (xn_in (by omega) (by decide)) ?_
          rw [nI_clamp (by omega)]
          rw [e16]
          refine eMO_handle_47 ?_
          refine eMO_handle_49 (fun c49 => ?_) (fun z => absurd ((nI_eq (by omega) (by omega)).mp z) c2)
          refine eMO_handle_66 ?_
          refine eMO_handle_67 ?_
          refine eMO_handle_69 ?_
          rw [nI_1]
          refine eMO_handle_72 ?_
          exact next
/-- one client -/
theorem kMO_hdI {u i n c : Nat} {x : Int32} {w : Int32 × Int32 × Int32} {v5 v6 v7 : Option Value} (k : isM p S F T H fr M ze si) (hi : (b_N S)[i]? = some (n, w)) (hc : c < 8) (hcu : c % 6 = u) (hb : fr (10 + c) + (b_Q (hdI u i w c S) (10 + c)).length ≤ 520)
  (kk : ∀ ze' si' v5 v6, isM p (hdI u i w c S) F T H fr M ze' si' → x_K P (d + 2) mMO_handle 3 [some (.ref bm), some (.int (nI u)), some (.int (nI i)), some (.int x), some (.int (nI (c + 6))), v5, v6, v7] [] (mh h0 bm ze' si') Φ) :
  x_K P (d + 2) mMO_handle 3 [some (.ref bm), some (.int (nI u)), some (.int (nI i)), some (.int x), some (.int (nI c)), v5, v6, v7] [] (mh h0 bm ze si) Φ := by
  refine eMO_handle_3 ?_
  refine eMO_handle_5 ?_
  refine eMO_handle_7 (fun z => absurd z (nI_ge (b := 8) (by omega) (by decide))) (fun c7 => ?_)
  refine eMO_handle_10 ?_
  refine eMO_handle_11 ?_
  refine eMO_handle_13 ?_
  refine eMO_handle_14 ?_
  skip
  refine lMO_wants k hi hc ?_ (b_s S) 0 false (Nat.zero_add _) (by rw [Bool.false_or]; rfl)
  cases c1 : wantF S c w with
  | false =>
    have e : hdI u i w c S = S := by unfold hdI; rw [if_neg (fun z => by rw [c1] at z; cases z.2)]
    rw [e] at kk
    refine eMO_handle_75 ?_
    refine eMO_handle_77 (fun c77 => ?_) (fun c => absurd rfl c)
    refine eMO_handle_121 ?_
    refine eMO_handle_123 ?_
    refine eMO_handle_125 ?_
    rw [nI_a6]
    refine eMO_handle_126 ?_
    refine eMO_handle_128 ?_
    exact kk ze si _ _ k
  | true =>
    have e : hdI u i w c S = hdC i c S := by unfold hdI hdC; rw [if_pos ⟨hcu, c1⟩]
    rw [e] at kk hb
    have eQ : b_Q (hdC i c S) = ub (b_Q S) (10 + c) (b_Q S (10 + c) ++ [i]) := by unfold hdC; rw [bg_Q_cn, bg_Q]
    rw [eQ, ub_same, List.length_append, List.length_singleton] at hb
    obtain ⟨a1, a2, a3, a4⟩ := k.inb1 hc
    have a2' : va_up si 32 (upd (si 32) (520 * c + (fr (10 + c) + (b_Q S (10 + c)).length)) (nI i)) 31 c = nI (fr (10 + c) + (b_Q S (10 + c)).length) := a2
    refine eMO_handle_75 ?_
    refine eMO_handle_77 (fun c => absurd c (by decide)) (fun c77 => ?_)
    refine eMO_handle_80 rfl ?_
    refine eMO_handle_81 mh_o rfl ?_
    refine eMO_handle_84 ?_
    refine eMO_handle_87 ?_
    refine eMO_handle_89 ?_
    rw [mx520]
    refine eMO_handle_90 rfl ?_
    refine eMO_handle_91 mh_o rfl ?_
    refine eMO_handle_94 ?_
    refine eMO_handle_96 mh_a31 (xn_in hc (by decide)) ?_
    rw [nI_clamp (by omega)]
    rw [a2]
    refine eMO_handle_97 ?_
    rw [nI_add]
    refine eMO_handle_98 ?_
    refine eMO_handle_99 mh_a32 (xn_in (by omega) (by decide)) ?_
    rw [mh_p32, nI_clamp (by omega)]
    refine eMO_handle_100 rfl ?_
    refine eMO_handle_101 mh_o rfl ?_
    refine eMO_handle_104 ?_
    refine eMO_handle_106 rfl rfl ?_
    refine eMO_handle_107 mh_a31 (xn_in hc (by decide)) ?_
    rw [nI_clamp (by omega)]
    rw [a2']
    refine eMO_handle_108 ?_
    refine eMO_handle_109 ?_
    rw [nI_1]
    refine eMO_handle_110 mh_a31 (xn_in hc (by decide)) ?_
    rw [mh_p31, nI_clamp (by omega)]
    refine eMO_handle_111 rfl ?_
    refine eMO_handle_112 rfl ?_
    refine eMO_handle_113 mh_o rfl ?_
    refine eMO_handle_116 ?_
    refine eMO_handle_117 ?_
    refine eMO_handle_118 mh_o (Nat.le_of_ble_eq_true rfl) ?_
    rw [mh_f7]
    refine eMO_handle_121 ?_
    refine eMO_handle_123 ?_
    refine eMO_handle_125 ?_
    rw [nI_a6]
    refine eMO_handle_126 ?_
    refine eMO_handle_128 ?_
    exact kk _ _ _ _ (k.hdX hc (by omega))
/-- what was heard on a line: whether one of it matches -/
theorem lMO_hear {i n j : Nat} {w : Int32 × Int32 × Int32} {v1 v3 v4 : Option Value} (k : isM p S F T H fr M ze si) (hi : (b_N S)[i]? = some (n, w)) (hj : j < 10)
  (kk : ∀ v7, x_K P (d + 2) mMO_handle 227 [some (.ref bm), v1, some (.int (nI i)), v3, v4, some (.int (nI j)), some (.int (b2i ((b_H S j).any (fun y => kM (b_K S) y w.1 w.2.1 w.2.2)))), v7] [] (mh h0 bm ze si) Φ) :
  ∀ (m q : Nat) (acc : Bool), q + m = (H j).length → (acc || ((H j).drop q).any (fun y => kM (b_K S) (b_wa S y) w.1 w.2.1 w.2.2)) = (b_H S j).any (fun y => kM (b_K S) y w.1 w.2.1 w.2.2) → x_K P (d + 2) mMO_handle 171 [some (.ref bm), v1, some (.int (nI i)), v3, v4, some (.int (nI j)), some (.int (b2i acc)), some (.int (nI q))] [] (mh h0 bm ze si) Φ := by
  obtain ⟨a1, a2, a3⟩ := k.heard.1 j hj
  have hH := k.heard.2 j hj
  intro m
  induction m with
  | zero =>
    intro q acc hq ha
    rw [List.drop_eq_nil_of_le (by omega), List.any_nil, Bool.or_false] at ha
    rw [← ha] at kk
    refine eMO_handle_171 ?_
    refine eMO_handle_173 (fun c => absurd c (nI_pos (by omega))) (fun c173 => ?_)
    refine eMO_handle_176 ?_
    refine eMO_handle_178 rfl ?_
    refine eMO_handle_179 mh_o rfl ?_
    refine eMO_handle_182 ?_
    refine eMO_handle_184 mh_a20 (xn_in hj (by decide)) ?_
    rw [nI_clamp (by omega)]
    rw [a1]
    refine eMO_handle_185 (fun c185 => ?_) (fun c => absurd (nI_le (by omega) (by omega)) c)
    exact kk _
  | succ m ih =>
    intro q acc hq ha
    obtain ⟨y, hy⟩ : ∃ y, (H j)[q]? = some y := ⟨(H j)[q]'(by omega), List.getElem?_eq_getElem (by omega)⟩
    have h1 := (List.getElem?_eq_some_iff.mp hy)
    rw [List.drop_eq_getElem_cons h1.1, h1.2, List.any_cons, ← Bool.or_assoc] at ha
    have hys : y < b_s S := hH.2.1 y (List.mem_of_getElem? hy)
    have next := ih (q + 1) _ (by omega) ha
    cases acc with
    | true =>
      refine eMO_handle_171 ?_
      refine eMO_handle_173 (fun c => absurd c (nI_pos (by omega))) (fun c173 => ?_)
      refine eMO_handle_176 ?_
      refine eMO_handle_178 rfl ?_
      refine eMO_handle_179 mh_o rfl ?_
      refine eMO_handle_182 ?_
      refine eMO_handle_184 mh_a20 (xn_in hj (by decide)) ?_
      rw [nI_clamp (by omega)]
      rw [a1]
      refine eMO_handle_185 (fun c => absurd c (nI_ge (by omega) (by omega))) (fun c185 => ?_)
      refine eMO_handle_188 ?_
      refine eMO_handle_190 (fun c190 => ?_) (fun c => absurd c (by decide))
      refine eMO_handle_214 ?_
      refine eMO_handle_215 ?_
      refine eMO_handle_219 ?_
      refine eMO_handle_221 ?_
      rw [nI_1]
      refine eMO_handle_224 ?_
      exact next
    | false =>
      rw [Bool.false_or] at next
      cases c3 : kM (b_K S) (b_wa S y) w.1 w.2.1 w.2.2 with
      | true =>
        rw [c3] at next
        refine eMO_handle_171 ?_
        refine eMO_handle_173 (fun c => absurd c (nI_pos (by omega))) (fun c173 => ?_)
        refine eMO_handle_176 ?_
        refine eMO_handle_178 rfl ?_
        refine eMO_handle_179 mh_o rfl ?_
        refine eMO_handle_182 ?_
        refine eMO_handle_184 mh_a20 (xn_in hj (by decide)) ?_
        rw [nI_clamp (by omega)]
        rw [a1]
        refine eMO_handle_185 (fun c => absurd c (nI_ge (by omega) (by omega))) (fun c185 => ?_)
        refine eMO_handle_188 ?_
        refine eMO_handle_190 (fun c => absurd rfl c) (fun c190 => ?_)
        refine eMO_handle_193 rfl ?_
        refine eMO_handle_194 rfl ?_
        refine eMO_handle_195 mh_o rfl ?_
        refine eMO_handle_198 ?_
        refine eMO_handle_200 ?_
        refine eMO_handle_202 ?_
        rw [mx16]
        refine eMO_handle_203 ?_
        refine eMO_handle_205 ?_
        rw [nI_add]
        refine eMO_handle_206 mh_a21 (xn_in (by omega) (by decide)) ?_
        rw [nI_clamp (by omega)]
        rw [a3 q y hy]
        refine eMO_handle_207 ?_
        refine eMO_handle_208 mh_o (Nat.le_of_ble_eq_true rfl) (sMO_match k hys hi) ?_
        rintro _ _ ⟨rfl, rfl⟩
        refine ⟨_, rfl, ?_⟩
        rw [c3]
        refine eMO_handle_211 (fun c => absurd c (by decide)) (fun c211 => ?_)
        refine eMO_handle_214 ?_
        refine eMO_handle_215 ?_
        refine eMO_handle_219 ?_
        refine eMO_handle_221 ?_
        rw [nI_1]
        refine eMO_handle_224 ?_
        exact next
      | false =>
        rw [c3] at next
        refine eMO_handle_171 ?_
        refine eMO_handle_173 (fun c => absurd c (nI_pos (by omega))) (fun c173 => ?_)
        refine eMO_handle_176 ?_
        refine eMO_handle_178 rfl ?_
        refine eMO_handle_179 mh_o rfl ?_
        refine eMO_handle_182 ?_
        refine eMO_handle_184 mh_a20 (xn_in hj (by decide)) ?_
        rw [nI_clamp (by omega)]
        rw [a1]
        refine eMO_handle_185 (fun c => absurd c (nI_ge (by omega) (by omega))) (fun c185 => ?_)
        refine eMO_handle_188 ?_
        refine eMO_handle_190 (fun c => absurd rfl c) (fun c190 => ?_)
        refine eMO_handle_193 rfl ?_
        refine eMO_handle_194 rfl ?_
        refine eMO_handle_195 mh_o rfl ?_
        refine eMO_handle_198 ?_
        refine eMO_handle_200 ?_
        refine eMO_handle_202 ?_
        rw [mx16]
        refine eMO_handle_203 ?_
        refine eMO_handle_205 ?_
        rw [nI_add]
        refine eMO_handle_206 mh_a21 (xn_in (by omega) (by decide)) ?_
        rw [nI_clamp (by omega)]
        rw [a3 q y hy]
        refine eMO_handle_207 ?_
        refine eMO_handle_208 mh_o (Nat.le_of_ble_eq_true rfl) (sMO_match k hys hi) ?_
        rintro _ _ ⟨rfl, rfl⟩
        refine ⟨_, rfl, ?_⟩
        rw [c3]
        refine eMO_handle_211 (fun c211 => ?_) (fun c => absurd rfl c)
        refine eMO_handle_218 ?_
        refine eMO_handle_219 ?_
        refine eMO_handle_221 ?_
        rw [nI_1]
        refine eMO_handle_224 ?_
        exact next
theorem lMO_hdL {u i n : Nat} {x : Int32} {w : Int32 × Int32 × Int32} {Sf : bS} (hu : u < 6) (hi : (b_N Sf)[i]? = some (n, w)) (hq : ∀ j, j < 10 → fr j + (b_Q Sf j).length ≤ 1000)
  (kk : ∀ ze' si' M', isM p Sf F T H fr M' ze' si' → Φ (.returned none) (mh h0 bm ze' si')) :
  ∀ (r t : Nat) (S : bS) (M : Nat → List Nat) (ze : Nat → Int32) (si : Nat → Nat → Int32) (v5 v6 v7 : Option Value), t + r = 6 → lp (hdL p u i x w) r t S = Sf → isM p S F T H fr M ze si → x_K P (d + 2) mMO_handle 134 [some (.ref bm), some (.int (nI u)), some (.int (nI i)), some (.int x), some (.int (nI t)), v5, v6, v7] [] (mh h0 bm ze si) Φ := by
  intro r
  induction r with
  | zero =>
    intro t S M ze si v5 v6 v7 ht hS k
    have et : t = 6 := by omega
    subst et
    have eS : S = Sf := hS
    subst eS
    refine eMO_handle_134 ?_
    refine eMO_handle_136 ?_
    refine eMO_handle_138 (fun c138 => ?_) (fun c => absurd (by decide) c)
    exact eMO_handle_256 (kk ze si M k)
  | succ r ih =>
    intro t S M ze si v5 v6 v7 ht hS k
    have eN : b_N Sf = b_N S := by rw [← hS]; exact lp_N (fun k S => hdL_N) _ _ _
    have hi' : (b_N S)[i]? = some (n, w) := by rw [← eN]; exact hi
    have e2 := k.2.1 (6 * t + u) (by omega)
    have hS' : lp (hdL p u i x w) r (t + 1) (hdL p u i x w t S) = Sf := hS
    by_cases c1 : nI t = x
    · have eo : hdL p u i x w t S = S := by
        unfold hdL
        split
        · rw [if_neg (fun z => z.1 c1)]
        · rfl
      rw [eo] at hS'
      refine eMO_handle_134 ?_
      refine eMO_handle_136 ?_
      refine eMO_handle_138 (fun c => absurd c (nI_ge (b := 6) (by omega) (by decide))) (fun c138 => ?_)
      refine eMO_handle_141 ?_
      refine eMO_handle_143 ?_
      refine eMO_handle_144 (fun c => absurd c1 c) (fun c144 => ?_)
      refine eMO_handle_147 ?_
      refine eMO_handle_148 ?_
      refine eMO_handle_163 ?_
      refine eMO_handle_165 ?_
      refine eMO_handle_166 ?_
      refine eMO_handle_168 ?_
      refine eMO_handle_169 ?_
      refine eMO_handle_171 ?_
      refine eMO_handle_173 (fun c173 => ?_) (fun c => absurd (by decide) c)
      refine eMO_handle_227 ?_
      refine eMO_handle_229 (fun c229 => ?_) (fun c => absurd rfl c)
      refine eMO_handle_250 ?_
      rw [nI_1]
      refine eMO_handle_253 ?_
      exact ih (t + 1) S M ze si _ _ _ (by omega) hS' k
    · cases hk : lkF p (6 * t + u) with
      | none =>
        rw [hk] at e2
        have eo : hdL p u i x w t S = S := by
          unfold hdL
          rw [hk]
          split
          · rename_i h9; cases h9
          · rfl
        rw [eo] at hS'
        refine eMO_handle_134 ?_
        refine eMO_handle_136 ?_
        refine eMO_handle_138 (fun c => absurd c (nI_ge (b := 6) (by omega) (by decide))) (fun c138 => ?_)
        refine eMO_handle_141 ?_
        refine eMO_handle_143 ?_
        refine eMO_handle_144 (fun c144 => ?_) (fun c => absurd c c1)
        refine eMO_handle_151 rfl ?_
        refine eMO_handle_152 mh_o rfl ?_
        refine eMO_handle_155 ?_
        refine eMO_handle_157 ?_
        refine eMO_handle_159 ?_
        rw [mx6]
        refine eMO_handle_160 ?_
        refine eMO_handle_161 ?_
        rw [nI_add]
        refine eMO_handle_162 mh_a2 (xn_in (by omega) (by decide)) ?_
        rw [nI_clamp (by omega)]
        rw [e2]
        refine eMO_handle_163 ?_
        refine eMO_handle_165 ?_
        refine eMO_handle_166 ?_
        refine eMO_handle_168 ?_
        refine eMO_handle_169 ?_
        refine eMO_handle_171 ?_
        refine eMO_handle_173 (fun c173 => ?_) (fun c => absurd (by decide) c)
        refine eMO_handle_227 ?_
        refine eMO_handle_229 (fun c229 => ?_) (fun c => absurd rfl c)
        refine eMO_handle_250 ?_
        rw [nI_1]
        refine eMO_handle_253 ?_
        exact ih (t + 1) S M ze si _ _ _ (by omega) hS' k
      | some j' =>
        rw [hk] at e2
        have hj' : j' < 10 := lkF_lt hk (by omega)
        obtain ⟨j, hkj⟩ := lkF_sym hu (by omega) hk
        have hj : j < 10 := lkF_lt hkj (by omega)
        have e3 := k.2.1 (6 * u + t) (by omega)
        rw [hkj] at e3
        refine eMO_handle_134 ?_
        refine eMO_handle_136 ?_
        refine eMO_handle_138 (fun c => absurd c (nI_ge (b := 6) (by omega) (by decide))) (fun c138 => ?_)
        refine eMO_handle_141 ?_
        refine eMO_handle_143 ?_
        refine eMO_handle_144 (fun c144 => ?_) (fun c => absurd c c1)
        refine eMO_handle_151 rfl ?_
        refine eMO_handle_152 mh_o rfl ?_
        refine eMO_handle_155 ?_
        refine eMO_handle_157 ?_
        refine eMO_handle_159 ?_
        rw [mx6]
        refine eMO_handle_160 ?_
        refine eMO_handle_161 ?_
        rw [nI_add]
        refine eMO_handle_162 mh_a2 (xn_in (by omega) (by decide)) ?_
        rw [nI_clamp (by omega)]
        rw [e2]
        refine eMO_handle_163 ?_
        refine eMO_handle_165 ?_
        refine eMO_handle_166 ?_
        refine eMO_handle_168 ?_
        refine eMO_handle_169 ?_
        skip
        refine lMO_hear k hi' hj' (fun v7' => ?_) (H j').length 0 false (Nat.zero_add _) (by
          rw [Bool.false_or, List.drop_zero, ← (k.heard.2 j' hj').1, List.any_map]
          rfl)
        cases c2 : (b_H S j').any (fun y => kM (b_K S) y w.1 w.2.1 w.2.2) with
        | false =>
          have eo : hdL p u i x w t S = S := by
            unfold hdL
            rw [hk, hkj]
            show (if _ ∧ _ then _ else _) = S
            rw [if_neg (fun z => by rw [c2] at z; cases z.2)]
          rw [eo] at hS'
          refine eMO_handle_227 ?_
          refine eMO_handle_229 (fun c229 => ?_) (fun c => absurd rfl c)
          refine eMO_handle_250 ?_
          rw [nI_1]
          refine eMO_handle_253 ?_
          exact ih (t + 1) S M ze si _ _ _ (by omega) hS' k
        | true =>
          have eo : hdL p u i x w t S = sdS S j i 2 := by
            unfold hdL
            rw [hk, hkj]
            show (if _ ∧ _ then _ else _) = _
            rw [if_pos ⟨c1, c2⟩]
            unfold sdS
            rw [mcv_k (by decide), if_pos rfl]
            rfl
          rw [eo] at hS'
          have hlen := lp_len (f := hdL p u i x w) (fun k S i => hdL_len) r (t + 1) (sdS S j i 2) j
          rw [hS'] at hlen
          have hqj := hq j hj
          have hMj := congrArg List.length (k.line.2 j hj).1
          have eQ : b_Q (sdS S j i 2) = ub (b_Q S) j (b_Q S j ++ [mcv (b_wa S) (4 * i + 2)]) := by unfold sdS; rw [bg_Q_cn, bg_Q]
          rw [eQ, ub_same, List.length_append, List.length_singleton] at hlen
          rw [List.length_map] at hMj
          have hil := (List.getElem?_eq_some_iff.mp hi').1
          refine eMO_handle_227 ?_
          refine eMO_handle_229 (fun c => absurd c (by decide)) (fun c229 => ?_)
          refine eMO_handle_232 rfl ?_
          refine eMO_handle_233 rfl ?_
          refine eMO_handle_234 mh_o rfl ?_
          refine eMO_handle_237 ?_
          refine eMO_handle_239 ?_
          refine eMO_handle_240 ?_
          rw [mx6]
          refine eMO_handle_241 ?_
          refine eMO_handle_243 ?_
          rw [nI_add]
          refine eMO_handle_244 mh_a2 (xn_in (by omega) (by decide)) ?_
          rw [nI_clamp (by omega)]
          rw [e3]
          refine eMO_handle_245 ?_
          refine eMO_handle_246 ?_
          refine eMO_handle_247 mh_o (Nat.le_of_ble_eq_true rfl) (sMO_send (kd := 2) k hj (by decide) (by omega) (fun z => absurd rfl z) (fun _ => hil)) ?_
          rintro _ h9 ⟨rfl, ze', si', rfl, f', k'⟩
          refine ⟨_, rfl, ?_⟩
          refine eMO_handle_250 ?_
          rw [nI_1]
          refine eMO_handle_253 ?_
          exact ih (t + 1) _ _ ze' si' _ _ _ (by omega) hS' k'
theorem sMO_handle {u i n : Nat} {x : Int32} {w : Int32 × Int32 × Int32} (k : isM p S F T H fr M ze si) (hu : u < 6) (hi : (b_N S)[i]? = some (n, w)) (hq : ∀ j, j < 10 → fr j + (b_Q (handleF p u i x w S) j).length ≤ 1000) (hq2 : ∀ c, c < 8 → fr (10 + c) + (b_Q (handleF p u i x w S) (10 + c)).length ≤ 520) :
  x_K P (d + 2) mMO_handle 0 [some (.ref bm), some (.int (nI u)), some (.int (nI i)), some (.int x), none, none, none, none] [] (mh h0 bm ze si) (fun oc h' => oc = .returned none ∧ ∃ ze' si' M', h' = mh h0 bm ze' si' ∧ isM p (handleF p u i x w S) F T H fr M' ze' si') := by
  have hl1 : ∀ j, (b_Q (lp (hdI u i w) 8 0 S) j).length ≤ (b_Q (handleF p u i x w S) j).length := fun j => lp_len (f := hdL p u i x w) (fun k S i => hdL_len) 6 0 (lp (hdI u i w) 8 0 S) j
  have eN : b_N (handleF p u i x w S) = b_N S := (lp_N (fun k S => hdL_N) _ _ _).trans (lp_N (fun k S => hdI_N) _ _ _)
  have fin : ∀ ze' si' v5 v6 (c : Nat), 8 ≤ c → c < 100 → isM p (lp (hdI u i w) 8 0 S) F T H fr M ze' si' → x_K P (d + 2) mMO_handle 3 [some (.ref bm), some (.int (nI u)), some (.int (nI i)), some (.int x), some (.int (nI c)), v5, v6, none] [] (mh h0 bm ze' si') (fun oc h' => oc = .returned none ∧ ∃ ze' si' M', h' = mh h0 bm ze' si' ∧ isM p (handleF p u i x w S) F T H fr M' ze' si') := by
    intro ze' si' v5 v6 c hc1 hc2 k'
    refine eMO_handle_3 ?_
    refine eMO_handle_5 ?_
    refine eMO_handle_7 (fun c7 => ?_) (fun z => absurd (nI_le (a := 8) hc1 (by omega)) z)
    refine eMO_handle_131 ?_
    refine eMO_handle_132 ?_
    skip
    exact lMO_hdL hu (by rw [eN]; exact hi) hq (fun ze2 si2 M2 k2 => ⟨rfl, ze2, si2, M2, rfl, k2⟩) 6 0 _ M ze' si' _ _ _ rfl rfl k'
  refine eMO_handle_0 ?_
  refine eMO_handle_1 ?_
  skip
  rw [hdI_one hu] at fin hl1
  by_cases c2 : u < 2
  · rw [if_pos c2] at fin hl1
    have h6 := hl1 (10 + u)
    have h7 := hl1 (10 + (u + 6))
    have h8 := hdI_len (u := u) (m := i) (c := u + 6) (i := 10 + u) (w := w) (S := hdI u i w u S)
    have g1 := hq2 u (by omega)
    have g2 := hq2 (u + 6) (by omega)
    refine kMO_hdI k hi (by omega) (by omega) (by omega) (fun ze1 si1 v5 v6 k1 => ?_)
    refine kMO_hdI (c := u + 6) k1 (by rw [hdI_N]; exact hi) (by omega) (by omega) (by omega) (fun ze2 si2 v5' v6' k2 => ?_)
    exact fin ze2 si2 _ _ (u + 6 + 6) (by omega) (by omega) k2
  · rw [if_neg c2] at fin hl1
    have h6 := hl1 (10 + u)
    have g1 := hq2 u (by omega)
    refine kMO_hdI k hi (by omega) (by omega) (by omega) (fun ze1 si1 v5 v6 k1 => ?_)
    exact fin ze1 si1 _ _ (u + 6) (by omega) (by omega) k1
end

