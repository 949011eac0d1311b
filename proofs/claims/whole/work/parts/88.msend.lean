/-! The reference: send, isTold, isNeeded, tellAll, settle -/
def cI (kd : Nat) : Nat := if kd = 0 then 2 else if kd = 1 then 3 else 0
def sdS (S : bS) (j x kd : Nat) : bS := bs_cn (bs_Q S (ub (b_Q S) j (b_Q S j ++ [mcv (b_wa S) (4 * x + kd)]))) (ub (b_cn S) (cI kd) (b_cn S (cI kd) + 1))
def frQ (ze : Nat → Int32) (si : Nat → Nat → Int32) (ze' : Nat → Int32) (si' : Nat → Nat → Int32) : Prop := ze' 4 = ze 4 ∧ si' 25 = si 25 ∧ si' 26 = si 26
theorem frQ.rf {ze : Nat → Int32} {si : Nat → Nat → Int32} : frQ ze si ze si := ⟨rfl, rfl, rfl⟩
theorem frQ.trans {ze ze' ze2 : Nat → Int32} {si si' si2 : Nat → Nat → Int32} (a : frQ ze si ze' si') (b : frQ ze' si' ze2 si2) : frQ ze si ze2 si2 := ⟨b.1.trans a.1, b.2.1.trans a.2.1, b.2.2.trans a.2.2⟩
theorem sdS_sm {S : bS} {j x kd : Nat} : sm S (sdS S j x kd) := by
  unfold sm sdS
  rw [bg_n_cn, bg_n_Q, bg_g_cn, bg_g_Q, bg_s_cn, bg_s_Q, bg_K_cn, bg_K_Q, bg_su_cn, bg_su_Q, bg_wa_cn, bg_wa_Q, bg_en_cn, bg_en_Q, bg_N_cn, bg_N_Q]
  exact ⟨rfl, rfl, rfl, rfl, rfl, rfl, rfl, rfl⟩
theorem ub_same {α : Type} {f : Nat → α} {j : Nat} {v : α} : ub f j v j = v := by
  unfold ub
  rw [if_pos rfl]
theorem ub_ne {α : Type} {f : Nat → α} {j i : Nat} {v : α} (h : i ≠ j) : ub f j v i = f i := by
  unfold ub
  rw [if_neg h]
section
variable {p : Nat → Nat} {S S' : bS} {F : Nat → sp3} {T H M T' H' M' : Nat → List Nat} {fr : Nat → Nat} {ze ze' : Nat → Int32} {si si' : Nat → Nat → Int32}
theorem mQs.snd {W m : Nat} {a b c : Nat → Int32} {f : Nat → Nat} {L : Nat → List Nat} (k : mQs W m a b c f L) {j x : Nat} (hj : j < m) (hb : f j + (L j).length < W) : mQs W m a (upd b j (nI (f j + (L j).length + 1))) (upd c (W * j + (f j + (L j).length)) (nI x)) f (ub L j (L j ++ [x])) := by
  intro i hi
  obtain ⟨a1, a2, a3, a4⟩ := k i hi
  by_cases e : i = j
  · subst e
    rw [ub_same, List.length_append]
    refine ⟨a1, by rw [pk_us]; rfl, by show _ + (_ + 1) ≤ W; omega, fun q y hq => ?_⟩
    by_cases e2 : q = (L i).length
    · subst e2
      rw [pk_us]
      rw [List.getElem?_append_right (Nat.le_refl _), Nat.sub_self] at hq
      rw [Option.some.inj hq]
    · have h3 := (List.getElem?_eq_some_iff.mp hq).1
      rw [List.length_append, List.length_singleton] at h3
      rw [List.getElem?_append_left (by omega)] at hq
      rw [pk_un (by omega)]
      exact a4 q y hq
  · rw [ub_ne e]
    refine ⟨a1, by rw [pk_un e]; exact a2, a3, fun q y hq => ?_⟩
    have h3 := (List.getElem?_eq_some_iff.mp hq).1
    rw [pk_un ?_]
    · exact a4 q y hq
    · intro z
      have h4 : W * i + (f i + q) < W * (i + 1) := by rw [Nat.mul_succ]; omega
      have h5 : W * j + (f j + (L j).length) < W * (j + 1) := by rw [Nat.mul_succ]; omega
      rcases Nat.lt_or_gt_of_ne e with h6 | h6
      · have := Nat.mul_le_mul_left W (show i + 1 ≤ j by omega); omega
      · have := Nat.mul_le_mul_left W (show j + 1 ≤ i by omega); omega
theorem mcv_k {wa : Nat → Nat} {x kd : Nat} (hk : kd ≤ 2) : mcv wa (4 * x + kd) = if kd = 2 then x * 3 + 2 else wa x * 3 + kd := by
  unfold mcv
  rw [show (4 * x + kd) % 4 = kd by omega, show (4 * x + kd) / 4 = x by omega]
theorem isM.snd {j x kd : Nat} (k : isM p S F T H fr M ze si) (hj : j < 10) (hk : kd ≤ 2) (hb : fr j + (M j).length < 1000) (h1 : kd ≠ 2 → x < b_s S) (h2 : kd = 2 → x < (b_N S).length)
  (hz : ∀ i, i ≠ 6 → i ≠ 8 → i ≠ 9 → ze' i = ze i) (hc : ze' 6 = nI (b_cn (sdS S j x kd) 0) ∧ ze' 8 = nI (b_cn (sdS S j x kd) 2) ∧ ze' 9 = nI (b_cn (sdS S j x kd) 3)) :
  isM p (sdS S j x kd) F T H fr (ub M j (M j ++ [4 * x + kd])) ze' (va_up (va_up si 24 (upd (si 24) (1000 * j + (fr j + (M j).length)) (nI (4 * x + kd)))) 23 (upd (si 23) j (nI (fr j + (M j).length + 1)))) := by
  have eT : b_T (sdS S j x kd) = b_T S := by unfold sdS; rw [bg_T_cn, bg_T_Q]
  have eH : b_H (sdS S j x kd) = b_H S := by unfold sdS; rw [bg_H_cn, bg_H_Q]
  have eQ : b_Q (sdS S j x kd) = ub (b_Q S) j (b_Q S j ++ [mcv (b_wa S) (4 * x + kd)]) := by unfold sdS; rw [bg_Q_cn, bg_Q]
  have ec : b_cn (sdS S j x kd) = ub (b_cn S) (cI kd) (b_cn S (cI kd) + 1) := by unfold sdS; rw [bg_cn]
  refine k.ch sdS_sm ⟨hz 1 (by decide) (by decide) (by decide), hz 3 (by decide) (by decide) (by decide), hz 5 (by decide) (by decide) (by decide)⟩ (fun K hK => (if_neg (show K ≠ 23 by omega)).trans (if_neg (show K ≠ 24 by omega))) ((hz 0 (by decide) (by decide) (by decide)).trans k.1.2.2.2) ?_ ?_ ?_ ?_ ?_
  · rw [eT]; exact k.told
  · rw [eH]; exact k.heard
  · refine ⟨k.line.1.snd hj hb, fun i hi => ?_⟩
    obtain ⟨a1, a2⟩ := k.line.2 i hi
    rw [eQ]
    by_cases e : i = j
    · subst e
      rw [ub_same, ub_same, List.map_append, a1]
      refine ⟨rfl, fun y hy => ?_⟩
      rcases List.mem_append.mp hy with z | z
      · exact a2 y z
      · rw [List.mem_singleton.mp z, show (4 * x + kd) % 4 = kd by omega, show (4 * x + kd) / 4 = x by omega]
        exact ⟨hk, h1, h2⟩
    · rw [ub_ne e, ub_ne e]
      exact ⟨a1, a2⟩
  · refine ⟨hc.1, ?_, hc.2.1, hc.2.2⟩
    rw [hz 7 (by decide) (by decide) (by decide), k.cnt.2.1, ec, ub_ne]
    unfold cI
    split
    · decide
    · split <;> decide
  · have e12 : (fun c => b_Q (sdS S j x kd) (10 + c)) = fun c => b_Q S (10 + c) := by
      funext c
      rw [eQ, ub_ne (by omega)]
    rw [e12]
    exact k.inb
end
section
variable {P : x_P} {d : Nat} {h0 : x_H} {bm : Nat} {p : Nat → Nat} {S : bS} {F : Nat → sp3} {T H M : Nat → List Nat} {fr : Nat → Nat} {ze : Nat → Int32} {si : Nat → Nat → Int32}
theorem sMO_send {j x kd : Nat} (k : isM p S F T H fr M ze si) (hj : j < 10) (hk : kd ≤ 2) (hb : fr j + (M j).length < 1000) (h1 : kd ≠ 2 → x < b_s S) (h2 : kd = 2 → x < (b_N S).length) : x_K P d mMO_send 0 [some (.ref bm), some (.int (nI j)), some (.int (nI kd)), some (.int (nI x))] [] (mh h0 bm ze si) (fun oc h' => oc = .returned none ∧ ∃ ze' si', h' = mh h0 bm ze' si' ∧ frQ ze si ze' si' ∧ isM p (sdS S j x kd) F T H fr (ub M j (M j ++ [4 * x + kd])) ze' si') := by
  obtain ⟨a1, a2, a3, a4⟩ := k.line.1 j hj
  obtain ⟨c6, c7, c8, c9⟩ := k.cnt
  have ec : b_cn (sdS S j x kd) = ub (b_cn S) (cI kd) (b_cn S (cI kd) + 1) := by unfold sdS; rw [bg_cn]
  have e01 : nI kd = nI 1 ↔ kd = 1 := nI_eq (by omega) (by omega)
  have e02 : nI kd = nI 2 ↔ kd = 2 := nI_eq (by omega) (by omega)
  have e00 : nI kd = nI 0 ↔ kd = 0 := nI_eq (by omega) (by omega)
  have a2' : va_up si 24 (upd (si 24) (1000 * j + (fr j + (M j).length)) (nI (4 * x + kd))) 23 j = nI (fr j + (M j).length) := a2
  by_cases q0 : kd = 0
  · subst q0
    refine eMO_send_0 rfl ?_
    refine eMO_send_1 mh_o rfl ?_
    refine eMO_send_4 ?_
    refine eMO_send_7 ?_
    refine eMO_send_8 ?_
    rw [mx1000]
    refine eMO_send_9 rfl ?_
    refine eMO_send_10 mh_o rfl ?_
    refine eMO_send_13 ?_
    refine eMO_send_14 mh_a23 (xn_in hj (by decide)) ?_
    rw [nI_clamp (by omega)]
    rw [a2]
    refine eMO_send_15 ?_
    rw [nI_add]
    refine eMO_send_16 ?_
    refine eMO_send_17 ?_
    refine eMO_send_18 ?_
    rw [mx4]
    refine eMO_send_19 ?_
    refine eMO_send_20 ?_
    rw [nI_add]
    refine eMO_send_21 mh_a24 (xn_in (by omega) (by decide)) ?_
    rw [mh_p24, nI_clamp (by omega)]
    refine eMO_send_22 rfl ?_
    refine eMO_send_23 mh_o rfl ?_
    refine eMO_send_26 ?_
    refine eMO_send_27 rfl rfl ?_
    refine eMO_send_28 mh_a23 (xn_in hj (by decide)) ?_
    rw [nI_clamp (by omega)]
    rw [a2']
    refine eMO_send_29 ?_
    refine eMO_send_30 ?_
    rw [nI_1]
    refine eMO_send_31 mh_a23 (xn_in hj (by decide)) ?_
    rw [mh_p23, nI_clamp (by omega)]
    refine eMO_send_32 rfl ?_
    refine eMO_send_33 ?_
    refine eMO_send_34 (fun c => absurd rfl c) (fun c34 => ?_)
    refine eMO_send_37 rfl ?_
    refine eMO_send_38 mh_o rfl ?_
    refine eMO_send_41 ?_
    refine eMO_send_42 ?_
    refine eMO_send_43 ?_
    refine eMO_send_50 mh_o (Nat.le_of_ble_eq_true rfl) ?_
    rw [mh_f8]
    refine eMO_send_53 rfl ?_
    refine eMO_send_54 ?_
    refine eMO_send_55 ?_
    refine eMO_send_56 (fun c56 => ?_) (fun c => absurd c (by decide))
    refine eMO_send_68 rfl ?_
    refine eMO_send_69 mh_o rfl ?_
    refine eMO_send_72 mh_o (Nat.le_of_ble_eq_true rfl) ?_
    rw [mh_f9]
    refine eMO_send_75 rfl ?_
    refine eMO_send_76 ?_
    refine eMO_send_77 ?_
    refine eMO_send_78 (fun c78 => ?_) (fun c => absurd c (by decide))
    refine eMO_send_90 rfl ?_
    refine eMO_send_91 mh_o rfl ?_
    refine eMO_send_94 mh_o (Nat.le_of_ble_eq_true rfl) ?_
    rw [mh_f6]
    refine eMO_send_97 ⟨rfl, _, _, rfl, ⟨rfl, rfl, rfl⟩, k.snd hj hk hb h1 h2 ?_ ?_⟩
    · intro i i1 i2 i3
      rw [pk_un i1, pk_un i3, pk_un i2]
    · rw [ec]
      refine ⟨?_, ?_, ?_⟩
      · show ze 6 = _; rw [c6]; rfl
      · show ze 8 + 1 = _; rw [c8, nI_1]; rfl
      · show ze 9 = _; rw [c9]; rfl
  · by_cases q1 : kd = 1
    · subst q1
      refine eMO_send_0 rfl ?_
      refine eMO_send_1 mh_o rfl ?_
      refine eMO_send_4 ?_
      refine eMO_send_7 ?_
      refine eMO_send_8 ?_
      rw [mx1000]
      refine eMO_send_9 rfl ?_
      refine eMO_send_10 mh_o rfl ?_
      refine eMO_send_13 ?_
      refine eMO_send_14 mh_a23 (xn_in hj (by decide)) ?_
      rw [nI_clamp (by omega)]
      rw [a2]
      refine eMO_send_15 ?_
      rw [nI_add]
      refine eMO_send_16 ?_
      refine eMO_send_17 ?_
      refine eMO_send_18 ?_
      rw [mx4]
      refine eMO_send_19 ?_
      refine eMO_send_20 ?_
      rw [nI_add]
      refine eMO_send_21 mh_a24 (xn_in (by omega) (by decide)) ?_
      rw [mh_p24, nI_clamp (by omega)]
      refine eMO_send_22 rfl ?_
      refine eMO_send_23 mh_o rfl ?_
      refine eMO_send_26 ?_
      refine eMO_send_27 rfl rfl ?_
      refine eMO_send_28 mh_a23 (xn_in hj (by decide)) ?_
      rw [nI_clamp (by omega)]
      rw [a2']
      refine eMO_send_29 ?_
      refine eMO_send_30 ?_
      rw [nI_1]
      refine eMO_send_31 mh_a23 (xn_in hj (by decide)) ?_
      rw [mh_p23, nI_clamp (by omega)]
      refine eMO_send_32 rfl ?_
      refine eMO_send_33 ?_
      refine eMO_send_34 (fun c34 => ?_) (fun c => absurd c (by decide))
      refine eMO_send_46 rfl ?_
      refine eMO_send_47 mh_o rfl ?_
      refine eMO_send_50 mh_o (Nat.le_of_ble_eq_true rfl) ?_
      rw [mh_f8]
      refine eMO_send_53 rfl ?_
      refine eMO_send_54 ?_
      refine eMO_send_55 ?_
      refine eMO_send_56 (fun c => absurd rfl c) (fun c56 => ?_)
      refine eMO_send_59 rfl ?_
      refine eMO_send_60 mh_o rfl ?_
      refine eMO_send_63 ?_
      refine eMO_send_64 ?_
      refine eMO_send_65 ?_
      refine eMO_send_72 mh_o (Nat.le_of_ble_eq_true rfl) ?_
      rw [mh_f9]
      refine eMO_send_75 rfl ?_
      refine eMO_send_76 ?_
      refine eMO_send_77 ?_
      refine eMO_send_78 (fun c78 => ?_) (fun c => absurd c (by decide))
      refine eMO_send_90 rfl ?_
      refine eMO_send_91 mh_o rfl ?_
      refine eMO_send_94 mh_o (Nat.le_of_ble_eq_true rfl) ?_
      rw [mh_f6]
      refine eMO_send_97 ⟨rfl, _, _, rfl, ⟨rfl, rfl, rfl⟩, k.snd hj hk hb h1 h2 ?_ ?_⟩
      · intro i i1 i2 i3
        rw [pk_un i1, pk_un i3, pk_un i2]
      · rw [ec]
        refine ⟨?_, ?_, ?_⟩
        · show ze 6 = _; rw [c6]; rfl
        · show ze 8 = _; rw [c8]; rfl
        · show ze 9 + 1 = _; rw [c9, nI_1]; rfl
    · have q2 : kd = 2 := by omega
      subst q2
      refine eMO_send_0 rfl ?_
      refine eMO_send_1 mh_o rfl ?_
      refine eMO_send_4 ?_
      refine eMO_send_7 ?_
      refine eMO_send_8 ?_
      rw [mx1000]
      refine eMO_send_9 rfl ?_
      refine eMO_send_10 mh_o rfl ?_
      refine eMO_send_13 ?_
      refine eMO_send_14 mh_a23 (xn_in hj (by decide)) ?_
      rw [nI_clamp (by omega)]
      rw [a2]
      refine eMO_send_15 ?_
      rw [nI_add]
      refine eMO_send_16 ?_
      refine eMO_send_17 ?_
      refine eMO_send_18 ?_
      rw [mx4]
      refine eMO_send_19 ?_
      refine eMO_send_20 ?_
      rw [nI_add]
      refine eMO_send_21 mh_a24 (xn_in (by omega) (by decide)) ?_
      rw [mh_p24, nI_clamp (by omega)]
      refine eMO_send_22 rfl ?_
      refine eMO_send_23 mh_o rfl ?_
      refine eMO_send_26 ?_
      refine eMO_send_27 rfl rfl ?_
      refine eMO_send_28 mh_a23 (xn_in hj (by decide)) ?_
      rw [nI_clamp (by omega)]
      rw [a2']
      refine eMO_send_29 ?_
      refine eMO_send_30 ?_
      rw [nI_1]
      refine eMO_send_31 mh_a23 (xn_in hj (by decide)) ?_
      rw [mh_p23, nI_clamp (by omega)]
      refine eMO_send_32 rfl ?_
      refine eMO_send_33 ?_
      refine eMO_send_34 (fun c34 => ?_) (fun c => absurd c (by decide))
      refine eMO_send_46 rfl ?_
      refine eMO_send_47 mh_o rfl ?_
      refine eMO_send_50 mh_o (Nat.le_of_ble_eq_true rfl) ?_
      rw [mh_f8]
      refine eMO_send_53 rfl ?_
      refine eMO_send_54 ?_
      refine eMO_send_55 ?_
      refine eMO_send_56 (fun c56 => ?_) (fun c => absurd c (by decide))
      refine eMO_send_68 rfl ?_
      refine eMO_send_69 mh_o rfl ?_
      refine eMO_send_72 mh_o (Nat.le_of_ble_eq_true rfl) ?_
      rw [mh_f9]
      refine eMO_send_75 rfl ?_
      refine eMO_send_76 ?_
      refine eMO_send_77 ?_
      refine eMO_send_78 (fun c => absurd rfl c) (fun c78 => ?_)
      refine eMO_send_81 rfl ?_
      refine eMO_send_82 mh_o rfl ?_
      refine eMO_send_85 ?_
      refine eMO_send_86 ?_
      refine eMO_send_87 ?_
      refine eMO_send_94 mh_o (Nat.le_of_ble_eq_true rfl) ?_
      rw [mh_f6]
      refine eMO_send_97 ⟨rfl, _, _, rfl, ⟨rfl, rfl, rfl⟩, k.snd hj hk hb h1 h2 ?_ ?_⟩
      · intro i i1 i2 i3
        rw [pk_un i1, pk_un i3, pk_un i2]
      · rw [ec]
        refine ⟨?_, ?_, ?_⟩
        · show ze 6 + 1 = _; rw [c6, nI_1]; rfl
        · show ze 8 = _; rw [c8]; rfl
        · show ze 9 = _; rw [c9]; rfl
/-! isTold, isNeeded -/
theorem tMO_isTold {j i x y : Nat} {acc : Bool} {Φ : Outcome → x_H → Prop} (k : isM p S F T H fr M ze si) (hj : j < 10) (hx : x < b_s S) (hy : (T j)[i]? = some y)
  (kk : x_K P (d + 2) mMO_isTold 8 [some (.ref bm), some (.int (nI j)), some (.int (nI x)), some (.int (b2i (acc || decide (b_wa S y = b_wa S x)))), some (.int (nI (16 * j + (i + 1))))] [] (mh h0 bm ze si) Φ) :
  x_K P (d + 2) mMO_isTold 8 [some (.ref bm), some (.int (nI j)), some (.int (nI x)), some (.int (b2i acc)), some (.int (nI (16 * j + i)))] [] (mh h0 bm ze si) Φ := by
  obtain ⟨a1, a2, a3⟩ := k.told.1 j hj
  have hi := (List.getElem?_eq_some_iff.mp hy).1
  have hys : y < b_s S := (k.told.2 j hj).2.1 y (List.mem_of_getElem? hy)
  cases acc with
  | true =>
    refine eMO_isTold_8 ?_
    refine eMO_isTold_10 ?_
    refine eMO_isTold_12 ?_
    refine eMO_isTold_13 ?_
    rw [mx16]
    refine eMO_isTold_14 rfl ?_
    refine eMO_isTold_15 mh_o rfl ?_
    refine eMO_isTold_18 ?_
    refine eMO_isTold_19 mh_a18 (xn_in hj (by decide)) ?_
    rw [nI_clamp (by omega)]
    rw [a1]
    refine eMO_isTold_20 ?_
    rw [nI_add]
    refine eMO_isTold_21 (fun c => absurd c (nI_ge (by omega) (by omega))) (fun c21 => ?_)
    refine eMO_isTold_24 ?_
    refine eMO_isTold_25 (fun c25 => ?_) (fun c => absurd c (by decide))
    refine eMO_isTold_43 ?_
    refine eMO_isTold_44 ?_
    refine eMO_isTold_48 ?_
    refine eMO_isTold_49 ?_
    refine eMO_isTold_52 ?_
    rw [nI_1]
    exact kk
  | false =>
    rw [Bool.false_or] at kk
    cases c1 : decide (b_wa S y = b_wa S x) with
    | true =>
      rw [c1] at kk
      refine eMO_isTold_8 ?_
      refine eMO_isTold_10 ?_
      refine eMO_isTold_12 ?_
      refine eMO_isTold_13 ?_
      rw [mx16]
      refine eMO_isTold_14 rfl ?_
      refine eMO_isTold_15 mh_o rfl ?_
      refine eMO_isTold_18 ?_
      refine eMO_isTold_19 mh_a18 (xn_in hj (by decide)) ?_
      rw [nI_clamp (by omega)]
      rw [a1]
      refine eMO_isTold_20 ?_
      rw [nI_add]
      refine eMO_isTold_21 (fun c => absurd c (nI_ge (by omega) (by omega))) (fun c21 => ?_)
      refine eMO_isTold_24 ?_
      refine eMO_isTold_25 (fun c => absurd rfl c) (fun c25 => ?_)
      refine eMO_isTold_28 rfl ?_
      refine eMO_isTold_29 rfl ?_
      refine eMO_isTold_30 mh_o rfl ?_
      refine eMO_isTold_33 ?_
      refine eMO_isTold_35 mh_a19 (xn_in (by omega) (by decide)) ?_
      rw [nI_clamp (by omega)]
      rw [a3 i y hy]
      refine eMO_isTold_36 ?_
      refine eMO_isTold_37 mh_o (Nat.le_of_ble_eq_true rfl) (sMO_alike k hys hx) ?_
      rintro _ _ ⟨rfl, rfl⟩
      refine ⟨_, rfl, ?_⟩
      rw [c1]
      refine eMO_isTold_40 (fun c => absurd c (by decide)) (fun c40 => ?_)
      refine eMO_isTold_43 ?_
      refine eMO_isTold_44 ?_
      refine eMO_isTold_48 ?_
      refine eMO_isTold_49 ?_
      refine eMO_isTold_52 ?_
      rw [nI_1]
      exact kk
    | false =>
      rw [c1] at kk
      refine eMO_isTold_8 ?_
      refine eMO_isTold_10 ?_
      refine eMO_isTold_12 ?_
      refine eMO_isTold_13 ?_
      rw [mx16]
      refine eMO_isTold_14 rfl ?_
      refine eMO_isTold_15 mh_o rfl ?_
      refine eMO_isTold_18 ?_
      refine eMO_isTold_19 mh_a18 (xn_in hj (by decide)) ?_
      rw [nI_clamp (by omega)]
      rw [a1]
      refine eMO_isTold_20 ?_
      rw [nI_add]
      refine eMO_isTold_21 (fun c => absurd c (nI_ge (by omega) (by omega))) (fun c21 => ?_)
      refine eMO_isTold_24 ?_
      refine eMO_isTold_25 (fun c => absurd rfl c) (fun c25 => ?_)
      refine eMO_isTold_28 rfl ?_
      refine eMO_isTold_29 rfl ?_
      refine eMO_isTold_30 mh_o rfl ?_
      refine eMO_isTold_33 ?_
      refine eMO_isTold_35 mh_a19 (xn_in (by omega) (by decide)) ?_
      rw [nI_clamp (by omega)]
      rw [a3 i y hy]
      refine eMO_isTold_36 ?_
      refine eMO_isTold_37 mh_o (Nat.le_of_ble_eq_true rfl) (sMO_alike k hys hx) ?_
      rintro _ _ ⟨rfl, rfl⟩
      refine ⟨_, rfl, ?_⟩
      rw [c1]
      refine eMO_isTold_40 (fun c40 => ?_) (fun c => absurd rfl c)
      refine eMO_isTold_47 ?_
      refine eMO_isTold_48 ?_
      refine eMO_isTold_49 ?_
      refine eMO_isTold_52 ?_
      rw [nI_1]
      exact kk
theorem lMO_isTold {j x : Nat} (k : isM p S F T H fr M ze si) (hj : j < 10) (hx : x < b_s S) : ∀ (n i : Nat) (acc : Bool), i + n = (T j).length → x_K P (d + 2) mMO_isTold 8 [some (.ref bm), some (.int (nI j)), some (.int (nI x)), some (.int (b2i acc)), some (.int (nI (16 * j + i)))] [] (mh h0 bm ze si) (fun oc h' => oc = .returned (some (.int (b2i (acc || ((T j).drop i).any (fun y => decide (b_wa S y = b_wa S x)))))) ∧ h' = mh h0 bm ze si) := by
  obtain ⟨a1, a2, a3⟩ := k.told.1 j hj
  intro n
  induction n with
  | zero =>
    intro i acc hi
    rw [List.drop_eq_nil_of_le (by omega), List.any_nil, Bool.or_false]
    refine eMO_isTold_8 ?_
    refine eMO_isTold_10 ?_
    refine eMO_isTold_12 ?_
    refine eMO_isTold_13 ?_
    rw [mx16]
    refine eMO_isTold_14 rfl ?_
    refine eMO_isTold_15 mh_o rfl ?_
    refine eMO_isTold_18 ?_
    refine eMO_isTold_19 mh_a18 (xn_in hj (by decide)) ?_
    rw [nI_clamp (by omega)]
    rw [a1]
    refine eMO_isTold_20 ?_
    rw [nI_add]
    refine eMO_isTold_21 (fun c21 => ?_) (fun c => absurd (nI_le (by omega) (by omega)) c)
    refine eMO_isTold_55 ?_
    exact eMO_isTold_56 (b2i_n _) ⟨rfl, rfl⟩
  | succ n ih =>
    intro i acc hi
    obtain ⟨y, hy⟩ : ∃ y, (T j)[i]? = some y := ⟨(T j)[i]'(by omega), List.getElem?_eq_getElem (by omega)⟩
    have h1 := (List.getElem?_eq_some_iff.mp hy)
    rw [List.drop_eq_getElem_cons h1.1, h1.2, List.any_cons, ← Bool.or_assoc]
    exact tMO_isTold k hj hx hy (ih (i + 1) _ (by omega))
theorem any_wa {wa : Nat → Nat} {l : List Nat} {v : Nat} : l.any (fun y => decide (wa y = v)) = decide (v ∈ l.map wa) := by
  refine bool_ext ?_
  rw [List.any_eq_true, decide_eq_true_eq, List.mem_map]
  constructor
  · rintro ⟨y, a, b⟩
    exact ⟨y, a, of_decide_eq_true b⟩
  · rintro ⟨y, a, b⟩
    exact ⟨y, a, decide_eq_true b⟩
theorem sMO_isTold {j x : Nat} (k : isM p S F T H fr M ze si) (hj : j < 10) (hx : x < b_s S) : x_K P (d + 2) mMO_isTold 0 [some (.ref bm), some (.int (nI j)), some (.int (nI x)), none, none] [] (mh h0 bm ze si) (fun oc h' => oc = .returned (some (.int (b2i (decide (b_wa S x ∈ b_T S j))))) ∧ h' = mh h0 bm ze si) := by
  rw [← (k.told.2 j hj).1, ← any_wa]
  refine eMO_isTold_0 ?_
  refine eMO_isTold_1 ?_
  refine eMO_isTold_2 ?_
  refine eMO_isTold_4 ?_
  refine eMO_isTold_5 ?_
  rw [mx16]
  refine eMO_isTold_6 ?_
  skip
  exact lMO_isTold k hj hx (T j).length 0 false (Nat.zero_add _)
def mKp (si : Nat → Nat → Int32) (F : Nat → sp3) (l : List Nat) : Prop := ∀ i, i < l.length → si 26 i = b2i (kpF F l i)
theorem tMO_isNeeded {i x y : Nat} {l : List Nat} {acc : Bool} {Φ : Outcome → x_H → Prop} (k : isM p S F T H fr M ze si) (kr : mRw ze si l) (kp : mKp si F l) (hl : l.length ≤ 112) (hls : ∀ y ∈ l, y < b_s S) (hx : x < b_s S) (hy : l[i]? = some y)
  (kk : x_K P (d + 2) mMO_isNeeded 4 [some (.ref bm), some (.int (nI x)), some (.int (b2i (acc || (kpF F l i && decide (b_wa S y = b_wa S x))))), some (.int (nI (i + 1)))] [] (mh h0 bm ze si) Φ) :
  x_K P (d + 2) mMO_isNeeded 4 [some (.ref bm), some (.int (nI x)), some (.int (b2i acc)), some (.int (nI i))] [] (mh h0 bm ze si) Φ := by
  have hi := (List.getElem?_eq_some_iff.mp hy).1
  have hys : y < b_s S := hls y (List.mem_of_getElem? hy)
  have ek := kp i hi
  cases acc with
  | true =>
    refine eMO_isNeeded_4 ?_
    refine eMO_isNeeded_5 rfl ?_
    refine eMO_isNeeded_6 mh_o rfl ?_
    rw [kr.1]
    refine eMO_isNeeded_9 (fun c => absurd c (nI_ge (by omega) (by omega))) (fun c9 => ?_)
    refine eMO_isNeeded_12 ?_
    refine eMO_isNeeded_13 (fun c13 => ?_) (fun c => absurd c (by decide))
    refine eMO_isNeeded_39 ?_
    refine eMO_isNeeded_40 ?_
    refine eMO_isNeeded_44 ?_
    refine eMO_isNeeded_45 ?_
    refine eMO_isNeeded_48 ?_
    rw [nI_1]
    exact kk
  | false =>
    rw [Bool.false_or] at kk
    cases c0 : kpF F l i with
    | false =>
      rw [c0] at kk ek
      refine eMO_isNeeded_4 ?_
      refine eMO_isNeeded_5 rfl ?_
      refine eMO_isNeeded_6 mh_o rfl ?_
      rw [kr.1]
      refine eMO_isNeeded_9 (fun c => absurd c (nI_ge (by omega) (by omega))) (fun c9 => ?_)
      refine eMO_isNeeded_12 ?_
      refine eMO_isNeeded_13 (fun c => absurd rfl c) (fun c13 => ?_)
      refine eMO_isNeeded_16 rfl ?_
      refine eMO_isNeeded_17 mh_o rfl ?_
      refine eMO_isNeeded_20 ?_
      refine eMO_isNeeded_21 mh_a26 (xn_in (by omega) (by decide)) ?_
      rw [nI_clamp (by omega)]
      rw [ek]
      refine eMO_isNeeded_22 (fun c22 => ?_) (fun c => absurd rfl c)
      refine eMO_isNeeded_43 ?_
      refine eMO_isNeeded_44 ?_
      refine eMO_isNeeded_45 ?_
      refine eMO_isNeeded_48 ?_
      rw [nI_1]
      exact kk
    | true =>
      rw [c0, Bool.true_and] at kk
      rw [c0] at ek
      cases c1 : decide (b_wa S y = b_wa S x) with
      | true =>
        rw [c1] at kk
        refine eMO_isNeeded_4 ?_
        refine eMO_isNeeded_5 rfl ?_
        refine eMO_isNeeded_6 mh_o rfl ?_
        rw [kr.1]
        refine eMO_isNeeded_9 (fun c => absurd c (nI_ge (by omega) (by omega))) (fun c9 => ?_)
        refine eMO_isNeeded_12 ?_
        refine eMO_isNeeded_13 (fun c => absurd rfl c) (fun c13 => ?_)
        refine eMO_isNeeded_16 rfl ?_
        refine eMO_isNeeded_17 mh_o rfl ?_
        refine eMO_isNeeded_20 ?_
        refine eMO_isNeeded_21 mh_a26 (xn_in (by omega) (by decide)) ?_
        rw [nI_clamp (by omega)]
        rw [ek]
        refine eMO_isNeeded_22 (fun c => absurd c (by decide)) (fun c22 => ?_)
        refine eMO_isNeeded_25 rfl ?_
        refine eMO_isNeeded_26 rfl ?_
        refine eMO_isNeeded_27 mh_o rfl ?_
        refine eMO_isNeeded_30 ?_
        refine eMO_isNeeded_31 mh_a25 (xn_in (by omega) (by decide)) ?_
        rw [nI_clamp (by omega)]
        rw [kr.2 i y hy]
        refine eMO_isNeeded_32 ?_
        refine eMO_isNeeded_33 mh_o (Nat.le_of_ble_eq_true rfl) (sMO_alike k hys hx) ?_
        rintro _ _ ⟨rfl, rfl⟩
        refine ⟨_, rfl, ?_⟩
        rw [c1]
        refine eMO_isNeeded_36 (fun c => absurd c (by decide)) (fun c36 => ?_)
        refine eMO_isNeeded_39 ?_
        refine eMO_isNeeded_40 ?_
        refine eMO_isNeeded_44 ?_
        refine eMO_isNeeded_45 ?_
        refine eMO_isNeeded_48 ?_
        rw [nI_1]
        exact kk
      | false =>
        rw [c1] at kk
        refine eMO_isNeeded_4 ?_
        refine eMO_isNeeded_5 rfl ?_
        refine eMO_isNeeded_6 mh_o rfl ?_
        rw [kr.1]
        refine eMO_isNeeded_9 (fun c => absurd c (nI_ge (by omega) (by omega))) (fun c9 => ?_)
        refine eMO_isNeeded_12 ?_
        refine eMO_isNeeded_13 (fun c => absurd rfl c) (fun c13 => ?_)
        refine eMO_isNeeded_16 rfl ?_
        refine eMO_isNeeded_17 mh_o rfl ?_
        refine eMO_isNeeded_20 ?_
        refine eMO_isNeeded_21 mh_a26 (xn_in (by omega) (by decide)) ?_
        rw [nI_clamp (by omega)]
        rw [ek]
        refine eMO_isNeeded_22 (fun c => absurd c (by decide)) (fun c22 => ?_)
        refine eMO_isNeeded_25 rfl ?_
        refine eMO_isNeeded_26 rfl ?_
        refine eMO_isNeeded_27 mh_o rfl ?_
        refine eMO_isNeeded_30 ?_
        refine eMO_isNeeded_31 mh_a25 (xn_in (by omega) (by decide)) ?_
        rw [nI_clamp (by omega)]
        rw [kr.2 i y hy]
        refine eMO_isNeeded_32 ?_
        refine eMO_isNeeded_33 mh_o (Nat.le_of_ble_eq_true rfl) (sMO_alike k hys hx) ?_
        rintro _ _ ⟨rfl, rfl⟩
        refine ⟨_, rfl, ?_⟩
        rw [c1]
        refine eMO_isNeeded_36 (fun c36 => ?_) (fun c => absurd rfl c)
        refine eMO_isNeeded_43 ?_
        refine eMO_isNeeded_44 ?_
        refine eMO_isNeeded_45 ?_
        refine eMO_isNeeded_48 ?_
        rw [nI_1]
        exact kk
theorem lMO_isNeeded {x : Nat} {l : List Nat} (k : isM p S F T H fr M ze si) (kr : mRw ze si l) (kp : mKp si F l) (hl : l.length ≤ 112) (hls : ∀ y ∈ l, y < b_s S) (hx : x < b_s S) : ∀ (n i : Nat) (acc : Bool), i + n = l.length → acc = decide (b_wa S x ∈ (kpL F l i).map (b_wa S)) → x_K P (d + 2) mMO_isNeeded 4 [some (.ref bm), some (.int (nI x)), some (.int (b2i acc)), some (.int (nI i))] [] (mh h0 bm ze si) (fun oc h' => oc = .returned (some (.int (b2i (decide (b_wa S x ∈ (kpL F l l.length).map (b_wa S)))))) ∧ h' = mh h0 bm ze si) := by
  intro n
  induction n with
  | zero =>
    intro i acc hi ha
    have ei : i = l.length := by omega
    subst ei
    rw [← ha]
    refine eMO_isNeeded_4 ?_
    refine eMO_isNeeded_5 rfl ?_
    refine eMO_isNeeded_6 mh_o rfl ?_
    rw [kr.1]
    refine eMO_isNeeded_9 (fun c9 => ?_) (fun c => absurd (nI_le (by omega) (by omega)) c)
    refine eMO_isNeeded_51 ?_
    exact eMO_isNeeded_52 (b2i_n _) ⟨rfl, rfl⟩
  | succ n ih =>
    intro i acc hi ha
    obtain ⟨y, hy⟩ : ∃ y, l[i]? = some y := ⟨l[i]'(by omega), List.getElem?_eq_getElem (by omega)⟩
    refine tMO_isNeeded k kr kp hl hls hx hy (ih (i + 1) _ (by omega) ?_)
    rw [ha]
    refine bool_ext ?_
    have e : kpL F l (i + 1) = kpL F l i ++ (if kpF F l i then [y] else []) := by
      unfold kpL
      rw [List.range_succ, List.filter_append, List.map_append]
      congr 1
      cases c : kpF F l i with
      | true => simp [c, hy]
      | false => simp [c]
    rw [e, List.map_append, decide_eq_true_eq, List.mem_append, Bool.or_eq_true, decide_eq_true_eq, Bool.and_eq_true, decide_eq_true_eq]
    cases c : kpF F l i with
    | true => simp [eq_comm]
    | false => simp
theorem sMO_isNeeded {x : Nat} {l : List Nat} (k : isM p S F T H fr M ze si) (kr : mRw ze si l) (kp : mKp si F l) (hl : l.length ≤ 112) (hls : ∀ y ∈ l, y < b_s S) (hx : x < b_s S) : x_K P (d + 2) mMO_isNeeded 0 [some (.ref bm), some (.int (nI x)), none, none] [] (mh h0 bm ze si) (fun oc h' => oc = .returned (some (.int (b2i (decide (b_wa S x ∈ (kpL F l l.length).map (b_wa S)))))) ∧ h' = mh h0 bm ze si) := by
  refine eMO_isNeeded_0 ?_
  refine eMO_isNeeded_1 ?_
  refine eMO_isNeeded_2 ?_
  refine eMO_isNeeded_3 ?_
  skip
  exact lMO_isNeeded k kr kp hl hls hx l.length 0 false (Nat.zero_add _) (by simp [kpL])
end

