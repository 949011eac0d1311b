/-! The reference: tellAll, settle -/
section
variable {p : Nat → Nat} {S S' : bS} {F : Nat → sp3} {T H M : Nat → List Nat} {fr : Nat → Nat} {ze ze' : Nat → Int32} {si si' : Nat → Nat → Int32}
theorem rlF.wa16 (k : rlF S F) (hs : b_s S ≤ 16) {x : Nat} (hx : x < b_s S) : b_wa S x < 16 := by
  obtain ⟨q, q1, -⟩ := k.2.1 x hx
  have h1 := (List.getElem?_eq_some_iff.mp q1).1
  have h2 := k.1
  omega
theorem mLs.add {a b : Nat → Int32} (k : mLs a b T) {j x : Nat} (hj : j < 10) (hl : (T j).length < 16) : mLs (upd a j (nI ((T j).length + 1))) (upd b (16 * j + (T j).length) (nI x)) (ub T j (T j ++ [x])) := by
  intro i hi
  obtain ⟨a1, a2, a3⟩ := k i hi
  by_cases e : i = j
  · subst e
    rw [ub_same, List.length_append]
    refine ⟨by rw [pk_us]; rfl, by show _ + 1 ≤ 16; omega, fun q y hq => ?_⟩
    by_cases e2 : q = (T i).length
    · subst e2
      rw [pk_us]
      rw [List.getElem?_append_right (Nat.le_refl _), Nat.sub_self] at hq
      rw [Option.some.inj hq]
    · have h3 := (List.getElem?_eq_some_iff.mp hq).1
      rw [List.length_append, List.length_singleton] at h3
      rw [List.getElem?_append_left (by omega)] at hq
      rw [pk_un (by omega)]
      exact a3 q y hq
  · rw [ub_ne e]
    refine ⟨by rw [pk_un e]; exact a1, a2, fun q y hq => ?_⟩
    have h3 := (List.getElem?_eq_some_iff.mp hq).1
    rw [pk_un (by omega)]
    exact a3 q y hq
/-- how a list loses the one at place n -/
theorem mLs.del {a b c : Nat → Int32} (k : mLs a b T) {j n x : Nat} (hj : j < 10) (hx : (T j)[n]? = some x) (h1 : ∀ q, (q < 16 * j + n ∨ 16 * j + (T j).length - 1 ≤ q) → c q = b q) (h2 : ∀ q, 16 * j + n ≤ q → q < 16 * j + (T j).length - 1 → c q = b (q + 1)) : mLs (upd a j (nI ((T j).length - 1))) c (ub T j ((T j).eraseIdx n)) := by
  have hn := (List.getElem?_eq_some_iff.mp hx).1
  intro i hi
  obtain ⟨a1, a2, a3⟩ := k i hi
  by_cases e : i = j
  · subst e
    rw [ub_same, List.length_eraseIdx_of_lt hn]
    refine ⟨pk_us, by omega, fun q y hq => ?_⟩
    have h3 := (List.getElem?_eq_some_iff.mp hq).1
    rw [List.length_eraseIdx_of_lt hn] at h3
    rw [List.getElem?_eraseIdx] at hq
    by_cases c1 : q < n
    · rw [if_pos c1] at hq
      rw [h1 _ (Or.inl (by omega))]
      exact a3 q y hq
    · rw [if_neg c1] at hq
      rw [h2 _ (by omega) (by omega), show 16 * i + q + 1 = 16 * i + (q + 1) by omega]
      exact a3 (q + 1) y hq
  · rw [ub_ne e]
    refine ⟨by rw [pk_un e]; exact a1, a2, fun q y hq => ?_⟩
    have h3 := (List.getElem?_eq_some_iff.mp hq).1
    have h4 := (k j hj).2.1
    rw [h1 _ (by omega)]
    exact a3 q y hq
def tlT (S : bS) (j : Nat) (t : List Nat) : bS := bs_T S (ub (b_T S) j t)
theorem tlT_sm {j : Nat} {t : List Nat} : sm S (tlT S j t) := by
  unfold sm tlT
  rw [bg_n_T, bg_g_T, bg_s_T, bg_K_T, bg_su_T, bg_wa_T, bg_en_T, bg_N_T]
  exact ⟨rfl, rfl, rfl, rfl, rfl, rfl, rfl, rfl⟩
theorem isM.tdT {j : Nat} {t : List Nat} {t' : List Nat} {a b : Nat → Int32} (k : isM p S F T H fr M ze si) (hj : j < 10) (h18 : mLs a b (ub T j t')) (h2 : t'.map (b_wa S) = t ∧ (∀ x ∈ t', x < b_s S) ∧ t.Nodup) : isM p (tlT S j t) F (ub T j t') H fr M ze (va_up (va_up si 19 b) 18 a) := by
  have eT : b_T (tlT S j t) = ub (b_T S) j t := by unfold tlT; rw [bg_T]
  have eH : b_H (tlT S j t) = b_H S := by unfold tlT; rw [bg_H_T]
  have eQ : b_Q (tlT S j t) = b_Q S := by unfold tlT; rw [bg_Q_T]
  have ec : b_cn (tlT S j t) = b_cn S := by unfold tlT; rw [bg_cn_T]
  refine k.ch tlT_sm ⟨rfl, rfl, rfl⟩ (fun K hK => (if_neg (show K ≠ 18 by omega)).trans (if_neg (show K ≠ 19 by omega))) k.1.2.2.2 ⟨h18, fun i hi => ?_⟩ ?_ ?_ ?_ ?_
  · rw [eT]
    by_cases e : i = j
    · subst e
      rw [ub_same, ub_same]
      exact h2
    · rw [ub_ne e, ub_ne e]
      exact k.told.2 i hi
  · rw [eH]; exact k.heard
  · rw [eQ]; exact k.line
  · rw [ec]; exact k.cnt
  · rw [eQ]; exact k.inb
end
/-- those needed that were not told yet -/
def tnL (S : bS) (F : Nat → sp3) (l : List Nat) (j n : Nat) : List Nat := (kpL F l n).filter (fun x => decide (b_wa S x ∉ b_T S j))
section
variable {P : x_P} {d : Nat} {h0 : x_H} {bm : Nat} {p : Nat → Nat} {S : bS} {F : Nat → sp3} {T H M : Nat → List Nat} {fr : Nat → Nat} {Φ : Outcome → x_H → Prop}
theorem kpL_succ {F : Nat → sp3} {l : List Nat} {i y : Nat} (hy : l[i]? = some y) : kpL F l (i + 1) = kpL F l i ++ (if kpF F l i then [y] else []) := by
  unfold kpL
  rw [List.range_succ, List.filter_append, List.map_append]
  congr 1
  cases c : kpF F l i with
  | true => simp [c, hy]
  | false => simp [c]
theorem tnL_mono {F : Nat → sp3} {l : List Nat} {j : Nat} : ∀ (m i : Nat), i + m ≤ l.length → (tnL S F l j i).length ≤ (tnL S F l j (i + m)).length := by
  intro m
  induction m with
  | zero => intro i _; exact Nat.le_refl _
  | succ m ih =>
    intro i hi
    refine Nat.le_trans (ih i (by omega)) ?_
    have hy : l[i + m]? = some (l[i + m]'(by omega)) := List.getElem?_eq_getElem (by omega)
    unfold tnL
    rw [show i + (m + 1) = i + m + 1 by omega, kpL_succ hy, List.filter_append, List.length_append]
    omega
theorem kpL_mem {F : Nat → sp3} {l : List Nat} {n x : Nat} (hn : n ≤ l.length) (h : x ∈ kpL F l n) : ∃ i, i < n ∧ l[i]? = some x ∧ kpF F l i = true := by
  unfold kpL at h
  obtain ⟨i, h1, h2⟩ := List.mem_map.mp h
  obtain ⟨h3, h4⟩ := List.mem_filter.mp h1
  have h5 := List.mem_range.mp h3
  refine ⟨i, h5, ?_, h4⟩
  rw [List.getElem?_eq_getElem (by omega), ← h2, getD_of (List.getElem?_eq_getElem (by omega))]
theorem lMO_tellA {l : List Nat} {j : Nat} {v3 v4 : Option Value} (hj : j < 10) (hl : l.length ≤ 112) (hls : ∀ y ∈ l, y < b_s S) (hrl : rlF S F) (hs : b_s S ≤ 16) (hTj : (T j).map (b_wa S) = b_T S j ∧ (∀ x ∈ T j, x < b_s S) ∧ (b_T S j).Nodup) (hq : fr j + (M j).length + (tnL S F l j l.length).length ≤ 1000)
  (kk : ∀ ze' si', isM p (tlS S j ((tnL S F l j l.length).map (b_wa S))) F (ub T j (T j ++ tnL S F l j l.length)) H fr (ub M j (M j ++ (tnL S F l j l.length).map (fun x => 4 * x + 0))) ze' si' → mRw ze' si' l → mKp si' F l → x_K P (d + 3) mMO_tellAll 83 [some (.ref bm), some (.int (nI j)), some (.int (nI l.length)), v3, v4] [] (mh h0 bm ze' si') Φ) :
  ∀ (n i : Nat) (ze : Nat → Int32) (si : Nat → Nat → Int32), i + n = l.length → isM p (tlS S j ((tnL S F l j i).map (b_wa S))) F (ub T j (T j ++ tnL S F l j i)) H fr (ub M j (M j ++ (tnL S F l j i).map (fun x => 4 * x + 0))) ze si → mRw ze si l → mKp si F l → x_K P (d + 3) mMO_tellAll 2 [some (.ref bm), some (.int (nI j)), some (.int (nI i)), v3, v4] [] (mh h0 bm ze si) Φ := by
  intro n
  induction n with
  | zero =>
    intro i ze si hi k kr kp
    have ei : i = l.length := by omega
    subst ei
    refine eMO_tellAll_2 ?_
    refine eMO_tellAll_3 rfl ?_
    refine eMO_tellAll_4 mh_o rfl ?_
    rw [kr.1]
    refine eMO_tellAll_7 (fun c7 => ?_) (fun c => absurd (nI_le (by omega) (by omega)) c)
    exact kk ze si k kr kp
  | succ n ih =>
    intro i ze si hi k kr kp
    obtain ⟨x, hx⟩ : ∃ x, l[i]? = some x := ⟨l[i]'(by omega), List.getElem?_eq_getElem (by omega)⟩
    have hxs : x < b_s S := hls x (List.mem_of_getElem? hx)
    have ek := kp i (by omega)
    have es : b_s (tlS S j ((tnL S F l j i).map (b_wa S))) = b_s S := by unfold tlS; rw [bg_s_cn, bg_s_Q, bg_s_T]
    have ew : b_wa (tlS S j ((tnL S F l j i).map (b_wa S))) = b_wa S := by unfold tlS; rw [bg_wa_cn, bg_wa_Q, bg_wa_T]
    cases c0 : kpF F l i with
    | false =>
      rw [c0] at ek
      have et : tnL S F l j (i + 1) = tnL S F l j i := by
        unfold tnL
        rw [kpL_succ hx, c0]
        simp
      refine eMO_tellAll_2 ?_
      refine eMO_tellAll_3 rfl ?_
      refine eMO_tellAll_4 mh_o rfl ?_
      rw [kr.1]
      refine eMO_tellAll_7 (fun c => absurd c (nI_ge (by omega) (by omega))) (fun c7 => ?_)
      refine eMO_tellAll_10 rfl ?_
      refine eMO_tellAll_11 mh_o rfl ?_
      refine eMO_tellAll_14 ?_
      refine eMO_tellAll_15 mh_a26 (xn_in (by omega) (by decide)) ?_
      rw [nI_clamp (by omega)]
      rw [ek]
      refine eMO_tellAll_16 (fun c16 => ?_) (fun c => absurd rfl c)
      refine eMO_tellAll_77 ?_
      rw [nI_1]
      skip
      refine eMO_tellAll_80 ?_
      exact ih (i + 1) ze si (by omega) (by rw [et]; exact k) kr kp
    | true =>
      rw [c0] at ek
      have hnew : b_wa S x ∉ (tnL S F l j i).map (b_wa S) := by
        intro z
        obtain ⟨y, y1, y2⟩ := List.mem_map.mp z
        obtain ⟨i', i1, i2, i3⟩ := kpL_mem (by omega) (List.mem_filter.mp y1).1
        have h5 := ((kp_iff hrl hls (by omega)).mp c0).1 i' i1
        rw [getD_of i2, getD_of hx] at h5
        exact h5 y2
      have hTold : b_T (tlS S j ((tnL S F l j i).map (b_wa S))) j = b_T S j ++ (tnL S F l j i).map (b_wa S) := by rw [tlS_T, ub_same]
      have hdec : decide (b_wa (tlS S j ((tnL S F l j i).map (b_wa S))) x ∈ b_T (tlS S j ((tnL S F l j i).map (b_wa S))) j) = decide (b_wa S x ∈ b_T S j) := by
        rw [hTold, ew]
        refine decide_eq_decide.mpr ⟨fun z => (List.mem_append.mp z).resolve_right hnew, fun z => List.mem_append.mpr (Or.inl z)⟩
      by_cases c1 : b_wa S x ∈ b_T S j
      · have et : tnL S F l j (i + 1) = tnL S F l j i := by
          unfold tnL
          rw [kpL_succ hx, c0]
          simp [c1]
        rw [decide_eq_true c1] at hdec
        refine eMO_tellAll_2 ?_
        refine eMO_tellAll_3 rfl ?_
        refine eMO_tellAll_4 mh_o rfl ?_
        rw [kr.1]
        refine eMO_tellAll_7 (fun c => absurd c (nI_ge (by omega) (by omega))) (fun c7 => ?_)
        refine eMO_tellAll_10 rfl ?_
        refine eMO_tellAll_11 mh_o rfl ?_
        refine eMO_tellAll_14 ?_
        refine eMO_tellAll_15 mh_a26 (xn_in (by omega) (by decide)) ?_
        rw [nI_clamp (by omega)]
        rw [ek]
        refine eMO_tellAll_16 (fun c => absurd c (by decide)) (fun c16 => ?_)
        refine eMO_tellAll_19 rfl ?_
        refine eMO_tellAll_20 ?_
        refine eMO_tellAll_21 rfl ?_
        refine eMO_tellAll_22 mh_o rfl ?_
        refine eMO_tellAll_25 ?_
        refine eMO_tellAll_26 mh_a25 (xn_in (by omega) (by decide)) ?_
        rw [nI_clamp (by omega)]
        rw [kr.2 i x hx]
        refine eMO_tellAll_27 mh_o (Nat.le_of_ble_eq_true rfl) (sMO_isTold k hj (by rw [es]; exact hxs)) ?_
        rintro _ _ ⟨rfl, rfl⟩
        refine ⟨_, rfl, ?_⟩
        rw [hdec]
        refine eMO_tellAll_30 (fun c30 => ?_) (fun c => absurd c (by decide))
        refine eMO_tellAll_77 ?_
        rw [nI_1]
        skip
        refine eMO_tellAll_80 ?_
        exact ih (i + 1) ze si (by omega) (by rw [et]; exact k) kr kp
      · have et : tnL S F l j (i + 1) = tnL S F l j i ++ [x] := by
          unfold tnL
          rw [kpL_succ hx, c0]
          simp [c1]
        rw [decide_eq_false c1] at hdec
        have hmono := tnL_mono (S := S) (F := F) (l := l) (j := j) (l.length - (i + 1)) (i + 1) (by omega)
        rw [show i + 1 + (l.length - (i + 1)) = l.length by omega, et, List.length_append, List.length_singleton] at hmono
        have hk1 := k.told.1 j hj
        have hk2 := k.told.2 j hj
        rw [ub_same] at hk1 hk2
        rw [hTold, ew, es] at hk2
        obtain ⟨a1, a2, a3⟩ := hk1
        have hndp : (b_T S j ++ (tnL S F l j i).map (b_wa S) ++ [b_wa S x]).Nodup := by
          refine List.nodup_append.mpr ⟨hk2.2.2, by simp, fun y hy z hz => ?_⟩
          rw [List.mem_singleton.mp hz]
          rcases List.mem_append.mp hy with q | q
          · exact fun e => c1 (by rw [← e]; exact q)
          · exact fun e => hnew (by rw [← e]; exact q)
        have hlen : (T j ++ tnL S F l j i).length < 16 := by
          have h7 := nd_len 16 _ hndp (fun y hy => by
            rcases List.mem_append.mp hy with q | q
            · rw [← hk2.1] at q
              obtain ⟨y', q1, q2⟩ := List.mem_map.mp q
              rw [← q2]
              exact hrl.wa16 hs (hk2.2.1 y' q1)
            · rw [List.mem_singleton.mp q]
              exact hrl.wa16 hs hxs)
          rw [List.length_append, ← hk2.1, List.length_map, List.length_singleton] at h7
          omega
        have hl2 : ((ub M j (M j ++ (tnL S F l j i).map (fun x => 4 * x + 0))) j).length = (M j).length + (tnL S F l j i).length := by
          rw [ub_same, List.length_append, List.length_map]
        have eX : sdS (tlT (tlS S j ((tnL S F l j i).map (b_wa S))) j (b_T S j ++ (tnL S F l j i).map (b_wa S) ++ [b_wa S x])) j x 0 = tlS S j ((tnL S F l j (i + 1)).map (b_wa S)) := by
          rw [et, List.map_append]
          unfold sdS tlT
          rw [bg_Q_T, bg_wa_T, ew, bg_cn_T, mcv_k (by decide), if_neg (by decide), show cI 0 = 2 from rfl, ← hTold]
          exact tlS_snoc
        have tail : ∀ si1, isM p (tlT (tlS S j ((tnL S F l j i).map (b_wa S))) j (b_T S j ++ (tnL S F l j i).map (b_wa S) ++ [b_wa S x])) F (ub T j (T j ++ tnL S F l j i ++ [x])) H fr (ub M j (M j ++ (tnL S F l j i).map (fun x => 4 * x + 0))) ze si1 → mRw ze si1 l → mKp si1 F l → x_K P (d + 3) mMO_tellAll 65 [some (.ref bm), some (.int (nI j)), some (.int (nI i)), v3, v4] [] (mh h0 bm ze si1) Φ := by
          intro si1 k1 kr1 kp1
          refine eMO_tellAll_65 rfl ?_
          refine eMO_tellAll_66 ?_
          refine eMO_tellAll_67 ?_
          refine eMO_tellAll_68 rfl ?_
          refine eMO_tellAll_69 mh_o rfl ?_
          refine eMO_tellAll_72 ?_
          refine eMO_tellAll_73 mh_a25 (xn_in (by omega) (by decide)) ?_
          rw [nI_clamp (by omega)]
          rw [kr1.2 i x hx]
          refine eMO_tellAll_74 mh_o (Nat.le_of_ble_eq_true rfl) (sMO_send (kd := 0) k1 hj (by decide) (by rw [hl2]; omega) (fun _ => by rw [tlT_sm.2.2.1, es]; exact hxs) (fun z => by cases z)) ?_
          rintro _ h9 ⟨rfl, ze', si', rfl, f', k'⟩
          refine ⟨_, rfl, ?_⟩
          refine eMO_tellAll_77 ?_
          rw [nI_1]
          skip
          refine eMO_tellAll_80 ?_
          rw [eX, ub_ub, ub_same, List.append_assoc (M j)] at k'
          refine ih (i + 1) ze' si' (by omega) ?_ ⟨by rw [f'.1]; exact kr1.1, by rw [f'.2.1]; exact kr1.2⟩ (by unfold mKp; rw [f'.2.2]; exact kp1)
          have eM : List.map (fun x => 4 * x + 0) (tnL S F l j i ++ [x]) = List.map (fun x => 4 * x + 0) (tnL S F l j i) ++ [4 * x + 0] := by
            rw [List.map_append]
            rfl
          rw [et] at k' ⊢
          rw [eM, ← List.append_assoc (T j)]
          exact k'
        have a1' : va_up si 19 (upd (si 19) (16 * j + (T j ++ tnL S F l j i).length) (nI x)) 18 j = nI (T j ++ tnL S F l j i).length := a1
        refine eMO_tellAll_2 ?_
        refine eMO_tellAll_3 rfl ?_
        refine eMO_tellAll_4 mh_o rfl ?_
        rw [kr.1]
        refine eMO_tellAll_7 (fun c => absurd c (nI_ge (by omega) (by omega))) (fun c7 => ?_)
        refine eMO_tellAll_10 rfl ?_
        refine eMO_tellAll_11 mh_o rfl ?_
        refine eMO_tellAll_14 ?_
        refine eMO_tellAll_15 mh_a26 (xn_in (by omega) (by decide)) ?_
        rw [nI_clamp (by omega)]
        rw [ek]
        refine eMO_tellAll_16 (fun c => absurd c (by decide)) (fun c16 => ?_)
        refine eMO_tellAll_19 rfl ?_
        refine eMO_tellAll_20 ?_
        refine eMO_tellAll_21 rfl ?_
        refine eMO_tellAll_22 mh_o rfl ?_
        refine eMO_tellAll_25 ?_
        refine eMO_tellAll_26 mh_a25 (xn_in (by omega) (by decide)) ?_
        rw [nI_clamp (by omega)]
        rw [kr.2 i x hx]
        refine eMO_tellAll_27 mh_o (Nat.le_of_ble_eq_true rfl) (sMO_isTold k hj (by rw [es]; exact hxs)) ?_
        rintro _ _ ⟨rfl, rfl⟩
        refine ⟨_, rfl, ?_⟩
        rw [hdec]
        refine eMO_tellAll_30 (fun c => absurd rfl c) (fun c30 => ?_)
        refine eMO_tellAll_33 rfl ?_
        refine eMO_tellAll_34 mh_o rfl ?_
        refine eMO_tellAll_37 ?_
        refine eMO_tellAll_39 ?_
        refine eMO_tellAll_40 ?_
        rw [mx16]
        refine eMO_tellAll_41 rfl ?_
        refine eMO_tellAll_42 mh_o rfl ?_
        refine eMO_tellAll_45 ?_
        refine eMO_tellAll_46 mh_a18 (xn_in hj (by decide)) ?_
        rw [nI_clamp (by omega)]
        rw [a1]
        refine eMO_tellAll_47 ?_
        rw [nI_add]
        refine eMO_tellAll_48 rfl ?_
        refine eMO_tellAll_49 mh_o rfl ?_
        refine eMO_tellAll_52 ?_
        refine eMO_tellAll_53 mh_a25 (xn_in (by omega) (by decide)) ?_
        rw [nI_clamp (by omega)]
        rw [kr.2 i x hx]
        refine eMO_tellAll_54 mh_a19 (xn_in (by omega) (by decide)) ?_
        rw [mh_p19, nI_clamp (by omega)]
        refine eMO_tellAll_55 rfl ?_
        refine eMO_tellAll_56 mh_o rfl ?_
        refine eMO_tellAll_59 ?_
        refine eMO_tellAll_60 rfl rfl ?_
        refine eMO_tellAll_61 mh_a18 (xn_in hj (by decide)) ?_
        rw [nI_clamp (by omega)]
        rw [a1']
        refine eMO_tellAll_62 ?_
        refine eMO_tellAll_63 ?_
        rw [nI_1]
        refine eMO_tellAll_64 mh_a18 (xn_in hj (by decide)) ?_
        rw [mh_p18, nI_clamp (by omega)]
        skip
        have hm1 : mLs (si 18) (si 19) (ub T j (T j ++ tnL S F l j i)) := k.told.1
        have hm2 := hm1.add (x := x) hj (by rw [ub_same]; exact hlen)
        rw [ub_same, ub_ub] at hm2
        have k1 := k.tdT (t := b_T S j ++ (tnL S F l j i).map (b_wa S) ++ [b_wa S x]) (t' := T j ++ tnL S F l j i ++ [x]) (a := upd (si 18) j (nI ((T j ++ tnL S F l j i).length + 1))) (b := upd (si 19) (16 * j + (T j ++ tnL S F l j i).length) (nI x)) hj (by rw [ub_ub]; exact hm2) ⟨by rw [ew, List.map_append, hk2.1]; rfl, fun y hy => by
          rw [es]
          rcases List.mem_append.mp hy with q | q
          · exact hk2.2.1 y q
          · rw [List.mem_singleton.mp q]; exact hxs, hndp⟩
        rw [ub_ub] at k1
        exact tail _ k1 ⟨kr.1, kr.2⟩ kp
/-- the shift of a list's rest -/
theorem lMO_shift {j n m : Nat} {v2 v3 : Option Value} {ze : Nat → Int32} {si0 : Nat → Nat → Int32} (hj : j < 10) (hm : m ≤ 15) (h18 : si0 18 j = nI m)
  (kk : ∀ si' v4, (∀ K, K ≠ 19 → si' K = si0 K) → (∀ q, (q < 16 * j + n ∨ 16 * j + m ≤ q) → si' 19 q = si0 19 q) → (∀ q, 16 * j + n ≤ q → q < 16 * j + m → si' 19 q = si0 19 (q + 1)) → x_K P (d + 3) mMO_tellAll 177 [some (.ref bm), some (.int (nI j)), v2, v3, v4] [] (mh h0 bm ze si') Φ) :
  ∀ (r i : Nat) (si : Nat → Nat → Int32), i + r = m → n ≤ i → (∀ K, K ≠ 19 → si K = si0 K) → (∀ q, (q < 16 * j + n ∨ 16 * j + i ≤ q) → si 19 q = si0 19 q) → (∀ q, 16 * j + n ≤ q → q < 16 * j + i → si 19 q = si0 19 (q + 1)) → x_K P (d + 3) mMO_tellAll 139 [some (.ref bm), some (.int (nI j)), v2, v3, some (.int (nI (16 * j + i)))] [] (mh h0 bm ze si) Φ := by
  intro r
  induction r with
  | zero =>
    intro i si hi hn f e1 e2
    have e18 : si 18 j = nI m := by rw [f 18 (by decide)]; exact h18
    have ei : i = m := by omega
    subst ei
    refine eMO_tellAll_139 ?_
    refine eMO_tellAll_141 ?_
    refine eMO_tellAll_143 ?_
    refine eMO_tellAll_144 ?_
    rw [mx16]
    refine eMO_tellAll_145 rfl ?_
    refine eMO_tellAll_146 mh_o rfl ?_
    refine eMO_tellAll_149 ?_
    refine eMO_tellAll_150 mh_a18 (xn_in hj (by decide)) ?_
    rw [nI_clamp (by omega)]
    rw [e18]
    refine eMO_tellAll_151 ?_
    rw [nI_add]
    refine eMO_tellAll_152 (fun c152 => ?_) (fun c => absurd (nI_le (by omega) (by omega)) c)
    exact kk si _ f e1 e2
  | succ r ih =>
    intro i si hi hn f e1 e2
    have e18 : si 18 j = nI m := by rw [f 18 (by decide)]; exact h18
    refine eMO_tellAll_139 ?_
    refine eMO_tellAll_141 ?_
    refine eMO_tellAll_143 ?_
    refine eMO_tellAll_144 ?_
    rw [mx16]
    refine eMO_tellAll_145 rfl ?_
    refine eMO_tellAll_146 mh_o rfl ?_
    refine eMO_tellAll_149 ?_
    refine eMO_tellAll_150 mh_a18 (xn_in hj (by decide)) ?_
    rw [nI_clamp (by omega)]
    rw [e18]
    refine eMO_tellAll_151 ?_
    rw [nI_add]
    refine eMO_tellAll_152 (fun c => absurd c (nI_ge (by omega) (by omega))) (fun c152 => ?_)
    refine eMO_tellAll_155 rfl ?_
    refine eMO_tellAll_156 mh_o rfl ?_
    refine eMO_tellAll_159 ?_
    refine eMO_tellAll_161 rfl ?_
    refine eMO_tellAll_162 mh_o rfl ?_
    refine eMO_tellAll_165 ?_
    refine eMO_tellAll_167 ?_
    refine eMO_tellAll_168 ?_
    rw [nI_1]
    refine eMO_tellAll_169 mh_a19 (xn_in (by omega) (by decide)) ?_
    rw [nI_clamp (by omega)]
    refine eMO_tellAll_170 mh_a19 (xn_in (by omega) (by decide)) ?_
    rw [mh_p19, nI_clamp (by omega)]
    refine eMO_tellAll_171 ?_
    rw [nI_1]
    skip
    refine eMO_tellAll_174 ?_
    refine ih (i + 1) _ (by omega) (by omega) (fun K hK => (if_neg hK).trans (f K hK)) (fun q hq => ?_) (fun q hq1 hq2 => ?_)
    · show upd (si 19) _ _ q = _
      rw [pk_un (by omega)]
      exact e1 q (by omega)
    · show upd (si 19) _ _ q = _
      by_cases c : q = 16 * j + i
      · rw [c, pk_us]
        exact e1 _ (Or.inr (by omega))
      · rw [pk_un c]
        exact e2 q hq1 (by omega)
/-- the told filters that are not needed: from the place n of the list on -/
theorem lMO_tellB {l : List Nat} {j : Nat} (hj : j < 10) (hl : l.length ≤ 112) (hls : ∀ y ∈ l, y < b_s S) (hTj : (T j).map (b_wa S) = b_T S j ∧ (∀ x ∈ T j, x < b_s S) ∧ (b_T S j).Nodup) (h16 : (T j).length ≤ 16)
  {nd : List Nat} (hnd : (kpL F l l.length).map (b_wa S) = nd) (hq : fr j + (M j).length + ((T j).filter (fun x => decide (b_wa S x ∉ nd))).length ≤ 1000)
  (kk : ∀ ze' si', isM p (dpS S j ((b_T S j).filter (fun x => decide (x ∈ nd))) ((b_T S j).filter (fun x => decide (x ∉ nd)))) F (ub T j ((T j).filter (fun x => decide (b_wa S x ∈ nd)))) H fr (ub M j (M j ++ ((T j).filter (fun x => decide (b_wa S x ∉ nd))).map (fun x => 4 * x + 1))) ze' si' → Φ (.returned none) (mh h0 bm ze' si')) :
  ∀ (n : Nat) (A B D : List Nat) (ze : Nat → Int32) (si : Nat → Nat → Int32) (v3 v4 : Option Value), B.length = n → A ++ (B.filter (fun x => decide (b_wa S x ∈ nd))) = (T j).filter (fun x => decide (b_wa S x ∈ nd)) → D ++ (B.filter (fun x => decide (b_wa S x ∉ nd))) = (T j).filter (fun x => decide (b_wa S x ∉ nd)) → (A ++ B).length ≤ 16 → isM p (dpS S j ((A ++ B).map (b_wa S)) (D.map (b_wa S))) F (ub T j (A ++ B)) H fr (ub M j (M j ++ D.map (fun x => 4 * x + 1))) ze si → mRw ze si l → mKp si F l → x_K P (d + 3) mMO_tellAll 85 [some (.ref bm), some (.int (nI j)), some (.int (nI A.length)), v3, v4] [] (mh h0 bm ze si) Φ := by
  intro n
  induction n with
  | zero =>
    intro A B D ze si v3 v4 hB hA hD hAB k kr kp
    have eB : B = [] := List.length_eq_zero_iff.mp hB
    subst eB
    rw [List.filter_nil, List.append_nil] at hA hD
    rw [List.append_nil] at k
    have a1 := (k.told.1 j hj).1
    rw [ub_same] at a1
    have e1 : A.map (b_wa S) = (b_T S j).filter (fun x => decide (x ∈ nd)) := by
      rw [hA, ← hTj.1, List.filter_map]
      rfl
    have e2 : D.map (b_wa S) = (b_T S j).filter (fun x => decide (x ∉ nd)) := by
      rw [hD, ← hTj.1, List.filter_map]
      rfl
    rw [e1, e2, hA, hD] at k
    refine eMO_tellAll_85 ?_
    refine eMO_tellAll_86 rfl ?_
    refine eMO_tellAll_87 mh_o rfl ?_
    refine eMO_tellAll_90 ?_
    refine eMO_tellAll_91 mh_a18 (xn_in hj (by decide)) ?_
    rw [nI_clamp (by omega)]
    rw [a1]
    refine eMO_tellAll_92 (fun c92 => ?_) (fun c => absurd (nI_le (by omega) (by simp at hAB; omega)) c)
    exact eMO_tellAll_187 (kk ze si k)
  | succ n ih =>
    intro A B D ze si v3 v4 hB hA hD hAB k kr kp
    cases B with
    | nil => cases hB
    | cons x B' =>
      have hlen : A.length + (B'.length + 1) ≤ 16 := by rw [List.length_append, List.length_cons] at hAB; exact hAB
      have es : b_s (dpS S j ((A ++ x :: B').map (b_wa S)) (D.map (b_wa S))) = b_s S := by unfold dpS; rw [bg_s_cn, bg_s_Q, bg_s_T]
      have ew : b_wa (dpS S j ((A ++ x :: B').map (b_wa S)) (D.map (b_wa S))) = b_wa S := by unfold dpS; rw [bg_wa_cn, bg_wa_Q, bg_wa_T]
      have hk1 := k.told.1 j hj
      have hk2 := k.told.2 j hj
      rw [ub_same] at hk1 hk2
      rw [ew, es, dpS_T, ub_same] at hk2
      obtain ⟨a1, a2, a3⟩ := hk1
      have hxat : (A ++ x :: B')[A.length]? = some x := by
        rw [List.getElem?_append_right (Nat.le_refl _), Nat.sub_self]
        rfl
      have e19 := a3 A.length x hxat
      have hxs : x < b_s S := hk2.2.1 x (by simp)
      rw [List.length_append, List.length_cons] at a1
      have hNd := sMO_isNeeded (d := d) (P := P) (h0 := h0) (bm := bm) (x := x) k kr kp hl (by rw [es]; exact hls) (by rw [es]; exact hxs)
      rw [ew, hnd] at hNd
      by_cases c1 : b_wa S x ∈ nd
      · rw [decide_eq_true c1] at hNd
        refine eMO_tellAll_85 ?_
        refine eMO_tellAll_86 rfl ?_
        refine eMO_tellAll_87 mh_o rfl ?_
        refine eMO_tellAll_90 ?_
        refine eMO_tellAll_91 mh_a18 (xn_in hj (by decide)) ?_
        rw [nI_clamp (by omega)]
        rw [a1]
        refine eMO_tellAll_92 (fun c => absurd c (nI_ge (by omega) (by omega))) (fun c92 => ?_)
        refine eMO_tellAll_95 rfl ?_
        refine eMO_tellAll_96 mh_o rfl ?_
        refine eMO_tellAll_99 ?_
        refine eMO_tellAll_101 ?_
        refine eMO_tellAll_102 ?_
        rw [mx16]
        refine eMO_tellAll_103 ?_
        refine eMO_tellAll_104 ?_
        rw [nI_add]
        refine eMO_tellAll_105 mh_a19 (xn_in (by omega) (by decide)) ?_
        rw [nI_clamp (by omega)]
        rw [e19]
        refine eMO_tellAll_106 ?_
        refine eMO_tellAll_107 rfl ?_
        refine eMO_tellAll_108 ?_
        refine eMO_tellAll_109 mh_o (Nat.le_of_ble_eq_true rfl) (hNd) ?_
        rintro _ _ ⟨rfl, rfl⟩
        refine ⟨_, rfl, ?_⟩
        refine eMO_tellAll_112 (fun c => absurd c (by decide)) (fun c112 => ?_)
        refine eMO_tellAll_115 ?_
        rw [nI_1]
        refine eMO_tellAll_118 ?_
        skip
        refine eMO_tellAll_184 ?_
        have hr := ih (A ++ [x]) B' D ze si (some (.int (nI x))) v4 (by simpa using hB) (by
          rw [List.filter_cons_of_pos (p := fun x => decide (b_wa S x ∈ nd)) (decide_eq_true c1)] at hA
          rw [List.append_assoc]; exact hA) (by
          rw [List.filter_cons_of_neg (by simp [c1])] at hD
          exact hD) (by rw [List.append_assoc]; exact hAB) (by rw [List.append_assoc]; exact k) kr kp
        rw [List.length_append] at hr
        exact hr
      · rw [decide_eq_false c1] at hNd
        have hD' : D ++ x :: B'.filter (fun x => decide (b_wa S x ∉ nd)) = (T j).filter (fun x => decide (b_wa S x ∉ nd)) := by
          rw [List.filter_cons_of_pos (by simp [c1])] at hD
          exact hD
        have hA' : A ++ B'.filter (fun x => decide (b_wa S x ∈ nd)) = (T j).filter (fun x => decide (b_wa S x ∈ nd)) := by
          rw [List.filter_cons_of_neg (by simp [c1])] at hA
          exact hA
        have hDl : D.length + 1 ≤ ((T j).filter (fun x => decide (b_wa S x ∉ nd))).length := by
          rw [← hD', List.length_append, List.length_cons]
          omega
        have ndel : (A ++ x :: B').eraseIdx A.length = A ++ B' := by
          rw [List.eraseIdx_append_of_length_le (Nat.le_refl _), Nat.sub_self]
          rfl
        have hndp : ((A ++ B').map (b_wa S)).Nodup := by
          have h8 := hk2.2.2
          rw [List.map_append, List.map_cons] at h8
          rw [List.map_append]
          have h9 := List.nodup_append.mp h8
          have h10 := List.nodup_cons.mp h9.2.1
          exact List.nodup_append.mpr ⟨h9.1, h10.2, fun y hy z hz => h9.2.2 y hy z (List.mem_cons_of_mem _ hz)⟩
        have hl2 : ((ub M j (M j ++ D.map (fun x => 4 * x + 1))) j).length = (M j).length + D.length := by
          rw [ub_same, List.length_append, List.length_map]
        have eX : sdS (tlT (dpS S j ((A ++ x :: B').map (b_wa S)) (D.map (b_wa S))) j ((A ++ B').map (b_wa S))) j x 1 = dpS S j ((A ++ B').map (b_wa S)) ((D ++ [x]).map (b_wa S)) := by
          rw [show (D ++ [x]).map (b_wa S) = D.map (b_wa S) ++ [b_wa S x] by rw [List.map_append]; rfl]
          unfold sdS tlT
          rw [bg_Q_T, bg_wa_T, ew, bg_cn_T, mcv_k (by decide), if_neg (by decide), show cI 1 = 3 from rfl]
          exact dpS_snoc
        have tail : ∀ si1 v4, isM p (tlT (dpS S j ((A ++ x :: B').map (b_wa S)) (D.map (b_wa S))) j ((A ++ B').map (b_wa S))) F (ub T j (A ++ B')) H fr (ub M j (M j ++ D.map (fun x => 4 * x + 1))) ze si1 → mRw ze si1 l → mKp si1 F l → x_K P (d + 3) mMO_tellAll 177 [some (.ref bm), some (.int (nI j)), some (.int (nI A.length)), some (.int (nI x)), v4] [] (mh h0 bm ze si1) Φ := by
          intro si1 v4 k1 kr1 kp1
          refine eMO_tellAll_177 rfl ?_
          refine eMO_tellAll_178 ?_
          refine eMO_tellAll_179 ?_
          refine eMO_tellAll_180 ?_
          refine eMO_tellAll_181 mh_o (Nat.le_of_ble_eq_true rfl) (sMO_send (kd := 1) k1 hj (by decide) (by rw [hl2]; omega) (fun _ => by rw [tlT_sm.2.2.1, es]; exact hxs) (fun z => by cases z)) ?_
          rintro _ h9 ⟨rfl, ze', si', rfl, f', k'⟩
          refine ⟨_, rfl, ?_⟩
          skip
          refine eMO_tellAll_184 ?_
          rw [eX, ub_ub, ub_same, List.append_assoc (M j)] at k'
          refine ih A B' (D ++ [x]) ze' si' _ _ (by simpa using hB) hA' (by rw [List.append_assoc]; exact hD') (by rw [List.length_append]; omega) ?_ ⟨by rw [f'.1]; exact kr1.1, by rw [f'.2.1]; exact kr1.2⟩ (by unfold mKp; rw [f'.2.2]; exact kp1)
          rw [show (D ++ [x]).map (fun x => 4 * x + 1) = D.map (fun x => 4 * x + 1) ++ [4 * x + 1] by rw [List.map_append]; rfl]
          exact k'
        have a1m : nI (A.length + (B'.length + 1)) - 1 = nI (A.length + B'.length) := nI_pred _
        refine eMO_tellAll_85 ?_
        refine eMO_tellAll_86 rfl ?_
        refine eMO_tellAll_87 mh_o rfl ?_
        refine eMO_tellAll_90 ?_
        refine eMO_tellAll_91 mh_a18 (xn_in hj (by decide)) ?_
        rw [nI_clamp (by omega)]
        rw [a1]
        refine eMO_tellAll_92 (fun c => absurd c (nI_ge (by omega) (by omega))) (fun c92 => ?_)
        refine eMO_tellAll_95 rfl ?_
        refine eMO_tellAll_96 mh_o rfl ?_
        refine eMO_tellAll_99 ?_
        refine eMO_tellAll_101 ?_
        refine eMO_tellAll_102 ?_
        rw [mx16]
        refine eMO_tellAll_103 ?_
        refine eMO_tellAll_104 ?_
        rw [nI_add]
        refine eMO_tellAll_105 mh_a19 (xn_in (by omega) (by decide)) ?_
        rw [nI_clamp (by omega)]
        rw [e19]
        refine eMO_tellAll_106 ?_
        refine eMO_tellAll_107 rfl ?_
        refine eMO_tellAll_108 ?_
        refine eMO_tellAll_109 mh_o (Nat.le_of_ble_eq_true rfl) (hNd) ?_
        rintro _ _ ⟨rfl, rfl⟩
        refine ⟨_, rfl, ?_⟩
        refine eMO_tellAll_112 (fun c112 => ?_) (fun c => absurd rfl c)
        refine eMO_tellAll_121 rfl ?_
        refine eMO_tellAll_122 mh_o rfl ?_
        refine eMO_tellAll_125 ?_
        refine eMO_tellAll_126 rfl rfl ?_
        refine eMO_tellAll_127 mh_a18 (xn_in hj (by decide)) ?_
        rw [nI_clamp (by omega)]
        rw [a1]
        refine eMO_tellAll_128 ?_
        refine eMO_tellAll_129 ?_
        rw [a1m]
        refine eMO_tellAll_130 mh_a18 (xn_in hj (by decide)) ?_
        rw [mh_p18, nI_clamp (by omega)]
        refine eMO_tellAll_131 ?_
        refine eMO_tellAll_133 ?_
        refine eMO_tellAll_134 ?_
        rw [mx16]
        refine eMO_tellAll_135 ?_
        refine eMO_tellAll_136 ?_
        rw [nI_add]
        refine eMO_tellAll_137 ?_
        skip
        refine lMO_shift (n := A.length) (m := A.length + B'.length) hj (by omega) pk_us (fun si1 v4' f1 e1 e2 => ?_) B'.length A.length _ rfl (Nat.le_refl _) (fun _ _ => rfl) (fun _ _ => rfl) (fun q h1 h2 => absurd h2 (by omega))
        have hm1 : mLs (si 18) (si 19) (ub T j (A ++ x :: B')) := k.told.1
        have hm2 := hm1.del (c := si1 19) hj (by rw [ub_same]; exact hxat) (fun q hq => e1 q (by rw [ub_same, List.length_append, List.length_cons] at hq; omega)) (fun q h1 h2 => e2 q h1 (by rw [ub_same, List.length_append, List.length_cons] at h2; omega))
        rw [ub_same, ub_ub, ndel, List.length_append, List.length_cons, show A.length + (B'.length + 1) - 1 = A.length + B'.length by omega] at hm2
        have k1 := k.tdT (t := (A ++ B').map (b_wa S)) (t' := A ++ B') (a := upd (si 18) j (nI (A.length + B'.length))) (b := si1 19) hj (by rw [ub_ub]; exact hm2) ⟨by rw [ew], fun y hy => by
          rw [es]
          refine hk2.2.1 y ?_
          rcases List.mem_append.mp hy with q | q
          · exact List.mem_append.mpr (Or.inl q)
          · exact List.mem_append.mpr (Or.inr (List.mem_cons_of_mem _ q)), hndp⟩
        rw [ub_ub] at k1
        have esi : si1 = va_up (va_up si 19 (si1 19)) 18 (upd (si 18) j (nI (A.length + B'.length))) := by
          funext K
          by_cases c18 : K = 18
          · subst c18
            rw [f1 18 (by decide)]
            rfl
          · by_cases c19 : K = 19
            · subst c19
              rfl
            · rw [f1 K c19]
              unfold va_up
              rw [if_neg c18, if_neg c18, if_neg c19]
        rw [esi]
        exact tail _ _ k1 ⟨kr.1, kr.2⟩ kp
theorem sMO_tellAll {l : List Nat} {j : Nat} {ze : Nat → Int32} {si : Nat → Nat → Int32} (k : isM p S F T H fr M ze si) (kr : mRw ze si l) (kp : mKp si F l) (hl : l.length ≤ 112) (hls : ∀ y ∈ l, y < b_s S) (hj : j < 10) (hnd : (kpL F l l.length).map (b_wa S) = b_nd S) (hq : fr j + (b_Q (slC (slB S j) j) j).length ≤ 1000) :
  x_K P (d + 3) mMO_tellAll 0 [some (.ref bm), some (.int (nI j)), none, none, none] [] (mh h0 bm ze si) (fun oc h' => oc = .returned none ∧ ∃ ze' si' T' M', h' = mh h0 bm ze' si' ∧ isM p (slC (slB S j) j) F T' H fr M' ze' si') := by
  have hTj := k.told.2 j hj
  have hMj := (k.line.2 j hj).1
  have hs := k.s16
  have e1 : (tnL S F l j l.length).map (b_wa S) = (b_nd S).filter (fun x => decide (x ∉ b_T S j)) := by
    unfold tnL
    rw [← hnd, List.filter_map]
    rfl
  have eS1 : tlS S j ((tnL S F l j l.length).map (b_wa S)) = slB S j := by rw [e1]; rfl
  have hlM : (M j).length = (b_Q S j).length := by rw [← hMj, List.length_map]
  have hlt : (tnL S F l j l.length).length = ((b_nd S).filter (fun x => decide (x ∉ b_T S j))).length := by rw [← e1, List.length_map]
  have hqe : (b_Q (slC (slB S j) j) j).length = (b_Q S j).length + ((b_nd S).filter (fun x => decide (x ∉ b_T S j))).length + ((b_T (slB S j) j).filter (fun x => decide (x ∉ b_nd (slB S j)))).length := by
    rw [slC_Q, ub_same, List.length_append, List.length_map, slB_Q, ub_same, List.length_append, List.length_map]
  rw [hqe] at hq
  refine eMO_tellAll_0 ?_
  refine eMO_tellAll_1 ?_
  skip
  refine lMO_tellA (fr := fr) (T := T) (M := M) hj hl hls k.rl hs hTj (by omega) (fun ze1 si1 k1 kr1 kp1 => ?_) l.length 0 ze si (Nat.zero_add _) (by
    have e0 : tnL S F l j 0 = [] := rfl
    rw [e0, List.map_nil, List.map_nil, tlS_nil, List.append_nil, List.append_nil, ub_id rfl, ub_id rfl]
    exact k) kr kp
  rw [eS1] at k1
  have es1 : b_s (slB S j) = b_s S := by unfold slB tlS; rw [bg_s_cn, bg_s_Q, bg_s_T]
  have ew1 : b_wa (slB S j) = b_wa S := by unfold slB tlS; rw [bg_wa_cn, bg_wa_Q, bg_wa_T]
  have en1 : b_nd (slB S j) = b_nd S := tlS_nd
  have hT1 := k1.told.2 j hj
  have hT16 := (k1.told.1 j hj).2.1
  have hM1 := (k1.line.2 j hj).1
  refine eMO_tellAll_83 ?_
  refine eMO_tellAll_84 ?_
  skip
  refine lMO_tellB (fr := fr) (S := slB S j) (T := ub T j (T j ++ tnL S F l j l.length)) (M := ub M j (M j ++ (tnL S F l j l.length).map (fun x => 4 * x + 0))) (nd := b_nd (slB S j)) hj hl (by rw [es1]; exact hls) hT1 hT16 (by rw [ew1, en1]; exact hnd) ?_ (fun ze2 si2 k2 => ⟨rfl, ze2, si2, _, _, rfl, k2⟩) _ [] _ [] ze1 si1 _ _ rfl (List.nil_append _) (List.nil_append _) (by rw [List.nil_append]; exact hT16) (by
    rw [List.nil_append, List.map_nil, List.map_nil, List.append_nil, hT1.1, dpS_nil, ub_id rfl, ub_id rfl]
    exact k1) kr1 kp1
  have h9 : ((ub T j (T j ++ tnL S F l j l.length)) j).filter (fun x => decide (b_wa (slB S j) x ∉ b_nd (slB S j))) = ((ub T j (T j ++ tnL S F l j l.length)) j).filter ((fun x => decide (x ∉ b_nd (slB S j))) ∘ b_wa (slB S j)) := rfl
  have h10 := congrArg List.length (List.filter_map (f := b_wa (slB S j)) (p := fun x => decide (x ∉ b_nd (slB S j))) (l := (ub T j (T j ++ tnL S F l j l.length)) j))
  rw [hT1.1, List.length_map] at h10
  rw [h9, ← h10]
  rw [ub_same, List.length_append, List.length_map]
  omega
theorem slA_sm {j : Nat} : sm S (slA p S j) ∧ b_T (slA p S j) = b_T S ∧ b_H (slA p S j) = b_H S ∧ b_Q (slA p S j) = b_Q S ∧ b_cn (slA p S j) = b_cn S := by
  unfold sm slA
  rw [bg_n_nd, bg_n_of, bg_g_nd, bg_g_of, bg_s_nd, bg_s_of, bg_K_nd, bg_K_of, bg_su_nd, bg_su_of, bg_wa_nd, bg_wa_of, bg_en_nd, bg_en_of, bg_N_nd, bg_N_of, bg_T_nd, bg_T_of, bg_H_nd, bg_H_of, bg_Q_nd, bg_Q_of, bg_cn_nd, bg_cn_of]
  exact ⟨⟨rfl, rfl, rfl, rfl, rfl, rfl, rfl, rfl⟩, rfl, rfl, rfl, rfl⟩
theorem isM.slX {j : Nat} {ze : Nat → Int32} {si : Nat → Nat → Int32} (k : isM p S F T H fr M ze si) : isM p (slA p S j) F T H fr M ze si := by
  obtain ⟨e, e1, e2, e3, e4⟩ := slA_sm (p := p) (S := S) (j := j)
  refine k.ch e ⟨rfl, rfl, rfl⟩ (fun _ _ => rfl) k.1.2.2.2 ?_ ?_ ?_ ?_ ?_
  · rw [e1]; exact k.told
  · rw [e2]; exact k.heard
  · rw [e3]; exact k.line
  · rw [e4]; exact k.cnt
  · rw [e3]; exact k.inb
theorem lMO_settle {u : Nat} {Sf : bS} (hu : u < 6) (hq : ∀ j, j < 10 → fr j + (b_Q Sf j).length ≤ 1000)
  (kk : ∀ ze' si' T' M', isM p Sf F T' H fr M' ze' si' → Φ (.returned none) (mh h0 bm ze' si')) :
  ∀ (n m : Nat) (S : bS) (T M : Nat → List Nat) (ze : Nat → Int32) (si : Nat → Nat → Int32) (v3 : Option Value), m + n = 6 → lp (stF p u) n m S = Sf → isM p S F T H fr M ze si → x_K P (d + 4) mMO_settle 2 [some (.ref bm), some (.int (nI u)), some (.int (nI m)), v3] [] (mh h0 bm ze si) Φ := by
  intro n
  induction n with
  | zero =>
    intro m S T M ze si v3 hm hS k
    have em : m = 6 := by omega
    subst em
    have eS : S = Sf := hS
    subst eS
    refine eMO_settle_2 ?_
    refine eMO_settle_3 ?_
    refine eMO_settle_5 (fun c5 => ?_) (fun c => absurd (by decide) c)
    exact eMO_settle_41 (kk ze si T M k)
  | succ n ih =>
    intro m S T M ze si v3 hm hS k
    have e2 := k.2.1 (6 * u + m) (by omega)
    have hS' : lp (stF p u) n (m + 1) (stF p u m S) = Sf := hS
    cases hk : lkF p (6 * u + m) with
    | none =>
      rw [hk] at e2
      have eo : stF p u m S = S := by unfold stF; rw [hk]
      rw [eo] at hS'
      refine eMO_settle_2 ?_
      refine eMO_settle_3 ?_
      refine eMO_settle_5 (fun c => absurd c (nI_ge (b := 6) (by omega) (by decide))) (fun c5 => ?_)
      refine eMO_settle_8 rfl ?_
      refine eMO_settle_9 mh_o rfl ?_
      refine eMO_settle_12 ?_
      refine eMO_settle_14 ?_
      refine eMO_settle_15 ?_
      rw [mx6]
      refine eMO_settle_16 ?_
      refine eMO_settle_17 ?_
      rw [nI_add]
      refine eMO_settle_18 mh_a2 (xn_in (by omega) (by decide)) ?_
      rw [nI_clamp (by omega)]
      rw [e2]
      refine eMO_settle_19 ?_
      refine eMO_settle_20 ?_
      refine eMO_settle_21 (fun c21 => ?_) (fun c => absurd (by decide) c)
      refine eMO_settle_35 ?_
      rw [nI_1]
      skip
      refine eMO_settle_38 ?_
      exact ih (m + 1) S T M ze si _ (by omega) hS' k
    | some j =>
      rw [hk] at e2
      have hj : j < 10 := lkF_lt hk (by omega)
      have hkk := lkF_k hk
      have eo : stF p u m S = slC (slB (slA p S j) j) j := by unfold stF; rw [hk]; rfl
      rw [eo] at hS'
      have hlen := lp_len (f := stF p u) (fun k S i => stF_len) n (m + 1) (slC (slB (slA p S j) j) j) j
      rw [hS'] at hlen
      have hqj := hq j hj
      refine eMO_settle_2 ?_
      refine eMO_settle_3 ?_
      refine eMO_settle_5 (fun c => absurd c (nI_ge (b := 6) (by omega) (by decide))) (fun c5 => ?_)
      refine eMO_settle_8 rfl ?_
      refine eMO_settle_9 mh_o rfl ?_
      refine eMO_settle_12 ?_
      refine eMO_settle_14 ?_
      refine eMO_settle_15 ?_
      rw [mx6]
      refine eMO_settle_16 ?_
      refine eMO_settle_17 ?_
      rw [nI_add]
      refine eMO_settle_18 mh_a2 (xn_in (by omega) (by decide)) ?_
      rw [nI_clamp (by omega)]
      rw [e2]
      refine eMO_settle_19 ?_
      refine eMO_settle_20 ?_
      refine eMO_settle_21 (fun c => absurd c (nI_pos (by omega))) (fun c21 => ?_)
      refine eMO_settle_24 rfl ?_
      refine eMO_settle_25 ?_
      refine eMO_settle_26 ?_
      refine eMO_settle_27 mh_o (Nat.le_of_ble_eq_true rfl) ((sMO_need k hu (by omega)).up (d := d + 1) (by omega)) ?_
      rintro _ h9 ⟨rfl, ze1, si1, l, rfl, f1, r1, l1, x1, e1, p1⟩
      refine ⟨_, rfl, ?_⟩
      skip
      have k1 := (k.sc f1).slX (j := j)
      obtain ⟨sA, sA1, sA2, sA3, sA4⟩ := slA_sm (p := p) (S := S) (j := j)
      have hnd : (kpL F l l.length).map (b_wa (slA p S j)) = b_nd (slA p S j) := by
        rw [sA.2.2.2.2.2.1, need_eq k.rl x1, e1]
        unfold slA
        rw [bg_nd, hkk.1, hkk.2, show (6 * u + m) / 6 = u by omega, show (6 * u + m) % 6 = m by omega]
      refine eMO_settle_30 rfl ?_
      refine eMO_settle_31 ?_
      refine eMO_settle_32 mh_o (Nat.le_of_ble_eq_true rfl) (sMO_tellAll k1 r1 p1 l1 (by rw [sA.2.2.1]; exact x1) hj hnd (by omega)) ?_
      rintro _ h9 ⟨rfl, ze2, si2, T2, M2, rfl, k2⟩
      refine ⟨_, rfl, ?_⟩
      refine eMO_settle_35 ?_
      rw [nI_1]
      skip
      refine eMO_settle_38 ?_
      exact ih (m + 1) _ T2 M2 ze2 si2 _ (by omega) hS' k2
theorem sMO_settle {u : Nat} {ze : Nat → Int32} {si : Nat → Nat → Int32} (k : isM p S F T H fr M ze si) (hu : u < 6) (hq : ∀ j, j < 10 → fr j + (b_Q (settleF p u S) j).length ≤ 1000) :
  x_K P (d + 4) mMO_settle 0 [some (.ref bm), some (.int (nI u)), none, none] [] (mh h0 bm ze si) (fun oc h' => oc = .returned none ∧ ∃ ze' si' T' M', h' = mh h0 bm ze' si' ∧ isM p (settleF p u S) F T' H fr M' ze' si') := by
  refine eMO_settle_0 ?_
  refine eMO_settle_1 ?_
  skip
  exact lMO_settle hu hq (fun ze' si' T' M' k' => ⟨rfl, ze', si', T', M', rfl, k'⟩) 6 0 S T M ze si _ rfl rfl k
end

