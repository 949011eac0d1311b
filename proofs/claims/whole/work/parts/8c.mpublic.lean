/-! The reference: the public methods that change no subscription -/
theorem rng_of {x : Int32} {n : Nat} {m : Int32} (hm : m.toInt = (n : Int)) (hn : n < 2 ^ 31) (c1 : 0 ≤ x) (c2 : x < m) : ∃ i : Nat, i < n ∧ x = nI i := by
  have h1 := Int32.le_iff_toInt_le.mp c1
  have h2 := Int32.lt_iff_toInt_lt.mp c2
  rw [show (0 : Int32).toInt = 0 by decide] at h1
  obtain ⟨i, e1, e2, e3⟩ := i32_nat (v := x) h1
  exact ⟨i, by omega, e1⟩
theorem lkI_nI {p : Nat → Nat} {i t : Nat} (h1 : i < 6) (h2 : t < 6) : lkI p (nI i) (nI t) = lkF p (6 * i + t) := by
  unfold lkI
  rw [if_pos ⟨nI_pos' (by omega), nI_lt (b := 6) h1 (by decide), nI_pos' (by omega), nI_lt (b := 6) h2 (by decide)⟩, nI_clamp (by omega), nI_clamp (by omega)]
def sm2 (S S' : bS) : Prop := (b_s S' = b_s S ∧ b_K S' = b_K S ∧ b_su S' = b_su S ∧ b_wa S' = b_wa S ∧ b_en S' = b_en S ∧ b_N S' = b_N S) ∧ b_T S' = b_T S ∧ b_H S' = b_H S ∧ b_Q S' = b_Q S ∧ b_cn S' = b_cn S
section
variable {p : Nat → Nat} {S S' : bS} {F : Nat → sp3} {T H M : Nat → List Nat} {fr fr' : Nat → Nat} {ze ze' : Nat → Int32} {si si' : Nat → Nat → Int32}
theorem mQs.frc {W m : Nat} {a b c : Nat → Int32} {f f' : Nat → Nat} {L : Nat → List Nat} (k : mQs W m a b c f L) (h : ∀ j, j < m → f' j = f j) : mQs W m a b c f' L := by
  intro j hj
  rw [h j hj]
  exact k j hj
theorem isM.txt (k : isM p S F T H fr M ze si) (e : sm2 S S') (h1 : mTx (si' 1) (b_g S') ∧ ze' 1 = nI (b_n S') ∧ b_n S' ≤ 30 ∧ ze' 0 = nI (fr' 18)) (hz : ∀ i, 1 < i → ze' i = ze i) (hs : ∀ K, 1 < K → si' K = si K) (hf : ∀ j, j < 18 → fr' j = fr j) : isM p S' F T H fr' M ze' si' := by
  obtain ⟨a1, a2, a3, a4, a5, a6, a7, a8, a9, a10, a11, a12⟩ := k
  obtain ⟨⟨e1, e2, e3, e4, e5, e6⟩, e7, e8, e9, e10⟩ := e
  refine ⟨h1, ?_, ?_, ?_, ?_, ?_, ?_, ?_, ?_, ?_, ?_, ?_⟩
  · rw [hs 2 (by decide)]; exact a2
  · rw [hz 3 (by decide), hs 16 (by decide), hs 17 (by decide), e1, e3, e5]; exact a3
  · rw [e1]; exact fun k hk => (a4 k hk).kA (fun K h3 _ => hs K (by omega))
  · rw [e1, hs 15 (by decide)]; exact a5
  · rw [hz 5 (by decide), hs 27 (by decide), hs 28 (by decide), hs 29 (by decide), e6]; exact a6
  · unfold rlF at a7 ⊢; rw [e1, e2, e4]; exact a7
  · unfold rlL at a8 ⊢; rw [hs 18 (by decide), hs 19 (by decide), e1, e4, e7]; exact a8
  · unfold rlL at a9 ⊢; rw [hs 20 (by decide), hs 21 (by decide), e1, e4, e8]; exact a9
  · unfold rlM at a10 ⊢; rw [hs 22 (by decide), hs 23 (by decide), hs 24 (by decide), e1, e4, e6, e9]; exact ⟨a10.1.frc (fun j hj => hf j (by omega)), a10.2⟩
  · rw [hz 6 (by decide), hz 7 (by decide), hz 8 (by decide), hz 9 (by decide), e10]; exact a11
  · rw [hs 30 (by decide), hs 31 (by decide), hs 32 (by decide), e9]; exact a12.frc (fun j hj => hf (10 + j) (by omega))
theorem sm2.rf : sm2 S S := ⟨⟨rfl, rfl, rfl, rfl, rfl, rfl⟩, rfl, rfl, rfl, rfl⟩
theorem sm2_n {v : Nat} : sm2 S (bs_n S v) := ⟨⟨rfl, rfl, rfl, rfl, rfl, rfl⟩, rfl, rfl, rfl, rfl⟩
theorem sm2_g {v : Nat → Nat} : sm2 S (bs_g S v) := ⟨⟨rfl, rfl, rfl, rfl, rfl, rfl⟩, rfl, rfl, rfl, rfl⟩
theorem ub18 {v j : Nat} (h : j < 18) : ub fr 18 v j = fr j := ub_ne (by omega)
/-- the fault -/
theorem isM.flt (k : isM p S F T H fr M ze si) (v : Nat) {x : Int32} (hx : x = nI v) : isM p S F T H (ub fr 18 v) M (upd ze 0 x) si :=
  k.txt sm2.rf ⟨k.1.1, k.1.2.1, k.1.2.2.1, by rw [ub_same, ← hx]; exact pk_us⟩ (fun i hi => pk_un (by omega)) (fun _ _ => rfl) (fun j hj => ub18 hj)
theorem isM.n0 (k : isM p S F T H fr M ze si) : isM p (bs_n S 0) F T H fr M (upd ze 1 0) si :=
  k.txt sm2_n ⟨k.1.1, by rw [bg_n]; exact pk_us, by rw [bg_n]; decide, k.1.2.2.2⟩ (fun i hi => pk_un (by omega)) (fun _ _ => rfl) (fun _ _ => rfl)
end
section
variable {P : x_P} {d : Nat} {h0 : x_H} {bm : Nat} {p : Nat → Nat} {S : bS} {F : Nat → sp3} {T H M : Nat → List Nat} {fr : Nat → Nat} {ze : Nat → Int32} {si : Nat → Nat → Int32}
theorem sMO_write {c : Nat} (k : isM p S F T H fr M ze si) (hc : c < 65536) : x_K P d mMO_write 0 [some (.ref bm), some (.int (nI c))] [] (mh h0 bm ze si) (fun oc h' => oc = .returned (some (.int (b2i (wrF S c).2))) ∧ ∃ ze' si', h' = mh h0 bm ze' si' ∧ isM p (wrF S c).1 F T H (ub fr 18 0) M ze' si') := by
  have k1 := k.flt 0 (x := 0) rfl
  have e1 : upd ze 0 0 1 = nI (b_n S) := k1.1.2.1
  have hn30 := k.1.2.2.1
  have no : ¬ (32 ≤ c ∧ c ≤ 126 ∧ b_n S < 30) → x_K P d mMO_write 26 [some (.ref bm), some (.int (nI c))] [] (mh h0 bm (upd ze 0 0) si) (fun oc h' => oc = .returned (some (.int (b2i (wrF S c).2))) ∧ ∃ ze' si', h' = mh h0 bm ze' si' ∧ isM p (wrF S c).1 F T H (ub fr 18 0) M ze' si') := by
    intro hn
    rw [show wrF S c = (S, false) from if_neg hn]
    refine eMO_write_26 ?_
    exact eMO_write_27 rfl ⟨rfl, _, _, rfl, k1⟩
  by_cases c1 : c < 32
  · refine eMO_write_0 rfl ?_
    refine eMO_write_1 ?_
    refine eMO_write_2 mh_o (Nat.le_of_ble_eq_true rfl) ?_
    rw [mh_f0]
    refine eMO_write_5 ?_
    refine eMO_write_6 ?_
    refine eMO_write_8 (fun c8 => ?_) (fun z => absurd (nI_lt (b := 32) c1 (by decide)) z)
    exact no (by omega)
  · by_cases c2 : 126 < c
    · refine eMO_write_0 rfl ?_
      refine eMO_write_1 ?_
      refine eMO_write_2 mh_o (Nat.le_of_ble_eq_true rfl) ?_
      rw [mh_f0]
      refine eMO_write_5 ?_
      refine eMO_write_6 ?_
      refine eMO_write_8 (fun z => absurd z (nI_nlt (b := 32) (by omega) (by omega))) (fun c8 => ?_)
      refine eMO_write_11 ?_
      refine eMO_write_12 ?_
      refine eMO_write_14 (fun c14 => ?_) (fun z => absurd (nI_lt (a := 126) c2 (by omega)) z)
      exact no (by omega)
    · by_cases c3 : b_n S < 30
      · have hw : wrF S c = (bs_n (bs_g S (ub (b_g S) (b_n S) c)) (b_n S + 1), true) := if_pos ⟨by omega, by omega, c3⟩
        rw [hw]
        refine eMO_write_0 rfl ?_
        refine eMO_write_1 ?_
        refine eMO_write_2 mh_o (Nat.le_of_ble_eq_true rfl) ?_
        rw [mh_f0]
        refine eMO_write_5 ?_
        refine eMO_write_6 ?_
        refine eMO_write_8 (fun z => absurd z (nI_nlt (b := 32) (by omega) (by omega))) (fun c8 => ?_)
        refine eMO_write_11 ?_
        refine eMO_write_12 ?_
        refine eMO_write_14 (fun z => absurd z (nI_nlt (a := 126) (by omega) (by decide))) (fun c14 => ?_)
        refine eMO_write_17 rfl ?_
        refine eMO_write_18 mh_o rfl ?_
        rw [e1]
        refine eMO_write_21 ?_
        refine eMO_write_23 (fun c23 => ?_) (fun z => absurd (nI_lt (b := 30) c3 (by decide)) z)
        refine eMO_write_28 rfl ?_
        refine eMO_write_29 mh_o rfl ?_
        refine eMO_write_32 rfl ?_
        refine eMO_write_33 mh_o rfl ?_
        rw [e1]
        refine eMO_write_36 ?_
        refine eMO_write_37 mh_a1 (xn_in c3 (by decide)) ?_
        rw [mh_p1, nI_clamp (by omega)]
        refine eMO_write_38 rfl ?_
        refine eMO_write_39 rfl ?_
        refine eMO_write_40 mh_o rfl ?_
        rw [e1]
        refine eMO_write_43 ?_
        refine eMO_write_44 ?_
        rw [nI_1]
        refine eMO_write_45 mh_o (Nat.le_of_ble_eq_true rfl) ?_
        rw [mh_f1]
        refine eMO_write_48 ?_
        refine eMO_write_49 rfl ⟨rfl, _, _, rfl, ?_⟩
        refine k1.txt (S' := bs_n (bs_g S (ub (b_g S) (b_n S) c)) (b_n S + 1)) ⟨⟨rfl, rfl, rfl, rfl, rfl, rfl⟩, rfl, rfl, rfl, rfl⟩ ⟨fun i hi => ?_, ?_, ?_, ?_⟩ (fun i hi => pk_un (by omega)) (fun K hK => if_neg (by omega)) (fun _ _ => rfl)
        · rw [bg_g_n, bg_g]
          show upd (si 1) (b_n S) _ i = nI (ub (b_g S) (b_n S) c i) ∧ _
          by_cases e : i = b_n S
          · subst e
            rw [pk_us, ub_same]
            refine ⟨?_, hc⟩
            unfold vp_nar
            rw [(pk_charN hc).1]
          · rw [pk_un e, ub_ne e]
            exact k.1.1 i hi
        · rw [bg_n]
          exact pk_us
        · rw [bg_n]; omega
        · exact k1.1.2.2.2
      · refine eMO_write_0 rfl ?_
        refine eMO_write_1 ?_
        refine eMO_write_2 mh_o (Nat.le_of_ble_eq_true rfl) ?_
        rw [mh_f0]
        refine eMO_write_5 ?_
        refine eMO_write_6 ?_
        refine eMO_write_8 (fun z => absurd z (nI_nlt (b := 32) (by omega) (by omega))) (fun c8 => ?_)
        refine eMO_write_11 ?_
        refine eMO_write_12 ?_
        refine eMO_write_14 (fun z => absurd z (nI_nlt (a := 126) (by omega) (by decide))) (fun c14 => ?_)
        refine eMO_write_17 rfl ?_
        refine eMO_write_18 mh_o rfl ?_
        rw [e1]
        refine eMO_write_21 ?_
        refine eMO_write_23 (fun z => absurd z (nI_nlt (b := 30) (by omega) (by omega))) (fun c23 => ?_)
        exact no (by omega)
theorem sMO_count {x : Int32} (k : isM p S F T H fr M ze si) : x_K P d mMO_count 0 [some (.ref bm), some (.int x)] [] (mh h0 bm ze si) (fun oc h' => oc = .returned (some (.int (if 0 ≤ x ∧ x < 4 then nI (b_cn S x.toNatClampNeg) else -1))) ∧ ∃ ze' si', h' = mh h0 bm ze' si' ∧ isM p S F T H (ub fr 18 0) M ze' si') := by
  have k1 := k.flt 0 (x := 0) rfl
  obtain ⟨e6, e7, e8, e9⟩ := k1.cnt
  by_cases c0 : x = 0
  · subst c0
    refine eMO_count_0 rfl ?_
    refine eMO_count_1 ?_
    refine eMO_count_2 mh_o (Nat.le_of_ble_eq_true rfl) ?_
    rw [mh_f0]
    refine eMO_count_5 ?_
    refine eMO_count_6 (fun c => absurd rfl c) (fun c6 => ?_)
    refine eMO_count_9 rfl ?_
    refine eMO_count_10 mh_o rfl ?_
    rw [e6]
    refine eMO_count_13 ?_
    exact eMO_count_53 ⟨rfl, _, _, rfl, k1⟩
  · by_cases c1 : x = 1
    · subst c1
      refine eMO_count_0 rfl ?_
      refine eMO_count_1 ?_
      refine eMO_count_2 mh_o (Nat.le_of_ble_eq_true rfl) ?_
      rw [mh_f0]
      refine eMO_count_5 ?_
      refine eMO_count_6 (fun c6 => ?_) (fun c => absurd c (by decide))
      refine eMO_count_16 ?_
      refine eMO_count_17 ?_
      refine eMO_count_18 (fun c => absurd rfl c) (fun c18 => ?_)
      refine eMO_count_21 rfl ?_
      refine eMO_count_22 mh_o rfl ?_
      rw [e7]
      refine eMO_count_25 ?_
      exact eMO_count_53 ⟨rfl, _, _, rfl, k1⟩
    · by_cases c2 : x = 2
      · subst c2
        refine eMO_count_0 rfl ?_
        refine eMO_count_1 ?_
        refine eMO_count_2 mh_o (Nat.le_of_ble_eq_true rfl) ?_
        rw [mh_f0]
        refine eMO_count_5 ?_
        refine eMO_count_6 (fun c6 => ?_) (fun c => absurd c (by decide))
        refine eMO_count_16 ?_
        refine eMO_count_17 ?_
        refine eMO_count_18 (fun c18 => ?_) (fun c => absurd c (by decide))
        refine eMO_count_28 ?_
        refine eMO_count_29 ?_
        refine eMO_count_30 (fun c => absurd rfl c) (fun c30 => ?_)
        refine eMO_count_33 rfl ?_
        refine eMO_count_34 mh_o rfl ?_
        rw [e8]
        refine eMO_count_37 ?_
        exact eMO_count_53 ⟨rfl, _, _, rfl, k1⟩
      · by_cases c3 : x = 3
        · subst c3
          refine eMO_count_0 rfl ?_
          refine eMO_count_1 ?_
          refine eMO_count_2 mh_o (Nat.le_of_ble_eq_true rfl) ?_
          rw [mh_f0]
          refine eMO_count_5 ?_
          refine eMO_count_6 (fun c6 => ?_) (fun c => absurd c (by decide))
          refine eMO_count_16 ?_
          refine eMO_count_17 ?_
          refine eMO_count_18 (fun c18 => ?_) (fun c => absurd c (by decide))
          refine eMO_count_28 ?_
          refine eMO_count_29 ?_
          refine eMO_count_30 (fun c30 => ?_) (fun c => absurd c (by decide))
          refine eMO_count_40 ?_
          refine eMO_count_41 ?_
          refine eMO_count_42 (fun c => absurd rfl c) (fun c42 => ?_)
          refine eMO_count_45 rfl ?_
          refine eMO_count_46 mh_o rfl ?_
          rw [e9]
          refine eMO_count_49 ?_
          exact eMO_count_53 ⟨rfl, _, _, rfl, k1⟩
        · refine eMO_count_0 rfl ?_
          refine eMO_count_1 ?_
          refine eMO_count_2 mh_o (Nat.le_of_ble_eq_true rfl) ?_
          rw [mh_f0]
          refine eMO_count_5 ?_
          refine eMO_count_6 (fun c6 => ?_) (fun c => absurd c c0)
          refine eMO_count_16 ?_
          refine eMO_count_17 ?_
          refine eMO_count_18 (fun c18 => ?_) (fun c => absurd c c1)
          refine eMO_count_28 ?_
          refine eMO_count_29 ?_
          refine eMO_count_30 (fun c30 => ?_) (fun c => absurd c c2)
          refine eMO_count_40 ?_
          refine eMO_count_41 ?_
          refine eMO_count_42 (fun c42 => ?_) (fun c => absurd c c3)
          refine eMO_count_52 ?_
          refine eMO_count_53 ⟨?_, _, _, rfl, k1⟩
          rw [if_neg]
          rintro ⟨z1, z2⟩
          obtain ⟨i, i1, i2⟩ := rng_of (n := 4) (m := 4) (by decide) (by decide) z1 z2
          have h4 : i = 0 ∨ i = 1 ∨ i = 2 ∨ i = 3 := by omega
          rcases h4 with q | q | q | q <;> subst q
          · exact c0 i2
          · exact c1 i2
          · exact c2 i2
          · exact c3 i2
theorem sMO_line {x y : Int32} (k : isM p S F T H fr M ze si) : x_K P (d + 1) mMO_line 0 [some (.ref bm), some (.int x), some (.int y)] [] (mh h0 bm ze si) (fun oc h' => oc = .returned (some (.int (match lkI p x y with | none => -1 | some j => nI j))) ∧ h' = mh h0 bm ze si) := by
  cases c1 : (decide (0 ≤ x) && decide (x < 6)) with
  | false =>
    have e : lkI p x y = none := if_neg (fun z => by rw [decide_eq_true z.1, decide_eq_true z.2.1] at c1; cases c1)
    rw [e]
    refine eMO_line_0 ?_
    refine eMO_line_1 (Nat.le_of_ble_eq_true rfl) (sMO_isBroker) ?_
    rintro _ _ ⟨rfl, rfl⟩
    refine ⟨_, rfl, ?_⟩
    rw [c1]
    refine eMO_line_4 (fun c4 => ?_) (fun c => absurd rfl c)
    refine eMO_line_28 ?_
    exact eMO_line_29 ⟨rfl, rfl⟩
  | true =>
    cases c2 : (decide (0 ≤ y) && decide (y < 6)) with
    | false =>
      have e : lkI p x y = none := if_neg (fun z => by rw [decide_eq_true z.2.2.1, decide_eq_true z.2.2.2] at c2; cases c2)
      rw [e]
      refine eMO_line_0 ?_
      refine eMO_line_1 (Nat.le_of_ble_eq_true rfl) (sMO_isBroker) ?_
      rintro _ _ ⟨rfl, rfl⟩
      refine ⟨_, rfl, ?_⟩
      rw [c1]
      refine eMO_line_4 (fun c => absurd c (by decide)) (fun c4 => ?_)
      refine eMO_line_7 ?_
      refine eMO_line_8 (Nat.le_of_ble_eq_true rfl) (sMO_isBroker) ?_
      rintro _ _ ⟨rfl, rfl⟩
      refine ⟨_, rfl, ?_⟩
      rw [c2]
      refine eMO_line_11 (fun c11 => ?_) (fun c => absurd rfl c)
      refine eMO_line_28 ?_
      exact eMO_line_29 ⟨rfl, rfl⟩
    | true =>
      have d1 := c1
      have d2 := c2
      rw [Bool.and_eq_true, decide_eq_true_eq, decide_eq_true_eq] at d1 d2
      obtain ⟨i, i1, rfl⟩ := rng_of (n := 6) (m := 6) (by decide) (by decide) d1.1 d1.2
      obtain ⟨t, t1, rfl⟩ := rng_of (n := 6) (m := 6) (by decide) (by decide) d2.1 d2.2
      rw [lkI_nI i1 t1]
      refine eMO_line_0 ?_
      refine eMO_line_1 (Nat.le_of_ble_eq_true rfl) (sMO_isBroker) ?_
      rintro _ _ ⟨rfl, rfl⟩
      refine ⟨_, rfl, ?_⟩
      rw [c1]
      refine eMO_line_4 (fun c => absurd c (by decide)) (fun c4 => ?_)
      refine eMO_line_7 ?_
      refine eMO_line_8 (Nat.le_of_ble_eq_true rfl) (sMO_isBroker) ?_
      rintro _ _ ⟨rfl, rfl⟩
      refine ⟨_, rfl, ?_⟩
      rw [c2]
      refine eMO_line_11 (fun c => absurd c (by decide)) (fun c11 => ?_)
      refine eMO_line_14 rfl ?_
      refine eMO_line_15 mh_o rfl ?_
      refine eMO_line_18 ?_
      refine eMO_line_20 ?_
      refine eMO_line_21 ?_
      rw [mx6]
      refine eMO_line_22 ?_
      refine eMO_line_23 ?_
      rw [nI_add]
      refine eMO_line_24 mh_a2 (xn_in (by omega) (by decide)) ?_
      rw [nI_clamp (by omega)]
      rw [k.2.1 (6 * i + t) (by omega)]
      refine eMO_line_25 ?_
      exact eMO_line_29 ⟨rfl, rfl⟩
theorem lkI_sym {x y : Int32} {j : Nat} (h : lkI p x y = some j) : ∃ j', lkI p y x = some j' := by
  unfold lkI at h
  split at h
  · rename_i c
    obtain ⟨i, i1, rfl⟩ := rng_of (n := 6) (m := 6) (by decide) (by decide) c.1 c.2.1
    obtain ⟨t, t1, rfl⟩ := rng_of (n := 6) (m := 6) (by decide) (by decide) c.2.2.1 c.2.2.2
    rw [nI_clamp (by omega), nI_clamp (by omega)] at h
    rw [lkI_nI t1 i1]
    exact lkF_sym t1 i1 h
  · cases h
theorem sMO_waiting {x y : Int32} (k : isM p S F T H fr M ze si) : x_K P (d + 2) mMO_waiting 0 [some (.ref bm), some (.int x), some (.int y), none] [] (mh h0 bm ze si) (fun oc h' => oc = .returned (some (.int (match lkI p x y with | none => -1 | some j => nI (b_Q S j).length))) ∧ ∃ ze' si', h' = mh h0 bm ze' si' ∧ isM p S F T H (ub fr 18 0) M ze' si') := by
  have k1 := k.flt 0 (x := 0) rfl
  have hL := sMO_line (P := P) (d := d) (h0 := h0) (bm := bm) (x := x) (y := y) k1
  cases hk : lkI p x y with
  | none =>
    rw [hk] at hL
    refine eMO_waiting_0 rfl ?_
    refine eMO_waiting_1 ?_
    refine eMO_waiting_2 mh_o (Nat.le_of_ble_eq_true rfl) ?_
    rw [mh_f0]
    refine eMO_waiting_5 rfl ?_
    refine eMO_waiting_6 ?_
    refine eMO_waiting_7 ?_
    refine eMO_waiting_8 mh_o (Nat.le_of_ble_eq_true rfl) (hL) ?_
    rintro _ _ ⟨rfl, rfl⟩
    refine ⟨_, rfl, ?_⟩
    refine eMO_waiting_11 ?_
    refine eMO_waiting_12 ?_
    refine eMO_waiting_13 (fun c => absurd c (by decide)) (fun c13 => ?_)
    refine eMO_waiting_16 ?_
    refine eMO_waiting_17 ?_
    exact eMO_waiting_33 ⟨rfl, _, _, rfl, k1⟩
  | some j =>
    rw [hk] at hL
    have hj := lkI_lt hk
    obtain ⟨a1, a2, a3, a4⟩ := k1.line.1 j hj
    have hMj := congrArg List.length (k1.line.2 j hj).1
    rw [List.length_map] at hMj
    have e5 : nI (ub fr 18 0 j + (M j).length) - nI (ub fr 18 0 j) = nI (b_Q S j).length := by
      rw [pk_sub (by omega), Nat.add_sub_cancel_left, hMj]
    refine eMO_waiting_0 rfl ?_
    refine eMO_waiting_1 ?_
    refine eMO_waiting_2 mh_o (Nat.le_of_ble_eq_true rfl) ?_
    rw [mh_f0]
    refine eMO_waiting_5 rfl ?_
    refine eMO_waiting_6 ?_
    refine eMO_waiting_7 ?_
    refine eMO_waiting_8 mh_o (Nat.le_of_ble_eq_true rfl) (hL) ?_
    rintro _ _ ⟨rfl, rfl⟩
    refine ⟨_, rfl, ?_⟩
    refine eMO_waiting_11 ?_
    refine eMO_waiting_12 ?_
    refine eMO_waiting_13 (fun c13 => ?_) (fun c => absurd (nI_pos' (by omega)) c)
    refine eMO_waiting_20 rfl ?_
    refine eMO_waiting_21 mh_o rfl ?_
    refine eMO_waiting_24 ?_
    refine eMO_waiting_25 mh_a23 (xn_in hj (by decide)) ?_
    rw [nI_clamp (by omega)]
    rw [a2]
    refine eMO_waiting_26 rfl ?_
    refine eMO_waiting_27 mh_o rfl ?_
    refine eMO_waiting_30 ?_
    refine eMO_waiting_31 mh_a22 (xn_in hj (by decide)) ?_
    rw [nI_clamp (by omega)]
    rw [a1]
    refine eMO_waiting_32 ?_
    rw [e5]
    exact eMO_waiting_33 ⟨rfl, _, _, rfl, k1⟩
theorem sMO_filters {x y : Int32} {w : Bool} (k : isM p S F T H fr M ze si) : x_K P (d + 2) mMO_filters 0 [some (.ref bm), some (.int x), some (.int y), some (.int (b2i w)), none] [] (mh h0 bm ze si) (fun oc h' => oc = .returned (some (.int (match (if w then lkI p y x else lkI p x y) with | none => -1 | some j => nI (if w then b_H S j else b_T S j).length))) ∧ ∃ ze' si', h' = mh h0 bm ze' si' ∧ isM p S F T H (ub fr 18 0) M ze' si') := by
  have k1 := k.flt 0 (x := 0) rfl
  have hL := sMO_line (P := P) (d := d) (h0 := h0) (bm := bm) (x := x) (y := y) k1
  have hL2 := sMO_line (P := P) (d := d) (h0 := h0) (bm := bm) (x := y) (y := x) k1
  cases hk : lkI p x y with
  | none =>
    have hk2 : lkI p y x = none := by
      cases h9 : lkI p y x with
      | none => rfl
      | some j =>
        obtain ⟨j', e⟩ := lkI_sym h9
        rw [hk] at e
        cases e
    rw [hk] at hL
    rw [hk2]
    rw [show (if w then (none : Option Nat) else none) = none by cases w <;> rfl]
    refine eMO_filters_0 rfl ?_
    refine eMO_filters_1 ?_
    refine eMO_filters_2 mh_o (Nat.le_of_ble_eq_true rfl) ?_
    rw [mh_f0]
    refine eMO_filters_5 rfl ?_
    refine eMO_filters_6 ?_
    refine eMO_filters_7 ?_
    refine eMO_filters_8 mh_o (Nat.le_of_ble_eq_true rfl) (hL) ?_
    rintro _ _ ⟨rfl, rfl⟩
    refine ⟨_, rfl, ?_⟩
    refine eMO_filters_11 ?_
    refine eMO_filters_13 ?_
    refine eMO_filters_15 (fun c => absurd c (by decide)) (fun c15 => ?_)
    refine eMO_filters_18 ?_
    exact eMO_filters_19 ⟨rfl, _, _, rfl, k1⟩
  | some j =>
    rw [hk] at hL
    have hj := lkI_lt hk
    cases w with
    | true =>
      obtain ⟨j', hk2⟩ := lkI_sym hk
      have hj' := lkI_lt hk2
      rw [hk2] at hL2
      have a1 := (k1.heard.1 j' hj').1
      have a2 := congrArg List.length (k1.heard.2 j' hj').1
      rw [List.length_map] at a2
      rw [if_pos rfl, hk2]
      refine eMO_filters_0 rfl ?_
      refine eMO_filters_1 ?_
      refine eMO_filters_2 mh_o (Nat.le_of_ble_eq_true rfl) ?_
      rw [mh_f0]
      refine eMO_filters_5 rfl ?_
      refine eMO_filters_6 ?_
      refine eMO_filters_7 ?_
      refine eMO_filters_8 mh_o (Nat.le_of_ble_eq_true rfl) (hL) ?_
      rintro _ _ ⟨rfl, rfl⟩
      refine ⟨_, rfl, ?_⟩
      refine eMO_filters_11 ?_
      refine eMO_filters_13 ?_
      refine eMO_filters_15 (fun c15 => ?_) (fun c => absurd (nI_pos' (by omega)) c)
      refine eMO_filters_20 ?_
      refine eMO_filters_21 (fun c => absurd c (by decide)) (fun c21 => ?_)
      refine eMO_filters_24 rfl ?_
      refine eMO_filters_25 mh_o rfl ?_
      refine eMO_filters_28 rfl ?_
      refine eMO_filters_29 ?_
      refine eMO_filters_30 ?_
      refine eMO_filters_31 mh_o (Nat.le_of_ble_eq_true rfl) (hL2) ?_
      rintro _ _ ⟨rfl, rfl⟩
      refine ⟨_, rfl, ?_⟩
      refine eMO_filters_34 mh_a20 (xn_in hj' (by decide)) ?_
      rw [nI_clamp (by omega)]
      rw [a1]
      refine eMO_filters_35 ?_
      refine eMO_filters_45 ⟨?_, _, _, rfl, k1⟩
      rw [a2]
      rfl
    | false =>
      have a1 := (k1.told.1 j hj).1
      have a2 := congrArg List.length (k1.told.2 j hj).1
      rw [List.length_map] at a2
      rw [if_neg (by decide)]
      refine eMO_filters_0 rfl ?_
      refine eMO_filters_1 ?_
      refine eMO_filters_2 mh_o (Nat.le_of_ble_eq_true rfl) ?_
      rw [mh_f0]
      refine eMO_filters_5 rfl ?_
      refine eMO_filters_6 ?_
      refine eMO_filters_7 ?_
      refine eMO_filters_8 mh_o (Nat.le_of_ble_eq_true rfl) (hL) ?_
      rintro _ _ ⟨rfl, rfl⟩
      refine ⟨_, rfl, ?_⟩
      refine eMO_filters_11 ?_
      refine eMO_filters_13 ?_
      refine eMO_filters_15 (fun c15 => ?_) (fun c => absurd (nI_pos' (by omega)) c)
      refine eMO_filters_20 ?_
      refine eMO_filters_21 (fun c21 => ?_) (fun c => absurd rfl c)
      refine eMO_filters_38 rfl ?_
      refine eMO_filters_39 mh_o rfl ?_
      refine eMO_filters_42 ?_
      refine eMO_filters_44 mh_a18 (xn_in hj (by decide)) ?_
      rw [nI_clamp (by omega)]
      rw [a1]
      refine eMO_filters_45 ⟨?_, _, _, rfl, k1⟩
      rw [a2]
      rfl
theorem sMO_takeT {x y : Int32} (k : isM p S F T H fr M ze si) (hx : ∀ j, lkI p x y = some j → b_Q S j = []) : x_K P (d + 6) mMO_take 0 [some (.ref bm), some (.int x), some (.int y), none] [] (mh h0 bm ze si) (fun oc h' => oc = .returned (some (.int 0)) ∧ ∃ ze' si', h' = mh h0 bm ze' si' ∧ isM p S F T H (ub fr 18 1) M ze' si') := by
  have k1 := k.flt 0 (x := 0) rfl
  have k2 := k1.flt 1 (x := 1) rfl
  rw [ub_ub] at k2
  have hL := (sMO_line (P := P) (d := d) (h0 := h0) (bm := bm) (x := x) (y := y) k1).up (d' := d + 5) (by omega)
  cases hk : lkI p x y with
  | none =>
    rw [hk] at hL
    refine eMO_take_0 rfl ?_
    refine eMO_take_1 ?_
    refine eMO_take_2 mh_o (Nat.le_of_ble_eq_true rfl) ?_
    rw [mh_f0]
    refine eMO_take_5 rfl ?_
    refine eMO_take_6 ?_
    refine eMO_take_7 ?_
    refine eMO_take_8 mh_o (Nat.le_of_ble_eq_true rfl) (hL) ?_
    rintro _ _ ⟨rfl, rfl⟩
    refine ⟨_, rfl, ?_⟩
    refine eMO_take_11 ?_
    refine eMO_take_12 ?_
    refine eMO_take_13 (fun c13 => ?_) (fun c => absurd (by decide) c)
    refine eMO_take_31 rfl ?_
    refine eMO_take_32 ?_
    refine eMO_take_33 mh_o (Nat.le_of_ble_eq_true rfl) sMO_fails ?_
    rintro _ _ ⟨rfl, rfl⟩
    refine ⟨_, rfl, ?_⟩
    refine eMO_take_36 ?_
    exact eMO_take_45 ⟨rfl, _, _, rfl, k2⟩
  | some j =>
    rw [hk] at hL
    have hj := lkI_lt hk
    obtain ⟨a1, a2, a3, a4⟩ := k1.line.1 j hj
    have hMj := congrArg List.length (k1.line.2 j hj).1
    rw [List.length_map, hx j hk] at hMj
    rw [hMj] at a2
    refine eMO_take_0 rfl ?_
    refine eMO_take_1 ?_
    refine eMO_take_2 mh_o (Nat.le_of_ble_eq_true rfl) ?_
    rw [mh_f0]
    refine eMO_take_5 rfl ?_
    refine eMO_take_6 ?_
    refine eMO_take_7 ?_
    refine eMO_take_8 mh_o (Nat.le_of_ble_eq_true rfl) (hL) ?_
    rintro _ _ ⟨rfl, rfl⟩
    refine ⟨_, rfl, ?_⟩
    refine eMO_take_11 ?_
    refine eMO_take_12 ?_
    refine eMO_take_13 (fun c => absurd c (nI_pos (by omega))) (fun c13 => ?_)
    refine eMO_take_16 rfl ?_
    refine eMO_take_17 mh_o rfl ?_
    refine eMO_take_20 ?_
    refine eMO_take_21 mh_a22 (xn_in hj (by decide)) ?_
    rw [nI_clamp (by omega)]
    rw [a1]
    refine eMO_take_22 rfl ?_
    refine eMO_take_23 mh_o rfl ?_
    refine eMO_take_26 ?_
    refine eMO_take_27 mh_a23 (xn_in hj (by decide)) ?_
    rw [nI_clamp (by omega)]
    rw [a2]
    refine eMO_take_28 (fun c => absurd rfl c) (fun c28 => ?_)
    refine eMO_take_31 rfl ?_
    refine eMO_take_32 ?_
    refine eMO_take_33 mh_o (Nat.le_of_ble_eq_true rfl) sMO_fails ?_
    rintro _ _ ⟨rfl, rfl⟩
    refine ⟨_, rfl, ?_⟩
    refine eMO_take_36 ?_
    exact eMO_take_45 ⟨rfl, _, _, rfl, k2⟩
theorem isM.qM {j m : Nat} {l : List Nat} (k : isM p S F T H fr M ze si) (hj : j < 10) (hQ : b_Q S j = m :: l) : ∃ x r, M j = x :: r ∧ x % 4 = m % 3 := by
  obtain ⟨b1, b2⟩ := k.line.2 j hj
  rw [hQ] at b1
  cases hM : M j with
  | nil => rw [hM] at b1; cases b1
  | cons x r =>
    rw [hM] at b1 b2
    refine ⟨x, r, rfl, ?_⟩
    have h1 := (mcv_eq (wa := b_wa S) (b2 x List.mem_cons_self).1).1
    rw [List.map_cons] at b1
    rw [← h1, (List.cons.inj b1).1]
theorem sMO_take {x y : Int32} {j m : Nat} {l : List Nat} (k : isM p S F T H fr M ze si) (hp : isP p) (hk : lkI p x y = some j) (hQ : b_Q S j = m :: l)
  (hq : ∀ i, i < 10 → (ub fr j (fr j + 1)) i + (b_Q (tkF p S j) i).length ≤ 1000) (hq2 : ∀ c, c < 8 → fr (10 + c) + (b_Q (tkF p S j) (10 + c)).length ≤ 520) :
  x_K P (d + 6) mMO_take 0 [some (.ref bm), some (.int x), some (.int y), none] [] (mh h0 bm ze si) (fun oc h' => oc = .returned (some (.int (nI (m % 3)))) ∧ ∃ ze' si' T' H' M', h' = mh h0 bm ze' si' ∧ isM p (tkF p S j) F T' H' (ub (ub fr 18 0) j (fr j + 1)) M' ze' si') := by
  have k1 := k.flt 0 (x := 0) rfl
  have hL := (sMO_line (P := P) (d := d) (h0 := h0) (bm := bm) (x := x) (y := y) k1).up (d' := d + 5) (by omega)
  have hj := lkI_lt hk
  rw [hk] at hL
  unfold lkI at hk
  split at hk
  · rename_i c
    obtain ⟨i, i1, rfl⟩ := rng_of (n := 6) (m := 6) (by decide) (by decide) c.1 c.2.1
    obtain ⟨t, t1, rfl⟩ := rng_of (n := 6) (m := 6) (by decide) (by decide) c.2.2.1 c.2.2.2
    rw [nI_clamp (by omega), nI_clamp (by omega)] at hk
    obtain ⟨v, r, hM, hv⟩ := k1.qM hj hQ
    obtain ⟨a1, a2, a3, a4⟩ := k1.line.1 j hj
    rw [hM, List.length_cons] at a2 a3
    have hT := sMO_taken (P := P) (d := d) (h0 := h0) (bm := bm) k1 hp i1 t1 hk hM (fun i' hi' => by
      have := hq i' hi'
      by_cases e : i' = j
      · subst e
        rw [ub_same, ub18 (by omega)]
        rw [ub_same] at this
        exact this
      · rw [ub_ne e, ub18 (by omega)]
        rw [ub_ne e] at this
        exact this) (fun c' hc' => by rw [ub18 (by omega)]; exact hq2 c' hc')
    rw [ub18 (by omega)] at hT
    refine eMO_take_0 rfl ?_
    refine eMO_take_1 ?_
    refine eMO_take_2 mh_o (Nat.le_of_ble_eq_true rfl) ?_
    rw [mh_f0]
    refine eMO_take_5 rfl ?_
    refine eMO_take_6 ?_
    refine eMO_take_7 ?_
    refine eMO_take_8 mh_o (Nat.le_of_ble_eq_true rfl) (hL) ?_
    rintro _ _ ⟨rfl, rfl⟩
    refine ⟨_, rfl, ?_⟩
    refine eMO_take_11 ?_
    refine eMO_take_12 ?_
    refine eMO_take_13 (fun c => absurd c (nI_pos (by omega))) (fun c13 => ?_)
    refine eMO_take_16 rfl ?_
    refine eMO_take_17 mh_o rfl ?_
    refine eMO_take_20 ?_
    refine eMO_take_21 mh_a22 (xn_in hj (by decide)) ?_
    rw [nI_clamp (by omega)]
    rw [a1]
    refine eMO_take_22 rfl ?_
    refine eMO_take_23 mh_o rfl ?_
    refine eMO_take_26 ?_
    refine eMO_take_27 mh_a23 (xn_in hj (by decide)) ?_
    rw [nI_clamp (by omega)]
    rw [a2]
    refine eMO_take_28 (fun c28 => ?_) (fun z => absurd ((nI_eq (by omega) (by omega)).mp z) (by omega))
    refine eMO_take_39 rfl ?_
    refine eMO_take_40 ?_
    refine eMO_take_41 ?_
    refine eMO_take_42 mh_o (Nat.le_of_ble_eq_true rfl) hT ?_
    rintro _ _ ⟨ze', si', T', H', M', rfl, rfl, k'⟩
    refine ⟨_, rfl, ?_⟩
    refine eMO_take_45 ⟨?_, ze', si', T', H', M', rfl, k'⟩
    rw [hv]
  · cases hk
theorem sMO_readT1 {c : Int32} (k : isM p S F T H fr M ze si) (hc : ¬ (0 ≤ c ∧ c < 8)) : x_K P (d + 1) mMO_read 0 [some (.ref bm), some (.int c)] [] (mh h0 bm ze si) (fun oc h' => oc = .returned (some (.int 0)) ∧ ∃ ze' si', h' = mh h0 bm ze' si' ∧ isM p S F T H (ub fr 18 1) M ze' si') := by
  have k1 := k.flt 0 (x := 0) rfl
  have k2 := k1.flt 1 (x := 1) rfl
  rw [ub_ub] at k2
  have e : (decide (0 ≤ c) && decide (c < 8)) = false := by
    rw [← Bool.not_eq_true, Bool.and_eq_true, decide_eq_true_eq, decide_eq_true_eq]
    exact hc
  refine eMO_read_0 rfl ?_
  refine eMO_read_1 ?_
  refine eMO_read_2 mh_o (Nat.le_of_ble_eq_true rfl) ?_
  rw [mh_f0]
  refine eMO_read_5 ?_
  refine eMO_read_6 (Nat.le_of_ble_eq_true rfl) (sMO_isClient) ?_
  rintro _ _ ⟨rfl, rfl⟩
  refine ⟨_, rfl, ?_⟩
  rw [e]
  refine eMO_read_9 (fun c => absurd rfl c) (fun c9 => ?_)
  refine eMO_read_12 rfl ?_
  refine eMO_read_13 ?_
  refine eMO_read_14 mh_o (Nat.le_of_ble_eq_true rfl) sMO_fails ?_
  rintro _ _ ⟨rfl, rfl⟩
  refine ⟨_, rfl, ?_⟩
  exact eMO_read_17 ⟨rfl, _, _, rfl, k2⟩
theorem sMO_readT2 {i : Nat} (k : isM p S F T H fr M ze si) (hi : i < 8) (hx : b_Q S (10 + i) = []) : x_K P (d + 1) mMO_read 0 [some (.ref bm), some (.int (nI i))] [] (mh h0 bm ze si) (fun oc h' => oc = .returned (some (.int 0)) ∧ ∃ ze' si', h' = mh h0 bm ze' si' ∧ isM p S F T H (ub fr 18 2) M ze' si') := by
  have k1 := k.flt 0 (x := 0) rfl
  have k2 := k1.flt 2 (x := 2) rfl
  rw [ub_ub] at k2
  obtain ⟨a1, a2, a3, a4⟩ := k1.inb1 hi
  rw [hx] at a2
  refine eMO_read_0 rfl ?_
  refine eMO_read_1 ?_
  refine eMO_read_2 mh_o (Nat.le_of_ble_eq_true rfl) ?_
  rw [mh_f0]
  refine eMO_read_5 ?_
  refine eMO_read_6 (Nat.le_of_ble_eq_true rfl) (sMO_isClient) ?_
  rintro _ _ ⟨rfl, rfl⟩
  refine ⟨_, rfl, ?_⟩
  rw [isCl hi]
  refine eMO_read_9 (fun c9 => ?_) (fun c => absurd c (by decide))
  refine eMO_read_18 rfl ?_
  refine eMO_read_19 mh_o rfl ?_
  refine eMO_read_22 ?_
  refine eMO_read_23 mh_a30 (xn_in hi (by decide)) ?_
  rw [nI_clamp (by omega)]
  rw [a1]
  refine eMO_read_24 rfl ?_
  refine eMO_read_25 mh_o rfl ?_
  refine eMO_read_28 ?_
  refine eMO_read_29 mh_a31 (xn_in hi (by decide)) ?_
  rw [nI_clamp (by omega)]
  rw [a2]
  refine eMO_read_30 (fun c => absurd rfl c) (fun c30 => ?_)
  refine eMO_read_33 rfl ?_
  refine eMO_read_34 ?_
  refine eMO_read_35 mh_o (Nat.le_of_ble_eq_true rfl) sMO_fails ?_
  rintro _ _ ⟨rfl, rfl⟩
  refine ⟨_, rfl, ?_⟩
  exact eMO_read_38 ⟨rfl, _, _, rfl, k2⟩
theorem isM.rd {i m : Nat} {l : List Nat} (k : isM p S F T H fr M ze si) (hi : i < 8) (hQ : b_Q S (10 + i) = m :: l) : isM p (ppS S (10 + i) l) F T H (ub fr (10 + i) (fr (10 + i) + 1)) M ze (va_up si 30 (upd (si 30) i (nI (fr (10 + i) + 1)))) := by
  have eH : b_H (ppS S (10 + i) l) = b_H S := by unfold ppS; rw [bg_H_Q]
  have eT : b_T (ppS S (10 + i) l) = b_T S := by unfold ppS; rw [bg_T_Q]
  have eQ : b_Q (ppS S (10 + i) l) = ub (b_Q S) (10 + i) l := by unfold ppS; rw [bg_Q]
  have ec : b_cn (ppS S (10 + i) l) = b_cn S := by unfold ppS; rw [bg_cn_Q]
  refine k.ch ppS_sm ⟨rfl, rfl, rfl⟩ (fun K hK => if_neg (show K ≠ 30 by omega)) (by rw [ub_ne (by omega)]; exact k.1.2.2.2) ?_ ?_ ⟨k.line.1.frc (fun j hj => ub_ne (by omega)), fun j hj => ?_⟩ ?_ ?_
  · rw [eT]; exact k.told
  · rw [eH]; exact k.heard
  · rw [eQ, ub_ne (by omega)]
    exact k.line.2 j hj
  · rw [ec]; exact k.cnt
  · have e1 : (fun c => b_Q (ppS S (10 + i) l) (10 + c)) = ub (fun c => b_Q S (10 + c)) i l := by
      funext c
      rw [eQ]
      by_cases e : c = i
      · subst e
        rw [ub_same, ub_same]
      · rw [ub_ne (by omega), ub_ne e]
    have e2 : (fun c => ub fr (10 + i) (fr (10 + i) + 1) (10 + c)) = ub (fun c => fr (10 + c)) i (fr (10 + i) + 1) := by
      funext c
      by_cases e : c = i
      · subst e
        rw [ub_same, ub_same]
      · rw [ub_ne (by omega), ub_ne e]
    rw [e1, e2]
    exact k.inb.pop (j := i) (x := m) hQ
theorem sMO_read {i m : Nat} {l : List Nat} (k : isM p S F T H fr M ze si) (hi : i < 8) (hQ : b_Q S (10 + i) = m :: l) : x_K P (d + 1) mMO_read 0 [some (.ref bm), some (.int (nI i))] [] (mh h0 bm ze si) (fun oc h' => oc = .returned (some (.int (nI m))) ∧ ∃ ze' si', h' = mh h0 bm ze' si' ∧ isM p (bs_Q S (ub (b_Q S) (10 + i) l)) F T H (ub (ub fr 18 0) (10 + i) (fr (10 + i) + 1)) M ze' si') := by
  have k1 := k.flt 0 (x := 0) rfl
  obtain ⟨a1, a2, a3, a4⟩ := k1.inb1 hi
  have k2 := k1.rd hi hQ
  have e32 := a4 0 m (by show (b_Q S (10 + i))[0]? = _; rw [hQ]; rfl)
  rw [Nat.add_zero] at e32
  have hlen : 1 ≤ (b_Q S (10 + i)).length := by rw [hQ, List.length_cons]; omega
  rw [ub18 (by omega)] at k2
  have f1 : ub fr 18 0 (10 + i) = fr (10 + i) := ub18 (by omega)
  simp only [f1] at a1 a2 a3 e32
  have a1' : va_up si 30 (upd (si 30) i (nI (fr (10 + i) + 1))) 30 i = nI (fr (10 + i) + 1) := pk_us
  have e32' : va_up si 30 (upd (si 30) i (nI (fr (10 + i) + 1))) 32 (520 * i + fr (10 + i)) = nI m := e32
  have e6 : nI (520 * i + (fr (10 + i) + 1)) - 1 = nI (520 * i + fr (10 + i)) := nI_pred _
  refine eMO_read_0 rfl ?_
  refine eMO_read_1 ?_
  refine eMO_read_2 mh_o (Nat.le_of_ble_eq_true rfl) ?_
  rw [mh_f0]
  refine eMO_read_5 ?_
  refine eMO_read_6 (Nat.le_of_ble_eq_true rfl) (sMO_isClient) ?_
  rintro _ _ ⟨rfl, rfl⟩
  refine ⟨_, rfl, ?_⟩
  rw [isCl hi]
  refine eMO_read_9 (fun c9 => ?_) (fun c => absurd c (by decide))
  refine eMO_read_18 rfl ?_
  refine eMO_read_19 mh_o rfl ?_
  refine eMO_read_22 ?_
  refine eMO_read_23 mh_a30 (xn_in hi (by decide)) ?_
  rw [nI_clamp (by omega)]
  rw [a1]
  refine eMO_read_24 rfl ?_
  refine eMO_read_25 mh_o rfl ?_
  refine eMO_read_28 ?_
  refine eMO_read_29 mh_a31 (xn_in hi (by decide)) ?_
  rw [nI_clamp (by omega)]
  rw [a2]
  refine eMO_read_30 (fun c30 => ?_) (fun z => absurd ((nI_eq (by omega) (by omega)).mp z) (by omega))
  refine eMO_read_39 rfl ?_
  refine eMO_read_40 mh_o rfl ?_
  refine eMO_read_43 ?_
  refine eMO_read_44 rfl rfl ?_
  refine eMO_read_45 mh_a30 (xn_in hi (by decide)) ?_
  rw [nI_clamp (by omega)]
  rw [a1]
  refine eMO_read_46 ?_
  refine eMO_read_47 ?_
  rw [nI_1]
  refine eMO_read_48 mh_a30 (xn_in hi (by decide)) ?_
  rw [mh_p30, nI_clamp (by omega)]
  refine eMO_read_49 rfl ?_
  refine eMO_read_50 mh_o rfl ?_
  refine eMO_read_53 ?_
  refine eMO_read_56 ?_
  refine eMO_read_57 ?_
  rw [mx520]
  refine eMO_read_58 rfl ?_
  refine eMO_read_59 mh_o rfl ?_
  refine eMO_read_62 ?_
  refine eMO_read_63 mh_a30 (xn_in hi (by decide)) ?_
  rw [nI_clamp (by omega)]
  rw [a1']
  refine eMO_read_64 ?_
  rw [nI_add]
  refine eMO_read_65 ?_
  refine eMO_read_66 ?_
  rw [e6]
  refine eMO_read_67 mh_a32 (xn_in (by omega) (by decide)) ?_
  rw [nI_clamp (by omega)]
  rw [e32']
  exact eMO_read_68 ⟨rfl, _, _, rfl, k2⟩
end

