/-! The reference: unsubscribe, covers -/
def cvF (g : Nat → Nat) (n : Nat) : Option sp3 × Option sp3 := (parseF g (fnd g 32 n 0) 3 0 fi0, parseF g n 3 (fnd g 32 n 0 + 1) fi0)
section
variable {p : Nat → Nat} {S S' : bS} {F : Nat → sp3} {T H M : Nat → List Nat} {fr fr' : Nat → Nat} {ze ze' : Nat → Int32} {si si' : Nat → Nat → Int32}
/-- another filter's record -/
theorem isM.fm {f : Nat} (k : isM p S F T H fr M ze si) (h : frm f si si') (hf : b_s S ≤ f) : isM p S F T H fr M ze si' := by
  have hA : ∀ K, K < 3 ∨ 14 < K → si' K = si K := fun K hK => funext fun i => h.at (by omega)
  obtain ⟨a1, a2, a3, a4, a5, a6, a7, a8, a9, a10, a11, a12⟩ := k
  refine ⟨?_, ?_, ?_, fun q hq => (a4 q hq).km h (by omega), ?_, ?_, a7, ?_, ?_, ?_, a11, ?_⟩
  · rw [hA 1 (by omega)]; exact a1
  · rw [hA 2 (by omega)]; exact a2
  · rw [hA 16 (by omega), hA 17 (by omega)]; exact a3
  · rw [hA 15 (by omega)]; exact a5
  · rw [hA 27 (by omega), hA 28 (by omega), hA 29 (by omega)]; exact a6
  · rw [hA 18 (by omega), hA 19 (by omega)]; exact a8
  · rw [hA 20 (by omega), hA 21 (by omega)]; exact a9
  · rw [hA 22 (by omega), hA 23 (by omega), hA 24 (by omega)]; exact a10
  · rw [hA 30 (by omega), hA 31 (by omega), hA 32 (by omega)]; exact a12
theorem isM.en {q : Nat} (k : isM p S F T H fr M ze si) : isM p (bs_en S (ub (b_en S) q true)) F T H fr M ze (va_up si 17 (upd (si 17) q 1)) := by
  obtain ⟨a1, a2, a3, a4, a5, a6, a7, a8, a9, a10, a11, a12⟩ := k
  refine ⟨a1, a2, ⟨a3.1, a3.2.1, a3.2.2.1, fun i hi => ?_⟩, fun f hf => (a4 f hf).kA (fun K h1 h2 => if_neg (by omega)), a5, a6, a7, a8, a9, a10, a11, a12⟩
  rw [bg_en]
  show upd (si 17) q 1 i = _
  by_cases e : i = q
  · subst e
    rw [pk_us, ub_same]
    rfl
  · rw [pk_un e, ub_ne e]
    exact a3.2.2.2 i hi
end
section
variable {P : x_P} {d : Nat} {h0 : x_H} {bm : Nat} {p : Nat → Nat} {S : bS} {F : Nat → sp3} {T H M : Nat → List Nat} {fr : Nat → Nat} {ze : Nat → Int32} {si : Nat → Nat → Int32} {Φ : Outcome → x_H → Prop}
theorem sMO_unsubT {x : Int32} (k : isM p S F T H fr M ze si) (hx : ∀ q : Nat, q < b_s S → x = nI q → b_en S q = true) : x_K P (d + 5) mMO_unsubscribe 0 [some (.ref bm), some (.int x)] [] (mh h0 bm ze si) (fun oc h' => oc = .returned none ∧ ∃ ze' si', h' = mh h0 bm ze' si' ∧ isM p S F T H (ub fr 18 1) M ze' si') := by
  have k1 := k.flt 1 (x := 1) rfl
  have hs := k.s16
  have e0 : upd ze 0 1 0 = 1 := pk_us
  by_cases g1 : x < 0
  · refine eMO_unsubscribe_0 rfl ?_
    refine eMO_unsubscribe_1 ?_
    refine eMO_unsubscribe_2 (fun c2 => ?_) (fun c => absurd g1 c)
    refine eMO_unsubscribe_22 ?_
    refine eMO_unsubscribe_23 ?_
    refine eMO_unsubscribe_27 mh_o (Nat.le_of_ble_eq_true rfl) ?_
    rw [mh_f0]
    refine eMO_unsubscribe_30 rfl ?_
    refine eMO_unsubscribe_31 mh_o rfl ?_
    rw [e0]
    refine eMO_unsubscribe_34 (fun c => absurd c (by decide)) (fun c34 => ?_)
    exact eMO_unsubscribe_37 ⟨rfl, _, _, rfl, k1⟩
  · obtain ⟨q, q1, rfl⟩ := nI_of g1
    by_cases g2 : q < b_s S
    · have e17 := k.2.2.1.2.2.2 q (by omega)
      rw [hx q g2 rfl] at e17
      refine eMO_unsubscribe_0 rfl ?_
      refine eMO_unsubscribe_1 ?_
      refine eMO_unsubscribe_2 (fun c => absurd c g1) (fun c2 => ?_)
      refine eMO_unsubscribe_5 ?_
      refine eMO_unsubscribe_6 rfl ?_
      refine eMO_unsubscribe_7 mh_o rfl ?_
      rw [k.s3]
      refine eMO_unsubscribe_10 (fun c => absurd c (nI_ge g2 (by omega))) (fun c10 => ?_)
      refine eMO_unsubscribe_13 rfl ?_
      refine eMO_unsubscribe_14 mh_o rfl ?_
      refine eMO_unsubscribe_17 ?_
      refine eMO_unsubscribe_18 mh_a17 (xn_in (by omega) (by decide)) ?_
      rw [nI_clamp (by omega)]
      rw [e17]
      refine eMO_unsubscribe_19 (fun c => absurd c (by decide)) (fun c19 => ?_)
      refine eMO_unsubscribe_22 ?_
      refine eMO_unsubscribe_23 ?_
      refine eMO_unsubscribe_27 mh_o (Nat.le_of_ble_eq_true rfl) ?_
      rw [mh_f0]
      refine eMO_unsubscribe_30 rfl ?_
      refine eMO_unsubscribe_31 mh_o rfl ?_
      rw [e0]
      refine eMO_unsubscribe_34 (fun c => absurd c (by decide)) (fun c34 => ?_)
      exact eMO_unsubscribe_37 ⟨rfl, _, _, rfl, k1⟩
    · refine eMO_unsubscribe_0 rfl ?_
      refine eMO_unsubscribe_1 ?_
      refine eMO_unsubscribe_2 (fun c => absurd c g1) (fun c2 => ?_)
      refine eMO_unsubscribe_5 ?_
      refine eMO_unsubscribe_6 rfl ?_
      refine eMO_unsubscribe_7 mh_o rfl ?_
      rw [k.s3]
      refine eMO_unsubscribe_10 (fun c10 => ?_) (fun c => absurd (nI_le (by omega) (by omega)) c)
      refine eMO_unsubscribe_22 ?_
      refine eMO_unsubscribe_23 ?_
      refine eMO_unsubscribe_27 mh_o (Nat.le_of_ble_eq_true rfl) ?_
      rw [mh_f0]
      refine eMO_unsubscribe_30 rfl ?_
      refine eMO_unsubscribe_31 mh_o rfl ?_
      rw [e0]
      refine eMO_unsubscribe_34 (fun c => absurd c (by decide)) (fun c34 => ?_)
      exact eMO_unsubscribe_37 ⟨rfl, _, _, rfl, k1⟩
theorem sMO_unsub {q : Nat} (k : isM p S F T H fr M ze si) (hq : q < b_s S) (he : b_en S q = false) (hb : ∀ j, j < 10 → fr j + (b_Q (settleF p (b_su S q % 6) (bs_en S (ub (b_en S) q true))) j).length ≤ 1000) :
  x_K P (d + 5) mMO_unsubscribe 0 [some (.ref bm), some (.int (nI q))] [] (mh h0 bm ze si) (fun oc h' => oc = .returned none ∧ ∃ ze' si' T' M', h' = mh h0 bm ze' si' ∧ isM p (settleF p (b_su S q % 6) (bs_en S (ub (b_en S) q true))) F T' H (ub fr 18 0) M' ze' si') := by
  have k1 := (k.flt 0 (x := 0) rfl).en (q := q)
  have hs := k.s16
  have e17 := k.2.2.1.2.2.2 q (by omega)
  rw [he] at e17
  obtain ⟨e16, e16b⟩ := k.2.2.1.2.2.1 q hq
  have e16' : va_up si 17 (upd (si 17) q (vp_nar .boolean 1)) 16 q = nI (b_su S q) := e16
  have e0 : upd ze 0 0 0 = 0 := pk_us
  have erem : nI (b_su S q) - nI (b_su S q) / 6 * 6 = nI (b_su S q % 6) := pk_rem (by omega) (by decide) (by decide)
  refine eMO_unsubscribe_0 rfl ?_
  refine eMO_unsubscribe_1 ?_
  refine eMO_unsubscribe_2 (fun c => absurd c (nI_pos (by omega))) (fun c2 => ?_)
  refine eMO_unsubscribe_5 ?_
  refine eMO_unsubscribe_6 rfl ?_
  refine eMO_unsubscribe_7 mh_o rfl ?_
  rw [k.s3]
  refine eMO_unsubscribe_10 (fun c => absurd c (nI_ge hq (by omega))) (fun c10 => ?_)
  refine eMO_unsubscribe_13 rfl ?_
  refine eMO_unsubscribe_14 mh_o rfl ?_
  refine eMO_unsubscribe_17 ?_
  refine eMO_unsubscribe_18 mh_a17 (xn_in (by omega) (by decide)) ?_
  rw [nI_clamp (by omega)]
  rw [e17]
  refine eMO_unsubscribe_19 (fun c19 => ?_) (fun c => absurd rfl c)
  refine eMO_unsubscribe_26 ?_
  refine eMO_unsubscribe_27 mh_o (Nat.le_of_ble_eq_true rfl) ?_
  rw [mh_f0]
  refine eMO_unsubscribe_30 rfl ?_
  refine eMO_unsubscribe_31 mh_o rfl ?_
  rw [e0]
  refine eMO_unsubscribe_34 (fun c34 => ?_) (fun c => absurd (by decide) c)
  refine eMO_unsubscribe_38 rfl ?_
  refine eMO_unsubscribe_39 mh_o rfl ?_
  refine eMO_unsubscribe_42 ?_
  refine eMO_unsubscribe_43 ?_
  refine eMO_unsubscribe_44 mh_a17 (xn_in (by omega) (by decide)) ?_
  rw [mh_p17, nI_clamp (by omega)]
  refine eMO_unsubscribe_45 rfl ?_
  refine eMO_unsubscribe_46 rfl ?_
  refine eMO_unsubscribe_47 mh_o rfl ?_
  refine eMO_unsubscribe_50 ?_
  refine eMO_unsubscribe_51 mh_a16 (xn_in (by omega) (by decide)) ?_
  rw [nI_clamp (by omega)]
  rw [e16']
  refine eMO_unsubscribe_52 ?_
  refine eMO_unsubscribe_54 (by decide) ?_
  rw [erem]
  refine eMO_unsubscribe_55 mh_o (Nat.le_of_ble_eq_true rfl) (sMO_settle k1 (by omega) (fun j hj => by rw [ub18 (by omega)]; exact hb j hj)) ?_
  rintro _ h9 ⟨rfl, ze', si', T', M', rfl, k'⟩
  refine ⟨_, rfl, ?_⟩
  exact eMO_unsubscribe_58 ⟨rfl, ze', si', T', M', rfl, k'⟩
/-! covers -/
theorem lMO_blank {g : Nat → Nat} {e : Nat} (kt : mTx (si 1) g) (he : e ≤ 30)
  (kk : ∀ v2, x_K P (d + 4) mMO_covers 41 [some (.ref bm), some (.int (if fnd g 32 e 0 = e then -1 else nI (fnd g 32 e 0))), v2] [] (mh h0 bm ze si) Φ) :
  ∀ (i : Nat) (v2 bl : Int32), i ≤ e → (i = 0 → v2 = -1) → (0 < i → v2 = nI (i - 1)) → bl = (if fnd g 32 (e - i) i = e then -1 else nI (fnd g 32 (e - i) i)) → x_K P (d + 4) mMO_covers 14 [some (.ref bm), some (.int bl), some (.int v2)] [] (mh h0 bm ze si) Φ := by
  intro i
  induction i with
  | zero =>
    intro v2 bl hi h1 h2 hb
    rw [h1 rfl]
    rw [hb]
    refine eMO_covers_14 ?_
    refine eMO_covers_15 (fun c15 => ?_) (fun c => absurd (by decide) c)
    exact kk _
  | succ i ih =>
    intro v2 bl hi h1 h2 hb
    have e2 := h2 (by omega)
    rw [Nat.add_sub_cancel] at e2
    subst e2
    have ef : fnd g 32 (e - i) i = if g i = 32 then i else fnd g 32 (e - (i + 1)) (i + 1) := by
      rw [show e - i = (e - (i + 1)) + 1 by omega]
      rfl
    have e32 : nI (g i) = nI 32 ↔ g i = 32 := nI_eq (by have := (kt i (by omega)).2; omega) (by omega)
    have nxt : ∀ bl', bl' = (if fnd g 32 (e - i) i = e then -1 else nI (fnd g 32 (e - i) i)) → x_K P (d + 4) mMO_covers 35 [some (.ref bm), some (.int bl'), some (.int (nI i))] [] (mh h0 bm ze si) Φ := by
      intro bl' hb'
      refine eMO_covers_35 ?_
      skip
      refine eMO_covers_38 ?_
      refine ih _ bl' (by omega) (fun z => by subst z; rfl) (fun z => ?_) hb'
      obtain ⟨i', rfl⟩ : ∃ i', i = i' + 1 := ⟨i - 1, by omega⟩
      exact pk_m1 i'
    by_cases c1 : g i = 32
    · rw [if_pos c1] at ef
      refine eMO_covers_14 ?_
      refine eMO_covers_15 (fun c => absurd c (nI_pos (by omega))) (fun c15 => ?_)
      refine eMO_covers_18 rfl ?_
      refine eMO_covers_19 mh_o rfl ?_
      refine eMO_covers_22 ?_
      refine eMO_covers_23 mh_a1 (xn_in (by omega) (by decide)) ?_
      rw [nI_clamp (by omega)]
      rw [(kt i (by omega)).1]
      refine eMO_covers_24 ?_
      refine eMO_covers_26 (fun c => absurd (e32.mpr c1) c) (fun c26 => ?_)
      refine eMO_covers_29 ?_
      refine eMO_covers_30 ?_
      refine eMO_covers_34 ?_
      exact nxt _ (by rw [ef, if_neg (by omega)])
    · rw [if_neg c1] at ef
      refine eMO_covers_14 ?_
      refine eMO_covers_15 (fun c => absurd c (nI_pos (by omega))) (fun c15 => ?_)
      refine eMO_covers_18 rfl ?_
      refine eMO_covers_19 mh_o rfl ?_
      refine eMO_covers_22 ?_
      refine eMO_covers_23 mh_a1 (xn_in (by omega) (by decide)) ?_
      rw [nI_clamp (by omega)]
      rw [(kt i (by omega)).1]
      refine eMO_covers_24 ?_
      refine eMO_covers_26 (fun c26 => ?_) (fun c => absurd (e32.mp c) c1)
      refine eMO_covers_33 ?_
      refine eMO_covers_34 ?_
      exact nxt _ (by rw [ef]; exact hb)
/-- from 77 on -/
theorem kMO_cov {gd : Bool} {X : Bool} {v1 v2 : Option Value} (k : isM p S F T H fr M ze si) (hX : gd = true → ∃ F1 F2, isRF si 16 F1 ∧ isRF si 17 F2 ∧ X = fiInc F1 F2)
  (kk : ∀ ze' si', isM p (bs_n S 0) F T H (ub fr 18 (if gd then 0 else 1)) M ze' si' → Φ (.returned (some (.int (b2i (gd && X))))) (mh h0 bm ze' si')) :
  x_K P (d + 4) mMO_covers 77 [some (.ref bm), v1, v2] [.int (b2i gd)] (mh h0 bm ze si) Φ := by
  cases gd with
  | false =>
    have k1 := k.n0.flt 1 (x := 1) rfl
    refine eMO_covers_77 ?_
    refine eMO_covers_78 rfl ?_
    refine eMO_covers_79 ?_
    refine eMO_covers_80 mh_o (Nat.le_of_ble_eq_true rfl) ?_
    rw [mh_f1]
    refine eMO_covers_83 rfl ?_
    refine eMO_covers_84 ?_
    refine eMO_covers_85 (fun c85 => ?_) (fun c => absurd rfl c)
    refine eMO_covers_92 ?_
    refine eMO_covers_93 mh_o (Nat.le_of_ble_eq_true rfl) ?_
    rw [mh_f0]
    refine eMO_covers_96 ?_
    refine eMO_covers_97 (fun c97 => ?_) (fun c => absurd rfl c)
    refine eMO_covers_115 ?_
    exact eMO_covers_116 rfl (kk _ _ k1)
  | true =>
    have k1 := k.n0.flt 0 (x := 0) rfl
    obtain ⟨F1, F2, r1, r2, eX⟩ := hX rfl
    cases X with
    | false =>
      refine eMO_covers_77 ?_
      refine eMO_covers_78 rfl ?_
      refine eMO_covers_79 ?_
      refine eMO_covers_80 mh_o (Nat.le_of_ble_eq_true rfl) ?_
      rw [mh_f1]
      refine eMO_covers_83 rfl ?_
      refine eMO_covers_84 ?_
      refine eMO_covers_85 (fun c => absurd c (by decide)) (fun c85 => ?_)
      refine eMO_covers_88 ?_
      refine eMO_covers_89 ?_
      refine eMO_covers_93 mh_o (Nat.le_of_ble_eq_true rfl) ?_
      rw [mh_f0]
      refine eMO_covers_96 ?_
      refine eMO_covers_97 (fun c => absurd c (by decide)) (fun c97 => ?_)
      refine eMO_covers_100 rfl ?_
      refine eMO_covers_101 ?_
      refine eMO_covers_103 ?_
      refine eMO_covers_105 mh_o (Nat.le_of_ble_eq_true rfl) ((sMO_coversAll (f := 16) (g := 17) (by decide) (by decide) r1 r2)) ?_
      rintro _ _ ⟨rfl, rfl⟩
      refine ⟨_, rfl, ?_⟩
      rw [← eX]
      refine eMO_covers_108 (fun c108 => ?_) (fun c => absurd rfl c)
      refine eMO_covers_115 ?_
      exact eMO_covers_116 rfl (kk _ _ k1)
    | true =>
      refine eMO_covers_77 ?_
      refine eMO_covers_78 rfl ?_
      refine eMO_covers_79 ?_
      refine eMO_covers_80 mh_o (Nat.le_of_ble_eq_true rfl) ?_
      rw [mh_f1]
      refine eMO_covers_83 rfl ?_
      refine eMO_covers_84 ?_
      refine eMO_covers_85 (fun c => absurd c (by decide)) (fun c85 => ?_)
      refine eMO_covers_88 ?_
      refine eMO_covers_89 ?_
      refine eMO_covers_93 mh_o (Nat.le_of_ble_eq_true rfl) ?_
      rw [mh_f0]
      refine eMO_covers_96 ?_
      refine eMO_covers_97 (fun c => absurd c (by decide)) (fun c97 => ?_)
      refine eMO_covers_100 rfl ?_
      refine eMO_covers_101 ?_
      refine eMO_covers_103 ?_
      refine eMO_covers_105 mh_o (Nat.le_of_ble_eq_true rfl) ((sMO_coversAll (f := 16) (g := 17) (by decide) (by decide) r1 r2)) ?_
      rintro _ _ ⟨rfl, rfl⟩
      refine ⟨_, rfl, ?_⟩
      rw [← eX]
      refine eMO_covers_108 (fun c => absurd c (by decide)) (fun c108 => ?_)
      refine eMO_covers_111 ?_
      refine eMO_covers_112 ?_
      exact eMO_covers_116 rfl (kk _ _ k1)
def cvB (c : Option sp3 × Option sp3) : Bool := c.1.isSome && c.2.isSome
def cvX (c : Option sp3 × Option sp3) : Bool := match c with
  | (some F1, some F2) => fiInc F1 F2
  | _ => false
theorem sMO_covers (k : isM p S F T H fr M ze si) : x_K P (d + 4) mMO_covers 0 [some (.ref bm), none, none] [] (mh h0 bm ze si) (fun oc h' => oc = .returned (some (.int (b2i (cvB (cvF (b_g S) (b_n S)) && cvX (cvF (b_g S) (b_n S)))))) ∧ ∃ ze' si', h' = mh h0 bm ze' si' ∧ isM p (bs_n S 0) F T H (ub fr 18 (if cvB (cvF (b_g S) (b_n S)) then 0 else 1)) M ze' si') := by
  have k1 := k.flt 0 (x := 0) rfl
  have hn := k.1.2.2.1
  have hs := k.s16
  have e1 : upd ze 0 0 1 = nI (b_n S) := k1.1.2.1
  have kt : mTx (si 1) (b_g S) := k.1.1
  have hfl := fnd_le (b_g S) 32 (b_n S) 0
  have fin : ∀ (gd : Bool) (si' : Nat → Nat → Int32) (v1 v2 : Option Value), isM p S F T H (ub fr 18 0) M (upd ze 0 0) si' → gd = cvB (cvF (b_g S) (b_n S)) → (gd = true → ∃ F1 F2, isRF si' 16 F1 ∧ isRF si' 17 F2 ∧ cvX (cvF (b_g S) (b_n S)) = fiInc F1 F2) → x_K P (d + 4) mMO_covers 77 [some (.ref bm), v1, v2] [.int (b2i gd)] (mh h0 bm (upd ze 0 0) si') (fun oc h' => oc = .returned (some (.int (b2i (cvB (cvF (b_g S) (b_n S)) && cvX (cvF (b_g S) (b_n S)))))) ∧ ∃ ze' si', h' = mh h0 bm ze' si' ∧ isM p (bs_n S 0) F T H (ub fr 18 (if cvB (cvF (b_g S) (b_n S)) then 0 else 1)) M ze' si') := by
    intro gd si' v1 v2 k' hg hX
    refine kMO_cov (X := cvX (cvF (b_g S) (b_n S))) k' hX (fun ze2 si2 k2 => ?_)
    rw [ub_ub] at k2
    rw [← hg]
    exact ⟨rfl, ze2, si2, rfl, k2⟩
  have start : ∀ v2 bl : Int32, (b_n S = 0 → v2 = -1) → (0 < b_n S → v2 = nI (b_n S - 1)) → bl = -1 → x_K P (d + 4) mMO_covers 14 [some (.ref bm), some (.int bl), some (.int v2)] [] (mh h0 bm (upd ze 0 0) si) (fun oc h' => oc = .returned (some (.int (b2i (cvB (cvF (b_g S) (b_n S)) && cvX (cvF (b_g S) (b_n S)))))) ∧ ∃ ze' si', h' = mh h0 bm ze' si' ∧ isM p (bs_n S 0) F T H (ub fr 18 (if cvB (cvF (b_g S) (b_n S)) then 0 else 1)) M ze' si') := by
    intro v2 bl a1 a2 a3
    refine lMO_blank kt hn (fun v2' => ?_) (b_n S) v2 bl (Nat.le_refl _) a1 a2 (by rw [Nat.sub_self, a3]; exact (if_pos rfl).symm)
    by_cases c1 : fnd (b_g S) 32 (b_n S) 0 = b_n S
    · rw [if_pos c1]
      have eN : (cvF (b_g S) (b_n S)).2 = none := by
        unfold cvF
        rw [c1]
        show parseF (b_g S) (b_n S) (2 + 1) (b_n S + 1) fi0 = none
        simp only [parseF]
        have hE : fnE (b_g S) 38 (b_n S + 1) (b_n S) = b_n S := by
          unfold fnE
          rw [if_neg (by omega)]
        rw [hE, addC_short (by omega)]
      refine eMO_covers_41 ?_
      refine eMO_covers_42 (fun c42 => ?_) (fun c => absurd (by decide) c)
      refine eMO_covers_76 ?_
      exact fin false si _ _ k1 (by unfold cvB; rw [eN, Option.isSome_none, Bool.and_false]) (fun z => by cases z)
    · rw [if_neg c1]
      refine eMO_covers_41 ?_
      refine eMO_covers_42 (fun c => absurd c (nI_pos (by omega))) (fun c42 => ?_)
      refine eMO_covers_45 rfl ?_
      refine eMO_covers_46 ?_
      refine eMO_covers_48 ?_
      refine eMO_covers_49 ?_
      skip
      refine eMO_covers_50 mh_o (Nat.le_of_ble_eq_true rfl) (sMO_reads (f := 16) (a := 0) (to := fnd (b_g S) 32 (b_n S) 0) (by omega) (by decide) (Nat.zero_le _) kt) ?_
      rintro _ h9 ⟨si2, rfl, f2, rfl, r2⟩
      refine ⟨_, rfl, ?_⟩
      have k2 := k1.fm f2 hs
      have kt2 : mTx (si2 1) (b_g S) := k2.1.1
      cases q1 : parseF (b_g S) (fnd (b_g S) 32 (b_n S) 0) 3 0 fi0 with
      | none =>
        have eC : (cvF (b_g S) (b_n S)).1 = none := q1
        refine eMO_covers_53 (fun c53 => ?_) (fun c => absurd rfl c)
        refine eMO_covers_76 ?_
        exact fin false si2 _ _ k2 (by unfold cvB; rw [eC]; rfl) (fun z => by cases z)
      | some F1 =>
        have eC : (cvF (b_g S) (b_n S)).1 = some F1 := q1
        refine eMO_covers_53 (fun c => absurd c (show ¬ b2i true = 0 by decide)) (fun c53 => ?_)
        refine eMO_covers_56 rfl ?_
        refine eMO_covers_57 ?_
        refine eMO_covers_59 ?_
        refine eMO_covers_60 ?_
        refine eMO_covers_61 ?_
        rw [nI_1]
        refine eMO_covers_62 rfl ?_
        refine eMO_covers_63 mh_o rfl ?_
        rw [e1]
        skip
        refine eMO_covers_66 mh_o (Nat.le_of_ble_eq_true rfl) (sMO_reads (f := 17) (a := fnd (b_g S) 32 (b_n S) 0 + 1) (to := b_n S) hn (by decide) (by omega) kt2) ?_
        rintro _ h9 ⟨si3, rfl, f3, rfl, r3⟩
        refine ⟨_, rfl, ?_⟩
        have k3 := k2.fm f3 (by omega)
        cases q2 : parseF (b_g S) (b_n S) 3 (fnd (b_g S) 32 (b_n S) 0 + 1) fi0 with
        | none =>
          have eD : (cvF (b_g S) (b_n S)).2 = none := q2
          refine eMO_covers_69 (fun c69 => ?_) (fun c => absurd rfl c)
          refine eMO_covers_76 ?_
          exact fin false si3 _ _ k3 (by unfold cvB; rw [eD, Option.isSome_none, Bool.and_false]) (fun z => by cases z)
        | some F2 =>
          have eD : (cvF (b_g S) (b_n S)).2 = some F2 := q2
          have eE : cvF (b_g S) (b_n S) = (some F1, some F2) := Prod.ext eC eD
          refine eMO_covers_69 (fun c => absurd c (show ¬ b2i true = 0 by decide)) (fun c69 => ?_)
          refine eMO_covers_72 ?_
          refine eMO_covers_73 ?_
          exact fin true si3 _ _ k3 (by rw [eE]; rfl) (fun _ => ⟨F1, F2, (r2 F1 q1).km f3 (by decide), r3 F2 q2, by rw [eE]; rfl⟩)
  by_cases c0 : b_n S = 0
  · rw [c0] at e1
    refine eMO_covers_0 rfl ?_
    refine eMO_covers_1 ?_
    refine eMO_covers_2 mh_o (Nat.le_of_ble_eq_true rfl) ?_
    rw [mh_f0]
    refine eMO_covers_5 ?_
    refine eMO_covers_6 ?_
    refine eMO_covers_7 rfl ?_
    refine eMO_covers_8 mh_o rfl ?_
    rw [e1]
    refine eMO_covers_11 ?_
    refine eMO_covers_12 ?_
    refine eMO_covers_13 ?_
    exact start _ _ (fun _ => rfl) (fun z => by omega) rfl
  · obtain ⟨n', hn'⟩ : ∃ n', b_n S = n' + 1 := ⟨b_n S - 1, by omega⟩
    refine eMO_covers_0 rfl ?_
    refine eMO_covers_1 ?_
    refine eMO_covers_2 mh_o (Nat.le_of_ble_eq_true rfl) ?_
    rw [mh_f0]
    refine eMO_covers_5 ?_
    refine eMO_covers_6 ?_
    refine eMO_covers_7 rfl ?_
    refine eMO_covers_8 mh_o rfl ?_
    rw [e1]
    refine eMO_covers_11 ?_
    refine eMO_covers_12 ?_
    refine eMO_covers_13 ?_
    refine start _ _ (fun z => absurd z c0) (fun _ => ?_) rfl
    rw [hn', Nat.add_sub_cancel]
    exact nI_pred n'
end

