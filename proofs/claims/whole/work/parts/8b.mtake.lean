/-! The reference: taken -/
def hrT (S : bS) (j : Nat) (t : List Nat) : bS := bs_H S (ub (b_H S) j t)
def ppS (S : bS) (j : Nat) (l : List Nat) : bS := bs_Q S (ub (b_Q S) j l)
section
variable {p : Nat → Nat} {S S' : bS} {F : Nat → sp3} {T H M : Nat → List Nat} {fr : Nat → Nat} {ze ze' : Nat → Int32} {si si' : Nat → Nat → Int32}
theorem hrT_sm {j : Nat} {t : List Nat} : sm S (hrT S j t) := by
  unfold sm hrT
  rw [bg_n_H, bg_g_H, bg_s_H, bg_K_H, bg_su_H, bg_wa_H, bg_en_H, bg_N_H]
  exact ⟨rfl, rfl, rfl, rfl, rfl, rfl, rfl, rfl⟩
theorem ppS_sm {j : Nat} {t : List Nat} : sm S (ppS S j t) := by
  unfold sm ppS
  rw [bg_n_Q, bg_g_Q, bg_s_Q, bg_K_Q, bg_su_Q, bg_wa_Q, bg_en_Q, bg_N_Q]
  exact ⟨rfl, rfl, rfl, rfl, rfl, rfl, rfl, rfl⟩
theorem isM.hr {j : Nat} {t : List Nat} {t' : List Nat} {a b : Nat → Int32} (k : isM p S F T H fr M ze si) (hj : j < 10) (h18 : mLs a b (ub H j t')) (h2 : t'.map (b_wa S) = t ∧ (∀ x ∈ t', x < b_s S) ∧ t.Nodup) : isM p (hrT S j t) F T (ub H j t') fr M ze (va_up (va_up si 21 b) 20 a) := by
  have eH : b_H (hrT S j t) = ub (b_H S) j t := by unfold hrT; rw [bg_H]
  have eT : b_T (hrT S j t) = b_T S := by unfold hrT; rw [bg_T_H]
  have eQ : b_Q (hrT S j t) = b_Q S := by unfold hrT; rw [bg_Q_H]
  have ec : b_cn (hrT S j t) = b_cn S := by unfold hrT; rw [bg_cn_H]
  refine k.ch hrT_sm ⟨rfl, rfl, rfl⟩ (fun K hK => (if_neg (show K ≠ 20 by omega)).trans (if_neg (show K ≠ 21 by omega))) k.1.2.2.2 ?_ ⟨h18, fun i hi => ?_⟩ ?_ ?_ ?_
  · rw [eT]; exact k.told
  · rw [eH]
    by_cases e : i = j
    · subst e
      rw [ub_same, ub_same]
      exact h2
    · rw [ub_ne e, ub_ne e]
      exact k.heard.2 i hi
  · rw [eQ]; exact k.line
  · rw [ec]; exact k.cnt
  · rw [eQ]; exact k.inb
theorem mQs.pop {W m : Nat} {a b c : Nat → Int32} {f : Nat → Nat} {L : Nat → List Nat} (k : mQs W m a b c f L) {j x : Nat} {r : List Nat} (hx : L j = x :: r) : mQs W m (upd a j (nI (f j + 1))) b c (ub f j (f j + 1)) (ub L j r) := by
  intro i hi
  obtain ⟨a1, a2, a3, a4⟩ := k i hi
  by_cases e : i = j
  · subst e
    rw [hx, List.length_cons] at a2 a3
    rw [ub_same, ub_same]
    refine ⟨pk_us, by rw [a2]; congr 1; omega, by omega, fun q y hq => ?_⟩
    rw [show f i + 1 + q = f i + (q + 1) by omega]
    exact a4 (q + 1) y (by rw [hx, List.getElem?_cons_succ]; exact hq)
  · rw [ub_ne e, ub_ne e]
    exact ⟨by rw [pk_un e]; exact a1, a2, a3, a4⟩
theorem isM.pop {j x : Nat} {r : List Nat} {m : Nat} {l : List Nat} (k : isM p S F T H fr M ze si) (hj : j < 10) (hx : M j = x :: r) (hQ : b_Q S j = m :: l) : isM p (ppS S j l) F T H (ub fr j (fr j + 1)) (ub M j r) ze (va_up si 22 (upd (si 22) j (nI (fr j + 1)))) := by
  have eH : b_H (ppS S j l) = b_H S := by unfold ppS; rw [bg_H_Q]
  have eT : b_T (ppS S j l) = b_T S := by unfold ppS; rw [bg_T_Q]
  have eQ : b_Q (ppS S j l) = ub (b_Q S) j l := by unfold ppS; rw [bg_Q]
  have ec : b_cn (ppS S j l) = b_cn S := by unfold ppS; rw [bg_cn_Q]
  refine k.ch ppS_sm ⟨rfl, rfl, rfl⟩ (fun K hK => if_neg (show K ≠ 22 by omega)) (by rw [ub_ne (by omega)]; exact k.1.2.2.2) ?_ ?_ ⟨k.line.1.pop hx, fun i hi => ?_⟩ ?_ ?_
  · rw [eT]; exact k.told
  · rw [eH]; exact k.heard
  · rw [eQ]
    obtain ⟨a1, a2⟩ := k.line.2 i hi
    by_cases e : i = j
    · subst e
      rw [hx, hQ, List.map_cons] at a1
      rw [ub_same, ub_same]
      exact ⟨(List.cons.inj a1).2, fun y hy => a2 y (by rw [hx]; exact List.mem_cons_of_mem _ hy)⟩
    · rw [ub_ne e, ub_ne e]
      exact ⟨a1, a2⟩
  · rw [ec]; exact k.cnt
  · have e1 : (fun c => b_Q (ppS S j l) (10 + c)) = fun c => b_Q S (10 + c) := by
      funext c
      rw [eQ, ub_ne (by omega)]
    have e2 : (fun c => ub fr j (fr j + 1) (10 + c)) = fun c => fr (10 + c) := by
      funext c
      rw [ub_ne (by omega)]
    rw [e1, e2]
    exact k.inb
theorem rmv_at {l : List Nat} {n v : Nat} (hn : l.Nodup) (h : l[n]? = some v) : rmv v l = l.eraseIdx n := by
  have h1 := List.getElem?_eq_some_iff.mp h
  have e : l = l.take n ++ v :: l.drop (n + 1) := by
    rw [← h1.2, ← List.drop_eq_getElem_cons h1.1, List.take_append_drop]
  rw [List.eraseIdx_eq_take_drop_succ]
  rw [e] at hn
  have h2 := rmv_mid hn
  rw [← e] at h2
  exact h2
theorem rmv_no {l : List Nat} {v : Nat} (h : v ∉ l) : rmv v l = l := by
  unfold rmv
  rw [List.filter_eq_self]
  intro a ha
  rw [Bool.not_eq_true', beq_eq_false_iff_ne]
  exact fun z => h (by rw [← z]; exact ha)
end
section
variable {P : x_P} {d : Nat} {h0 : x_H} {bm : Nat} {p : Nat → Nat} {S : bS} {F : Nat → sp3} {T H M : Nat → List Nat} {fr : Nat → Nat} {ze : Nat → Int32} {si : Nat → Nat → Int32} {Φ : Outcome → x_H → Prop}
/-- where an alike filter stands in what was heard -/
def thR (S : bS) (H : Nat → List Nat) (j x n : Nat) (th : Int32) : Prop := (∃ i y, i < n ∧ (H j)[i]? = some y ∧ b_wa S y = b_wa S x ∧ th = nI i) ∨ ((∀ i y, i < n → (H j)[i]? = some y → b_wa S y ≠ b_wa S x) ∧ th = -1)
theorem lMO_there {j x : Nat} {v1 v2 v4 : Option Value} (k : isM p S F T H fr M ze si) (hj : j < 10) (hx : x < b_s S)
  (kk : ∀ th v7, thR S H j x (H j).length th → x_K P (d + 5) mMO_taken 118 [some (.ref bm), v1, v2, some (.int (nI j)), v4, some (.int (nI x)), some (.int th), v7] [] (mh h0 bm ze si) Φ) :
  ∀ (m q : Nat) (th : Int32), q + m = (H j).length → thR S H j x q th → x_K P (d + 5) mMO_taken 71 [some (.ref bm), v1, v2, some (.int (nI j)), v4, some (.int (nI x)), some (.int th), some (.int (nI q))] [] (mh h0 bm ze si) Φ := by
  obtain ⟨a1, a2, a3⟩ := k.heard.1 j hj
  have hH := k.heard.2 j hj
  intro m
  induction m with
  | zero =>
    intro q th hq ht
    have eq : q = (H j).length := by omega
    subst eq
    refine eMO_taken_71 ?_
    refine eMO_taken_73 rfl ?_
    refine eMO_taken_74 mh_o rfl ?_
    refine eMO_taken_77 ?_
    refine eMO_taken_78 mh_a20 (xn_in hj (by decide)) ?_
    rw [nI_clamp (by omega)]
    rw [a1]
    refine eMO_taken_79 (fun c79 => ?_) (fun c => absurd (nI_le (by omega) (by omega)) c)
    exact kk th _ ht
  | succ m ih =>
    intro q th hq ht
    obtain ⟨y, hy⟩ : ∃ y, (H j)[q]? = some y := ⟨(H j)[q]'(by omega), List.getElem?_eq_getElem (by omega)⟩
    have hys : y < b_s S := hH.2.1 y (List.mem_of_getElem? hy)
    cases c1 : decide (b_wa S y = b_wa S x) with
    | true =>
      refine eMO_taken_71 ?_
      refine eMO_taken_73 rfl ?_
      refine eMO_taken_74 mh_o rfl ?_
      refine eMO_taken_77 ?_
      refine eMO_taken_78 mh_a20 (xn_in hj (by decide)) ?_
      rw [nI_clamp (by omega)]
      rw [a1]
      refine eMO_taken_79 (fun c => absurd c (nI_ge (by omega) (by omega))) (fun c79 => ?_)
      refine eMO_taken_82 rfl ?_
      refine eMO_taken_83 rfl ?_
      refine eMO_taken_84 mh_o rfl ?_
      refine eMO_taken_87 ?_
      refine eMO_taken_89 ?_
      refine eMO_taken_90 ?_
      rw [mx16]
      refine eMO_taken_91 ?_
      refine eMO_taken_93 ?_
      rw [nI_add]
      refine eMO_taken_94 mh_a21 (xn_in (by omega) (by decide)) ?_
      rw [nI_clamp (by omega)]
      rw [a3 q y hy]
      refine eMO_taken_95 ?_
      refine eMO_taken_97 mh_o (Nat.le_of_ble_eq_true rfl) ((sMO_alike k hys hx)) ?_
      rintro _ _ ⟨rfl, rfl⟩
      refine ⟨_, rfl, ?_⟩
      rw [c1]
      refine eMO_taken_100 (fun c => absurd c (by decide)) (fun c100 => ?_)
      refine eMO_taken_103 ?_
      refine eMO_taken_105 ?_
      refine eMO_taken_110 ?_
      refine eMO_taken_112 ?_
      rw [nI_1]
      refine eMO_taken_115 ?_
      exact ih (q + 1) _ (by omega) (Or.inl ⟨q, y, by omega, hy, of_decide_eq_true c1, rfl⟩)
    | false =>
      have c2 := of_decide_eq_false c1
      refine eMO_taken_71 ?_
      refine eMO_taken_73 rfl ?_
      refine eMO_taken_74 mh_o rfl ?_
      refine eMO_taken_77 ?_
      refine eMO_taken_78 mh_a20 (xn_in hj (by decide)) ?_
      rw [nI_clamp (by omega)]
      rw [a1]
      refine eMO_taken_79 (fun c => absurd c (nI_ge (by omega) (by omega))) (fun c79 => ?_)
      refine eMO_taken_82 rfl ?_
      refine eMO_taken_83 rfl ?_
      refine eMO_taken_84 mh_o rfl ?_
      refine eMO_taken_87 ?_
      refine eMO_taken_89 ?_
      refine eMO_taken_90 ?_
      rw [mx16]
      refine eMO_taken_91 ?_
      refine eMO_taken_93 ?_
      rw [nI_add]
      refine eMO_taken_94 mh_a21 (xn_in (by omega) (by decide)) ?_
      rw [nI_clamp (by omega)]
      rw [a3 q y hy]
      refine eMO_taken_95 ?_
      refine eMO_taken_97 mh_o (Nat.le_of_ble_eq_true rfl) ((sMO_alike k hys hx)) ?_
      rintro _ _ ⟨rfl, rfl⟩
      refine ⟨_, rfl, ?_⟩
      rw [c1]
      refine eMO_taken_100 (fun c100 => ?_) (fun c => absurd rfl c)
      refine eMO_taken_108 ?_
      refine eMO_taken_110 ?_
      refine eMO_taken_112 ?_
      rw [nI_1]
      skip
      refine eMO_taken_115 ?_
      refine ih (q + 1) th (by omega) ?_
      rcases ht with ⟨i, y', z1, z2, z3, z4⟩ | ⟨z1, z2⟩
      · exact Or.inl ⟨i, y', by omega, z2, z3, z4⟩
      · refine Or.inr ⟨fun i y' h1 h2 => ?_, z2⟩
        by_cases e : i = q
        · subst e
          rw [hy] at h2
          rw [← Option.some.inj h2]
          exact c2
        · exact z1 i y' (by omega) h2
theorem lMO_shiftH {j n m : Nat} {v1 v2 v4 v5 v6 : Option Value} {si0 : Nat → Nat → Int32} (hj : j < 10) (hm : m ≤ 15) (h18 : si0 20 j = nI m)
  (kk : ∀ si' v7, (∀ K, K ≠ 21 → si' K = si0 K) → (∀ q, (q < 16 * j + n ∨ 16 * j + m ≤ q) → si' 21 q = si0 21 q) → (∀ q, 16 * j + n ≤ q → q < 16 * j + m → si' 21 q = si0 21 (q + 1)) → x_K P (d + 5) mMO_taken 228 [some (.ref bm), v1, v2, some (.int (nI j)), v4, v5, v6, v7] [] (mh h0 bm ze si') Φ) :
  ∀ (r i : Nat) (si : Nat → Nat → Int32), i + r = m → n ≤ i → (∀ K, K ≠ 21 → si K = si0 K) → (∀ q, (q < 16 * j + n ∨ 16 * j + i ≤ q) → si 21 q = si0 21 q) → (∀ q, 16 * j + n ≤ q → q < 16 * j + i → si 21 q = si0 21 (q + 1)) → x_K P (d + 5) mMO_taken 190 [some (.ref bm), v1, v2, some (.int (nI j)), v4, v5, v6, some (.int (nI (16 * j + i)))] [] (mh h0 bm ze si) Φ := by
  intro r
  induction r with
  | zero =>
    intro i si hi hn f e1 e2
    have e18 : si 20 j = nI m := by rw [f 20 (by decide)]; exact h18
    have ei : i = m := by omega
    subst ei
    refine eMO_taken_190 ?_
    refine eMO_taken_192 ?_
    refine eMO_taken_194 ?_
    refine eMO_taken_195 ?_
    rw [mx16]
    refine eMO_taken_196 rfl ?_
    refine eMO_taken_197 mh_o rfl ?_
    refine eMO_taken_200 ?_
    refine eMO_taken_201 mh_a20 (xn_in hj (by decide)) ?_
    rw [nI_clamp (by omega)]
    rw [e18]
    refine eMO_taken_202 ?_
    rw [nI_add]
    refine eMO_taken_203 (fun c203 => ?_) (fun c => absurd (nI_le (by omega) (by omega)) c)
    exact kk si _ f e1 e2
  | succ r ih =>
    intro i si hi hn f e1 e2
    have e18 : si 20 j = nI m := by rw [f 20 (by decide)]; exact h18
    refine eMO_taken_190 ?_
    refine eMO_taken_192 ?_
    refine eMO_taken_194 ?_
    refine eMO_taken_195 ?_
    rw [mx16]
    refine eMO_taken_196 rfl ?_
    refine eMO_taken_197 mh_o rfl ?_
    refine eMO_taken_200 ?_
    refine eMO_taken_201 mh_a20 (xn_in hj (by decide)) ?_
    rw [nI_clamp (by omega)]
    rw [e18]
    refine eMO_taken_202 ?_
    rw [nI_add]
    refine eMO_taken_203 (fun c => absurd c (nI_ge (by omega) (by omega))) (fun c203 => ?_)
    refine eMO_taken_206 rfl ?_
    refine eMO_taken_207 mh_o rfl ?_
    refine eMO_taken_210 ?_
    refine eMO_taken_212 rfl ?_
    refine eMO_taken_213 mh_o rfl ?_
    refine eMO_taken_216 ?_
    refine eMO_taken_218 ?_
    refine eMO_taken_219 ?_
    rw [nI_1]
    refine eMO_taken_220 mh_a21 (xn_in (by omega) (by decide)) ?_
    rw [nI_clamp (by omega)]
    refine eMO_taken_221 mh_a21 (xn_in (by omega) (by decide)) ?_
    rw [mh_p21, nI_clamp (by omega)]
    refine eMO_taken_222 ?_
    rw [nI_1]
    skip
    refine eMO_taken_225 ?_
    refine ih (i + 1) _ (by omega) (by omega) (fun K hK => (if_neg hK).trans (f K hK)) (fun q hq => ?_) (fun q hq1 hq2 => ?_)
    · show upd (si 21) _ _ q = _
      rw [pk_un (by omega)]
      exact e1 q (by omega)
    · show upd (si 21) _ _ q = _
      by_cases c : q = 16 * j + i
      · rw [c, pk_us]
        exact e1 _ (Or.inr (by omega))
      · rw [pk_un c]
        exact e2 q hq1 (by omega)
/-- the end of taken: the settling -/
theorem kMO_tkE {t x : Nat} {v1 v3 v5 v6 v7 : Option Value} (k : isM p S F T H fr M ze si) (ht : t < 6) (hx : x < 2 ^ 31) (hq : ∀ j, j < 10 → fr j + (b_Q (settleF p t S) j).length ≤ 1000)
  (kk : ∀ ze' si' T' M', isM p (settleF p t S) F T' H fr M' ze' si' → Φ (.returned (some (.int (nI (x % 4))))) (mh h0 bm ze' si')) :
  x_K P (d + 5) mMO_taken 228 [some (.ref bm), v1, some (.int (nI t)), v3, some (.int (nI x)), v5, v6, v7] [] (mh h0 bm ze si) Φ := by
  have e4 : nI x - nI x / 4 * 4 = nI (x % 4) := pk_rem hx (by decide) (by decide)
  refine eMO_taken_228 rfl ?_
  refine eMO_taken_229 ?_
  refine eMO_taken_230 mh_o (Nat.le_of_ble_eq_true rfl) (sMO_settle k ht hq) ?_
  rintro _ h9 ⟨rfl, ze', si', T', M', rfl, k'⟩
  refine ⟨_, rfl, ?_⟩
  refine eMO_taken_233 ?_
  refine eMO_taken_235 ?_
  refine eMO_taken_236 (by decide) ?_
  rw [e4]
  exact eMO_taken_237 (kk ze' si' T' M' k')
theorem mcv_eq {wa : Nat → Nat} {x : Nat} (hx : x % 4 ≤ 2) : mcv wa x % 3 = x % 4 ∧ mcv wa x / 3 = if x % 4 = 2 then x / 4 else wa (x / 4) := by
  unfold mcv
  split
  · omega
  · omega
theorem sMO_taken {u t j x : Nat} {r : List Nat} (k : isM p S F T H fr M ze si) (hp : isP p) (hu : u < 6) (ht : t < 6) (hk : lkF p (6 * u + t) = some j) (hx : M j = x :: r)
  (hq : ∀ i, i < 10 → (ub fr j (fr j + 1)) i + (b_Q (tkF p S j) i).length ≤ 1000) (hq2 : ∀ c, c < 8 → fr (10 + c) + (b_Q (tkF p S j) (10 + c)).length ≤ 520) :
  x_K P (d + 5) mMO_taken 0 [some (.ref bm), some (.int (nI u)), some (.int (nI t)), none, none, none, none, none] [] (mh h0 bm ze si) (fun oc h' => ∃ ze' si' T' H' M', h' = mh h0 bm ze' si' ∧ oc = .returned (some (.int (nI (x % 4)))) ∧ isM p (tkF p S j) F T' H' (ub fr j (fr j + 1)) M' ze' si') := by
  have hj : j < 10 := lkF_lt hk (by omega)
  have hkk := lkF_k hk
  rw [show (6 * u + t) / 6 = u by omega, show (6 * u + t) % 6 = t by omega] at hkk
  have e2 := k.2.1 (6 * u + t) (by omega)
  rw [hk] at e2
  obtain ⟨a1, a2, a3, a4⟩ := k.line.1 j hj
  obtain ⟨b1, b2⟩ := k.line.2 j hj
  obtain ⟨x1, x2, x3⟩ := b2 x (by rw [hx]; exact List.mem_cons_self)
  rw [hx, List.map_cons] at b1
  have hQ : b_Q S j = mcv (b_wa S) x :: r.map (mcv (b_wa S)) := b1.symm
  have hN := k.2.2.2.2.2.1.2.1
  have hs := k.s16
  have hxb : x < 4000 := by
    by_cases c : x % 4 = 2
    · have := x3 c; omega
    · have := x2 c; omega
  have e24 : si 24 (1000 * j + fr j) = nI x := a4 0 x (by rw [hx]; rfl)
  rw [hx, List.length_cons] at a3
  obtain ⟨m1, m2⟩ := mcv_eq (wa := b_wa S) x1
  have eT : tkF p S j = tkH p (ppS S j (r.map (mcv (b_wa S)))) j (mcv (b_wa S) x) := by
    unfold tkF
    rw [hQ]
    rfl
  have kp := k.pop hj hx hQ
  have hq' : ∀ c, c < 8 → (ub fr j (fr j + 1)) (10 + c) + (b_Q (tkF p S j) (10 + c)).length ≤ 520 := fun c hc => by
    rw [ub_ne (by omega)]
    exact hq2 c hc
  have ediv : nI x / 4 = nI (x / 4) := pk_div (by omega) (by decide) (by decide)
  have erem : nI x - nI x / 4 * 4 = nI (x % 4) := pk_rem (by omega) (by decide) (by decide)
  have en2 : nI (x % 4) = nI 2 ↔ x % 4 = 2 := nI_eq (by omega) (by omega)
  have en1 : nI (x % 4) = nI 1 ↔ x % 4 = 1 := nI_eq (by omega) (by omega)
  have en0 : nI (x % 4) = nI 0 ↔ x % 4 = 0 := nI_eq (by omega) (by omega)
  by_cases c2 : x % 4 = 2
  · have h3 := x3 c2
    obtain ⟨q, hq3⟩ : ∃ q, (b_N S)[x / 4]? = some q := ⟨(b_N S)[x / 4]'h3, List.getElem?_eq_getElem h3⟩
    have eF : tkF p S j = handleF p t (x / 4) (nI u) q.2 (ppS S j (r.map (mcv (b_wa S)))) := by
      rw [eT]
      unfold tkH
      rw [m1, if_pos c2, m2, if_pos c2, ppS_sm.2.2.2.2.2.2.2, hq3, hkk.1, hkk.2]
    rw [eF] at hq hq' ⊢
    refine eMO_taken_0 rfl ?_
    refine eMO_taken_1 mh_o rfl ?_
    refine eMO_taken_4 ?_
    refine eMO_taken_6 ?_
    refine eMO_taken_7 ?_
    rw [mx6]
    refine eMO_taken_8 ?_
    refine eMO_taken_9 ?_
    rw [nI_add]
    refine eMO_taken_10 mh_a2 (xn_in (by omega) (by decide)) ?_
    rw [nI_clamp (by omega)]
    rw [e2]
    refine eMO_taken_11 ?_
    refine eMO_taken_12 rfl ?_
    refine eMO_taken_13 mh_o rfl ?_
    refine eMO_taken_16 ?_
    refine eMO_taken_19 ?_
    refine eMO_taken_20 ?_
    rw [mx1000]
    refine eMO_taken_21 rfl ?_
    refine eMO_taken_22 mh_o rfl ?_
    refine eMO_taken_25 ?_
    refine eMO_taken_26 mh_a22 (xn_in hj (by decide)) ?_
    rw [nI_clamp (by omega)]
    rw [a1]
    refine eMO_taken_27 ?_
    rw [nI_add]
    refine eMO_taken_28 mh_a24 (xn_in (by omega) (by decide)) ?_
    rw [nI_clamp (by omega)]
    rw [e24]
    refine eMO_taken_29 ?_
    refine eMO_taken_31 rfl ?_
    refine eMO_taken_32 mh_o rfl ?_
    refine eMO_taken_35 ?_
    refine eMO_taken_36 rfl rfl ?_
    refine eMO_taken_37 mh_a22 (xn_in hj (by decide)) ?_
    rw [nI_clamp (by omega)]
    rw [a1]
    refine eMO_taken_38 ?_
    refine eMO_taken_39 ?_
    rw [nI_1]
    refine eMO_taken_40 mh_a22 (xn_in hj (by decide)) ?_
    rw [mh_p22, nI_clamp (by omega)]
    refine eMO_taken_41 ?_
    refine eMO_taken_43 ?_
    refine eMO_taken_44 (by decide) ?_
    rw [ediv]
    refine eMO_taken_45 ?_
    refine eMO_taken_47 ?_
    refine eMO_taken_49 ?_
    refine eMO_taken_50 (by decide) ?_
    rw [erem]
    refine eMO_taken_51 ?_
    refine eMO_taken_52 (fun c => absurd (en2.mpr c2) c) (fun c52 => ?_)
    refine eMO_taken_55 rfl ?_
    refine eMO_taken_56 ?_
    refine eMO_taken_57 ?_
    refine eMO_taken_59 ?_
    refine eMO_taken_60 mh_o (Nat.le_of_ble_eq_true rfl) ((sMO_handle (n := q.1) (w := q.2) kp ht (by rw [ppS_sm.2.2.2.2.2.2.2]; exact hq3) hq hq').up (d := d + 2) (by omega)) ?_
    rintro _ h9 ⟨rfl, ze', si', M', rfl, k'⟩
    refine ⟨_, rfl, ?_⟩
    refine eMO_taken_63 ?_
    refine eMO_taken_64 ⟨ze', si', T, H, M', rfl, ?_, k'⟩
    rw [c2]
    rfl
  · have hw := x2 c2
    have hwa : b_wa (ppS S j (r.map (mcv (b_wa S)))) = b_wa S := ppS_sm.2.2.2.2.2.1
    have hsS : b_s (ppS S j (r.map (mcv (b_wa S)))) = b_s S := ppS_sm.2.2.1
    have eH : b_H (ppS S j (r.map (mcv (b_wa S)))) = b_H S := by unfold ppS; rw [bg_H_Q]
    have eF : tkF p S j = settleF p t (hrT (ppS S j (r.map (mcv (b_wa S)))) j (if x % 4 = 0 then addL (b_H S j) (b_wa S (x / 4)) else rmv (b_wa S (x / 4)) (b_H S j))) := by
      rw [eT]
      unfold tkH hrT
      rw [m1, if_neg c2, m2, if_neg c2, hkk.2, eH]
    have hH := kp.heard.2 j hj
    have hH1 := kp.heard.1 j hj
    rw [hwa, hsS, eH] at hH
    rw [eF] at hq hq' ⊢
    refine eMO_taken_0 rfl ?_
    refine eMO_taken_1 mh_o rfl ?_
    refine eMO_taken_4 ?_
    refine eMO_taken_6 ?_
    refine eMO_taken_7 ?_
    rw [mx6]
    refine eMO_taken_8 ?_
    refine eMO_taken_9 ?_
    rw [nI_add]
    refine eMO_taken_10 mh_a2 (xn_in (by omega) (by decide)) ?_
    rw [nI_clamp (by omega)]
    rw [e2]
    refine eMO_taken_11 ?_
    refine eMO_taken_12 rfl ?_
    refine eMO_taken_13 mh_o rfl ?_
    refine eMO_taken_16 ?_
    refine eMO_taken_19 ?_
    refine eMO_taken_20 ?_
    rw [mx1000]
    refine eMO_taken_21 rfl ?_
    refine eMO_taken_22 mh_o rfl ?_
    refine eMO_taken_25 ?_
    refine eMO_taken_26 mh_a22 (xn_in hj (by decide)) ?_
    rw [nI_clamp (by omega)]
    rw [a1]
    refine eMO_taken_27 ?_
    rw [nI_add]
    refine eMO_taken_28 mh_a24 (xn_in (by omega) (by decide)) ?_
    rw [nI_clamp (by omega)]
    rw [e24]
    refine eMO_taken_29 ?_
    refine eMO_taken_31 rfl ?_
    refine eMO_taken_32 mh_o rfl ?_
    refine eMO_taken_35 ?_
    refine eMO_taken_36 rfl rfl ?_
    refine eMO_taken_37 mh_a22 (xn_in hj (by decide)) ?_
    rw [nI_clamp (by omega)]
    rw [a1]
    refine eMO_taken_38 ?_
    refine eMO_taken_39 ?_
    rw [nI_1]
    refine eMO_taken_40 mh_a22 (xn_in hj (by decide)) ?_
    rw [mh_p22, nI_clamp (by omega)]
    refine eMO_taken_41 ?_
    refine eMO_taken_43 ?_
    refine eMO_taken_44 (by decide) ?_
    rw [ediv]
    refine eMO_taken_45 ?_
    refine eMO_taken_47 ?_
    refine eMO_taken_49 ?_
    refine eMO_taken_50 (by decide) ?_
    rw [erem]
    refine eMO_taken_51 ?_
    refine eMO_taken_52 (fun c52 => ?_) (fun c => absurd (en2.mp c) c2)
    refine eMO_taken_65 ?_
    refine eMO_taken_66 ?_
    refine eMO_taken_68 ?_
    refine eMO_taken_69 ?_
    skip
    refine lMO_there (x := x / 4) kp hj (by rw [hsS]; exact hw) (fun th v7 hth => ?_) (H j).length 0 (-1) (Nat.zero_add _) (Or.inr ⟨fun i y h1 => absurd h1 (Nat.not_lt_zero _), rfl⟩)
    have hth' : (∃ n y, (H j)[n]? = some y ∧ (b_H S j)[n]? = some (b_wa S (x / 4)) ∧ th = nI n ∧ n < (H j).length) ∨ (b_wa S (x / 4) ∉ b_H S j ∧ th = -1) := by
      rcases hth with ⟨n, y, z1, z2, z3, z4⟩ | ⟨z1, z2⟩
      · rw [hwa] at z3
        exact Or.inl ⟨n, y, z2, by rw [← hH.1, List.getElem?_map, z2, ← z3]; rfl, z4, z1⟩
      · refine Or.inr ⟨fun z => ?_, z2⟩
        rw [← hH.1] at z
        obtain ⟨y, y1, y2⟩ := List.mem_map.mp z
        obtain ⟨i, i1, i2⟩ := List.getElem_of_mem y1
        have := z1 i y i1 (by rw [List.getElem?_eq_getElem i1, i2])
        rw [hwa] at this
        exact this y2
    -- nothing changes
    have same : (if x % 4 = 0 then addL (b_H S j) (b_wa S (x / 4)) else rmv (b_wa S (x / 4)) (b_H S j)) = b_H S j → ∀ v6 v7, x_K P (d + 5) mMO_taken 228 [some (.ref bm), some (.int (nI u)), some (.int (nI t)), some (.int (nI j)), some (.int (nI x)), some (.int (nI (x / 4))), v6, v7] [] (mh h0 bm ze (va_up si 22 (upd (si 22) j (nI (fr j + 1))))) (fun oc h' => ∃ ze' si' T' H' M', h' = mh h0 bm ze' si' ∧ oc = .returned (some (.int (nI (x % 4)))) ∧ isM p (settleF p t (hrT (ppS S j (r.map (mcv (b_wa S)))) j (if x % 4 = 0 then addL (b_H S j) (b_wa S (x / 4)) else rmv (b_wa S (x / 4)) (b_H S j)))) F T' H' (ub fr j (fr j + 1)) M' ze' si') := by
      intro es v6 v7
      rw [es] at hq ⊢
      have e9 : hrT (ppS S j (r.map (mcv (b_wa S)))) j (b_H S j) = ppS S j (r.map (mcv (b_wa S))) := by
        unfold hrT
        rw [eH, ub_id rfl, ← eH, bsi_H]
      rw [e9] at hq ⊢
      exact kMO_tkE kp ht (by omega) hq (fun ze' si' T' M' k' => ⟨ze', si', T', H, M', rfl, rfl, k'⟩)
    have c01 : x % 4 = 0 ∨ x % 4 = 1 := by omega
    rcases hth' with ⟨n, y, z1, z2, z3, z4⟩ | ⟨z1, z2⟩
    · subst z3
      rcases c01 with c0 | c1
      · -- told again
        refine eMO_taken_118 ?_
        refine eMO_taken_120 ?_
        refine eMO_taken_121 (by decide) ?_
        rw [erem]
        refine eMO_taken_122 (fun c => absurd (en0.mpr c0) c) (fun c122 => ?_)
        refine eMO_taken_125 ?_
        refine eMO_taken_127 (fun c127 => ?_) (fun c => absurd (nI_pos' (by omega)) c)
        refine eMO_taken_158 ?_
        refine eMO_taken_160 ?_
        refine eMO_taken_161 (by decide) ?_
        rw [erem]
        refine eMO_taken_162 ?_
        refine eMO_taken_163 (fun c163 => ?_) (fun c => absurd (en1.mp c) (by omega))
        skip
        refine same ?_ _ _
        rw [if_pos c0]
        unfold addL
        rw [if_pos (List.mem_of_getElem? z2)]
      · -- taken back
        have hlen := hH1.2.1
        have hdel : (H j).length - 1 + 1 = (H j).length := by omega
        have a20 : va_up si 22 (upd (si 22) j (nI (fr j + 1))) 20 j = nI (H j).length := hH1.1
        have a20m : nI (H j).length - 1 = nI ((H j).length - 1) := by
          rw [← hdel]
          exact nI_pred _
        refine eMO_taken_118 ?_
        refine eMO_taken_120 ?_
        refine eMO_taken_121 (by decide) ?_
        rw [erem]
        refine eMO_taken_122 (fun c122 => ?_) (fun c => absurd (en0.mp c) (by omega))
        refine eMO_taken_158 ?_
        refine eMO_taken_160 ?_
        refine eMO_taken_161 (by decide) ?_
        rw [erem]
        refine eMO_taken_162 ?_
        refine eMO_taken_163 (fun c => absurd (en1.mpr c1) c) (fun c163 => ?_)
        refine eMO_taken_166 ?_
        refine eMO_taken_168 (fun c => absurd c (nI_pos (by omega))) (fun c168 => ?_)
        refine eMO_taken_171 rfl ?_
        refine eMO_taken_172 mh_o rfl ?_
        refine eMO_taken_175 ?_
        refine eMO_taken_176 rfl rfl ?_
        refine eMO_taken_177 mh_a20 (xn_in hj (by decide)) ?_
        rw [nI_clamp (by omega)]
        rw [a20]
        refine eMO_taken_178 ?_
        refine eMO_taken_179 ?_
        rw [a20m]
        refine eMO_taken_180 mh_a20 (xn_in hj (by decide)) ?_
        rw [mh_p20, nI_clamp (by omega)]
        refine eMO_taken_181 ?_
        refine eMO_taken_183 ?_
        refine eMO_taken_184 ?_
        rw [mx16]
        refine eMO_taken_185 ?_
        refine eMO_taken_187 ?_
        rw [nI_add]
        refine eMO_taken_188 ?_
        skip
        refine lMO_shiftH (n := n) (m := (H j).length - 1) hj (by omega) pk_us (fun si1 v7' f1 e1 e2 => ?_) ((H j).length - 1 - n) n _ (by omega) (Nat.le_refl _) (fun _ _ => rfl) (fun _ _ => rfl) (fun q h1 h2 => absurd h2 (by omega))
        have hm2 := kp.heard.1.del (c := si1 21) hj z1 (fun q hq => e1 q (by omega)) (fun q h1 h2 => e2 q h1 (by omega))
        have er : rmv (b_wa S (x / 4)) (b_H S j) = ((H j).eraseIdx n).map (b_wa S) := by
          rw [rmv_at hH.2.2 z2, ← hH.1, List.eraseIdx_eq_take_drop_succ, List.eraseIdx_eq_take_drop_succ, List.map_append, List.map_take, List.map_drop]
        have k1 := kp.hr (t := rmv (b_wa S (x / 4)) (b_H S j)) (t' := (H j).eraseIdx n) hj hm2 ⟨by rw [hwa, er], fun y' hy' => by rw [hsS]; exact hH.2.1 y' (List.mem_of_mem_eraseIdx hy'), List.Pairwise.filter _ hH.2.2⟩
        have esi : si1 = va_up (va_up (va_up si 22 (upd (si 22) j (nI (fr j + 1)))) 21 (si1 21)) 20 (upd ((va_up si 22 (upd (si 22) j (nI (fr j + 1)))) 20) j (nI ((H j).length - 1))) := by
          funext K
          by_cases c18 : K = 20
          · subst c18
            rw [f1 20 (by decide)]
            rfl
          · by_cases c19 : K = 21
            · subst c19
              rfl
            · rw [f1 K c19]
              unfold va_up
              rw [if_neg c18, if_neg c18, if_neg c19]
        rw [if_neg (by omega)] at hq ⊢
        rw [esi]
        exact kMO_tkE k1 ht (by omega) hq (fun ze' si' T' M' k' => ⟨ze', si', T', _, M', rfl, rfl, k'⟩)
    · subst z2
      rcases c01 with c0 | c1
      · -- a new one
        have hnd : (b_H S j ++ [b_wa S (x / 4)]).Nodup := List.nodup_append.mpr ⟨hH.2.2, by simp, fun a ha b hb => by
          rw [List.mem_singleton.mp hb]
          exact fun e => z1 (by rw [← e]; exact ha)⟩
        have hlen : (H j).length < 16 := by
          have h7 := nd_len 16 _ hnd (fun y hy => by
            rcases List.mem_append.mp hy with q | q
            · rw [← hH.1] at q
              obtain ⟨y', q1, q2⟩ := List.mem_map.mp q
              rw [← q2]
              exact k.rl.wa16 hs (hH.2.1 y' q1)
            · rw [List.mem_singleton.mp q]
              exact k.rl.wa16 hs hw)
          rw [List.length_append, ← hH.1, List.length_map, List.length_singleton] at h7
          omega
        have a20 : va_up si 22 (upd (si 22) j (nI (fr j + 1))) 20 j = nI (H j).length := hH1.1
        have a20' : va_up (va_up si 22 (upd (si 22) j (nI (fr j + 1)))) 21 (upd (va_up si 22 (upd (si 22) j (nI (fr j + 1))) 21) (16 * j + (H j).length) (nI (x / 4))) 20 j = nI (H j).length := hH1.1
        refine eMO_taken_118 ?_
        refine eMO_taken_120 ?_
        refine eMO_taken_121 (by decide) ?_
        rw [erem]
        refine eMO_taken_122 (fun c => absurd (en0.mpr c0) c) (fun c122 => ?_)
        refine eMO_taken_125 ?_
        refine eMO_taken_127 (fun c => absurd c (by decide)) (fun c127 => ?_)
        refine eMO_taken_130 rfl ?_
        refine eMO_taken_131 mh_o rfl ?_
        refine eMO_taken_134 ?_
        refine eMO_taken_136 ?_
        refine eMO_taken_137 ?_
        rw [mx16]
        refine eMO_taken_138 rfl ?_
        refine eMO_taken_139 mh_o rfl ?_
        refine eMO_taken_142 ?_
        refine eMO_taken_143 mh_a20 (xn_in hj (by decide)) ?_
        rw [nI_clamp (by omega)]
        rw [a20]
        refine eMO_taken_144 ?_
        rw [nI_add]
        refine eMO_taken_145 ?_
        refine eMO_taken_147 mh_a21 (xn_in (by omega) (by decide)) ?_
        rw [mh_p21, nI_clamp (by omega)]
        refine eMO_taken_148 rfl ?_
        refine eMO_taken_149 mh_o rfl ?_
        refine eMO_taken_152 ?_
        refine eMO_taken_153 rfl rfl ?_
        refine eMO_taken_154 mh_a20 (xn_in hj (by decide)) ?_
        rw [nI_clamp (by omega)]
        rw [a20']
        refine eMO_taken_155 ?_
        refine eMO_taken_156 ?_
        rw [nI_1]
        refine eMO_taken_157 mh_a20 (xn_in hj (by decide)) ?_
        rw [mh_p20, nI_clamp (by omega)]
        refine eMO_taken_158 ?_
        refine eMO_taken_160 ?_
        refine eMO_taken_161 (by decide) ?_
        rw [erem]
        refine eMO_taken_162 ?_
        refine eMO_taken_163 (fun c163 => ?_) (fun c => absurd (en1.mp c) (by omega))
        skip
        have k1 := kp.hr (t := b_H S j ++ [b_wa S (x / 4)]) (t' := H j ++ [x / 4]) hj (kp.heard.1.add (x := x / 4) hj hlen) ⟨by rw [hwa, List.map_append, hH.1]; rfl, fun y hy => by
          rw [hsS]
          rcases List.mem_append.mp hy with q | q
          · exact hH.2.1 y q
          · rw [List.mem_singleton.mp q]; exact hw, hnd⟩
        have ea : addL (b_H S j) (b_wa S (x / 4)) = b_H S j ++ [b_wa S (x / 4)] := by
          unfold addL
          rw [if_neg z1]
        rw [if_pos c0, ea] at hq ⊢
        exact kMO_tkE k1 ht (by omega) hq (fun ze' si' T' M' k' => ⟨ze', si', T', _, M', rfl, rfl, k'⟩)
      · -- not there
        refine eMO_taken_118 ?_
        refine eMO_taken_120 ?_
        refine eMO_taken_121 (by decide) ?_
        rw [erem]
        refine eMO_taken_122 (fun c122 => ?_) (fun c => absurd (en0.mp c) (by omega))
        refine eMO_taken_158 ?_
        refine eMO_taken_160 ?_
        refine eMO_taken_161 (by decide) ?_
        rw [erem]
        refine eMO_taken_162 ?_
        refine eMO_taken_163 (fun c => absurd (en1.mpr c1) c) (fun c163 => ?_)
        refine eMO_taken_166 ?_
        refine eMO_taken_168 (fun c168 => ?_) (fun c => absurd (by decide) c)
        skip
        refine same ?_ _ _
        rw [if_neg (by omega)]
        exact rmv_no z1
end

