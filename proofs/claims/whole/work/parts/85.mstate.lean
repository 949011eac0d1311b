/-! The reference's state beside the object's -/
def mLn (a : Nat → Int32) (p : Nat → Nat) : Prop := ∀ k, k < 36 → a k = match lkF p k with
  | none => -1
  | some j => nI j
def mLs (a b : Nat → Int32) (T : Nat → List Nat) : Prop := ∀ j, j < 10 → a j = nI (T j).length ∧ (T j).length ≤ 16 ∧ ∀ i x, (T j)[i]? = some x → b (16 * j + i) = nI x
def mQs (W m : Nat) (a b c : Nat → Int32) (fr : Nat → Nat) (L : Nat → List Nat) : Prop := ∀ j, j < m → a j = nI (fr j) ∧ b j = nI (fr j + (L j).length) ∧ fr j + (L j).length ≤ W ∧ ∀ i x, (L j)[i]? = some x → c (W * j + (fr j + i)) = nI x
def mNs (a b c : Nat → Int32) (N : List (Nat × Int32 × Int32 × Int32)) : Prop := N.length ≤ 512 ∧ ∀ i q, N[i]? = some q → (a i = q.2.1 ∧ b i = q.2.2.1 ∧ c i = q.2.2.2) ∧ (-999 ≤ q.2.1.toInt ∧ q.2.1.toInt ≤ 1000) ∧ (-999 ≤ q.2.2.1.toInt ∧ q.2.2.1.toInt ≤ 1000) ∧ ∃ w : Nat, q.2.2.2 = nI w ∧ w < 1048576
def mcv (wa : Nat → Nat) (x : Nat) : Nat := if x % 4 = 2 then x / 4 * 3 + 2 else wa (x / 4) * 3 + x % 4
def rlF (S : bS) (F : Nat → sp3) : Prop := (b_K S).length ≤ b_s S ∧ (∀ k, k < b_s S → ∃ q : Nat × sp3, (b_K S)[b_wa S k]? = some q ∧ fiInc q.2 (F k) = true ∧ fiInc (F k) q.2 = true) ∧
  (∀ (a c : Nat) (q r : Nat × sp3), (b_K S)[a]? = some q → (b_K S)[c]? = some r → fiInc q.2 r.2 = true → fiInc r.2 q.2 = true → a = c)
def rlL (S : bS) (T L : Nat → List Nat) : Prop := ∀ j, j < 10 → (T j).map (b_wa S) = L j ∧ (∀ x ∈ T j, x < b_s S) ∧ (L j).Nodup
def rlM (S : bS) (M L : Nat → List Nat) : Prop := ∀ j, j < 10 → (M j).map (mcv (b_wa S)) = L j ∧ ∀ x ∈ M j, x % 4 ≤ 2 ∧ (x % 4 ≠ 2 → x / 4 < b_s S) ∧ (x % 4 = 2 → x / 4 < (b_N S).length)
def isM (p : Nat → Nat) (S : bS) (F : Nat → sp3) (T H : Nat → List Nat) (fr : Nat → Nat) (M : Nat → List Nat) (ze : Nat → Int32) (si : Nat → Nat → Int32) : Prop :=
  (mTx (si 1) (b_g S) ∧ ze 1 = nI (b_n S) ∧ b_n S ≤ 30 ∧ ze 0 = nI (fr 18)) ∧ mLn (si 2) p ∧
  (ze 3 = nI (b_s S) ∧ b_s S ≤ 16 ∧ (∀ k, k < b_s S → si 16 k = nI (b_su S k) ∧ b_su S k < 8) ∧ ∀ k, k < 16 → si 17 k = b2i (b_en S k)) ∧
  (∀ k, k < b_s S → isRF si k (F k)) ∧ (∀ f g, f < b_s S → g < b_s S → si 15 (16 * f + g) = b2i (fiInc (F f) (F g))) ∧
  (ze 5 = nI (b_N S).length ∧ mNs (si 27) (si 28) (si 29) (b_N S)) ∧ rlF S F ∧
  (mLs (si 18) (si 19) T ∧ rlL S T (b_T S)) ∧ (mLs (si 20) (si 21) H ∧ rlL S H (b_H S)) ∧ (mQs 1000 10 (si 22) (si 23) (si 24) fr M ∧ rlM S M (b_Q S)) ∧
  (ze 6 = nI (b_cn S 0) ∧ ze 7 = nI (b_cn S 1) ∧ ze 8 = nI (b_cn S 2) ∧ ze 9 = nI (b_cn S 3)) ∧ mQs 520 8 (si 30) (si 31) (si 32) (fun c => fr (10 + c)) (fun c => b_Q S (10 + c))
/-- the same texts, subscriptions, filters and notes -/
def sm (S S' : bS) : Prop := b_n S' = b_n S ∧ b_g S' = b_g S ∧ b_s S' = b_s S ∧ b_K S' = b_K S ∧ b_su S' = b_su S ∧ b_wa S' = b_wa S ∧ b_en S' = b_en S ∧ b_N S' = b_N S
section
variable {p : Nat → Nat} {S S' : bS} {F : Nat → sp3} {T H M T' H' M' : Nat → List Nat} {fr fr' : Nat → Nat} {ze ze' : Nat → Int32} {si si' : Nat → Nat → Int32}
theorem isRF.kA {f : Nat} {G : sp3} (k : isRF si f G) (h : ∀ K, 3 ≤ K → K ≤ 14 → si' K = si K) : isRF si' f G := by
  unfold isRF isRT isRX at k ⊢
  rw [h 3 (by decide) (by decide), h 4 (by decide) (by decide), h 5 (by decide) (by decide), h 6 (by decide) (by decide), h 7 (by decide) (by decide), h 8 (by decide) (by decide), h 9 (by decide) (by decide), h 10 (by decide) (by decide), h 11 (by decide) (by decide), h 12 (by decide) (by decide), h 13 (by decide) (by decide), h 14 (by decide) (by decide)]
  exact k
theorem sm.rf : sm S S := ⟨rfl, rfl, rfl, rfl, rfl, rfl, rfl, rfl⟩
theorem sm.trans {S2 : bS} (a : sm S S') (b : sm S' S2) : sm S S2 := ⟨b.1.trans a.1, b.2.1.trans a.2.1, b.2.2.1.trans a.2.2.1, b.2.2.2.1.trans a.2.2.2.1, b.2.2.2.2.1.trans a.2.2.2.2.1, b.2.2.2.2.2.1.trans a.2.2.2.2.2.1, b.2.2.2.2.2.2.1.trans a.2.2.2.2.2.2.1, b.2.2.2.2.2.2.2.trans a.2.2.2.2.2.2.2⟩
theorem rlL.sm {L : Nat → List Nat} (k : rlL S T L) (e : sm S S') : rlL S' T L := by
  unfold rlL at k ⊢
  rw [e.2.2.2.2.2.1, e.2.2.1]
  exact k
theorem rlM.sm {L : Nat → List Nat} (k : rlM S M L) (e : sm S S') : rlM S' M L := by
  unfold rlM at k ⊢
  rw [e.2.2.2.2.2.1, e.2.2.1, e.2.2.2.2.2.2.2]
  exact k
theorem rlF.sm (k : rlF S F) (e : sm S S') : rlF S' F := by
  unfold rlF at k ⊢
  rw [e.2.2.2.2.2.1, e.2.2.1, e.2.2.2.1]
  exact k
theorem isM.ch (k : isM p S F T H fr M ze si) (e : sm S S') (hz : ze' 1 = ze 1 ∧ ze' 3 = ze 3 ∧ ze' 5 = ze 5) (hs : ∀ K, K ≤ 17 ∨ K = 27 ∨ K = 28 ∨ K = 29 → si' K = si K) (hf : ze' 0 = nI (fr' 18))
  (h7 : mLs (si' 18) (si' 19) T' ∧ rlL S T' (b_T S')) (h8 : mLs (si' 20) (si' 21) H' ∧ rlL S H' (b_H S')) (h9 : mQs 1000 10 (si' 22) (si' 23) (si' 24) fr' M' ∧ rlM S M' (b_Q S'))
  (h10 : ze' 6 = nI (b_cn S' 0) ∧ ze' 7 = nI (b_cn S' 1) ∧ ze' 8 = nI (b_cn S' 2) ∧ ze' 9 = nI (b_cn S' 3)) (h11 : mQs 520 8 (si' 30) (si' 31) (si' 32) (fun c => fr' (10 + c)) (fun c => b_Q S' (10 + c))) :
  isM p S' F T' H' fr' M' ze' si' := by
  obtain ⟨a1, a2, a3, a4, a5, a6, a7, -⟩ := k
  obtain ⟨e1, e2, e3, e4, e5, e6, e7, e8⟩ := e
  have em : sm S S' := ⟨e1, e2, e3, e4, e5, e6, e7, e8⟩
  refine ⟨?_, ?_, ?_, ?_, ?_, ?_, a7.sm em, ⟨h7.1, h7.2.sm em⟩, ⟨h8.1, h8.2.sm em⟩, ⟨h9.1, h9.2.sm em⟩, h10, h11⟩
  · rw [hs 1 (by omega), hz.1, e1, e2]; exact ⟨a1.1, a1.2.1, a1.2.2.1, hf⟩
  · rw [hs 2 (by omega)]; exact a2
  · rw [hz.2.1, hs 16 (by omega), hs 17 (by omega), e3, e5, e7]; exact a3
  · rw [e3]; exact fun k hk => (a4 k hk).kA (fun K _ _ => hs K (by omega))
  · rw [e3, hs 15 (by omega)]; exact a5
  · rw [hz.2.2, hs 27 (by omega), hs 28 (by omega), hs 29 (by omega), e8]; exact a6
/-- scratch only -/
def frS (ze : Nat → Int32) (si : Nat → Nat → Int32) (ze' : Nat → Int32) (si' : Nat → Nat → Int32) : Prop := (∀ k, k ≠ 4 → ze' k = ze k) ∧ ∀ K, K ≠ 25 → K ≠ 26 → si' K = si K
theorem frS.rf : frS ze si ze si := ⟨fun _ _ => rfl, fun _ _ _ => rfl⟩
theorem frS.trans {ze2 : Nat → Int32} {si2 : Nat → Nat → Int32} (a : frS ze si ze' si') (b : frS ze' si' ze2 si2) : frS ze si ze2 si2 := ⟨fun k h1 => (b.1 k h1).trans (a.1 k h1), fun K h1 h2 => (b.2 K h1 h2).trans (a.2 K h1 h2)⟩
theorem isM.sc (k : isM p S F T H fr M ze si) (h : frS ze si ze' si') : isM p S F T H fr M ze' si' := by
  have k' := k
  obtain ⟨-, -, -, -, -, -, -, a8, a9, a10, a11, a12⟩ := k
  refine k'.ch sm.rf ⟨h.1 1 (by decide), h.1 3 (by decide), h.1 5 (by decide)⟩ (fun K hK => h.2 K (by omega) (by omega)) ((h.1 0 (by decide)).trans k'.1.2.2.2) ?_ ?_ ?_ ?_ ?_
  · rw [h.2 18 (by decide) (by decide), h.2 19 (by decide) (by decide)]; exact a8
  · rw [h.2 20 (by decide) (by decide), h.2 21 (by decide) (by decide)]; exact a9
  · rw [h.2 22 (by decide) (by decide), h.2 23 (by decide) (by decide), h.2 24 (by decide) (by decide)]; exact a10
  · rw [h.1 6 (by decide), h.1 7 (by decide), h.1 8 (by decide), h.1 9 (by decide)]; exact a11
  · rw [h.2 30 (by decide) (by decide), h.2 31 (by decide) (by decide), h.2 32 (by decide) (by decide)]; exact a12
theorem isM.s16 (k : isM p S F T H fr M ze si) : b_s S ≤ 16 := k.2.2.1.2.1
theorem isM.s3 (k : isM p S F T H fr M ze si) : ze 3 = nI (b_s S) := k.2.2.1.1
theorem isM.rl (k : isM p S F T H fr M ze si) : rlF S F := k.2.2.2.2.2.2.1
theorem isM.rf (k : isM p S F T H fr M ze si) {f : Nat} (hf : f < b_s S) : isRF si f (F f) := k.2.2.2.1 f hf
theorem isM.ov (k : isM p S F T H fr M ze si) {f g : Nat} (hf : f < b_s S) (hg : g < b_s S) : si 15 (16 * f + g) = b2i (fiInc (F f) (F g)) := k.2.2.2.2.1 f g hf hg
theorem isM.told (k : isM p S F T H fr M ze si) : mLs (si 18) (si 19) T ∧ rlL S T (b_T S) := k.2.2.2.2.2.2.2.1
theorem isM.heard (k : isM p S F T H fr M ze si) : mLs (si 20) (si 21) H ∧ rlL S H (b_H S) := k.2.2.2.2.2.2.2.2.1
theorem isM.line (k : isM p S F T H fr M ze si) : mQs 1000 10 (si 22) (si 23) (si 24) fr M ∧ rlM S M (b_Q S) := k.2.2.2.2.2.2.2.2.2.1
theorem isM.cnt (k : isM p S F T H fr M ze si) : ze 6 = nI (b_cn S 0) ∧ ze 7 = nI (b_cn S 1) ∧ ze 8 = nI (b_cn S 2) ∧ ze 9 = nI (b_cn S 3) := k.2.2.2.2.2.2.2.2.2.2.1
theorem isM.inb (k : isM p S F T H fr M ze si) : mQs 520 8 (si 30) (si 31) (si 32) (fun c => fr (10 + c)) (fun c => b_Q S (10 + c)) := k.2.2.2.2.2.2.2.2.2.2.2
/-- covering among subscriptions is covering among numbers of the catalog -/
theorem rlF.inc (k : rlF S F) {f g : Nat} (hf : f < b_s S) (hg : g < b_s S) : fiInc (F f) (F g) = (decide (b_wa S f = b_wa S g) || covB (b_K S) (b_wa S f) (b_wa S g)) := by
  obtain ⟨q, q1, q2, q3⟩ := k.2.1 f hf
  obtain ⟨r, r1, r2, r3⟩ := k.2.1 g hg
  have e : fiInc (F f) (F g) = fiInc q.2 r.2 := bool_ext ⟨fun z => fiInc_trans q2 (fiInc_trans z r3), fun z => fiInc_trans q3 (fiInc_trans z r2)⟩
  rw [e]
  refine bool_ext ?_
  rw [Bool.or_eq_true, decide_eq_true_eq, covB_iff]
  constructor
  · intro z
    by_cases h : b_wa S f = b_wa S g
    · exact Or.inl h
    · exact Or.inr ⟨q, r, q1, r1, h, z⟩
  · rintro (z | ⟨q', r', x1, x2, x3, x4⟩)
    · rw [z, r1] at q1
      rw [Option.some.inj q1]
      exact fiInc_refl
    · rw [q1] at x1
      rw [r1] at x2
      rw [Option.some.inj x1, Option.some.inj x2]
      exact x4
/-- no two of the catalog cover each other -/
theorem rlF.anti (k : rlF S F) {a c : Nat} (h1 : covB (b_K S) a c = true) : covB (b_K S) c a = false ∧ a ≠ c := by
  obtain ⟨q, r, x1, x2, x3, x4⟩ := covB_iff.mp h1
  refine ⟨?_, x3⟩
  rw [← Bool.not_eq_true]
  intro z
  obtain ⟨r', q', y1, y2, y3, y4⟩ := covB_iff.mp z
  rw [x1] at y2
  rw [x2] at y1
  have e1 := Option.some.inj y2
  have e2 := Option.some.inj y1
  subst e1 e2
  exact x3 (k.2.2 a c _ _ x1 x2 x4 y4)
theorem rlF.al (k : rlF S F) {f g : Nat} (hf : f < b_s S) (hg : g < b_s S) : (fiInc (F f) (F g) && fiInc (F g) (F f)) = decide (b_wa S f = b_wa S g) := by
  rw [k.inc hf hg, k.inc hg hf]
  by_cases h : b_wa S f = b_wa S g
  · rw [decide_eq_true h, decide_eq_true h.symm]
    rfl
  · rw [decide_eq_false h, decide_eq_false (fun z => h z.symm), Bool.false_or, Bool.false_or]
    cases c1 : covB (b_K S) (b_wa S f) (b_wa S g) with
    | false => rfl
    | true => rw [(k.anti c1).1]; rfl
end
section
variable {P : x_P} {d : Nat} {h0 : x_H} {bm : Nat} {p : Nat → Nat} {S : bS} {F : Nat → sp3} {T H M : Nat → List Nat} {fr : Nat → Nat} {ze : Nat → Int32} {si : Nat → Nat → Int32}
theorem sMO_isOver {f g : Nat} (k : isM p S F T H fr M ze si) (hf : f < b_s S) (hg : g < b_s S) : x_K P d mMO_isOver 0 [some (.ref bm), some (.int (nI f)), some (.int (nI g))] [] (mh h0 bm ze si) (fun oc h' => oc = .returned (some (.int (b2i (fiInc (F f) (F g))))) ∧ h' = mh h0 bm ze si) := by
  have hs := k.s16
  refine eMO_isOver_0 rfl ?_
  refine eMO_isOver_1 mh_o rfl ?_
  refine eMO_isOver_4 ?_
  refine eMO_isOver_6 ?_
  refine eMO_isOver_7 ?_
  rw [mx16]
  refine eMO_isOver_8 ?_
  refine eMO_isOver_9 ?_
  rw [nI_add]
  refine eMO_isOver_10 mh_a15 (xn_in (by omega) (by decide)) ?_
  rw [nI_clamp (by omega)]
  rw [k.ov hf hg]
  exact eMO_isOver_11 (b2i_n _) ⟨rfl, rfl⟩
theorem sMO_alike {f g : Nat} (k : isM p S F T H fr M ze si) (hf : f < b_s S) (hg : g < b_s S) : x_K P (d + 1) mMO_alike 0 [some (.ref bm), some (.int (nI f)), some (.int (nI g))] [] (mh h0 bm ze si) (fun oc h' => oc = .returned (some (.int (b2i (decide (b_wa S f = b_wa S g))))) ∧ h' = mh h0 bm ze si) := by
  rw [← k.rl.al hf hg]
  cases c1 : fiInc (F f) (F g) with
  | false =>
    refine eMO_alike_0 rfl ?_
    refine eMO_alike_1 ?_
    refine eMO_alike_2 ?_
    refine eMO_alike_3 mh_o (Nat.le_of_ble_eq_true rfl) (sMO_isOver k hf hg) ?_
    rintro _ _ ⟨rfl, rfl⟩
    refine ⟨_, rfl, ?_⟩
    rw [c1]
    refine eMO_alike_6 (fun c6 => ?_) (fun c => absurd rfl c)
    refine eMO_alike_22 ?_
    exact eMO_alike_23 rfl ⟨rfl, rfl⟩
  | true =>
    cases c2 : fiInc (F g) (F f) with
    | false =>
      refine eMO_alike_0 rfl ?_
      refine eMO_alike_1 ?_
      refine eMO_alike_2 ?_
      refine eMO_alike_3 mh_o (Nat.le_of_ble_eq_true rfl) (sMO_isOver k hf hg) ?_
      rintro _ _ ⟨rfl, rfl⟩
      refine ⟨_, rfl, ?_⟩
      rw [c1]
      refine eMO_alike_6 (fun c => absurd c (by decide)) (fun c6 => ?_)
      refine eMO_alike_9 rfl ?_
      refine eMO_alike_10 ?_
      refine eMO_alike_11 ?_
      refine eMO_alike_12 mh_o (Nat.le_of_ble_eq_true rfl) (sMO_isOver k hg hf) ?_
      rintro _ _ ⟨rfl, rfl⟩
      refine ⟨_, rfl, ?_⟩
      rw [c2]
      refine eMO_alike_15 (fun c15 => ?_) (fun c => absurd rfl c)
      refine eMO_alike_22 ?_
      exact eMO_alike_23 rfl ⟨rfl, rfl⟩
    | true =>
      refine eMO_alike_0 rfl ?_
      refine eMO_alike_1 ?_
      refine eMO_alike_2 ?_
      refine eMO_alike_3 mh_o (Nat.le_of_ble_eq_true rfl) (sMO_isOver k hf hg) ?_
      rintro _ _ ⟨rfl, rfl⟩
      refine ⟨_, rfl, ?_⟩
      rw [c1]
      refine eMO_alike_6 (fun c => absurd c (by decide)) (fun c6 => ?_)
      refine eMO_alike_9 rfl ?_
      refine eMO_alike_10 ?_
      refine eMO_alike_11 ?_
      refine eMO_alike_12 mh_o (Nat.le_of_ble_eq_true rfl) (sMO_isOver k hg hf) ?_
      rintro _ _ ⟨rfl, rfl⟩
      refine ⟨_, rfl, ?_⟩
      rw [c2]
      refine eMO_alike_15 (fun c => absurd c (by decide)) (fun c15 => ?_)
      refine eMO_alike_18 ?_
      refine eMO_alike_19 ?_
      exact eMO_alike_23 rfl ⟨rfl, rfl⟩
theorem sMO_isHere {q u : Nat} (k : isM p S F T H fr M ze si) (hq : q < b_s S) (hu : u < 6) : x_K P d mMO_isHere 0 [some (.ref bm), some (.int (nI q)), some (.int (nI u))] [] (mh h0 bm ze si) (fun oc h' => oc = .returned (some (.int (b2i (decide (b_en S q = false ∧ b_su S q % 6 = u))))) ∧ h' = mh h0 bm ze si) := by
  have hs := k.s16
  obtain ⟨e1, e2⟩ := k.2.2.1.2.2.1 q hq
  have e3 := k.2.2.1.2.2.2 q (by omega)
  have e4 : nI (b_su S q) - nI (b_su S q) / 6 * 6 = nI (b_su S q % 6) := pk_rem (by omega) (by decide) (by decide)
  cases c1 : b_en S q with
  | true =>
    rw [c1] at e3
    rw [decide_eq_false (fun z => by cases z.1)]
    refine eMO_isHere_0 rfl ?_
    refine eMO_isHere_1 mh_o rfl ?_
    refine eMO_isHere_4 ?_
    refine eMO_isHere_5 mh_a17 (xn_in (by omega) (by decide)) ?_
    rw [nI_clamp (by omega)]
    rw [e3]
    refine eMO_isHere_6 (fun c6 => ?_) (fun c => absurd c (by decide))
    refine eMO_isHere_26 ?_
    exact eMO_isHere_27 rfl ⟨rfl, rfl⟩
  | false =>
    rw [c1] at e3
    by_cases c2 : b_su S q % 6 = u
    · rw [decide_eq_true ⟨rfl, c2⟩]
      refine eMO_isHere_0 rfl ?_
      refine eMO_isHere_1 mh_o rfl ?_
      refine eMO_isHere_4 ?_
      refine eMO_isHere_5 mh_a17 (xn_in (by omega) (by decide)) ?_
      rw [nI_clamp (by omega)]
      rw [e3]
      refine eMO_isHere_6 (fun c => absurd rfl c) (fun c6 => ?_)
      refine eMO_isHere_9 rfl ?_
      refine eMO_isHere_10 mh_o rfl ?_
      refine eMO_isHere_13 ?_
      refine eMO_isHere_14 mh_a16 (xn_in (by omega) (by decide)) ?_
      rw [nI_clamp (by omega)]
      rw [e1]
      refine eMO_isHere_15 ?_
      refine eMO_isHere_17 (by decide) ?_
      rw [e4]
      refine eMO_isHere_18 ?_
      refine eMO_isHere_19 (fun c => absurd (by rw [c2]) c) (fun c19 => ?_)
      refine eMO_isHere_22 ?_
      refine eMO_isHere_23 ?_
      exact eMO_isHere_27 rfl ⟨rfl, rfl⟩
    · rw [decide_eq_false (fun z => c2 z.2)]
      refine eMO_isHere_0 rfl ?_
      refine eMO_isHere_1 mh_o rfl ?_
      refine eMO_isHere_4 ?_
      refine eMO_isHere_5 mh_a17 (xn_in (by omega) (by decide)) ?_
      rw [nI_clamp (by omega)]
      rw [e3]
      refine eMO_isHere_6 (fun c => absurd rfl c) (fun c6 => ?_)
      refine eMO_isHere_9 rfl ?_
      refine eMO_isHere_10 mh_o rfl ?_
      refine eMO_isHere_13 ?_
      refine eMO_isHere_14 mh_a16 (xn_in (by omega) (by decide)) ?_
      rw [nI_clamp (by omega)]
      rw [e1]
      refine eMO_isHere_15 ?_
      refine eMO_isHere_17 (by decide) ?_
      rw [e4]
      refine eMO_isHere_18 ?_
      refine eMO_isHere_19 (fun c19 => ?_) (fun c => absurd ((nI_eq (by omega) (by omega)).mp c) c2)
      refine eMO_isHere_26 ?_
      exact eMO_isHere_27 rfl ⟨rfl, rfl⟩
/-! rows -/
def mRw (ze : Nat → Int32) (si : Nat → Nat → Int32) (l : List Nat) : Prop := ze 4 = nI l.length ∧ ∀ i x, l[i]? = some x → si 25 i = nI x
theorem sMO_add {x : Nat} {l : List Nat} (k : mRw ze si l) (hl : l.length < 128) : x_K P d mMO_add 0 [some (.ref bm), some (.int (nI x))] [] (mh h0 bm ze si) (fun oc h' => oc = .returned none ∧ ∃ ze' si', h' = mh h0 bm ze' si' ∧ frS ze si ze' si' ∧ mRw ze' si' (l ++ [x])) := by
  refine eMO_add_0 rfl ?_
  refine eMO_add_1 mh_o rfl ?_
  refine eMO_add_4 rfl ?_
  refine eMO_add_5 mh_o rfl ?_
  rw [k.1]
  refine eMO_add_8 ?_
  refine eMO_add_9 mh_a25 (xn_in hl (by decide)) ?_
  rw [mh_p25, nI_clamp (by omega)]
  refine eMO_add_10 rfl ?_
  refine eMO_add_11 rfl ?_
  refine eMO_add_12 mh_o rfl ?_
  rw [k.1]
  refine eMO_add_15 ?_
  refine eMO_add_16 ?_
  rw [nI_1]
  refine eMO_add_17 mh_o (Nat.le_of_ble_eq_true rfl) ?_
  rw [mh_f4]
  refine eMO_add_20 ⟨rfl, _, _, rfl, ⟨fun j h4 => if_neg h4, fun K h25 _ => if_neg h25⟩, ?_, fun i y hi => ?_⟩
  · rw [List.length_append]
    exact pk_us
  · show upd (si 25) l.length (nI x) i = nI y
    by_cases h2 : i = l.length
    · subst h2
      rw [pk_us]
      rw [List.getElem?_append_right (Nat.le_refl _), Nat.sub_self] at hi
      rw [Option.some.inj hi]
    · rw [pk_un h2]
      have h3 := (List.getElem?_eq_some_iff.mp hi).1
      rw [List.length_append, List.length_singleton] at h3
      rw [List.getElem?_append_left (by omega)] at hi
      exact k.2 i y hi
end

