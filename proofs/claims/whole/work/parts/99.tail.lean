/-! The wrappers' contracts; the law's roads, case by case -/
theorem vp01 : vp_in 0 1 := by unfold vp_in; decide
theorem cmp_eq {x y : Int64} (h : x = y) : lg_cmp x y = 0 := by subst h; simp [lg_cmp]
theorem updL_0 {f : Nat → Int64} {v : Int64} : vp_updL f (0 : Int32).toNatClampNeg v 0 = v := by
  have e : (0 : Int32).toNatClampNeg = 0 := by decide
  rw [e]
  simp [vp_updL]
section
variable {P : x_P} {b ar bm i : Nat} {h : x_H} {Φ Ψ : Outcome → x_H → Prop} {fs : List Value}
theorem wLW_subscribe {c : Int32} (hb : h.1 b = some (.inr (0, fs))) (kc : x_K P 10 mBT_subscribe 0 [some (.ref b), some (.int c), none, none] [] h Ψ) (k : ∀ oc h1, Ψ oc h1 → (∃ u f, oc = .returned (some (.int u)) ∧ h1.1 ar = some (arL f) ∧ Φ (.returned (some (.int 0))) (x_put h1 ar (arL (vp_updL f (0 : Int32).toNatClampNeg u.toInt64)))) ∨ (∃ x, oc = .threw x ∧ h1.1 x = some (.inr (10, [])) ∧ Φ (.returned (some (.int 1))) h1) ∨ (∃ x, oc = .threw x ∧ h1.1 x = some (.inr (11, [])) ∧ Φ (.returned (some (.int 2))) h1)) : x_KG (x_ET tLW_subscribe) P 11 mLW_subscribe 0 [some (.ref b), some (.int c), some (.ref ar), none] [] h Φ := by
  refine eLW_subscribe_0 rfl ?_
  refine eLW_subscribe_1 ?_
  refine eLW_subscribe_2 rfl ?_
  refine eLW_subscribe_3 ?_
  obtain ⟨oc, h1, a, j⟩ := kc
  rcases k oc h1 a with ⟨u, f, rfl, hf, hΦ⟩ | ⟨x, rfl, hx, hΦ⟩ | ⟨x, rfl, hx, hΦ⟩
  · refine eLW_subscribe_4 (Ψ := fun oc h' => oc = .returned (some (.int u)) ∧ h' = h1) hb (Nat.le_of_ble_eq_true rfl) ⟨_, h1, ⟨rfl, rfl⟩, j⟩ ?_
    rintro _ _ ⟨rfl, rfl⟩
    refine ⟨_, rfl, ?_⟩
    refine eLW_subscribe_7  ?_
    refine eLW_subscribe_8 hf vp01 ?_
    refine eLW_subscribe_9  ?_
    refine eLW_subscribe_18  ?_
    exact eLW_subscribe_19 hΦ
  · refine eLW_subscribe_4T10 hb (Nat.le_of_ble_eq_true rfl) hx j ?_
    refine eLW_subscribe_12 rfl ?_
    refine eLW_subscribe_13 ?_
    exact eLW_subscribe_14 hΦ
  · refine eLW_subscribe_4T11 hb (Nat.le_of_ble_eq_true rfl) hx j ?_
    refine eLW_subscribe_15 rfl ?_
    refine eLW_subscribe_16 ?_
    exact eLW_subscribe_17 hΦ
theorem wLW_unsubscribe {c : Int32} (hb : h.1 b = some (.inr (0, fs))) (kc : x_K P 10 mBT_unsubscribe 0 [some (.ref b), some (.int c)] [] h Ψ) (k : ∀ oc h1, Ψ oc h1 → (oc = .returned none ∧ Φ (.returned (some (.int 0))) h1) ∨ (∃ x, oc = .threw x ∧ h1.1 x = some (.inr (12, [])) ∧ Φ (.returned (some (.int 1))) h1)) : x_KG (x_ET tLW_unsubscribe) P 11 mLW_unsubscribe 0 [some (.ref b), some (.int c), none] [] h Φ := by
  refine eLW_unsubscribe_0 rfl ?_
  refine eLW_unsubscribe_1 ?_
  obtain ⟨oc, h1, a, j⟩ := kc
  rcases k oc h1 a with ⟨rfl, hΦ⟩ | ⟨x, rfl, hx, hΦ⟩
  · refine eLW_unsubscribe_2 (Ψ := fun oc h' => oc = .returned none ∧ h' = h1) hb (Nat.le_of_ble_eq_true rfl) ⟨_, h1, ⟨rfl, rfl⟩, j⟩ ?_
    rintro _ _ ⟨rfl, rfl⟩
    refine ⟨_, rfl, ?_⟩
    refine eLW_unsubscribe_5  ?_
    refine eLW_unsubscribe_11  ?_
    exact eLW_unsubscribe_12 hΦ
  · refine eLW_unsubscribe_2T12 hb (Nat.le_of_ble_eq_true rfl) hx j ?_
    refine eLW_unsubscribe_8 rfl ?_
    refine eLW_unsubscribe_9 ?_
    exact eLW_unsubscribe_10 hΦ
theorem wLW_publish {c x y : Int32} (hb : h.1 b = some (.inr (0, fs))) (kc : x_K P 10 mBT_publish 0 [some (.ref b), some (.int c), some (.int x), some (.int y), none, none] [] h Ψ) (k : ∀ oc h1, Ψ oc h1 → (∃ u f, oc = .returned (some (.int u)) ∧ h1.1 ar = some (arL f) ∧ Φ (.returned (some (.int 0))) (x_put h1 ar (arL (vp_updL f (0 : Int32).toNatClampNeg u.toInt64)))) ∨ (∃ x, oc = .threw x ∧ h1.1 x = some (.inr (10, [])) ∧ Φ (.returned (some (.int 1))) h1)) : x_KG (x_ET tLW_publish) P 11 mLW_publish 0 [some (.ref b), some (.int c), some (.int x), some (.int y), some (.ref ar), none] [] h Φ := by
  refine eLW_publish_0 rfl ?_
  refine eLW_publish_2 ?_
  refine eLW_publish_3 rfl ?_
  refine eLW_publish_4 ?_
  refine eLW_publish_5 ?_
  refine eLW_publish_6 ?_
  obtain ⟨oc, h1, a, j⟩ := kc
  rcases k oc h1 a with ⟨u, f, rfl, hf, hΦ⟩ | ⟨x, rfl, hx, hΦ⟩
  · refine eLW_publish_7 (Ψ := fun oc h' => oc = .returned (some (.int u)) ∧ h' = h1) hb (Nat.le_of_ble_eq_true rfl) ⟨_, h1, ⟨rfl, rfl⟩, j⟩ ?_
    rintro _ _ ⟨rfl, rfl⟩
    refine ⟨_, rfl, ?_⟩
    refine eLW_publish_10  ?_
    refine eLW_publish_11 hf vp01 ?_
    refine eLW_publish_12  ?_
    refine eLW_publish_19  ?_
    exact eLW_publish_20 hΦ
  · refine eLW_publish_7T10 hb (Nat.le_of_ble_eq_true rfl) hx j ?_
    refine eLW_publish_15 rfl ?_
    refine eLW_publish_17 ?_
    exact eLW_publish_18 hΦ
theorem wLW_take {c x : Int32} (hb : h.1 b = some (.inr (0, fs))) (kc : x_K P 10 mBT_take 0 [some (.ref b), some (.int c), some (.int x), none] [] h Ψ) (k : ∀ oc h1, Ψ oc h1 → (∃ u f, oc = .returned (some (.int u)) ∧ h1.1 ar = some (arL f) ∧ Φ (.returned (some (.int 0))) (x_put h1 ar (arL (vp_updL f (0 : Int32).toNatClampNeg u.toInt64)))) ∨ (∃ x, oc = .threw x ∧ h1.1 x = some (.inr (12, [])) ∧ Φ (.returned (some (.int 1))) h1)) : x_KG (x_ET tLW_take) P 11 mLW_take 0 [some (.ref b), some (.int c), some (.int x), some (.ref ar), none] [] h Φ := by
  refine eLW_take_0 rfl ?_
  refine eLW_take_1 ?_
  refine eLW_take_2 rfl ?_
  refine eLW_take_3 ?_
  refine eLW_take_4 ?_
  obtain ⟨oc, h1, a, j⟩ := kc
  rcases k oc h1 a with ⟨u, f, rfl, hf, hΦ⟩ | ⟨x, rfl, hx, hΦ⟩
  · refine eLW_take_5 (Ψ := fun oc h' => oc = .returned (some (.int u)) ∧ h' = h1) hb (Nat.le_of_ble_eq_true rfl) ⟨_, h1, ⟨rfl, rfl⟩, j⟩ ?_
    rintro _ _ ⟨rfl, rfl⟩
    refine ⟨_, rfl, ?_⟩
    refine eLW_take_8  ?_
    refine eLW_take_9 hf vp01 ?_
    refine eLW_take_10  ?_
    refine eLW_take_17  ?_
    exact eLW_take_18 hΦ
  · refine eLW_take_5T12 hb (Nat.le_of_ble_eq_true rfl) hx j ?_
    refine eLW_take_13 rfl ?_
    refine eLW_take_15 ?_
    exact eLW_take_16 hΦ
theorem wLW_read {c : Int32} (hb : h.1 b = some (.inr (0, fs))) (kc : x_K P 10 mBT_read 0 [some (.ref b), some (.int c), none] [] h Ψ) (k : ∀ oc h1, Ψ oc h1 → (∃ u f, oc = .returned (some (.int u)) ∧ h1.1 ar = some (arL f) ∧ Φ (.returned (some (.int 0))) (x_put h1 ar (arL (vp_updL f (0 : Int32).toNatClampNeg u.toInt64)))) ∨ (∃ x, oc = .threw x ∧ h1.1 x = some (.inr (10, [])) ∧ Φ (.returned (some (.int 1))) h1) ∨ (∃ x, oc = .threw x ∧ h1.1 x = some (.inr (12, [])) ∧ Φ (.returned (some (.int 2))) h1)) : x_KG (x_ET tLW_read) P 11 mLW_read 0 [some (.ref b), some (.int c), some (.ref ar), none] [] h Φ := by
  refine eLW_read_0 rfl ?_
  refine eLW_read_1 ?_
  refine eLW_read_2 rfl ?_
  refine eLW_read_3 ?_
  obtain ⟨oc, h1, a, j⟩ := kc
  rcases k oc h1 a with ⟨u, f, rfl, hf, hΦ⟩ | ⟨x, rfl, hx, hΦ⟩ | ⟨x, rfl, hx, hΦ⟩
  · refine eLW_read_4 (Ψ := fun oc h' => oc = .returned (some (.int u)) ∧ h' = h1) hb (Nat.le_of_ble_eq_true rfl) ⟨_, h1, ⟨rfl, rfl⟩, j⟩ ?_
    rintro _ _ ⟨rfl, rfl⟩
    refine ⟨_, rfl, ?_⟩
    refine eLW_read_7  ?_
    refine eLW_read_8 hf vp01 ?_
    refine eLW_read_9  ?_
    refine eLW_read_18  ?_
    exact eLW_read_19 hΦ
  · refine eLW_read_4T10 hb (Nat.le_of_ble_eq_true rfl) hx j ?_
    refine eLW_read_12 rfl ?_
    refine eLW_read_13 ?_
    exact eLW_read_14 hΦ
  · refine eLW_read_4T12 hb (Nat.le_of_ble_eq_true rfl) hx j ?_
    refine eLW_read_15 rfl ?_
    refine eLW_read_16 ?_
    exact eLW_read_17 hΦ
theorem wLW_covers (hb : h.1 b = some (.inr (0, fs))) (kc : x_K P 10 mBT_covers 0 [some (.ref b), none, none, none] [] h Ψ) (k : ∀ oc h1, Ψ oc h1 → (∃ u f, oc = .returned (some (.int (b2i u))) ∧ h1.1 ar = some (arL f) ∧ Φ (.returned (some (.int 0))) (x_put h1 ar (arL (vp_updL f (0 : Int32).toNatClampNeg (if u then 1 else 0))))) ∨ (∃ x, oc = .threw x ∧ h1.1 x = some (.inr (10, [])) ∧ Φ (.returned (some (.int 1))) h1)) : x_KG (x_ET tLW_covers) P 11 mLW_covers 0 [some (.ref b), some (.ref ar), none] [] h Φ := by
  refine eLW_covers_0 rfl ?_
  refine eLW_covers_1 ?_
  refine eLW_covers_2 rfl ?_
  obtain ⟨oc, h1, a, j⟩ := kc
  rcases k oc h1 a with ⟨u, f, rfl, hf, hΦ⟩ | ⟨x, rfl, hx, hΦ⟩
  · refine eLW_covers_3 (Ψ := fun oc h' => oc = .returned (some (.int (b2i u))) ∧ h' = h1) hb (Nat.le_of_ble_eq_true rfl) ⟨_, h1, ⟨rfl, rfl⟩, j⟩ ?_
    rintro _ _ ⟨rfl, rfl⟩
    refine ⟨_, rfl, ?_⟩
    cases u with
    | true =>
      refine eLW_covers_6 (fun c => absurd c (by decide)) (fun _ => ?_)
      refine eLW_covers_9 ?_
      refine eLW_covers_10 ?_
      refine eLW_covers_14 hf vp01 ?_
      refine eLW_covers_15 ?_
      refine eLW_covers_21 ?_
      exact eLW_covers_22 hΦ
    | false =>
      refine eLW_covers_6 (fun _ => ?_) (fun c => absurd rfl c)
      refine eLW_covers_13 ?_
      refine eLW_covers_14 hf vp01 ?_
      refine eLW_covers_15 ?_
      refine eLW_covers_21 ?_
      exact eLW_covers_22 hΦ
  · refine eLW_covers_3T10 hb (Nat.le_of_ble_eq_true rfl) hx j ?_
    refine eLW_covers_18 rfl ?_
    refine eLW_covers_19 ?_
    exact eLW_covers_20 hΦ
theorem tl_subscribe {r : Int32} {v : Int32} {v5 v6 : Option Value} {Ψ1 Ψ2 : x_H → Prop} (g1 : vp_in (nI i + 1) P.2.2.2.2.2.1) (kW : x_KG (x_ET tLW_subscribe) P 11 mLW_subscribe 0 [some (.ref b), some (.int (P.2.2.2.2.2.2.1 (nI i + 1).toNatClampNeg)), some (.ref (bm + 33)), none] [] h (fun oc h1 => oc = .returned (some (.int r)) ∧ Ψ1 h1)) (kM : ∀ h1, Ψ1 h1 → (∃ fm, h1.1 bm = some (.inr (8, fm))) ∧ x_K P 11 mMO_subscribe 0 [some (.ref bm), some (.int (P.2.2.2.2.2.2.1 (nI i + 1).toNatClampNeg)), none, none, none] [] h1 (fun oc h2 => oc = .returned (some (.int v)) ∧ (∃ ze si, h2 = mh h2 bm ze si ∧ ze 0 = r) ∧ (r = 0 → ∃ f, h2.1 (bm + 33) = some (arL f) ∧ f 0 = v.toInt64) ∧ Ψ2 h2)) (kk : ∀ h2 v5 v6, Ψ2 h2 → x_KG x_EL P 12 mLW_law 622 [some (.ref P.2.2.2.2.1), some (.ref b), some (.ref bm), some (.ref (bm + 33)), some (.int (nI i)), v5, v6] [] h2 Φ) : x_KG x_EL P 12 mLW_law 135 [some (.ref P.2.2.2.2.1), some (.ref b), some (.ref bm), some (.ref (bm + 33)), some (.int (nI i)), v5, v6] [] h Φ := by
  refine eLW_law_135 rfl ?_
  refine eLW_law_136 rfl ?_
  refine eLW_law_137 ?_
  refine eLW_law_139 ?_
  refine eLW_law_140 ?_
  refine eLW_law_141s g1 ?_
  refine eLW_law_142 rfl ?_
  refine eLW_law_143 (fun s c h9 => h9) (Nat.le_of_ble_eq_true rfl) kW ?_
  rintro _ h1 ⟨rfl, q1⟩
  refine ⟨_, rfl, ?_⟩
  obtain ⟨⟨fm, hfm⟩, m1⟩ := kM h1 q1
  refine eLW_law_146 ?_
  refine eLW_law_148 rfl ?_
  refine eLW_law_149 rfl ?_
  refine eLW_law_150 ?_
  refine eLW_law_152 ?_
  refine eLW_law_153 ?_
  refine eLW_law_154s g1 ?_
  refine eLW_law_155 hfm (Nat.le_of_ble_eq_true rfl) m1 ?_
  rintro _ h2 ⟨rfl, ⟨ze, si, hm, hr⟩, hv, q2⟩
  refine ⟨_, rfl, ?_⟩
  have th := sMO_thrown (P := P) (d := 11) (h0 := h2) (bm := bm) (ze := ze) (si := si)
  rw [← hm] at th
  refine eLW_law_158 ?_
  refine eLW_law_160 rfl ?_
  refine eLW_law_161 (mh_cell hm) (Nat.le_of_ble_eq_true rfl) th ?_
  rintro _ _ ⟨rfl, rfl⟩
  refine ⟨_, rfl, ?_⟩
  refine eLW_law_164 ?_
  refine eLW_law_166 (fun _ => ?_) (fun c => absurd hr c)
  refine eLW_law_171 ?_
  refine eLW_law_173 (fun _ => ?_) (fun c => ?_)
  · refine eLW_law_188 ?_
    exact kk _ _ _ q2
  · obtain ⟨f, hf, hfv⟩ := hv c
    refine eLW_law_176 rfl ?_
    refine eLW_law_177 ?_
    refine eLW_law_178 hf vp01 ?_
    refine eLW_law_179 ?_
    refine eLW_law_181 ?_
    refine eLW_law_182 ?_
    refine eLW_law_183 (fun _ => ?_) (fun c9 => absurd (cmp_eq hfv) c9)
    refine eLW_law_188 ?_
    exact kk _ _ _ q2
theorem tl_unsubscribe {r : Int32} {v5 v6 : Option Value} {Ψ1 Ψ2 : x_H → Prop} (g1 : vp_in (nI i + 1) P.2.2.2.2.2.1) (kW : x_KG (x_ET tLW_unsubscribe) P 11 mLW_unsubscribe 0 [some (.ref b), some (.int (P.2.2.2.2.2.2.1 (nI i + 1).toNatClampNeg)), none] [] h (fun oc h1 => oc = .returned (some (.int r)) ∧ Ψ1 h1)) (kM : ∀ h1, Ψ1 h1 → (∃ fm, h1.1 bm = some (.inr (8, fm))) ∧ x_K P 11 mMO_unsubscribe 0 [some (.ref bm), some (.int (P.2.2.2.2.2.2.1 (nI i + 1).toNatClampNeg))] [] h1 (fun oc h2 => oc = .returned none ∧ (∃ ze si, h2 = mh h2 bm ze si ∧ ze 0 = r) ∧ Ψ2 h2)) (kk : ∀ h2 v5 v6, Ψ2 h2 → x_KG x_EL P 12 mLW_law 622 [some (.ref P.2.2.2.2.1), some (.ref b), some (.ref bm), some (.ref (bm + 33)), some (.int (nI i)), v5, v6] [] h2 Φ) : x_KG x_EL P 12 mLW_law 191 [some (.ref P.2.2.2.2.1), some (.ref b), some (.ref bm), some (.ref (bm + 33)), some (.int (nI i)), v5, v6] [] h Φ := by
  refine eLW_law_191 rfl ?_
  refine eLW_law_192 rfl ?_
  refine eLW_law_193 ?_
  refine eLW_law_195 ?_
  refine eLW_law_196 ?_
  refine eLW_law_197s g1 ?_
  refine eLW_law_198 (fun s c h9 => h9) (Nat.le_of_ble_eq_true rfl) kW ?_
  rintro _ h1 ⟨rfl, q1⟩
  refine ⟨_, rfl, ?_⟩
  obtain ⟨⟨fm, hfm⟩, m1⟩ := kM h1 q1
  refine eLW_law_201 ?_
  refine eLW_law_203 rfl ?_
  refine eLW_law_204 rfl ?_
  refine eLW_law_205 ?_
  refine eLW_law_207 ?_
  refine eLW_law_208 ?_
  refine eLW_law_209s g1 ?_
  refine eLW_law_210 hfm (Nat.le_of_ble_eq_true rfl) m1 ?_
  rintro _ h2 ⟨rfl, ⟨ze, si, hm, hr⟩, q2⟩
  refine ⟨_, rfl, ?_⟩
  have th := sMO_thrown (P := P) (d := 11) (h0 := h2) (bm := bm) (ze := ze) (si := si)
  rw [← hm] at th
  refine eLW_law_213 rfl ?_
  refine eLW_law_214 (mh_cell hm) (Nat.le_of_ble_eq_true rfl) th ?_
  rintro _ _ ⟨rfl, rfl⟩
  refine ⟨_, rfl, ?_⟩
  refine eLW_law_217 ?_
  refine eLW_law_219 (fun _ => ?_) (fun c => absurd hr c)
  refine eLW_law_224 ?_
  exact kk _ _ _ q2
theorem tl_publish {r : Int32} {v : Int32} {v5 v6 : Option Value} {Ψ1 Ψ2 : x_H → Prop} (g1 : vp_in (nI i + 1) P.2.2.2.2.2.1) (g2 : vp_in (nI i + 2) P.2.2.2.2.2.1) (g3 : vp_in (nI i + 3) P.2.2.2.2.2.1) (kW : x_KG (x_ET tLW_publish) P 11 mLW_publish 0 [some (.ref b), some (.int (P.2.2.2.2.2.2.1 (nI i + 1).toNatClampNeg)), some (.int (P.2.2.2.2.2.2.1 (nI i + 2).toNatClampNeg)), some (.int (P.2.2.2.2.2.2.1 (nI i + 3).toNatClampNeg)), some (.ref (bm + 33)), none] [] h (fun oc h1 => oc = .returned (some (.int r)) ∧ Ψ1 h1)) (kM : ∀ h1, Ψ1 h1 → (∃ fm, h1.1 bm = some (.inr (8, fm))) ∧ x_K P 11 mMO_publish 0 [some (.ref bm), some (.int (P.2.2.2.2.2.2.1 (nI i + 1).toNatClampNeg)), some (.int (P.2.2.2.2.2.2.1 (nI i + 2).toNatClampNeg)), some (.int (P.2.2.2.2.2.2.1 (nI i + 3).toNatClampNeg)), none, none, none] [] h1 (fun oc h2 => oc = .returned (some (.int v)) ∧ (∃ ze si, h2 = mh h2 bm ze si ∧ ze 0 = r) ∧ (r = 0 → ∃ f, h2.1 (bm + 33) = some (arL f) ∧ f 0 = v.toInt64) ∧ Ψ2 h2)) (kk : ∀ h2 v5 v6, Ψ2 h2 → x_KG x_EL P 12 mLW_law 622 [some (.ref P.2.2.2.2.1), some (.ref b), some (.ref bm), some (.ref (bm + 33)), some (.int (nI i)), v5, v6] [] h2 Φ) : x_KG x_EL P 12 mLW_law 227 [some (.ref P.2.2.2.2.1), some (.ref b), some (.ref bm), some (.ref (bm + 33)), some (.int (nI i)), v5, v6] [] h Φ := by
  refine eLW_law_227 rfl ?_
  refine eLW_law_228 rfl ?_
  refine eLW_law_229 ?_
  refine eLW_law_231 ?_
  refine eLW_law_232 ?_
  refine eLW_law_233s g1 ?_
  refine eLW_law_234 rfl ?_
  refine eLW_law_235 ?_
  refine eLW_law_237 ?_
  refine eLW_law_238 ?_
  refine eLW_law_239s g2 ?_
  refine eLW_law_240 rfl ?_
  refine eLW_law_241 ?_
  refine eLW_law_243 ?_
  refine eLW_law_244 ?_
  refine eLW_law_245s g3 ?_
  refine eLW_law_246 rfl ?_
  refine eLW_law_247 (fun s c h9 => h9) (Nat.le_of_ble_eq_true rfl) kW ?_
  rintro _ h1 ⟨rfl, q1⟩
  refine ⟨_, rfl, ?_⟩
  obtain ⟨⟨fm, hfm⟩, m1⟩ := kM h1 q1
  refine eLW_law_250 ?_
  refine eLW_law_252 rfl ?_
  refine eLW_law_253 rfl ?_
  refine eLW_law_254 ?_
  refine eLW_law_256 ?_
  refine eLW_law_257 ?_
  refine eLW_law_258s g1 ?_
  refine eLW_law_259 rfl ?_
  refine eLW_law_260 ?_
  refine eLW_law_262 ?_
  refine eLW_law_263 ?_
  refine eLW_law_264s g2 ?_
  refine eLW_law_265 rfl ?_
  refine eLW_law_266 ?_
  refine eLW_law_268 ?_
  refine eLW_law_269 ?_
  refine eLW_law_270s g3 ?_
  refine eLW_law_271 hfm (Nat.le_of_ble_eq_true rfl) m1 ?_
  rintro _ h2 ⟨rfl, ⟨ze, si, hm, hr⟩, hv, q2⟩
  refine ⟨_, rfl, ?_⟩
  have th := sMO_thrown (P := P) (d := 11) (h0 := h2) (bm := bm) (ze := ze) (si := si)
  rw [← hm] at th
  refine eLW_law_274 ?_
  refine eLW_law_276 rfl ?_
  refine eLW_law_277 (mh_cell hm) (Nat.le_of_ble_eq_true rfl) th ?_
  rintro _ _ ⟨rfl, rfl⟩
  refine ⟨_, rfl, ?_⟩
  refine eLW_law_280 ?_
  refine eLW_law_282 (fun _ => ?_) (fun c => absurd hr c)
  refine eLW_law_287 ?_
  refine eLW_law_289 (fun _ => ?_) (fun c => ?_)
  · refine eLW_law_304 ?_
    exact kk _ _ _ q2
  · obtain ⟨f, hf, hfv⟩ := hv c
    refine eLW_law_292 rfl ?_
    refine eLW_law_293 ?_
    refine eLW_law_294 hf vp01 ?_
    refine eLW_law_295 ?_
    refine eLW_law_297 ?_
    refine eLW_law_298 ?_
    refine eLW_law_299 (fun _ => ?_) (fun c9 => absurd (cmp_eq hfv) c9)
    refine eLW_law_304 ?_
    exact kk _ _ _ q2
theorem tl_take {r : Int32} {v : Int32} {v5 v6 : Option Value} {Ψ1 Ψ2 : x_H → Prop} (g1 : vp_in (nI i + 1) P.2.2.2.2.2.1) (g2 : vp_in (nI i + 2) P.2.2.2.2.2.1) (kW : x_KG (x_ET tLW_take) P 11 mLW_take 0 [some (.ref b), some (.int (P.2.2.2.2.2.2.1 (nI i + 1).toNatClampNeg)), some (.int (P.2.2.2.2.2.2.1 (nI i + 2).toNatClampNeg)), some (.ref (bm + 33)), none] [] h (fun oc h1 => oc = .returned (some (.int r)) ∧ Ψ1 h1)) (kM : ∀ h1, Ψ1 h1 → (∃ fm, h1.1 bm = some (.inr (8, fm))) ∧ x_K P 11 mMO_take 0 [some (.ref bm), some (.int (P.2.2.2.2.2.2.1 (nI i + 1).toNatClampNeg)), some (.int (P.2.2.2.2.2.2.1 (nI i + 2).toNatClampNeg)), none] [] h1 (fun oc h2 => oc = .returned (some (.int v)) ∧ (∃ ze si, h2 = mh h2 bm ze si ∧ ze 0 = r) ∧ (r = 0 → ∃ f, h2.1 (bm + 33) = some (arL f) ∧ f 0 = v.toInt64) ∧ Ψ2 h2)) (kk : ∀ h2 v5 v6, Ψ2 h2 → x_KG x_EL P 12 mLW_law 622 [some (.ref P.2.2.2.2.1), some (.ref b), some (.ref bm), some (.ref (bm + 33)), some (.int (nI i)), v5, v6] [] h2 Φ) : x_KG x_EL P 12 mLW_law 307 [some (.ref P.2.2.2.2.1), some (.ref b), some (.ref bm), some (.ref (bm + 33)), some (.int (nI i)), v5, v6] [] h Φ := by
  refine eLW_law_307 rfl ?_
  refine eLW_law_308 rfl ?_
  refine eLW_law_309 ?_
  refine eLW_law_311 ?_
  refine eLW_law_312 ?_
  refine eLW_law_313s g1 ?_
  refine eLW_law_314 rfl ?_
  refine eLW_law_315 ?_
  refine eLW_law_317 ?_
  refine eLW_law_318 ?_
  refine eLW_law_319s g2 ?_
  refine eLW_law_320 rfl ?_
  refine eLW_law_321 (fun s c h9 => h9) (Nat.le_of_ble_eq_true rfl) kW ?_
  rintro _ h1 ⟨rfl, q1⟩
  refine ⟨_, rfl, ?_⟩
  obtain ⟨⟨fm, hfm⟩, m1⟩ := kM h1 q1
  refine eLW_law_324 ?_
  refine eLW_law_326 rfl ?_
  refine eLW_law_327 rfl ?_
  refine eLW_law_328 ?_
  refine eLW_law_330 ?_
  refine eLW_law_331 ?_
  refine eLW_law_332s g1 ?_
  refine eLW_law_333 rfl ?_
  refine eLW_law_334 ?_
  refine eLW_law_336 ?_
  refine eLW_law_337 ?_
  refine eLW_law_338s g2 ?_
  refine eLW_law_339 hfm (Nat.le_of_ble_eq_true rfl) m1 ?_
  rintro _ h2 ⟨rfl, ⟨ze, si, hm, hr⟩, hv, q2⟩
  refine ⟨_, rfl, ?_⟩
  have th := sMO_thrown (P := P) (d := 11) (h0 := h2) (bm := bm) (ze := ze) (si := si)
  rw [← hm] at th
  refine eLW_law_342 ?_
  refine eLW_law_344 rfl ?_
  refine eLW_law_345 (mh_cell hm) (Nat.le_of_ble_eq_true rfl) th ?_
  rintro _ _ ⟨rfl, rfl⟩
  refine ⟨_, rfl, ?_⟩
  refine eLW_law_348 ?_
  refine eLW_law_350 (fun _ => ?_) (fun c => absurd hr c)
  refine eLW_law_355 ?_
  refine eLW_law_357 (fun _ => ?_) (fun c => ?_)
  · refine eLW_law_372 ?_
    exact kk _ _ _ q2
  · obtain ⟨f, hf, hfv⟩ := hv c
    refine eLW_law_360 rfl ?_
    refine eLW_law_361 ?_
    refine eLW_law_362 hf vp01 ?_
    refine eLW_law_363 ?_
    refine eLW_law_365 ?_
    refine eLW_law_366 ?_
    refine eLW_law_367 (fun _ => ?_) (fun c9 => absurd (cmp_eq hfv) c9)
    refine eLW_law_372 ?_
    exact kk _ _ _ q2
theorem tl_read {r : Int32} {v : Int32} {v5 v6 : Option Value} {Ψ1 Ψ2 : x_H → Prop} (g1 : vp_in (nI i + 1) P.2.2.2.2.2.1) (kW : x_KG (x_ET tLW_read) P 11 mLW_read 0 [some (.ref b), some (.int (P.2.2.2.2.2.2.1 (nI i + 1).toNatClampNeg)), some (.ref (bm + 33)), none] [] h (fun oc h1 => oc = .returned (some (.int r)) ∧ Ψ1 h1)) (kM : ∀ h1, Ψ1 h1 → (∃ fm, h1.1 bm = some (.inr (8, fm))) ∧ x_K P 11 mMO_read 0 [some (.ref bm), some (.int (P.2.2.2.2.2.2.1 (nI i + 1).toNatClampNeg))] [] h1 (fun oc h2 => oc = .returned (some (.int v)) ∧ (∃ ze si, h2 = mh h2 bm ze si ∧ ze 0 = r) ∧ (r = 0 → ∃ f, h2.1 (bm + 33) = some (arL f) ∧ f 0 = v.toInt64) ∧ Ψ2 h2)) (kk : ∀ h2 v5 v6, Ψ2 h2 → x_KG x_EL P 12 mLW_law 622 [some (.ref P.2.2.2.2.1), some (.ref b), some (.ref bm), some (.ref (bm + 33)), some (.int (nI i)), v5, v6] [] h2 Φ) : x_KG x_EL P 12 mLW_law 425 [some (.ref P.2.2.2.2.1), some (.ref b), some (.ref bm), some (.ref (bm + 33)), some (.int (nI i)), v5, v6] [] h Φ := by
  refine eLW_law_425 rfl ?_
  refine eLW_law_426 rfl ?_
  refine eLW_law_427 ?_
  refine eLW_law_429 ?_
  refine eLW_law_430 ?_
  refine eLW_law_431s g1 ?_
  refine eLW_law_432 rfl ?_
  refine eLW_law_433 (fun s c h9 => h9) (Nat.le_of_ble_eq_true rfl) kW ?_
  rintro _ h1 ⟨rfl, q1⟩
  refine ⟨_, rfl, ?_⟩
  obtain ⟨⟨fm, hfm⟩, m1⟩ := kM h1 q1
  refine eLW_law_436 ?_
  refine eLW_law_438 rfl ?_
  refine eLW_law_439 rfl ?_
  refine eLW_law_440 ?_
  refine eLW_law_442 ?_
  refine eLW_law_443 ?_
  refine eLW_law_444s g1 ?_
  refine eLW_law_445 hfm (Nat.le_of_ble_eq_true rfl) m1 ?_
  rintro _ h2 ⟨rfl, ⟨ze, si, hm, hr⟩, hv, q2⟩
  refine ⟨_, rfl, ?_⟩
  have th := sMO_thrown (P := P) (d := 11) (h0 := h2) (bm := bm) (ze := ze) (si := si)
  rw [← hm] at th
  refine eLW_law_448 ?_
  refine eLW_law_450 rfl ?_
  refine eLW_law_451 (mh_cell hm) (Nat.le_of_ble_eq_true rfl) th ?_
  rintro _ _ ⟨rfl, rfl⟩
  refine ⟨_, rfl, ?_⟩
  refine eLW_law_454 ?_
  refine eLW_law_456 (fun _ => ?_) (fun c => absurd hr c)
  refine eLW_law_461 ?_
  refine eLW_law_463 (fun _ => ?_) (fun c => ?_)
  · refine eLW_law_478 ?_
    exact kk _ _ _ q2
  · obtain ⟨f, hf, hfv⟩ := hv c
    refine eLW_law_466 rfl ?_
    refine eLW_law_467 ?_
    refine eLW_law_468 hf vp01 ?_
    refine eLW_law_469 ?_
    refine eLW_law_471 ?_
    refine eLW_law_472 ?_
    refine eLW_law_473 (fun _ => ?_) (fun c9 => absurd (cmp_eq hfv) c9)
    refine eLW_law_478 ?_
    exact kk _ _ _ q2
theorem tl_covers {r : Int32} {v : Bool} {v5 v6 : Option Value} {Ψ1 Ψ2 : x_H → Prop}  (kW : x_KG (x_ET tLW_covers) P 11 mLW_covers 0 [some (.ref b), some (.ref (bm + 33)), none] [] h (fun oc h1 => oc = .returned (some (.int r)) ∧ Ψ1 h1)) (kM : ∀ h1, Ψ1 h1 → (∃ fm, h1.1 bm = some (.inr (8, fm))) ∧ x_K P 11 mMO_covers 0 [some (.ref bm), none, none] [] h1 (fun oc h2 => oc = .returned (some (.int (b2i v))) ∧ (∃ ze si, h2 = mh h2 bm ze si ∧ ze 0 = r) ∧ (r = 0 → ∃ f, h2.1 (bm + 33) = some (arL f) ∧ f 0 = (if v then 1 else 0)) ∧ Ψ2 h2)) (kk : ∀ h2 v5 v6, Ψ2 h2 → x_KG x_EL P 12 mLW_law 622 [some (.ref P.2.2.2.2.1), some (.ref b), some (.ref bm), some (.ref (bm + 33)), some (.int (nI i)), v5, v6] [] h2 Φ) : x_KG x_EL P 12 mLW_law 546 [some (.ref P.2.2.2.2.1), some (.ref b), some (.ref bm), some (.ref (bm + 33)), some (.int (nI i)), v5, v6] [] h Φ := by
  refine eLW_law_546 rfl ?_
  refine eLW_law_547 rfl ?_
  refine eLW_law_548 (fun s c h9 => h9) (Nat.le_of_ble_eq_true rfl) kW ?_
  rintro _ h1 ⟨rfl, q1⟩
  refine ⟨_, rfl, ?_⟩
  obtain ⟨⟨fm, hfm⟩, m1⟩ := kM h1 q1
  refine eLW_law_551 ?_
  refine eLW_law_553 rfl ?_
  refine eLW_law_554 hfm (Nat.le_of_ble_eq_true rfl) m1 ?_
  rintro _ h2 ⟨rfl, ⟨ze, si, hm, hr⟩, hv, q2⟩
  refine ⟨_, rfl, ?_⟩
  have th := sMO_thrown (P := P) (d := 11) (h0 := h2) (bm := bm) (ze := ze) (si := si)
  rw [← hm] at th
  refine eLW_law_557 ?_
  refine eLW_law_559 rfl ?_
  refine eLW_law_560 (mh_cell hm) (Nat.le_of_ble_eq_true rfl) th ?_
  rintro _ _ ⟨rfl, rfl⟩
  refine ⟨_, rfl, ?_⟩
  refine eLW_law_563 ?_
  refine eLW_law_565 (fun _ => ?_) (fun c => absurd hr c)
  refine eLW_law_570 ?_
  refine eLW_law_572 (fun _ => ?_) (fun c => ?_)
  · refine eLW_law_594 ?_
    exact kk _ _ _ q2
  · obtain ⟨f, hf, hfv⟩ := hv c
    refine eLW_law_575 rfl ?_
    refine eLW_law_576 ?_
    refine eLW_law_577 hf vp01 ?_
    refine eLW_law_578 ?_
    cases v with
    | true =>
      refine eLW_law_580 (fun c => absurd c (by decide)) (fun _ => ?_)
      refine eLW_law_583 ?_
      refine eLW_law_584 ?_
      refine eLW_law_588 ?_
      refine eLW_law_589 (fun _ => ?_) (fun c9 => absurd (cmp_eq hfv) c9)
      refine eLW_law_594 ?_
      exact kk _ _ _ q2
    | false =>
      refine eLW_law_580 (fun _ => ?_) (fun c => absurd rfl c)
      refine eLW_law_587 ?_
      refine eLW_law_588 ?_
      refine eLW_law_589 (fun _ => ?_) (fun c9 => absurd (cmp_eq hfv) c9)
      refine eLW_law_594 ?_
      exact kk _ _ _ q2
theorem tl_write {v : Int32} {v5 v6 : Option Value} {Ψ1 Ψ2 : x_H → Prop} (g1 : vp_in (nI i + 1) P.2.2.2.2.2.1) (hb : h.1 b = some (.inr (0, fs))) (kB : x_K P 11 mBT_write 0 [some (.ref b), some (.int (((P.2.2.2.2.2.2.1 (nI i + 1).toNatClampNeg).toUInt32 % 65536).toInt32))] [] h (fun oc h1 => oc = .returned (some (.int v)) ∧ Ψ1 h1)) (kM : ∀ h1, Ψ1 h1 → (∃ fm, h1.1 bm = some (.inr (8, fm))) ∧ x_K P 11 mMO_write 0 [some (.ref bm), some (.int (((P.2.2.2.2.2.2.1 (nI i + 1).toNatClampNeg).toUInt32 % 65536).toInt32))] [] h1 (fun oc h2 => oc = .returned (some (.int v)) ∧ Ψ2 h2)) (kk : ∀ h2, Ψ2 h2 → x_KG x_EL P 12 mLW_law 622 [some (.ref P.2.2.2.2.1), some (.ref b), some (.ref bm), some (.ref (bm + 33)), some (.int (nI i)), v5, v6] [] h2 Φ) : x_KG x_EL P 12 mLW_law 108 [some (.ref P.2.2.2.2.1), some (.ref b), some (.ref bm), some (.ref (bm + 33)), some (.int (nI i)), v5, v6] [] h Φ := by
  refine eLW_law_108 rfl ?_
  refine eLW_law_109 rfl ?_
  refine eLW_law_110 ?_
  refine eLW_law_112 ?_
  refine eLW_law_113 ?_
  refine eLW_law_114s g1 ?_
  refine eLW_law_115 ?_
  refine eLW_law_116 hb (Nat.le_of_ble_eq_true rfl) kB ?_
  rintro _ h1 ⟨rfl, q1⟩
  refine ⟨_, rfl, ?_⟩
  obtain ⟨⟨fm, hfm⟩, m1⟩ := kM h1 q1
  refine eLW_law_119 rfl ?_
  refine eLW_law_120 rfl ?_
  refine eLW_law_121 ?_
  refine eLW_law_123 ?_
  refine eLW_law_124 ?_
  refine eLW_law_125s g1 ?_
  refine eLW_law_126 ?_
  refine eLW_law_127 hfm (Nat.le_of_ble_eq_true rfl) m1 ?_
  rintro _ h2 ⟨rfl, q2⟩
  refine ⟨_, rfl, ?_⟩
  exact eLW_law_130 (fun _ => kk _ q2) (fun c => absurd rfl c)
theorem tl_waiting {v : Int32} {v5 v6 : Option Value} {Ψ1 Ψ2 : x_H → Prop} (g1 : vp_in (nI i + 1) P.2.2.2.2.2.1) (g2 : vp_in (nI i + 2) P.2.2.2.2.2.1) (hb : h.1 b = some (.inr (0, fs))) (kB : x_K P 11 mBT_waiting 0 [some (.ref b), some (.int (P.2.2.2.2.2.2.1 (nI i + 1).toNatClampNeg)), some (.int (P.2.2.2.2.2.2.1 (nI i + 2).toNatClampNeg)), none] [] h (fun oc h1 => oc = .returned (some (.int v)) ∧ Ψ1 h1)) (kM : ∀ h1, Ψ1 h1 → (∃ fm, h1.1 bm = some (.inr (8, fm))) ∧ x_K P 11 mMO_waiting 0 [some (.ref bm), some (.int (P.2.2.2.2.2.2.1 (nI i + 1).toNatClampNeg)), some (.int (P.2.2.2.2.2.2.1 (nI i + 2).toNatClampNeg)), none] [] h1 (fun oc h2 => oc = .returned (some (.int v)) ∧ Ψ2 h2)) (kk : ∀ h2, Ψ2 h2 → x_KG x_EL P 12 mLW_law 622 [some (.ref P.2.2.2.2.1), some (.ref b), some (.ref bm), some (.ref (bm + 33)), some (.int (nI i)), v5, v6] [] h2 Φ) : x_KG x_EL P 12 mLW_law 375 [some (.ref P.2.2.2.2.1), some (.ref b), some (.ref bm), some (.ref (bm + 33)), some (.int (nI i)), v5, v6] [] h Φ := by
  refine eLW_law_375 rfl ?_
  refine eLW_law_376 rfl ?_
  refine eLW_law_377 ?_
  refine eLW_law_379 ?_
  refine eLW_law_380 ?_
  refine eLW_law_381s g1 ?_
  refine eLW_law_382 rfl ?_
  refine eLW_law_383 ?_
  refine eLW_law_385 ?_
  refine eLW_law_386 ?_
  refine eLW_law_387s g2 ?_
  refine eLW_law_388 hb (Nat.le_of_ble_eq_true rfl) kB ?_
  rintro _ h1 ⟨rfl, q1⟩
  refine ⟨_, rfl, ?_⟩
  obtain ⟨⟨fm, hfm⟩, m1⟩ := kM h1 q1
  refine eLW_law_391 rfl ?_
  refine eLW_law_392 rfl ?_
  refine eLW_law_393 ?_
  refine eLW_law_395 ?_
  refine eLW_law_396 ?_
  refine eLW_law_397s g1 ?_
  refine eLW_law_398 rfl ?_
  refine eLW_law_399 ?_
  refine eLW_law_401 ?_
  refine eLW_law_402 ?_
  refine eLW_law_403s g2 ?_
  refine eLW_law_404 hfm (Nat.le_of_ble_eq_true rfl) m1 ?_
  rintro _ h2 ⟨rfl, q2⟩
  refine ⟨_, rfl, ?_⟩
  exact eLW_law_407 (fun _ => kk _ q2) (fun c => absurd rfl c)
theorem tl_run {v : Int32} {v5 v6 : Option Value} {Ψ1 Ψ2 : x_H → Prop}  (hb : h.1 b = some (.inr (0, fs))) (kB : x_K P 11 mBT_run 0 [some (.ref b), none, none] [] h (fun oc h1 => oc = .returned (some (.int v)) ∧ Ψ1 h1)) (kM : ∀ h1, Ψ1 h1 → (∃ fm, h1.1 bm = some (.inr (8, fm))) ∧ x_K P 11 mMO_run 0 [some (.ref bm), none, none, none, none] [] h1 (fun oc h2 => oc = .returned (some (.int v)) ∧ Ψ2 h2)) (kk : ∀ h2, Ψ2 h2 → x_KG x_EL P 12 mLW_law 622 [some (.ref P.2.2.2.2.1), some (.ref b), some (.ref bm), some (.ref (bm + 33)), some (.int (nI i)), v5, v6] [] h2 Φ) : x_KG x_EL P 12 mLW_law 412 [some (.ref P.2.2.2.2.1), some (.ref b), some (.ref bm), some (.ref (bm + 33)), some (.int (nI i)), v5, v6] [] h Φ := by
  refine eLW_law_412 rfl ?_
  refine eLW_law_413 hb (Nat.le_of_ble_eq_true rfl) kB ?_
  rintro _ h1 ⟨rfl, q1⟩
  refine ⟨_, rfl, ?_⟩
  obtain ⟨⟨fm, hfm⟩, m1⟩ := kM h1 q1
  refine eLW_law_416 rfl ?_
  refine eLW_law_417 hfm (Nat.le_of_ble_eq_true rfl) m1 ?_
  rintro _ h2 ⟨rfl, q2⟩
  refine ⟨_, rfl, ?_⟩
  exact eLW_law_420 (fun _ => kk _ q2) (fun c => absurd rfl c)
theorem tl_count {v : Int32} {v5 v6 : Option Value} {Ψ1 Ψ2 : x_H → Prop} (g1 : vp_in (nI i + 1) P.2.2.2.2.2.1) (hb : h.1 b = some (.inr (0, fs))) (kB : x_K P 11 mBT_count 0 [some (.ref b), some (.int (P.2.2.2.2.2.2.1 (nI i + 1).toNatClampNeg))] [] h (fun oc h1 => oc = .returned (some (.int v)) ∧ Ψ1 h1)) (kM : ∀ h1, Ψ1 h1 → (∃ fm, h1.1 bm = some (.inr (8, fm))) ∧ x_K P 11 mMO_count 0 [some (.ref bm), some (.int (P.2.2.2.2.2.2.1 (nI i + 1).toNatClampNeg))] [] h1 (fun oc h2 => oc = .returned (some (.int v)) ∧ Ψ2 h2)) (kk : ∀ h2, Ψ2 h2 → x_KG x_EL P 12 mLW_law 622 [some (.ref P.2.2.2.2.1), some (.ref b), some (.ref bm), some (.ref (bm + 33)), some (.int (nI i)), v5, v6] [] h2 Φ) : x_KG x_EL P 12 mLW_law 597 [some (.ref P.2.2.2.2.1), some (.ref b), some (.ref bm), some (.ref (bm + 33)), some (.int (nI i)), v5, v6] [] h Φ := by
  refine eLW_law_597 rfl ?_
  refine eLW_law_598 rfl ?_
  refine eLW_law_599 ?_
  refine eLW_law_601 ?_
  refine eLW_law_602 ?_
  refine eLW_law_603s g1 ?_
  refine eLW_law_604 hb (Nat.le_of_ble_eq_true rfl) kB ?_
  rintro _ h1 ⟨rfl, q1⟩
  refine ⟨_, rfl, ?_⟩
  obtain ⟨⟨fm, hfm⟩, m1⟩ := kM h1 q1
  refine eLW_law_607 rfl ?_
  refine eLW_law_608 rfl ?_
  refine eLW_law_609 ?_
  refine eLW_law_611 ?_
  refine eLW_law_612 ?_
  refine eLW_law_613s g1 ?_
  refine eLW_law_614 hfm (Nat.le_of_ble_eq_true rfl) m1 ?_
  rintro _ h2 ⟨rfl, q2⟩
  refine ⟨_, rfl, ?_⟩
  exact eLW_law_617 (fun _ => kk _ q2) (fun c => absurd rfl c)
theorem tl_filters {v : Int32} {w : Bool} {v5 v6 : Option Value} {Ψ1 Ψ2 : x_H → Prop} (g1 : vp_in (nI i + 1) P.2.2.2.2.2.1) (g2 : vp_in (nI i + 2) P.2.2.2.2.2.1) (g3 : vp_in (nI i + 3) P.2.2.2.2.2.1) (hw : w = true ↔ ¬ P.2.2.2.2.2.2.1 (nI i + 3).toNatClampNeg = 0) (hb : h.1 b = some (.inr (0, fs))) (kB : x_K P 11 mBT_filters 0 [some (.ref b), some (.int (P.2.2.2.2.2.2.1 (nI i + 1).toNatClampNeg)), some (.int (P.2.2.2.2.2.2.1 (nI i + 2).toNatClampNeg)), some (.int (b2i w)), none] [] h (fun oc h1 => oc = .returned (some (.int v)) ∧ Ψ1 h1)) (kM : ∀ h1, Ψ1 h1 → (∃ fm, h1.1 bm = some (.inr (8, fm))) ∧ x_K P 11 mMO_filters 0 [some (.ref bm), some (.int (P.2.2.2.2.2.2.1 (nI i + 1).toNatClampNeg)), some (.int (P.2.2.2.2.2.2.1 (nI i + 2).toNatClampNeg)), some (.int (b2i w)), none] [] h1 (fun oc h2 => oc = .returned (some (.int v)) ∧ Ψ2 h2)) (kk : ∀ h2, Ψ2 h2 → x_KG x_EL P 12 mLW_law 622 [some (.ref P.2.2.2.2.1), some (.ref b), some (.ref bm), some (.ref (bm + 33)), some (.int (nI i)), v5, v6] [] h2 Φ) : x_KG x_EL P 12 mLW_law 481 [some (.ref P.2.2.2.2.1), some (.ref b), some (.ref bm), some (.ref (bm + 33)), some (.int (nI i)), v5, v6] [] h Φ := by
  have s2 : ∀ h1, Ψ1 h1 → x_KG x_EL P 12 mLW_law 511 [some (.ref P.2.2.2.2.1), some (.ref b), some (.ref bm), some (.ref (bm + 33)), some (.int (nI i)), v5, v6] [.int v] h1 Φ := by
    intro h1 q1
    obtain ⟨⟨fm, hfm⟩, m1⟩ := kM h1 q1
    have s3 : x_KG x_EL P 12 mLW_law 538 [some (.ref P.2.2.2.2.1), some (.ref b), some (.ref bm), some (.ref (bm + 33)), some (.int (nI i)), v5, v6] [.int (b2i w), .int (P.2.2.2.2.2.2.1 (nI i + 2).toNatClampNeg), .int (P.2.2.2.2.2.2.1 (nI i + 1).toNatClampNeg), .ref bm, .int v] h1 Φ := by
      refine eLW_law_538 hfm (Nat.le_of_ble_eq_true rfl) m1 ?_
      rintro _ h2 ⟨rfl, q2⟩
      refine ⟨_, rfl, ?_⟩
      exact eLW_law_541 (fun _ => kk _ q2) (fun c => absurd rfl c)
    refine eLW_law_511 rfl ?_
    refine eLW_law_512 rfl ?_
    refine eLW_law_513 ?_
    refine eLW_law_515 ?_
    refine eLW_law_516 ?_
    refine eLW_law_517s g1 ?_
    refine eLW_law_518 rfl ?_
    refine eLW_law_519 ?_
    refine eLW_law_521 ?_
    refine eLW_law_522 ?_
    refine eLW_law_523s g2 ?_
    refine eLW_law_524 rfl ?_
    refine eLW_law_525 ?_
    refine eLW_law_527 ?_
    refine eLW_law_528 ?_
    refine eLW_law_529s g3 ?_
    refine eLW_law_530 (fun c => ?_) (fun c => ?_)
    · have e : w = false := Bool.eq_false_iff.mpr (fun e => hw.mp e c)
      subst e
      refine eLW_law_537 ?_
      exact s3
    · have e : w = true := hw.mpr c
      subst e
      refine eLW_law_533 ?_
      refine eLW_law_534 ?_
      exact s3
  have s4 : x_KG x_EL P 12 mLW_law 508 [some (.ref P.2.2.2.2.1), some (.ref b), some (.ref bm), some (.ref (bm + 33)), some (.int (nI i)), v5, v6] [.int (b2i w), .int (P.2.2.2.2.2.2.1 (nI i + 2).toNatClampNeg), .int (P.2.2.2.2.2.2.1 (nI i + 1).toNatClampNeg), .ref b] h Φ := by
    refine eLW_law_508 hb (Nat.le_of_ble_eq_true rfl) kB ?_
    rintro _ h1 ⟨rfl, q1⟩
    exact ⟨_, rfl, s2 h1 q1⟩
  refine eLW_law_481 rfl ?_
  refine eLW_law_482 rfl ?_
  refine eLW_law_483 ?_
  refine eLW_law_485 ?_
  refine eLW_law_486 ?_
  refine eLW_law_487s g1 ?_
  refine eLW_law_488 rfl ?_
  refine eLW_law_489 ?_
  refine eLW_law_491 ?_
  refine eLW_law_492 ?_
  refine eLW_law_493s g2 ?_
  refine eLW_law_494 rfl ?_
  refine eLW_law_495 ?_
  refine eLW_law_497 ?_
  refine eLW_law_498 ?_
  refine eLW_law_499s g3 ?_
  refine eLW_law_500 (fun c => ?_) (fun c => ?_)
  · have e : w = false := Bool.eq_false_iff.mpr (fun e => hw.mp e c)
    subst e
    refine eLW_law_507 ?_
    exact s4
  · have e : w = true := hw.mpr c
    subst e
    refine eLW_law_503 ?_
    refine eLW_law_504 ?_
    exact s4
end

