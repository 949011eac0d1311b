/-! Queue: numbers that leave in the order in which they came; a ring of 2 ^ e places at the address w -/
def isQ (h : x_H) (q w e first : Nat) (l : List Int32) : Prop := ∃ f : Nat → Int32, h.1 q = some (.inr (5, [.ref w, .int (nI first), .int (nI l.length)])) ∧ h.1 w = some (.inl (0, 2 ^ e, .inl f)) ∧ 4 ≤ e ∧ e ≤ 20 ∧ first < 2 ^ e ∧ l.length ≤ 2 ^ e ∧ ∀ (i : Nat) (v : Int32), l[i]? = some v → f ((first + i) % 2 ^ e) = v
theorem xp_20 {e : Nat} (he : e ≤ 20) : 2 ^ e ≤ 1048576 := Nat.pow_le_pow_right (n := 2) (by decide) he
theorem xp_4 {e : Nat} (he : 4 ≤ e) : 16 ≤ 2 ^ e := Nat.pow_le_pow_right (n := 2) (by decide) he
theorem xn_one : (1 : Int32) = nI 1 := by decide
theorem xn_msk {n e : Nat} (he : e ≤ 20) (hn : n < 2 ^ 31) : nI n &&& (nI (2 ^ e) - 1) = nI (n % 2 ^ e) := by
  have h1 := xp_20 he
  have h2 : 0 < 2 ^ e := Nat.two_pow_pos e
  rw [xn_one, pk_sub (by omega)]
  exact pk_andN (by omega) e (pk_tn (by omega))
theorem isQ.keep {h h' : x_H} {q w e first : Nat} {l : List Int32} {S : List Nat} (k : isQ h q w e first l) (o : x_only h h' S) (h1 : q ∉ S) (h2 : w ∉ S) : isQ h' q w e first l := by
  obtain ⟨f, hq, hw, z⟩ := k
  exact ⟨f, o.at h1 hq, o.at h2 hw, z⟩
section
variable {P : x_P} {d : Nat} {h : x_H} {q w e first : Nat} {l : List Int32}
theorem sQU_size (k : isQ h q w e first l) : x_K P d mQU_size 0 [some (.ref q)] [] h (fun oc h' => oc = .returned (some (.int (nI l.length))) ∧ h' = h) := by
  obtain ⟨f, hq, -⟩ := k
  refine eQU_size_0 rfl ?_
  refine eQU_size_1 hq rfl ?_
  exact eQU_size_4 ⟨rfl, rfl⟩
theorem sQU_removeFirst {v : Int32} (k : isQ h q w e first (v :: l)) : x_K P d mQU_removeFirst 0 [some (.ref q), none] [] h (fun oc h' => oc = .returned (some (.int v)) ∧ isQ h' q w e ((first + 1) % 2 ^ e) l ∧ x_only h h' [q]) := by
  obtain ⟨f, hq, hw, he4, he, hfi, hlen, hf⟩ := k
  have h20 := xp_20 he
  rw [List.length_cons] at hlen
  have hqw : w ≠ q := fun z => by rw [z, hq] at hw; cases hw
  refine eQU_removeFirst_0 rfl ?_
  refine eQU_removeFirst_1 hq rfl ?_
  refine eQU_removeFirst_4 (fun _ => ?_) (fun c => absurd c (nI_ne0 (by simp) (by simp; omega)))
  refine eQU_removeFirst_9 rfl ?_
  refine eQU_removeFirst_10 hq rfl ?_
  refine eQU_removeFirst_13 rfl ?_
  refine eQU_removeFirst_14 hq rfl ?_
  refine eQU_removeFirst_17 hw (xn_in hfi (by omega)) ?_
  refine eQU_removeFirst_18 ?_
  refine eQU_removeFirst_19 rfl ?_
  refine eQU_removeFirst_20 rfl ?_
  refine eQU_removeFirst_21 hq rfl ?_
  refine eQU_removeFirst_24 ?_
  refine eQU_removeFirst_25 ?_
  refine eQU_removeFirst_26 rfl ?_
  refine eQU_removeFirst_27 hq rfl ?_
  refine eQU_removeFirst_30 hw rfl ?_
  refine eQU_removeFirst_31 ?_
  refine eQU_removeFirst_32 ?_
  refine eQU_removeFirst_33 ?_
  refine eQU_removeFirst_34 hq (Nat.le_of_ble_eq_true rfl) ?_
  refine eQU_removeFirst_37 rfl ?_
  refine eQU_removeFirst_38 rfl ?_
  refine eQU_removeFirst_39 xq_eq rfl ?_
  refine eQU_removeFirst_42 ?_
  refine eQU_removeFirst_43 ?_
  refine eQU_removeFirst_44 xq_eq (Nat.le_of_ble_eq_true rfl) ?_
  refine eQU_removeFirst_47 ?_
  refine eQU_removeFirst_48 ⟨?_, ⟨f, ?_, ?_, he4, he, Nat.mod_lt _ (Nat.two_pow_pos e), by omega, ?_⟩, (x_only.rf.put (by simp)).put (by simp)⟩
  · rw [nI_clamp (by omega)]
    have h1 := hf 0 v rfl
    rw [Nat.add_zero, Nat.mod_eq_of_lt hfi] at h1
    rw [h1]
  · rw [xq_eq]
    simp only [List.set_cons_succ, List.set_cons_zero, List.length_cons]
    rw [nI_1, show Int32.ofNat (2 ^ e) = nI (2 ^ e) from rfl, xn_msk he (by omega), nI_pred]
  · exact xq_ne hqw (xq_ne hqw hw)
  · intro i u hu
    rw [← hf (i + 1) u (by simpa using hu), Nat.mod_add_mod]
    congr 2
    omega
/-- the ring has room -/
theorem sQU_addR {v : Int32} (k : isQ h q w e first l) (hr : l.length < 2 ^ e) : x_K P (d + 1) mQU_add 0 [some (.ref q), some (.int v)] [] h (fun oc h' => oc = .returned none ∧ isQ h' q w e first (l ++ [v]) ∧ x_only h h' [q, w]) := by
  obtain ⟨f, hq, hw, he4, he, hfi, hlen, hf⟩ := k
  have h20 := xp_20 he
  have hqw : w ≠ q := fun z => by rw [z, hq] at hw; cases hw
  refine eQU_add_0 rfl ?_
  refine eQU_add_1 hq rfl ?_
  refine eQU_add_4 rfl ?_
  refine eQU_add_5 hq rfl ?_
  refine eQU_add_8 hw rfl ?_
  refine eQU_add_9 (fun _ => ?_) (fun c => absurd (nI_lt hr (by omega)) c)
  refine eQU_add_16 rfl ?_
  refine eQU_add_17 hq rfl ?_
  refine eQU_add_20 rfl ?_
  refine eQU_add_21 hq rfl ?_
  refine eQU_add_24 rfl ?_
  refine eQU_add_25 hq rfl ?_
  refine eQU_add_28 ?_
  refine eQU_add_29 rfl ?_
  refine eQU_add_30 hq rfl ?_
  refine eQU_add_33 hw rfl ?_
  refine eQU_add_34 ?_
  refine eQU_add_35 ?_
  refine eQU_add_36 ?_
  refine eQU_add_37 ?_
  rw [nI_add, show Int32.ofNat (2 ^ e) = nI (2 ^ e) from rfl, xn_msk he (by omega)]
  have hmod := Nat.mod_lt (first + l.length) (Nat.two_pow_pos e)
  refine eQU_add_38 hw (xn_in hmod (by omega)) ?_
  refine eQU_add_39 rfl ?_
  refine eQU_add_40 rfl ?_
  refine eQU_add_41 (xq_ne (Ne.symm hqw) hq) rfl ?_
  refine eQU_add_44 ?_
  refine eQU_add_45 ?_
  refine eQU_add_46 (xq_ne (Ne.symm hqw) hq) (Nat.le_of_ble_eq_true rfl) ?_
  refine eQU_add_49 ⟨rfl, ⟨upd f ((first + l.length) % 2 ^ e) v, ?_, ?_, he4, he, hfi, by rw [List.length_append, List.length_singleton]; omega, ?_⟩, (x_only.rf.put (by simp)).put (by simp)⟩
  · rw [xq_eq]
    simp only [List.set_cons_succ, List.set_cons_zero, List.length_append, List.length_singleton]
    rw [nI_1]
  · rw [xq_of hqw, xq_eq, nI_clamp (by omega)]
  · intro i u hu
    rw [List.getElem?_append] at hu
    split at hu
    · rename_i hil
      rw [upd, if_neg]
      · exact hf i u hu
      · intro z
        have h1 : (first + i) % 2 ^ e = (first + l.length) % 2 ^ e := z
        have h2 : first + i < 2 ^ e + 2 ^ e := by omega
        have h3 : first + l.length < 2 ^ e + 2 ^ e := by omega
        rw [Nat.mod_eq (first + i), Nat.mod_eq (first + l.length)] at h1
        split at h1 <;> split at h1
        · rw [Nat.mod_eq_of_lt (by omega), Nat.mod_eq_of_lt (by omega)] at h1; omega
        · rw [Nat.mod_eq_of_lt (by omega)] at h1; omega
        · rw [Nat.mod_eq_of_lt (a := first + l.length - 2 ^ e) (by omega)] at h1; omega
        · omega
    · rename_i hil
      have hz : i - l.length < 1 := (List.getElem?_eq_some_iff.mp hu).1
      have hz' : i = l.length := by omega
      subst hz'
      rw [Nat.sub_self] at hu
      cases hu
      rw [upd, if_pos rfl]
theorem lQU_grow {w2 : Nat} {f : Nat → Int32} {h0 : x_H} {Φ : Outcome → x_H → Prop} (he4 : 4 ≤ e) (he : e ≤ 20) (hfi : first < 2 ^ e) (hlen : l.length ≤ 2 ^ e) (hf : ∀ (i : Nat) (v : Int32), l[i]? = some v → f ((first + i) % 2 ^ e) = v) (hne : w2 ≠ q) (hne2 : w2 ≠ w)
    (hq : h0.1 q = some (.inr (5, [.ref w, .int (nI first), .int (nI l.length)]))) (hw : h0.1 w = some (.inl (0, 2 ^ e, .inl f)))
    (kk : ∀ (h1 : x_H) (g : Nat → Int32), h1.1 w2 = some (.inl (0, 2 ^ (e + 1), .inl g)) → x_only h0 h1 [w2] → (∀ i v, l[i]? = some v → g i = v) → x_K P d mQU_grow 48 [some (.ref q), some (.ref w2), some (.int (nI l.length))] [] h1 Φ) :
    ∀ (j k : Nat) (h1 : x_H) (g : Nat → Int32), k + j = l.length → h1.1 w2 = some (.inl (0, 2 ^ (e + 1), .inl g)) → x_only h0 h1 [w2] → (∀ i v, i < k → l[i]? = some v → g i = v) → x_K P d mQU_grow 12 [some (.ref q), some (.ref w2), some (.int (nI k))] [] h1 Φ := by
  have h20 := xp_20 he
  have hpe : 2 ^ (e + 1) = 2 ^ e + 2 ^ e := by rw [Nat.pow_succ]; omega
  intro j
  induction j with
  | zero =>
    intro k h1 g hk hg ho hi
    have hk' : k = l.length := by omega
    subst hk'
    have hq1 := ho.at (by simp [Ne.symm hne]) hq
    refine eQU_grow_12 ?_
    refine eQU_grow_13 rfl ?_
    refine eQU_grow_14 hq1 rfl ?_
    refine eQU_grow_17 (fun _ => ?_) (fun c => absurd (nI_le (Nat.le_refl _) (by omega)) c)
    exact kk h1 g hg ho (fun i v hv => hi i v (List.getElem?_eq_some_iff.mp hv).1 hv)
  | succ j ih =>
    intro k h1 g hk hg ho hi
    have hkl : k < l.length := by omega
    have hy : l[k]? = some l[k] := List.getElem?_eq_getElem hkl
    have hq1 := ho.at (by simp [Ne.symm hne]) hq
    have hw1 := ho.at (by simp [Ne.symm hne2]) hw
    have hmod := Nat.mod_lt (first + k) (Nat.two_pow_pos e)
    refine eQU_grow_12 ?_
    refine eQU_grow_13 rfl ?_
    refine eQU_grow_14 hq1 rfl ?_
    refine eQU_grow_17 (fun c => absurd c (nI_ge hkl (by omega))) (fun _ => ?_)
    refine eQU_grow_20 rfl ?_
    refine eQU_grow_21 ?_
    refine eQU_grow_22 rfl ?_
    refine eQU_grow_23 hq1 rfl ?_
    refine eQU_grow_26 rfl ?_
    refine eQU_grow_27 hq1 rfl ?_
    refine eQU_grow_30 ?_
    refine eQU_grow_31 ?_
    refine eQU_grow_32 rfl ?_
    refine eQU_grow_33 hq1 rfl ?_
    refine eQU_grow_36 hw1 rfl ?_
    refine eQU_grow_37 ?_
    refine eQU_grow_38 ?_
    refine eQU_grow_39 ?_
    rw [nI_add, show Int32.ofNat (2 ^ e) = nI (2 ^ e) from rfl, xn_msk he (by omega)]
    refine eQU_grow_40 hw1 (xn_in hmod (by omega)) ?_
    rw [nI_clamp (by omega), hf k _ hy]
    refine eQU_grow_41 hg (xn_in (by omega) (by omega)) ?_
    refine eQU_grow_42 ?_
    refine eQU_grow_45 ?_
    rw [nI_1]
    refine ih (k + 1) _ _ (by omega) xq_eq (ho.put (by simp)) ?_
    intro i v hik hv
    rw [nI_clamp (by omega), upd]
    split
    · rename_i z
      subst z
      exact Option.some.inj (hy.symm.trans hv)
    · exact hi i v (by omega) hv
theorem sQU_grow (k : isQ h q w e first l) (he1 : e < 20) (hq0 : q < h.2.1) (hw0 : w < h.2.1) : x_K P d mQU_grow 0 [some (.ref q), none, none] [] h (fun oc h' => oc = .returned none ∧ isQ h' q h.2.1 (e + 1) 0 l ∧ h'.2 = (h.2.1 + 1, h.2.2 + 2 ^ (e + 1)) ∧ ∀ a, a ≠ q → a ≠ h.2.1 → h'.1 a = h.1 a) := by
  obtain ⟨f, hq, hw, he4, he, hfi, hlen, hf⟩ := k
  have h20 := xp_20 he
  have hpe : 2 ^ (e + 1) = 2 * 2 ^ e := by rw [Nat.pow_succ]; omega
  refine eQU_grow_0 ?_
  refine eQU_grow_1 rfl ?_
  refine eQU_grow_2 hq rfl ?_
  refine eQU_grow_5 hw rfl ?_
  refine eQU_grow_6 ?_
  rw [show (2 : Int32) = nI 2 by decide, show Int32.ofNat (2 ^ e) = nI (2 ^ e) from rfl, pk_mul, ← hpe]
  refine eQU_grow_7 (nI_pos (by omega)) (nI_clamp (by omega)) (by show 2 ^ (e + 1) * 4 ≤ _; omega) ?_
  refine eQU_grow_9 rfl ?_
  refine eQU_grow_10 ?_
  refine eQU_grow_11 ?_
  refine lQU_grow he4 he hfi hlen hf (Nat.ne_of_gt hq0) (Nat.ne_of_gt hw0) (h0 := x_new h (.inl (0, 2 ^ (e + 1), .inl (fun _ => 0))) (2 ^ (e + 1))) (xw_ne (Nat.ne_of_lt hq0) hq) (xw_ne (Nat.ne_of_lt hw0) hw) ?_ l.length 0 _ _ (by omega) xw_eq x_only.rf (fun i v hi => absurd hi (by omega))
  intro h1 g hg ho hi
  have hq1 := ho.at (by simp [Nat.ne_of_lt hq0]) (xw_ne (Nat.ne_of_lt hq0) hq)
  refine eQU_grow_48 rfl ?_
  refine eQU_grow_49 rfl ?_
  refine eQU_grow_50 hq1 (Nat.le_of_ble_eq_true rfl) ?_
  refine eQU_grow_53 rfl ?_
  refine eQU_grow_54 ?_
  refine eQU_grow_55 xq_eq (Nat.le_of_ble_eq_true rfl) ?_
  refine eQU_grow_58 ⟨rfl, ⟨g, ?_, ?_, by omega, by omega, Nat.two_pow_pos _, by omega, ?_⟩, ?_, ?_⟩
  · rw [xq_eq]
    simp only [List.set_cons_succ, List.set_cons_zero]
    rw [nI_0]
  · exact xq_ne (Nat.ne_of_gt hq0) (xq_ne (Nat.ne_of_gt hq0) hg)
  · intro i v hv
    rw [Nat.zero_add, Nat.mod_eq_of_lt (by have := (List.getElem?_eq_some_iff.mp hv).1; omega)]
    exact hi i v hv
  · exact ho.1
  · intro a ha1 ha2
    rw [xq_of ha1, xq_of ha1, ho.2 a (by simpa using ha2)]
    show (if a = h.2.1 then _ else h.1 a) = _
    rw [if_neg ha2]
/-- any add: the ring stays where it is, or a new one of twice its length has come -/
theorem sQU_add {v : Int32} (k : isQ h q w e first l) (he1 : e < 20) (hq0 : q < h.2.1) (hw0 : w < h.2.1) : x_K P (d + 1) mQU_add 0 [some (.ref q), some (.int v)] [] h (fun oc h' => oc = .returned none ∧ ((l.length < 2 ^ e ∧ isQ h' q w e first (l ++ [v]) ∧ x_only h h' [q, w]) ∨ (l.length = 2 ^ e ∧ isQ h' q h.2.1 (e + 1) 0 (l ++ [v]) ∧ h'.2 = (h.2.1 + 1, h.2.2 + 2 ^ (e + 1)) ∧ ∀ a, a ≠ q → a ≠ h.2.1 → h'.1 a = h.1 a))) := by
  by_cases hr : l.length < 2 ^ e
  · exact x_Kmono (sQU_addR k hr) (fun oc h' z => ⟨z.1, Or.inl ⟨hr, z.2⟩⟩)
  · have k0 := k
    obtain ⟨f, hq, hw, he4, he, hfi, hlen, hf⟩ := k
    have h20 := xp_20 he
    have hpe : 2 ^ (e + 1) = 2 * 2 ^ e := by rw [Nat.pow_succ]; omega
    have hle : l.length = 2 ^ e := by omega
    refine eQU_add_0 rfl ?_
    refine eQU_add_1 hq rfl ?_
    refine eQU_add_4 rfl ?_
    refine eQU_add_5 hq rfl ?_
    refine eQU_add_8 hw rfl ?_
    refine eQU_add_9 (fun c => absurd c (nI_nlt (by omega) (by omega))) (fun _ => ?_)
    refine eQU_add_12 rfl ?_
    refine eQU_add_13 hq (Nat.le_of_ble_eq_true rfl) (sQU_grow k0 he1 hq0 hw0) ?_
    rintro _ h1 ⟨rfl, k1, hz, ho⟩
    refine ⟨_, rfl, ?_⟩
    obtain ⟨g, hq1, hw1, ge4, ge, gfi, glen, gf⟩ := k1
    have hqw : h.2.1 ≠ q := Nat.ne_of_gt hq0
    refine eQU_add_16 rfl ?_
    refine eQU_add_17 hq1 rfl ?_
    refine eQU_add_20 rfl ?_
    refine eQU_add_21 hq1 rfl ?_
    refine eQU_add_24 rfl ?_
    refine eQU_add_25 hq1 rfl ?_
    refine eQU_add_28 ?_
    refine eQU_add_29 rfl ?_
    refine eQU_add_30 hq1 rfl ?_
    refine eQU_add_33 hw1 rfl ?_
    refine eQU_add_34 ?_
    refine eQU_add_35 ?_
    refine eQU_add_36 ?_
    refine eQU_add_37 ?_
    rw [nI_add, show Int32.ofNat (2 ^ (e + 1)) = nI (2 ^ (e + 1)) from rfl, xn_msk ge (by omega)]
    have hmod := Nat.mod_lt (0 + l.length) (Nat.two_pow_pos (e + 1))
    refine eQU_add_38 hw1 (xn_in hmod (by omega)) ?_
    refine eQU_add_39 rfl ?_
    refine eQU_add_40 rfl ?_
    refine eQU_add_41 (xq_ne (Ne.symm hqw) hq1) rfl ?_
    refine eQU_add_44 ?_
    refine eQU_add_45 ?_
    refine eQU_add_46 (xq_ne (Ne.symm hqw) hq1) (Nat.le_of_ble_eq_true rfl) ?_
    refine eQU_add_49 ⟨rfl, Or.inr ⟨hle, ⟨upd g ((0 + l.length) % 2 ^ (e + 1)) v, ?_, ?_, ge4, ge, gfi, by rw [List.length_append, List.length_singleton]; omega, ?_⟩, hz, ?_⟩⟩
    · rw [xq_eq]
      simp only [List.set_cons_succ, List.set_cons_zero, List.length_append, List.length_singleton]
      rw [nI_1]
    · rw [xq_of hqw, xq_eq, nI_clamp (by omega)]
    · intro i u hu
      rw [Nat.zero_add, Nat.zero_add, Nat.mod_eq_of_lt (a := l.length) (by omega)]
      rw [List.getElem?_append] at hu
      split at hu
      · rename_i hil
        have h3 := gf i u hu
        rw [Nat.zero_add] at h3
        rw [Nat.mod_eq_of_lt (by omega)] at h3 ⊢
        rw [upd, if_neg (by omega)]
        exact h3
      · rename_i hil
        have hz : i - l.length < 1 := (List.getElem?_eq_some_iff.mp hu).1
        have hz' : i = l.length := by omega
        subst hz'
        rw [Nat.sub_self] at hu
        cases hu
        rw [Nat.mod_eq_of_lt (by omega), upd, if_pos rfl]
    · intro a ha1 ha2
      rw [xq_of ha1, xq_of ha2, ho a ha1 ha2]
end

