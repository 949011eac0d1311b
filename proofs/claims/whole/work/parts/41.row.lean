/-! Row: a list of numbers below 16 without doubles -/
def isRow (h : x_H) (r : Nat) (l : List Nat) : Prop := ∃ (f : Nat → Int32) (m : Nat), h.1 r = some (.inr (6, [.ref (r + 1), .int (nI l.length), .int (nI m)])) ∧ h.1 (r + 1) = some (.inl (0, 16, .inl f)) ∧ m < 65536 ∧ (∀ i, i < 16 → (m.testBit i = true ↔ i ∈ l)) ∧ (∀ (i : Nat) (x : Nat), l[i]? = some x → f i = nI x) ∧ l.Nodup ∧ ∀ x ∈ l, x < 16
theorem isRow.len {h : x_H} {r : Nat} {l : List Nat} (k : isRow h r l) : l.length ≤ 16 := by
  obtain ⟨f, m, -, -, -, -, -, hd, hb⟩ := k
  exact nd_len 16 l hd hb
section
variable {P : x_P} {d : Nat} {h : x_H} {r : Nat} {l : List Nat}
theorem sRO_size (k : isRow h r l) : x_K P d mRO_size 0 [some (.ref r)] [] h (fun oc h' => oc = .returned (some (.int (nI l.length))) ∧ h' = h) := by
  obtain ⟨f, m, hr, -⟩ := k
  refine eRO_size_0 rfl ?_
  refine eRO_size_1 hr rfl ?_
  exact eRO_size_4 ⟨rfl, rfl⟩
theorem sRO_get {i x : Nat} (k : isRow h r l) (hi : l[i]? = some x) : x_K P d mRO_get 0 [some (.ref r), some (.int (nI i))] [] h (fun oc h' => oc = .returned (some (.int (nI x))) ∧ h' = h) := by
  have hlen := k.len
  have hlt : i < l.length := (List.getElem?_eq_some_iff.mp hi).1
  obtain ⟨f, m, hr, ha, -, -, hf, -⟩ := k
  refine eRO_get_0 ?_
  refine eRO_get_1 (fun c => absurd c (nI_pos (by omega))) (fun _ => ?_)
  refine eRO_get_4 ?_
  refine eRO_get_5 rfl ?_
  refine eRO_get_6 hr rfl ?_
  refine eRO_get_9 (fun _ => ?_) (fun c => absurd (nI_lt hlt (by omega)) c)
  refine eRO_get_16 rfl ?_
  refine eRO_get_17 hr rfl ?_
  refine eRO_get_20 ?_
  refine eRO_get_21 ha (xn_in (by omega) (by decide)) ?_
  refine eRO_get_22 ⟨?_, rfl⟩
  rw [nI_clamp (by omega), hf i x hi]
theorem sRO_has {x : Nat} (k : isRow h r l) (hx : x < 16) : x_K P d mRO_has 0 [some (.ref r), some (.int (nI x))] [] h (fun oc h' => oc = .returned (some (.int (if x ∈ l then 1 else 0))) ∧ h' = h) := by
  obtain ⟨f, m, hr, ha, hm, hb, -⟩ := k
  refine eRO_has_0 ?_
  refine eRO_has_1 (fun c => absurd c (nI_pos (by omega))) (fun _ => ?_)
  refine eRO_has_4 ?_
  refine eRO_has_5 ?_
  refine eRO_has_7 (fun c => absurd c (nI_ge (b := 16) (by omega) (by decide))) (fun _ => ?_)
  refine eRO_has_10 rfl ?_
  refine eRO_has_11 hr rfl ?_
  refine eRO_has_14 ?_
  refine eRO_has_15 ?_
  refine eRO_has_16 ?_
  refine eRO_has_17 ?_
  refine eRO_has_18 (fun c => ?_) (fun c => ?_)
  · refine eRO_has_25 ?_
    refine eRO_has_26 rfl ⟨?_, rfl⟩
    have h1 := (xn_bit hm hx).mp c
    rw [if_neg (fun z => by rw [(hb x hx).mpr z] at h1; cases h1)]
  · refine eRO_has_21 ?_
    refine eRO_has_22 ?_
    refine eRO_has_26 rfl ⟨?_, rfl⟩
    have h1 : m.testBit x = true := by
      cases h2 : m.testBit x with
      | true => rfl
      | false => exact absurd ((xn_bit hm hx).mpr h2) c
    rw [if_pos ((hb x hx).mp h1)]
theorem sRO_members (k : isRow h r l) : x_K P d mRO_members 0 [some (.ref r)] [] h (fun oc h' => (∃ m : Nat, oc = .returned (some (.int (nI m))) ∧ m < 65536 ∧ ∀ i, i < 16 → (m.testBit i = true ↔ i ∈ l)) ∧ h' = h) := by
  obtain ⟨f, m, hr, ha, hm, hb, -⟩ := k
  refine eRO_members_0 rfl ?_
  refine eRO_members_1 hr rfl ?_
  exact eRO_members_4 ⟨⟨m, rfl, hm, hb⟩, rfl⟩
theorem sRO_clear (k : isRow h r l) : x_K P d mRO_clear 0 [some (.ref r)] [] h (fun oc h' => oc = .returned none ∧ isRow h' r [] ∧ x_only h h' [r, r + 1]) := by
  obtain ⟨f, m, hr, ha, hm, hb, -⟩ := k
  refine eRO_clear_0 rfl ?_
  refine eRO_clear_1 ?_
  refine eRO_clear_2 hr (Nat.le_of_ble_eq_true rfl) ?_
  refine eRO_clear_5 rfl ?_
  refine eRO_clear_6 ?_
  refine eRO_clear_7 xq_eq (Nat.le_of_ble_eq_true rfl) ?_
  refine eRO_clear_10 ⟨rfl, ⟨f, 0, xq_eq, xq_ne (by omega) (xq_ne (by omega) ha), by decide, fun i _ => by simp, fun i x hi => by simp at hi, List.nodup_nil, fun x hx => by cases hx⟩, (x_only.rf.put (by simp)).put (by simp)⟩
theorem sRO_add {x : Nat} (k : isRow h r l) (hx : x < 16) : x_K P (d + 1) mRO_add 0 [some (.ref r), some (.int (nI x))] [] h (fun oc h' => oc = .returned none ∧ isRow h' r (if x ∈ l then l else l ++ [x]) ∧ x_only h h' [r, r + 1]) := by
  have hlen := k.len
  have k0 := k
  obtain ⟨f, m, hr, ha, hm, hb, hf, hnd, h16⟩ := k
  have hlt : x ∉ l → l.length < 16 := by
    intro hn
    have h2 := nd_len 16 (x :: l) (List.nodup_cons.mpr ⟨hn, hnd⟩) (fun q hq => by
      rcases List.mem_cons.mp hq with h3 | h3
      · rw [h3]; exact hx
      · exact h16 q h3)
    simp at h2
    omega
  have hfull : ¬ l.length < 16 → x ∈ l := fun hn => Classical.byContradiction fun z => hn (hlt z)
  refine eRO_add_0 ?_
  refine eRO_add_1 (fun c => absurd c (nI_pos (by omega))) (fun _ => ?_)
  refine eRO_add_4 ?_
  refine eRO_add_5 ?_
  refine eRO_add_7 (fun c => absurd c (nI_ge (b := 16) (by omega) (by decide))) (fun _ => ?_)
  refine eRO_add_10 rfl ?_
  refine eRO_add_11 hr rfl ?_
  refine eRO_add_14 rfl ?_
  refine eRO_add_15 hr rfl ?_
  refine eRO_add_18 ha rfl ?_
  refine eRO_add_19 (fun c => ?_) (fun c => ?_)
  · have h1 : x ∈ l := hfull (fun z => nI_ge (b := 16) z (by decide) c)
    refine eRO_add_30 ⟨rfl, ?_, x_only.rf⟩
    rw [if_pos h1]
    exact k0
  · have h1 : l.length < 16 := Classical.byContradiction fun z => c (nI_le (a := 16) (by omega) (by omega))
    refine eRO_add_22 rfl ?_
    refine eRO_add_23 ?_
    refine eRO_add_24 hr (Nat.le_of_ble_eq_true rfl) (sRO_has k0 hx) ?_
    rintro _ h1 ⟨rfl, rfl⟩
    refine ⟨_, rfl, ?_⟩
    by_cases hin : x ∈ l
    · rw [if_pos hin, if_pos hin]
      refine eRO_add_27 (fun c => absurd c (by decide)) (fun _ => ?_)
      exact eRO_add_30 ⟨rfl, k0, x_only.rf⟩
    · rw [if_neg hin, if_neg hin]
      refine eRO_add_27 (fun _ => ?_) (fun c => absurd rfl c)
      refine eRO_add_31 rfl ?_
      refine eRO_add_32 hr rfl ?_
      refine eRO_add_35 rfl ?_
      refine eRO_add_36 hr rfl ?_
      refine eRO_add_39 ?_
      refine eRO_add_40 ha (xn_in (by omega) (by decide)) ?_
      refine eRO_add_41 rfl ?_
      refine eRO_add_42 rfl ?_
      refine eRO_add_43 (xq_ne (by omega) hr) rfl ?_
      refine eRO_add_46 ?_
      refine eRO_add_47 ?_
      refine eRO_add_48 (xq_ne (by omega) hr) (Nat.le_of_ble_eq_true rfl) ?_
      refine eRO_add_51 rfl ?_
      refine eRO_add_52 rfl ?_
      refine eRO_add_53 xq_eq rfl ?_
      refine eRO_add_56 ?_
      refine eRO_add_57 ?_
      refine eRO_add_58 ?_
      refine eRO_add_59 ?_
      refine eRO_add_60 xq_eq (Nat.le_of_ble_eq_true rfl) ?_
      refine eRO_add_63 ⟨rfl, ⟨upd f l.length (nI x), m ||| 2 ^ x, ?_, ?_, ?_, ?_, ?_, ?_, ?_⟩, ((x_only.rf.put (by simp)).put (by simp)).put (by simp)⟩
      · rw [xq_eq]
        simp only [List.set_cons_succ, List.set_cons_zero, List.length_append, List.length_cons, List.length_nil, xn_shl hx, xn_or, nI_1]
      · rw [xq_of (by omega), xq_of (by omega), xq_eq, nI_clamp (by omega)]
      · exact Nat.or_lt_two_pow (n := 16) hm (Nat.pow_lt_pow_right (by decide) hx)
      · intro i hi
        rw [Nat.testBit_or, Nat.testBit_two_pow, List.mem_append, List.mem_singleton, Bool.or_eq_true, hb i hi, decide_eq_true_eq]
        exact or_congr Iff.rfl eq_comm
      · intro i y hy
        rw [List.getElem?_append] at hy
        split at hy
        · rename_i hil
          rw [upd, if_neg (by omega)]
          exact hf i y hy
        · rename_i hil
          have hz : i - l.length < 1 := (List.getElem?_eq_some_iff.mp hy).1
          have hz' : i = l.length := by omega
          subst hz'
          rw [Nat.sub_self] at hy
          cases hy
          rw [upd, if_pos rfl]
      · exact List.nodup_append.mpr ⟨hnd, by simp, fun a ha b hb => by rw [List.mem_singleton.mp hb]; intro e; exact hin (e ▸ ha)⟩
      · intro y hy
        rcases List.mem_append.mp hy with h2 | h2
        · exact h16 y h2
        · rw [List.mem_singleton.mp h2]; exact hx
end
theorem isRow.keep {h h' : x_H} {r : Nat} {l S : List Nat} (k : isRow h r l) (o : x_only h h' S) (h1 : r ∉ S) (h2 : r + 1 ∉ S) : isRow h' r l := by
  obtain ⟨f, m, hr, ha, z⟩ := k
  exact ⟨f, m, o.at h1 hr, o.at h2 ha, z⟩
theorem xn_clr {m x : Nat} (hm : m < 65536) (hx : x < 16) : nI m &&& (nI (2 ^ x) ^^^ (-1)) = nI (m &&& (65535 ^^^ 2 ^ x)) := by
  apply Int32.toBitVec_inj.mp
  show (Int32.ofNat m &&& (Int32.ofNat (2 ^ x) ^^^ (-1))).toBitVec = (Int32.ofNat (m &&& (65535 ^^^ 2 ^ x))).toBitVec
  rw [Int32.toBitVec_and, Int32.toBitVec_xor, show (-1 : Int32).toBitVec = BitVec.allOnes 32 by decide]
  apply BitVec.eq_of_getLsbD_eq
  intro i hi
  have h1 : ∀ n : Nat, (Int32.ofNat n).toBitVec.getLsbD i = n.testBit i := fun n => by
    show (BitVec.ofNat 32 n).getLsbD i = _
    rw [BitVec.getLsbD_ofNat]
    simp [hi]
  rw [BitVec.getLsbD_and, BitVec.getLsbD_xor, h1, h1, h1, Nat.testBit_and, Nat.testBit_xor, BitVec.getLsbD_allOnes]
  have h2 : Nat.testBit 65535 i = decide (i < 16) := Nat.testBit_two_pow_sub_one 16 i
  rw [h2]
  by_cases h3 : i < 16
  · simp [hi, h3, Bool.xor_comm]
  · have h4 : m.testBit i = false := Nat.testBit_lt_two_pow (Nat.lt_of_lt_of_le hm (Nat.pow_le_pow_right (n := 2) (by decide) (by omega : 16 ≤ i)))
    simp [h4]
def rmv (x : Nat) (l : List Nat) : List Nat := l.filter (fun y => !(y == x))
section
variable {P : x_P} {d : Nat} {r : Nat} {l : List Nat} {h0 : x_H} {f0 : Nat → Int32} {m x : Nat} {Φ : Outcome → x_H → Prop}
theorem lRO_remove (hx : x < 16) (hl : l.length ≤ 16) (h16 : ∀ y ∈ l, y < 16) (hf0 : ∀ i y, l[i]? = some y → f0 i = nI y)
    (kk : ∀ (h1 : x_H) (f1 : Nat → Int32), h1.1 r = some (.inr (6, [.ref (r + 1), .int (nI l.length), .int (nI m)])) → h1.1 (r + 1) = some (.inl (0, 16, .inl f1)) → x_only h0 h1 [r, r + 1] → (∀ i y, (rmv x l)[i]? = some y → f1 i = nI y) → x_K P d mRO_remove 52 [some (.ref r), some (.int (nI x)), some (.int (nI (rmv x l).length)), some (.int (nI l.length))] [] h1 Φ) :
    ∀ (j k : Nat) (h1 : x_H) (f1 : Nat → Int32), k + j = l.length → h1.1 r = some (.inr (6, [.ref (r + 1), .int (nI l.length), .int (nI m)])) → h1.1 (r + 1) = some (.inl (0, 16, .inl f1)) → x_only h0 h1 [r, r + 1] → (∀ i y, (rmv x (l.take k))[i]? = some y → f1 i = nI y) → (∀ i, k ≤ i → f1 i = f0 i) →
      x_K P d mRO_remove 13 [some (.ref r), some (.int (nI x)), some (.int (nI (rmv x (l.take k)).length)), some (.int (nI k))] [] h1 Φ := by
  intro j
  induction j with
  | zero =>
    intro k h1 f1 hk hr ha ho hf hg
    have hk' : k = l.length := by omega
    subst hk'
    rw [List.take_length] at hf ⊢
    refine eRO_remove_13 ?_
    refine eRO_remove_14 rfl ?_
    refine eRO_remove_15 hr rfl ?_
    refine eRO_remove_18 (fun _ => ?_) (fun c => absurd (nI_le (Nat.le_refl _) (by omega)) c)
    exact kk h1 f1 hr ha ho hf
  | succ j ih =>
    intro k h1 f1 hk hr ha ho hf hg
    have hkl : k < l.length := by omega
    have hy : l[k]? = some l[k] := List.getElem?_eq_getElem hkl
    have hy16 : l[k] < 16 := h16 _ (List.getElem_mem hkl)
    have ht : l.take (k + 1) = l.take k ++ [l[k]] := by rw [List.take_add_one, hy]; rfl
    have hle : (rmv x (l.take k)).length ≤ k := Nat.le_trans (List.length_filter_le _ _) (by rw [List.length_take]; omega)
    refine eRO_remove_13 ?_
    refine eRO_remove_14 rfl ?_
    refine eRO_remove_15 hr rfl ?_
    refine eRO_remove_18 (fun c => absurd c (nI_ge hkl (by omega))) (fun _ => ?_)
    refine eRO_remove_21 rfl ?_
    refine eRO_remove_22 hr rfl ?_
    refine eRO_remove_25 ?_
    refine eRO_remove_26 ha (xn_in (by omega) (by decide)) ?_
    refine eRO_remove_27 ?_
    have hfk : f1 (nI k).toNatClampNeg = nI l[k] := by rw [nI_clamp (by omega), hg k (Nat.le_refl _), hf0 k _ hy]
    rw [hfk]
    refine eRO_remove_28 (fun c => ?_) (fun c => ?_)
    · have hyx : l[k] = x := (nI_eq (by omega) (by omega)).mp c
      have hrm : rmv x (l.take (k + 1)) = rmv x (l.take k) := by
        rw [ht]
        unfold rmv
        rw [List.filter_append, show List.filter (fun y => !(y == x)) [l[k]] = [] by simp [hyx], List.append_nil]
      refine eRO_remove_46 ?_
      refine eRO_remove_49 ?_
      have h9 := ih (k + 1) h1 f1 (by omega) hr ha ho (by rw [hrm]; exact hf) (fun i hi => hg i (by omega))
      rw [hrm] at h9
      rw [nI_1]
      exact h9
    · have hyx : ¬ l[k] = x := fun z => c (by rw [z])
      have hrm : rmv x (l.take (k + 1)) = rmv x (l.take k) ++ [l[k]] := by
        rw [ht]
        unfold rmv
        rw [List.filter_append, show List.filter (fun y => !(y == x)) [l[k]] = [l[k]] by simp [hyx]]
      refine eRO_remove_31 rfl ?_
      refine eRO_remove_32 hr rfl ?_
      refine eRO_remove_35 ?_
      refine eRO_remove_36 rfl ?_
      refine eRO_remove_37 hr rfl ?_
      refine eRO_remove_40 ?_
      refine eRO_remove_41 ha (xn_in (by omega) (by decide)) ?_
      refine eRO_remove_42 ha (xn_in (by omega) (by decide)) ?_
      rw [hfk]
      refine eRO_remove_43 ?_
      refine eRO_remove_46 ?_
      refine eRO_remove_49 ?_
      have h9 := ih (k + 1) (x_put h1 (r + 1) (.inl (0, 16, .inl (upd f1 (nI (rmv x (l.take k)).length).toNatClampNeg (nI l[k]))))) (upd f1 (nI (rmv x (l.take k)).length).toNatClampNeg (nI l[k])) (by omega) (xq_ne (by omega) hr) xq_eq (ho.put (by simp)) (by
        rw [hrm]
        intro i y hi
        rw [nI_clamp (by omega), upd]
        rw [List.getElem?_append] at hi
        split at hi
        · rename_i hil
          rw [if_neg (by omega)]
          exact hf i y hi
        · rename_i hil
          have hz : i - (rmv x (l.take k)).length < 1 := (List.getElem?_eq_some_iff.mp hi).1
          have hz' : i = (rmv x (l.take k)).length := by omega
          rw [hz', Nat.sub_self] at hi
          cases hi
          rw [if_pos hz']) (fun i hi => by
        rw [nI_clamp (by omega), upd, if_neg (by omega)]
        exact hg i (by omega))
      rw [hrm, List.length_append, List.length_singleton] at h9
      rw [nI_1, nI_1]
      exact h9
theorem sRO_remove {h : x_H} (k : isRow h r l) (hx : x < 16) : x_K P (d + 1) mRO_remove 0 [some (.ref r), some (.int (nI x)), none, none] [] h (fun oc h' => oc = .returned none ∧ isRow h' r (rmv x l) ∧ x_only h h' [r, r + 1]) := by
  have hlen := k.len
  have k0 := k
  obtain ⟨f, m, hr, ha, hm, hb, hf, hnd, h16⟩ := k
  refine eRO_remove_0 rfl ?_
  refine eRO_remove_1 ?_
  refine eRO_remove_2 hr (Nat.le_of_ble_eq_true rfl) (sRO_has k0 hx) ?_
  rintro _ h1 ⟨rfl, rfl⟩
  refine ⟨_, rfl, ?_⟩
  by_cases hin : x ∈ l
  · rw [if_pos hin]
    refine eRO_remove_5 (fun _ => ?_) (fun c => absurd c (by decide))
    refine eRO_remove_9 ?_
    refine eRO_remove_10 ?_
    refine eRO_remove_11 ?_
    refine eRO_remove_12 ?_
    refine lRO_remove hx hlen h16 hf (h0 := h1) (m := m) ?_ l.length 0 h1 f (by omega) hr ha x_only.rf (fun i y hi => by simp [rmv] at hi) (fun _ _ => rfl)
    intro h2 f2 hr2 ha2 ho2 hf2
    refine eRO_remove_52 rfl ?_
    refine eRO_remove_53 ?_
    refine eRO_remove_54 hr2 (Nat.le_of_ble_eq_true rfl) ?_
    refine eRO_remove_57 rfl ?_
    refine eRO_remove_58 rfl ?_
    refine eRO_remove_59 xq_eq rfl ?_
    refine eRO_remove_62 ?_
    refine eRO_remove_63 ?_
    refine eRO_remove_64 ?_
    refine eRO_remove_65 ?_
    refine eRO_remove_66 ?_
    refine eRO_remove_67 ?_
    refine eRO_remove_68 xq_eq (Nat.le_of_ble_eq_true rfl) ?_
    refine eRO_remove_71 ⟨rfl, ⟨f2, m &&& (65535 ^^^ 2 ^ x), ?_, ?_, ?_, ?_, hf2, ?_, ?_⟩, (ho2.put (by simp)).put (by simp)⟩
    · rw [xq_eq]
      simp only [List.set_cons_succ, List.set_cons_zero, xn_shl hx, xn_clr hm hx]
    · exact xq_ne (by omega) (xq_ne (by omega) ha2)
    · exact Nat.lt_of_le_of_lt Nat.and_le_left hm
    · intro i hi
      have h2 : Nat.testBit 65535 i = decide (i < 16) := Nat.testBit_two_pow_sub_one 16 i
      rw [Nat.testBit_and, Nat.testBit_xor, h2, Nat.testBit_two_pow, Bool.and_eq_true, hb i hi]
      simp only [rmv, List.mem_filter, hi, decide_true, Bool.true_xor, Bool.not_eq_true', decide_eq_false_iff_not, beq_eq_false_iff_ne, ne_eq]
      exact and_congr Iff.rfl (not_congr eq_comm)
    · exact hnd.filter _
    · exact fun y hy => h16 y (List.mem_filter.mp hy).1
  · rw [if_neg hin]
    refine eRO_remove_5 (fun c => absurd rfl c) (fun _ => ?_)
    have hrm : rmv x l = l := List.filter_eq_self.mpr (fun y hy => by
      have : y ≠ x := fun e => hin (e ▸ hy)
      simp [this])
    rw [hrm]
    exact eRO_remove_8 ⟨rfl, k0, x_only.rf⟩
def addL (l : List Nat) (x : Nat) : List Nat := if x ∈ l then l else l ++ [x]
theorem lRO_addAll {r2 : Nat} {l2 : List Nat} (hne : r2 ∉ [r, r + 1]) (hne1 : r2 + 1 ∉ [r, r + 1])
    (kk : ∀ h1 : x_H, isRow h1 r (l2.foldl addL l) → x_only h0 h1 [r, r + 1] → Φ (.returned none) h1) :
    ∀ (j k : Nat) (h1 : x_H), k + j = l2.length → isRow h1 r ((l2.take k).foldl addL l) → isRow h1 r2 l2 → x_only h0 h1 [r, r + 1] →
      x_K P (d + 2) mRO_addAll 2 [some (.ref r), some (.ref r2), some (.int (nI k))] [] h1 Φ := by
  intro j
  induction j with
  | zero =>
    intro k h1 hk hr h2 ho
    have hk' : k = l2.length := by omega
    subst hk'
    rw [List.take_length] at hr
    have hlen := h2.len
    obtain ⟨f, m, hr2, -⟩ := h2
    refine eRO_addAll_2 ?_
    refine eRO_addAll_3 rfl ?_
    refine eRO_addAll_4 hr2 rfl ?_
    refine eRO_addAll_7 (fun _ => ?_) (fun c => absurd (nI_le (Nat.le_refl _) (by omega)) c)
    exact eRO_addAll_26 (kk h1 hr ho)
  | succ j ih =>
    intro k h1 hk hr h2 ho
    have hkl : k < l2.length := by omega
    have hy : l2[k]? = some l2[k] := List.getElem?_eq_getElem hkl
    have ht : l2.take (k + 1) = l2.take k ++ [l2[k]] := by rw [List.take_add_one, hy]; rfl
    have hlen := h2.len
    have h2' := h2
    obtain ⟨f, m, hr2, ha2, hm, hb, hf, hnd, h16⟩ := h2
    have hy16 : l2[k] < 16 := h16 _ (List.getElem_mem hkl)
    have hr' := hr
    obtain ⟨f', m', hr1, -⟩ := hr
    refine eRO_addAll_2 ?_
    refine eRO_addAll_3 rfl ?_
    refine eRO_addAll_4 hr2 rfl ?_
    refine eRO_addAll_7 (fun c => absurd c (nI_ge hkl (by omega))) (fun _ => ?_)
    refine eRO_addAll_10 rfl ?_
    refine eRO_addAll_11 rfl ?_
    refine eRO_addAll_12 hr2 rfl ?_
    refine eRO_addAll_15 ?_
    refine eRO_addAll_16 ha2 (xn_in (by omega) (by decide)) ?_
    rw [nI_clamp (by omega), hf k _ hy]
    refine eRO_addAll_17 hr1 (Nat.le_of_ble_eq_true rfl) (sRO_add hr' hy16) ?_
    rintro _ h3 ⟨rfl, hr3, ho3⟩
    refine ⟨_, rfl, ?_⟩
    refine eRO_addAll_20 ?_
    refine eRO_addAll_23 ?_
    rw [nI_1]
    refine ih (k + 1) h3 (by omega) ?_ (h2'.keep ho3 hne hne1) (ho.trans ho3 (fun _ z => z) (fun _ z => z))
    rw [ht, List.foldl_append]
    exact hr3
theorem sRO_addAll {h : x_H} {r2 : Nat} {l2 : List Nat} (k : isRow h r l) (k2 : isRow h r2 l2) (hne : r2 ∉ [r, r + 1]) (hne1 : r2 + 1 ∉ [r, r + 1]) : x_K P (d + 2) mRO_addAll 0 [some (.ref r), some (.ref r2), none] [] h (fun oc h' => oc = .returned none ∧ isRow h' r (l2.foldl addL l) ∧ x_only h h' [r, r + 1]) := by
  refine eRO_addAll_0 ?_
  refine eRO_addAll_1 ?_
  exact lRO_addAll hne hne1 (fun h1 a b => ⟨rfl, a, b⟩) l2.length 0 h (by omega) k k2 x_only.rf
end

