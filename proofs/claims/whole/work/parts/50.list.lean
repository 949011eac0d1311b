/-! ArrayList: the addresses l, in the array ed of n places (the empty one of the start, or one of its own) -/
def isAL (P : x_P) (h : x_H) (a ed n : Nat) (l : List Nat) : Prop := ∃ mc : Int32, h.1 a = some (.inr (9, [.ref ed, .int (nI l.length), .int mc])) ∧ ((ed = P.2.2.2.2.2.2.2.1 ∧ n = 0 ∧ l = []) ∨ ∃ f : Nat → Option Nat, h.1 ed = some (.inl (6, n, .inr (.inr (.inr (.inr f))))) ∧ l.length ≤ n ∧ 10 ≤ n ∧ n ≤ 100000 ∧ (∀ i y, l[i]? = some y → f i = some y) ∧ ∀ i, l.length ≤ i → f i = none)
theorem isAL.keep {P : x_P} {h h' : x_H} {a ed n : Nat} {l : List Nat} (k : isAL P h a ed n l) (o1 : h'.1 a = h.1 a) (o2 : h'.1 ed = h.1 ed) : isAL P h' a ed n l := by
  obtain ⟨mc, ha, z⟩ := k
  refine ⟨mc, o1.trans ha, ?_⟩
  rcases z with z | ⟨f, hf, z⟩
  · exact Or.inl z
  · exact Or.inr ⟨f, o2.trans hf, z⟩
section
variable {P : x_P} {d : Nat} {h : x_H} {a ed n : Nat} {l : List Nat}
theorem sAC_init : x_K P (d + 1) mAC_init 0 [some (.ref a)] [] h (fun oc h' => oc = .returned none ∧ h' = h) := by
  refine eAC_init_0 rfl ?_
  refine eAC_init_1 (Nat.le_of_ble_eq_true rfl) ?_
  exact eAC_init_4 ⟨rfl, rfl⟩
theorem sAB_init {fs : List Value} (ha : h.1 a = some (.inr (9, fs))) (hl : 2 < fs.length) : x_K P (d + 2) mAB_init 0 [some (.ref a)] [] h (fun oc h' => oc = .returned none ∧ h' = x_put h a (.inr (9, fs.set 2 (.int 0)))) := by
  refine eAB_init_0 rfl ?_
  refine eAB_init_1 (Nat.le_of_ble_eq_true rfl) sAC_init ?_
  rintro _ h1 ⟨rfl, rfl⟩
  refine ⟨_, rfl, ?_⟩
  refine eAB_init_4 rfl ?_
  refine eAB_init_5 ?_
  refine eAB_init_6 ha hl ?_
  exact eAB_init_9 ⟨rfl, rfl⟩
theorem sAL_init (ha : h.1 a = some (.inr (9, [.null, .int 0, .int 0]))) : x_K P (d + 3) mAL_init 0 [some (.ref a)] [] h (fun oc h' => oc = .returned none ∧ isAL P h' a P.2.2.2.2.2.2.2.1 0 [] ∧ x_only h h' [a]) := by
  refine eAL_init_0 rfl ?_
  refine eAL_init_1 (Nat.le_of_ble_eq_true rfl) (sAB_init ha (by decide)) ?_
  rintro _ h1 ⟨rfl, rfl⟩
  refine ⟨_, rfl, ?_⟩
  refine eAL_init_4 rfl ?_
  refine eAL_init_5 ?_
  refine eAL_init_8 xq_eq (by decide) ?_
  refine eAL_init_11 ⟨rfl, ⟨0, ?_, Or.inl ⟨rfl, rfl, rfl⟩⟩, (x_only.rf.put (by simp)).put (by simp)⟩
  rw [xq_eq]
  rfl
theorem sAL_size (k : isAL P h a ed n l) : x_K P d mAL_size 0 [some (.ref a)] [] h (fun oc h' => oc = .returned (some (.int (nI l.length))) ∧ h' = h) := by
  obtain ⟨mc, ha, -⟩ := k
  refine eAL_size_0 rfl ?_
  refine eAL_size_1 ha rfl ?_
  exact eAL_size_4 ⟨rfl, rfl⟩
theorem sPC_check {i m : Nat} {u : Value} (hi : i < m) (hm : m < 2 ^ 31) : x_K P d mPC_checkIndex 0 [some (.int (nI i)), some (.int (nI m)), some u] [] h (fun oc h' => oc = .returned (some (.int (nI i))) ∧ h' = h) := by
  refine ePC_checkIndex_0 ?_
  refine ePC_checkIndex_1 (fun c => absurd c (nI_pos (by omega))) (fun _ => ?_)
  refine ePC_checkIndex_4 ?_
  refine ePC_checkIndex_5 ?_
  refine ePC_checkIndex_6 (fun _ => ?_) (fun c => absurd (nI_lt hi hm) c)
  refine ePC_checkIndex_16 ?_
  exact ePC_checkIndex_17 ⟨rfl, rfl⟩
theorem sOB_check {i m : Nat} (hi : i < m) (hm : m < 2 ^ 31) : x_K P (d + 1) mOB_checkIndex 0 [some (.int (nI i)), some (.int (nI m))] [] h (fun oc h' => oc = .returned (some (.int (nI i))) ∧ h' = h) := by
  refine eOB_checkIndex_0 ?_
  refine eOB_checkIndex_1 ?_
  refine eOB_checkIndex_2 ?_
  refine eOB_checkIndex_3 rfl (Nat.le_of_ble_eq_true rfl) (sPC_check hi hm) ?_
  rintro _ h1 ⟨rfl, rfl⟩
  refine ⟨_, rfl, ?_⟩
  exact eOB_checkIndex_6 ⟨rfl, rfl⟩
theorem sAL_get {i y : Nat} (k : isAL P h a ed n l) (hi : l[i]? = some y) : x_K P (d + 2) mAL_get 0 [some (.ref a), some (.int (nI i))] [] h (fun oc h' => oc = .returned (some (.ref y)) ∧ h' = h) := by
  have hlt : i < l.length := (List.getElem?_eq_some_iff.mp hi).1
  obtain ⟨mc, ha, z⟩ := k
  rcases z with ⟨-, -, z⟩ | ⟨f, hf, hln, h10, hn, hel, -⟩
  · rw [z] at hlt; cases hlt
  refine eAL_get_0 ?_
  refine eAL_get_1 rfl ?_
  refine eAL_get_2 ha rfl ?_
  refine eAL_get_5 (Nat.le_of_ble_eq_true rfl) (sOB_check hlt (by omega)) ?_
  rintro _ h1 ⟨rfl, rfl⟩
  refine ⟨_, rfl, ?_⟩
  refine eAL_get_8 rfl ?_
  refine eAL_get_9 rfl ?_
  refine eAL_get_10 ?_
  refine eAL_get_11 ha (Nat.le_of_ble_eq_true rfl) (Ψ := fun oc h' => oc = .returned (some (.ref y)) ∧ h' = h1) ?_ ?_
  · refine eAL_elementData_0 rfl ?_
    refine eAL_elementData_1 ha rfl ?_
    refine eAL_elementData_4 ?_
    refine eAL_elementData_5 hf rfl (xn_in (by omega) (by omega)) ?_
    rw [nI_clamp (by omega), hel i y hi]
    exact eAL_elementData_6 rfl ⟨rfl, rfl⟩
  · rintro _ h2 ⟨rfl, rfl⟩
    exact ⟨_, rfl, eAL_get_14 rfl ⟨rfl, rfl⟩⟩
theorem sAS_newLength {n : Nat} (h10 : 10 ≤ n) (hn : n ≤ 100000) : x_K P (d + 1) mAS_newLength 0 [some (.int (nI n)), some (.int (nI 1)), some (.int (nI (n / 2))), none] [] h (fun oc h' => oc = .returned (some (.int (nI (n + n / 2)))) ∧ h' = h) := by
  refine eAS_newLength_0 ?_
  refine eAS_newLength_1 ?_
  refine eAS_newLength_2 ?_
  refine eAS_newLength_3 (Nat.le_of_ble_eq_true rfl) ?_
  rw [if_pos (nI_lt (by omega) (by omega))]
  refine eAS_newLength_6 ?_
  refine eAS_newLength_7 ?_
  refine eAS_newLength_8 ?_
  refine eAS_newLength_9 ?_
  rw [nI_add]
  refine eAS_newLength_10 (fun c => absurd c (nI_nle (by omega) (by omega))) (fun _ => ?_)
  refine eAS_newLength_13 ?_
  refine eAS_newLength_14 ?_
  refine eAS_newLength_16 (fun c => absurd c (nI_nlt (a := 2147483639) (by omega) (by decide))) (fun _ => ?_)
  refine eAS_newLength_19 ?_
  exact eAS_newLength_20 ⟨rfl, rfl⟩
theorem sAR_copyOf2 {m : Nat} {f : Nat → Option Nat} (hf : h.1 ed = some (.inl (6, n, .inr (.inr (.inr (.inr f)))))) (hnm : n ≤ m) (hm : m ≤ 1000000) (hob : ∀ i, i < n → ∀ y, f i = some y → x_ob h y) (hed : ed < h.2.1) (hobl : ∀ i, i < n → ∀ y, f i = some y → y < h.2.1) : x_K P (d + 2) mAR_copyOf2 0 [some (.ref ed), some (.int (nI m)), some (.ref P.2.2.2.2.2.2.2.2), none] [] h (fun oc h' => oc = .returned (some (.ref h.2.1)) ∧ (∃ g : Nat → Option Nat, h'.1 h.2.1 = some (.inl (6, m, .inr (.inr (.inr (.inr g))))) ∧ (∀ i, i < n → g i = f i) ∧ ∀ i, n ≤ i → g i = none) ∧ x_gr h h' 1 m []) := by
  refine eAR_copyOf2_0 rfl ?_
  refine eAR_copyOf2_1 ?_
  refine eAR_copyOf2_3 ?_
  refine eAR_copyOf2_6 ?_
  refine eAR_copyOf2_7 (nI_pos (by omega)) (nI_clamp (by omega)) (by omega) ?_
  refine eAR_copyOf2_10 ?_
  refine eAR_copyOf2_24 rfl ?_
  have hf1 := xw_ne (e := .inl (6, m, .inr (.inr (.inr (.inr (fun _ => none)))))) (n := m) (Nat.ne_of_lt hed) hf
  refine eAR_copyOf2_25 rfl ?_
  refine eAR_copyOf2_26 ?_
  refine eAR_copyOf2_27 rfl ?_
  refine eAR_copyOf2_28 ?_
  refine eAR_copyOf2_29 rfl ?_
  refine eAR_copyOf2_30 hf1 rfl ?_
  refine eAR_copyOf2_31 ?_
  refine eAR_copyOf2_32 (Nat.le_of_ble_eq_true rfl) ?_
  rw [show (if nI m < Int32.ofNat n then nI m else Int32.ofNat n) = nI n from if_neg (nI_nlt hnm (by omega))]
  refine eAR_copyOf2_35 hf1 xw_eq (nI_pos (by omega)) (by rw [nI_clamp (by omega)]; exact Nat.le_refl _) (by rw [nI_clamp (by omega)]; exact hnm) ?_ (Nat.le_of_ble_eq_true rfl) ?_
  · intro i hi y hy
    rw [nI_clamp (by omega)] at hi
    have h1 := hob i hi y hy
    have h2 := hobl i hi y hy
    obtain ⟨ci, fs, q, g1, g2⟩ := h1
    exact ⟨ci, fs, q, xw_ne (Nat.ne_of_lt h2) g1, g2⟩
  refine eAR_copyOf2_38 rfl ?_
  refine eAR_copyOf2_39 rfl ⟨rfl, ⟨_, xq_eq, fun i hi => ?_, fun i hi => ?_⟩, x_gr.new.put (Or.inr (Nat.le_refl _))⟩
  · rw [nI_clamp (by omega), pk_cpy_in (by omega) (by omega)]
    simp
  · rw [nI_clamp (by omega), pk_cpy_out (by omega)]
theorem sAR_copyOf {m : Nat} {f : Nat → Option Nat} (hf : h.1 ed = some (.inl (6, n, .inr (.inr (.inr (.inr f)))))) (hnm : n ≤ m) (hm : m ≤ 1000000) (hob : ∀ i, i < n → ∀ y, f i = some y → x_ob h y) (hed : ed < h.2.1) (hobl : ∀ i, i < n → ∀ y, f i = some y → y < h.2.1) : x_K P (d + 3) mAR_copyOf 0 [some (.ref ed), some (.int (nI m))] [] h (fun oc h' => oc = .returned (some (.ref h.2.1)) ∧ (∃ g : Nat → Option Nat, h'.1 h.2.1 = some (.inl (6, m, .inr (.inr (.inr (.inr g))))) ∧ (∀ i, i < n → g i = f i) ∧ ∀ i, n ≤ i → g i = none) ∧ x_gr h h' 1 m []) := by
  refine eAR_copyOf_0 rfl ?_
  refine eAR_copyOf_1 ?_
  refine eAR_copyOf_2 rfl ?_
  refine eAR_copyOf_3 hf (Nat.le_of_ble_eq_true rfl) ?_
  refine eAR_copyOf_6 rfl rfl (Nat.le_of_ble_eq_true rfl) (sAR_copyOf2 hf hnm hm hob hed hobl) ?_
  rintro _ h1 ⟨rfl, k1, g1⟩
  exact ⟨_, rfl, eAR_copyOf_9 rfl ⟨rfl, k1, g1⟩⟩
end
def x_wf (h : x_H) (S : List Nat) : Prop := ∀ q ∈ S, ∀ e, h.1 q = some e → q < h.2.1
def alG (n : Nat) : Nat := if n = 0 then 10 else n + n / 2
theorem x_ob.lt {h : x_H} {y : Nat} {S : List Nat} (hw : x_wf h S) (hy : y ∈ S) (k : x_ob h y) : y < h.2.1 := by
  obtain ⟨ci, fs, q, h1, -⟩ := k
  exact hw _ hy _ h1
section
variable {P : x_P} {d : Nat} {h : x_H} {a ed n : Nat} {l : List Nat}
theorem sAL_grow2 (k : isAL P h a ed n l) (hl : l.length = n) (hn : n ≤ 60000) (hw : x_wf h (a :: ed :: l)) (hob : ∀ y ∈ l, x_ob h y) : x_K P (d + 4) mAL_grow2 0 [some (.ref a), some (.int (nI (n + 1))), none, none] [] h (fun oc h' => oc = .returned (some (.ref h.2.1)) ∧ isAL P h' a h.2.1 (alG n) l ∧ x_gr h h' 1 (alG n) [a]) := by
  obtain ⟨mc, ha, z⟩ := k
  have hal : a < h.2.1 := hw a (by simp) _ ha
  rcases z with ⟨rfl, rfl, rfl⟩ | ⟨f, hf, hln, h10, hn1, hel, hno⟩
  · refine eAL_grow2_0 rfl ?_
    refine eAL_grow2_1 ha rfl ?_
    refine eAL_grow2_4E ?_
    refine eAL_grow2_5 ?_
    refine eAL_grow2_6 ?_
    refine eAL_grow2_7 (fun c => absurd c (by decide)) (fun _ => ?_)
    refine eAL_grow2_10 rfl ?_
    refine eAL_grow2_11 ha rfl ?_
    refine eAL_grow2_14 ?_
    refine eAL_grow2_17 (fun _ => ?_) (fun c => absurd rfl c)
    refine eAL_grow2_45 rfl ?_
    refine eAL_grow2_46 ?_
    refine eAL_grow2_48 ?_
    refine eAL_grow2_49 (Nat.le_of_ble_eq_true rfl) ?_
    rw [show (if (10 : Int32) < nI (0 + 1) then nI (0 + 1) else 10) = 10 by decide]
    refine eAL_grow2_52 (n := 10) (by decide) (by decide) (by decide) ?_
    refine eAL_grow2_55 rfl rfl ?_
    refine eAL_grow2_56 (xw_ne (Nat.ne_of_lt hal) ha) (Nat.le_of_ble_eq_true rfl) ?_
    refine eAL_grow2_59 rfl ⟨rfl, ⟨mc, ?_, Or.inr ⟨fun _ => none, ?_, by decide, by decide, by decide, fun i y hi => by simp at hi, fun _ _ => rfl⟩⟩, x_gr.new.put (by simp)⟩
    · rw [xq_eq]
      rfl
    · rw [xq_of (Nat.ne_of_gt hal)]
      exact xw_eq
  · have hed : ed < h.2.1 := hw ed (by simp) _ hf
    refine eAL_grow2_0 rfl ?_
    refine eAL_grow2_1 ha rfl ?_
    refine eAL_grow2_4 hf rfl ?_
    refine eAL_grow2_5 ?_
    refine eAL_grow2_6 ?_
    refine eAL_grow2_7 (fun _ => ?_) (fun c => absurd (nI_lt (a := 0) (b := n) (by omega) (by omega)) c)
    refine eAL_grow2_20 ?_
    refine eAL_grow2_21 ?_
    refine eAL_grow2_22 ?_
    refine eAL_grow2_23 ?_
    refine eAL_grow2_24 ?_
    refine eAL_grow2_25 ?_
    refine eAL_grow2_26 ?_
    have e1 : nI (n + 1) - Int32.ofNat (n, (Sum.inr (Sum.inr (Sum.inr (Sum.inr f))) : (Nat → Int32) ⊕ (Nat → Int64) ⊕ (Nat → UInt32) ⊕ (Nat → UInt64) ⊕ (Nat → Option Nat))).1 = nI 1 := by
      show nI (n + 1) - nI n = nI 1
      rw [pk_sub (by omega), Nat.add_sub_cancel_left]
    have e2 : Int32.ofNat (n, (Sum.inr (Sum.inr (Sum.inr (Sum.inr f))) : (Nat → Int32) ⊕ (Nat → Int64) ⊕ (Nat → UInt32) ⊕ (Nat → UInt64) ⊕ (Nat → Option Nat))).1 >>> ((1 : Int32) &&& 31) = nI (n / 2) := by
      show nI n >>> ((1 : Int32) &&& 31) = nI (n / 2)
      rw [pk_shrN (by omega) ((1 : Int32) &&& 31) 1 (by decide), Nat.pow_one]
    rw [e1, e2]
    refine eAL_grow2_27 (Nat.le_of_ble_eq_true rfl) ((sAS_newLength h10 hn1).up (d := d + 1) (by omega)) ?_
    rintro _ h1 ⟨rfl, rfl⟩
    refine ⟨_, rfl, ?_⟩
    refine eAL_grow2_30 ?_
    refine eAL_grow2_31 rfl ?_
    refine eAL_grow2_32 rfl ?_
    refine eAL_grow2_33 ha rfl ?_
    refine eAL_grow2_36 ?_
    have hin : ∀ i, i < n → ∀ y, f i = some y → x_ob h1 y ∧ y < h1.2.1 := by
      intro i hi y hy
      have hy2 : l[i]? = some l[i] := List.getElem?_eq_getElem (by omega)
      have h2 := hel i _ hy2
      rw [h2] at hy
      cases hy
      have hm : l[i] ∈ l := List.getElem_mem (by omega)
      exact ⟨hob _ hm, (hob _ hm).lt hw (by simp [hm])⟩
    refine eAL_grow2_37 rfl (Nat.le_of_ble_eq_true rfl) (sAR_copyOf (m := n + n / 2) hf (by omega) (by omega) (fun i hi y hy => (hin i hi y hy).1) hed (fun i hi y hy => (hin i hi y hy).2)) ?_
    rintro _ h2 ⟨rfl, ⟨g, hg, g1, g2⟩, gr⟩
    refine ⟨_, rfl, ?_⟩
    have ha2 : h2.1 a = some (.inr (9, [.ref ed, .int (nI l.length), .int mc])) := (gr.2.2 a hal (by simp)).trans ha
    refine eAL_grow2_40 rfl rfl ?_
    refine eAL_grow2_41 ha2 (Nat.le_of_ble_eq_true rfl) ?_
    have hgn : alG n = n + n / 2 := if_neg (by omega)
    rw [hgn]
    refine eAL_grow2_44 rfl ⟨rfl, ⟨mc, ?_, Or.inr ⟨g, ?_, by omega, by omega, by omega, fun i y hi => ?_, fun i hi => ?_⟩⟩, ?_⟩
    · rw [xq_eq]
      rfl
    · rw [xq_of (Nat.ne_of_gt hal)]
      exact hg
    · rw [g1 i (by have := (List.getElem?_eq_some_iff.mp hi).1; omega)]
      exact hel i y hi
    · exact g2 i (by omega)
    · have gr' : x_gr h1 h2 1 (n + n / 2) [a] := ⟨gr.1, gr.2.1, fun q hq _ => gr.2.2 q hq (by simp)⟩
      exact gr'.put (by simp)
theorem sAL_grow (k : isAL P h a ed n l) (hl : l.length = n) (hn : n ≤ 60000) (hw : x_wf h (a :: ed :: l)) (hob : ∀ y ∈ l, x_ob h y) : x_K P (d + 5) mAL_grow 0 [some (.ref a)] [] h (fun oc h' => oc = .returned (some (.ref h.2.1)) ∧ isAL P h' a h.2.1 (alG n) l ∧ x_gr h h' 1 (alG n) [a]) := by
  have ha := k.choose_spec.1
  refine eAL_grow_0 rfl ?_
  refine eAL_grow_1 rfl ?_
  refine eAL_grow_2 ha rfl ?_
  refine eAL_grow_5 ?_
  refine eAL_grow_6 ?_
  rw [nI_1, hl]
  refine eAL_grow_7 ha (Nat.le_of_ble_eq_true rfl) (sAL_grow2 k hl hn hw hob) ?_
  rintro _ h1 ⟨rfl, k1, g1⟩
  exact ⟨_, rfl, eAL_grow_10 rfl ⟨rfl, k1, g1⟩⟩
theorem sAL_put {v : Nat} {u2 : Value} {f : Nat → Option Nat} {mc : Int32} (ha : h.1 a = some (.inr (9, [.ref ed, .int (nI l.length), .int mc]))) (hf : h.1 ed = some (.inl (6, n, .inr (.inr (.inr (.inr f)))))) (hln : l.length < n) (h10 : 10 ≤ n) (hn1 : n ≤ 100000) (hel : ∀ i y, l[i]? = some y → f i = some y) (hno : ∀ i, l.length ≤ i → f i = none) (hv : x_ob h v) : x_K P d mAL_add2 11 [some (.ref a), some (.ref v), some (.ref ed), some (.int (nI l.length))] [] h (fun oc h' => oc = .returned none ∧ isAL P h' a ed n (l ++ [v]) ∧ x_only h h' [a, ed]) := by
  have hne : ed ≠ a := fun z => by rw [z, ha] at hf; cases hf
  refine eAL_add2_11 rfl ?_
  refine eAL_add2_12 ?_
  refine eAL_add2_13 rfl ?_
  refine eAL_add2_14 hf hv (xn_in hln (by omega)) ?_
  refine eAL_add2_15 rfl ?_
  refine eAL_add2_16 ?_
  refine eAL_add2_17 ?_
  refine eAL_add2_18 ?_
  rw [nI_1, nI_clamp (by omega)]
  refine eAL_add2_19 (xq_ne (Ne.symm hne) ha) (Nat.le_of_ble_eq_true rfl) ?_
  refine eAL_add2_22 ⟨rfl, ⟨mc, ?_, Or.inr ⟨va_up f l.length (some v), ?_, ?_, h10, hn1, ?_, ?_⟩⟩, (x_only.rf.put (by simp)).put (by simp)⟩
  · rw [xq_eq, List.length_append, List.length_singleton]
    rfl
  · rw [xq_of hne, xq_eq]
  · rw [List.length_append, List.length_singleton]
    omega
  · intro i y hi
    rw [List.getElem?_append] at hi
    split at hi
    · rename_i hil
      rw [show va_up f l.length (some v) i = f i by simp [va_up, show i ≠ l.length by omega]]
      exact hel i y hi
    · rename_i hil
      have hz : i - l.length < 1 := (List.getElem?_eq_some_iff.mp hi).1
      have hz' : i = l.length := by omega
      subst hz'
      rw [Nat.sub_self] at hi
      cases hi
      simp [va_up]
  · intro i hi
    rw [List.length_append, List.length_singleton] at hi
    rw [show va_up f l.length (some v) i = f i by simp [va_up, show i ≠ l.length by omega]]
    exact hno i (by omega)
theorem sAL_add {v : Nat} (k : isAL P h a ed n l) (hn : n ≤ 60000) (hw : x_wf h (a :: ed :: v :: l)) (hob : ∀ y ∈ l, x_ob h y) (hv : x_ob h v) : x_K P (d + 7) mAL_add 0 [some (.ref a), some (.ref v)] [] h (fun oc h' => oc = .returned (some (.int 1)) ∧ ((l.length < n ∧ isAL P h' a ed n (l ++ [v]) ∧ x_only h h' [a, ed]) ∨ (l.length = n ∧ isAL P h' a h.2.1 (alG n) (l ++ [v]) ∧ x_gr h h' 1 (alG n) [a]))) := by
  obtain ⟨mc, ha, z⟩ := k
  have hal : a < h.2.1 := hw a (by simp) _ ha
  refine eAL_add_0 rfl ?_
  refine eAL_add_1 rfl ?_
  refine eAL_add_2 ha rfl ?_
  refine eAL_add_5 ?_
  refine eAL_add_6 ?_
  refine eAL_add_7 ha (Nat.le_of_ble_eq_true rfl) ?_
  refine eAL_add_10 rfl ?_
  refine eAL_add_11 rfl ?_
  refine eAL_add_12 rfl ?_
  refine eAL_add_13 xq_eq rfl ?_
  refine eAL_add_16 rfl ?_
  refine eAL_add_17 xq_eq rfl ?_
  have k1 : isAL P (x_put h a (.inr (9, [.ref ed, .int (nI l.length), .int (mc + 1)]))) a ed n l := by
    refine ⟨mc + 1, xq_eq, ?_⟩
    rcases z with z | ⟨f, hf, z⟩
    · exact Or.inl z
    · exact Or.inr ⟨f, xq_ne (fun e => by rw [e, ha] at hf; cases hf) hf, z⟩
  have ob1 : ∀ y, x_ob h y → x_ob (x_put h a (.inr (9, [.ref ed, .int (nI l.length), .int (mc + 1)]))) y := by
    rintro y ⟨ci, fs, q, g1, g2, g3⟩
    by_cases hya : y = a
    · subst hya
      rw [ha] at g1
      cases g1
      exact ⟨9, _, q, xq_eq, g2, g3⟩
    · exact ⟨ci, fs, q, xq_ne hya g1, g2, g3⟩
  have w1 : x_wf (x_put h a (.inr (9, [.ref ed, .int (nI l.length), .int (mc + 1)]))) (a :: ed :: v :: l) := by
    intro q hqS e hq
    by_cases hqa : q = a
    · rw [hqa]; exact hal
    · rw [xq_of hqa] at hq
      exact hw q hqS e hq
  have o1 : x_only h (x_put h a (.inr (9, [.ref ed, .int (nI l.length), .int (mc + 1)]))) [a] := x_only.rf.put (by simp)
  show x_K P (d + 6 + 1) mAL_add 20 _ _ (x_put h a (.inr (9, [.ref ed, .int (nI l.length), .int (mc + 1)]))) _
  generalize x_put h a (.inr (9, [.ref ed, .int (nI l.length), .int (mc + 1)])) = h1 at k1 ob1 w1 o1 ⊢
  have ha1 := k1.choose_spec.1
  have e1 : h1.2.1 = h.2.1 := by rw [o1.1]
  have e2 : h1.2.2 = h.2.2 := by rw [o1.1]
  refine eAL_add_20 ha1 rfl rfl (Nat.le_of_ble_eq_true rfl) (Ψ := fun oc h' => oc = .returned none ∧ ((l.length < n ∧ isAL P h' a ed n (l ++ [v]) ∧ x_only h1 h' [a, ed]) ∨ (l.length = n ∧ isAL P h' a h1.2.1 (alG n) (l ++ [v]) ∧ x_gr h1 h' 1 (alG n) [a]))) ?_ ?_
  · refine eAL_add2_0 ?_
    refine eAL_add2_1 rfl ?_
    have k2 := k1
    obtain ⟨mc1, hc1, z1⟩ := k1
    have grow : l.length = n → x_K P (d + 6) mAL_add2 6 [some (.ref a), some (.ref v), some (.ref ed), some (.int (nI l.length))] [] h1 (fun oc h' => oc = .returned none ∧ ((l.length < n ∧ isAL P h' a ed n (l ++ [v]) ∧ x_only h1 h' [a, ed]) ∨ (l.length = n ∧ isAL P h' a h1.2.1 (alG n) (l ++ [v]) ∧ x_gr h1 h' 1 (alG n) [a]))) := by
      intro hl
      refine eAL_add2_6 rfl ?_
      refine eAL_add2_7 hc1 (Nat.le_of_ble_eq_true rfl) (sAL_grow k2 hl hn (fun q hq => w1 q (by simp at hq ⊢; grind)) (fun y hy => ob1 y (hob y hy))) ?_
      rintro _ h2 ⟨rfl, k3, g3⟩
      refine ⟨_, rfl, ?_⟩
      refine eAL_add2_10 rfl ?_
      obtain ⟨mc3, hc3, z3⟩ := k3
      have hgl : l.length < alG n := by
        unfold alG
        split <;> omega
      rcases z3 with ⟨-, hz, -⟩ | ⟨f3, hf3, hln3, h103, hn3, hel3, hno3⟩
      · unfold alG at hz
        split at hz <;> omega
      have hv2 : x_ob h2 v := by
        obtain ⟨ci, fs, q, g1, g2⟩ := ob1 v hv
        by_cases hva : v = a
        · subst hva
          rw [hc1] at g1
          cases g1
          exact ⟨9, _, q, hc3, g2⟩
        · exact ⟨ci, fs, q, (g3.2.2 v (w1 v (by simp) _ g1) (by simp [hva])).trans g1, g2⟩
      refine x_Kmono (sAL_put (u2 := .null) hc3 hf3 hgl h103 hn3 hel3 hno3 hv2) (fun oc h' z => ⟨z.1, Or.inr ⟨hl, z.2.1, ?_⟩⟩)
      have g4 := g3.trans z.2.2.gr (S := [a]) (fun _ z => z) (fun q hq hlt => by
        simp only [List.mem_cons, List.not_mem_nil, or_false] at hq
        rcases hq with rfl | rfl
        · simp
        · omega)
      exact g4
    rcases z1 with ⟨rfl, rfl, rfl⟩ | ⟨f, hf, hln, h10, hn1, hel, hno⟩
    · refine eAL_add2_2E ?_
      refine eAL_add2_3 (fun c => absurd (by decide) c) (fun _ => ?_)
      exact grow rfl
    · refine eAL_add2_2 hf rfl ?_
      refine eAL_add2_3 (fun c => ?_) (fun c => ?_)
      · have hlt : l.length < n := by
          rcases Nat.lt_or_ge l.length n with h9 | h9
          · exact h9
          · exact absurd (show nI l.length = Int32.ofNat n by rw [show l.length = n by omega]; rfl) c
        exact x_Kmono (sAL_put (u2 := .null) hc1 hf hlt h10 hn1 hel hno (ob1 v hv)) (fun oc h' z => ⟨z.1, Or.inl ⟨hlt, z.2⟩⟩)
      · exact grow ((nI_eq (by omega) (by omega)).mp c)
  · rintro _ h2 ⟨rfl, hz⟩
    refine ⟨_, rfl, ?_⟩
    refine eAL_add_23 ?_
    refine eAL_add_24 rfl ⟨rfl, ?_⟩
    rcases hz with ⟨q1, q2, q3⟩ | ⟨q1, q2, q3⟩
    · exact Or.inl ⟨q1, q2, o1.trans q3 (by simp) (fun _ z => z)⟩
    · refine Or.inr ⟨q1, by rw [← e1]; exact q2, ?_⟩
      have g4 := o1.gr.trans q3 (S := [a]) (fun _ z => z) (fun q hq _ => hq)
      rw [Nat.zero_add, Nat.zero_add] at g4
      exact g4
end

