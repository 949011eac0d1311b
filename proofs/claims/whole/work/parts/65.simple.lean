/-! waiting, filters, count, write -/
def lkI (p : Nat → Nat) (x y : Int32) : Option Nat := if 0 ≤ x ∧ x < 6 ∧ 0 ≤ y ∧ y < 6 then lkF p (6 * x.toNatClampNeg + y.toNatClampNeg) else none
theorem lkI_lt {p : Nat → Nat} {x y : Int32} {j : Nat} (h : lkI p x y = some j) : j < 10 := by
  unfold lkI at h
  split at h
  · rename_i c
    refine lkF_lt h ?_
    have h1 : x.toNatClampNeg < 6 := by
      have := Int32.lt_iff_toInt_lt.mp c.2.1
      have h3 : (6 : Int32).toInt = 6 := by decide
      show x.toInt.toNat < 6
      omega
    have h2 : y.toNatClampNeg < 6 := by
      have := Int32.lt_iff_toInt_lt.mp c.2.2.2
      have h3 : (6 : Int32).toInt = 6 := by decide
      show y.toInt.toNat < 6
      omega
    omega
  · cases h
section
variable {P : x_P} {b : Nat} {p : Nat → Nat} {Z : Nat × Nat × (Nat → Option x_E)} {z : Nat × Nat} {d : Nat} {S : bS} {h : x_H}
theorem sBT_link {x y : Int32} (kB : isB P b p Z S z h) : x_K P d mBT_linkBetween 0 [some (.ref b), some (.int x), some (.int y)] [] h (fun oc h' => oc = .returned (some (va_rf ((lkI p x y).map (fun j => b + 16 + 7 * j)))) ∧ h' = h) := by
  by_cases hx : ∃ i t : Nat, i < 6 ∧ t < 6 ∧ x = nI i ∧ y = nI t
  · obtain ⟨i, t, h1, h2, rfl, rfl⟩ := hx
    have e : lkI p (nI i) (nI t) = lkF p (6 * i + t) := by
      unfold lkI
      rw [if_pos ⟨nI_pos' (by omega), nI_lt (b := 6) h1 (by decide), nI_pos' (by omega), nI_lt (b := 6) h2 (by decide)⟩, nI_clamp (by omega), nI_clamp (by omega)]
    rw [e]
    exact sBT_linkBetween kB h1 h2
  · have e : lkI p x y = none := by
      unfold lkI
      refine if_neg fun c => hx ?_
      have lem : ∀ x : Int32, 0 ≤ x → x < 6 → ∃ i : Nat, i < 6 ∧ x = nI i := by
        intro x c1 c2
        obtain ⟨i, hi, ei⟩ := nI_of2 (x := x) (M := 5) (n := 5) (by decide) (Int32.not_lt.mpr c1) (by
          have h1 := c2
          rw [Int32.lt_iff_toInt_lt] at h1
          rw [Int32.le_iff_toInt_le]
          have h2 : (6 : Int32).toInt = 6 := by decide
          have h3 : (5 : Int32).toInt = 5 := by decide
          omega)
        exact ⟨i, by omega, ei⟩
      obtain ⟨i, a1, a2⟩ := lem x c.1 c.2.1
      obtain ⟨t, a3, a4⟩ := lem y c.2.2.1 c.2.2.2
      exact ⟨i, t, a1, a3, a2, a4⟩
    rw [e]
    exact sBT_linkOut hx
theorem map_no {o : Option Nat} (h : o.map (fun j => b + 16 + 7 * j) = none) : o = none := by
  cases o with
  | none => rfl
  | some j => cases h
theorem sBT_waiting {x y : Int32} (kB : isB P b p Z S z h) : x_K P (d + 1) mBT_waiting 0 [some (.ref b), some (.int x), some (.int y), none] [] h (fun oc h' => oc = .returned (some (.int (match lkI p x y with | none => -1 | some j => nI (b_Q S j).length))) ∧ h' = h) := by
  refine eBT_waiting_0 rfl ?_
  refine eBT_waiting_1 ?_
  refine eBT_waiting_2 ?_
  refine eBT_waiting_3 kB.obj.1 (Nat.le_of_ble_eq_true rfl) (sBT_link kB) ?_
  rintro _ h1 ⟨rfl, rfl⟩
  refine ⟨_, rfl, ?_⟩
  refine eBT_waiting_6 (x_isr _) ?_
  refine eBT_waiting_7 (x_isr _) ?_
  refine eBT_waiting_8 (fun e => ?_) (fun a e => ?_)
  · rw [map_no e]
    refine eBT_waiting_11 ?_
    refine eBT_waiting_12 ?_
    exact eBT_waiting_22 ⟨rfl, rfl⟩
  · obtain ⟨j, e1, e2⟩ := Option.map_eq_some_iff.mp e
    subst e2
    have hj := lkI_lt e1
    obtain ⟨fq, hq1⟩ := kB.qcell (j := j) (by omega)
    rw [e, e1]
    show x_K P (d + 1) mBT_waiting 15 [some (.ref b), some (.int x), some (.int y), some (.ref (b + 16 + 7 * j))] [] h1 _
    refine eBT_waiting_15 rfl ?_
    refine eBT_waiting_16 (kB.lk hj) rfl ?_
    refine eBT_waiting_19 hq1 (Nat.le_of_ble_eq_true rfl) (kB.qsize (by omega)) ?_
    rintro _ h2 ⟨rfl, rfl⟩
    exact ⟨_, rfl, eBT_waiting_22 ⟨rfl, rfl⟩⟩
theorem sBT_count {x : Int32} (kB : isB P b p Z S z h) : x_K P d mBT_count 0 [some (.ref b), some (.int x)] [] h (fun oc h' => oc = .returned (some (.int (if 0 ≤ x ∧ x < 4 then nI (b_cn S x.toNatClampNeg) else -1))) ∧ h' = h) := by
  obtain ⟨f, hf, hv⟩ := kB.cn
  refine eBT_count_0 ?_
  refine eBT_count_1 (fun c => ?_) (fun c => ?_)
  · refine eBT_count_9 ?_
    refine eBT_count_10 ?_
    refine eBT_count_19 ⟨?_, rfl⟩
    rw [if_neg (fun z => absurd c (Int32.not_lt.mpr z.1))]
  refine eBT_count_4 ?_
  refine eBT_count_5 ?_
  refine eBT_count_6 (fun c2 => ?_) (fun c2 => ?_)
  · obtain ⟨i, hi, rfl⟩ := nI_of c
    have hi4 : i < 4 := (nI_ltI (b := 4) hi (by decide)).mp c2
    refine eBT_count_13 rfl ?_
    refine eBT_count_14 kB.obj.1 rfl ?_
    refine eBT_count_17 ?_
    refine eBT_count_18 hf (xn_in hi4 (by decide)) ?_
    refine eBT_count_19 ⟨?_, rfl⟩
    rw [if_pos ⟨Int32.not_lt.mp c, c2⟩, nI_clamp hi, hv i hi4]
  · refine eBT_count_9 ?_
    refine eBT_count_10 ?_
    refine eBT_count_19 ⟨?_, rfl⟩
    rw [if_neg (fun z => c2 z.2)]
theorem sBT_filters {x y : Int32} {w : Bool} (kB : isB P b p Z S z h) : x_K P (d + 1) mBT_filters 0 [some (.ref b), some (.int x), some (.int y), some (.int (b2i w)), none] [] h (fun oc h' => oc = .returned (some (.int (match (if w then lkI p y x else lkI p x y) with | none => -1 | some j => nI (if w then b_H S j else b_T S j).length))) ∧ h' = h) := by
  have rest : ∀ (o : Option Nat), (∀ j, o = some j → j < 10) → x_K P (d + 1) mBT_filters 19 [some (.ref b), some (.int x), some (.int y), some (.int (b2i w)), none] [va_rf (o.map (fun j => b + 16 + 7 * j))] h (fun oc h' => oc = .returned (some (.int (match o with | none => -1 | some j => nI (if w then b_H S j else b_T S j).length))) ∧ h' = h) := by
    intro o ho
    refine eBT_filters_19 (x_isr _) ?_
    refine eBT_filters_21 (x_isr _) ?_
    refine eBT_filters_23 (fun e => ?_) (fun a e => ?_)
    · rw [map_no e]
      refine eBT_filters_26 ?_
      exact eBT_filters_27 ⟨rfl, rfl⟩
    · obtain ⟨j, e1, e2⟩ := Option.map_eq_some_iff.mp e
      subst e2
      have hj := ho j e1
      rw [e, e1]
      show x_K P (d + 1) mBT_filters 28 [some (.ref b), some (.int x), some (.int y), some (.int (b2i w)), some (.ref (b + 16 + 7 * j))] [] h _
      refine eBT_filters_28 ?_
      refine eBT_filters_29 (fun c => b2i_if c fun c => ?_) (fun c => b2i_it c fun c => ?_)
      · obtain ⟨fr, hr⟩ := (kB.rT hj).cell
        refine eBT_filters_43 rfl ?_
        refine eBT_filters_45 (kB.lk hj) rfl ?_
        refine eBT_filters_48 hr (Nat.le_of_ble_eq_true rfl) (sRO_size (kB.rT hj)) ?_
        rintro _ h2 ⟨rfl, rfl⟩
        refine ⟨_, rfl, eBT_filters_51 ⟨?_, rfl⟩⟩
        subst c
        rfl
      · obtain ⟨fr, hr⟩ := (kB.rH hj).cell
        refine eBT_filters_32 rfl ?_
        refine eBT_filters_34 (kB.lk hj) rfl ?_
        refine eBT_filters_37 hr (Nat.le_of_ble_eq_true rfl) (sRO_size (kB.rH hj)) ?_
        rintro _ h2 ⟨rfl, rfl⟩
        refine ⟨_, rfl, ?_⟩
        refine eBT_filters_40 ?_
        refine eBT_filters_51 ⟨?_, rfl⟩
        subst c
        rfl
  refine eBT_filters_0 ?_
  refine eBT_filters_1 (fun c => b2i_if c fun c => ?_) (fun c => b2i_it c fun c => ?_)
  · refine eBT_filters_13 rfl ?_
    refine eBT_filters_14 ?_
    refine eBT_filters_15 ?_
    refine eBT_filters_16 kB.obj.1 (Nat.le_of_ble_eq_true rfl) (sBT_link kB) ?_
    rintro _ h1 ⟨rfl, rfl⟩
    refine ⟨_, rfl, ?_⟩
    rw [show (if w = true then lkI p y x else lkI p x y) = lkI p x y by rw [c]; rfl]
    exact rest _ (fun j hj => lkI_lt hj)
  · refine eBT_filters_4 rfl ?_
    refine eBT_filters_5 ?_
    refine eBT_filters_6 ?_
    refine eBT_filters_7 kB.obj.1 (Nat.le_of_ble_eq_true rfl) (sBT_link kB) ?_
    rintro _ h1 ⟨rfl, rfl⟩
    refine ⟨_, rfl, ?_⟩
    refine eBT_filters_10 ?_
    rw [show (if w = true then lkI p y x else lkI p x y) = lkI p y x by rw [c]; rfl]
    exact rest _ (fun j hj => lkI_lt hj)
def wrF (S : bS) (c : Nat) : bS × Bool := if 32 ≤ c ∧ c ≤ 126 ∧ b_n S < 30 then (bs_n (bs_g S (ub (b_g S) (b_n S) c)) (b_n S + 1), true) else (S, false)
theorem sBT_write {c : Nat} (kB : isB P b p Z S z h) (hc : c < 65536) : x_K P d mBT_write 0 [some (.ref b), some (.int (nI c))] [] h (fun oc h' => oc = .returned (some (.int (b2i (wrF S c).2))) ∧ isB P b p Z (wrF S c).1 z h') := by
  have no : ¬ (32 ≤ c ∧ c ≤ 126 ∧ b_n S < 30) → x_K P d mBT_write 21 [some (.ref b), some (.int (nI c))] [] h (fun oc h' => oc = .returned (some (.int (b2i (wrF S c).2))) ∧ isB P b p Z (wrF S c).1 z h') := by
    intro hn
    refine eBT_write_21 ?_
    rw [show wrF S c = (S, false) from if_neg hn]
    exact eBT_write_22 rfl ⟨rfl, kB⟩
  have h30 := kB.obj.2.1
  refine eBT_write_0 ?_
  refine eBT_write_1 ?_
  refine eBT_write_3 (fun c1 => no fun z => ?_) (fun c1 => ?_)
  · have := (nI_ltI (b := 32) (by omega) (by decide)).mp c1
    omega
  refine eBT_write_6 ?_
  refine eBT_write_7 ?_
  refine eBT_write_9 (fun c2 => no fun z => ?_) (fun c2 => ?_)
  · have := (nI_ltI (a := 126) (by decide) (by omega)).mp c2
    omega
  refine eBT_write_12 rfl ?_
  refine eBT_write_13 kB.obj.1 rfl ?_
  refine eBT_write_16 ?_
  refine eBT_write_18 (fun c3 => ?_) (fun c3 => no fun z => c3 (nI_lt (b := 30) z.2.2 (by decide)))
  have hn : b_n S < 30 := (nI_ltI (b := 30) (by omega) (by decide)).mp c3
  have hw : wrF S c = (bs_n (bs_g S (ub (b_g S) (b_n S) c)) (b_n S + 1), true) := if_pos ⟨Nat.not_lt.mp fun z => c1 (nI_lt (b := 32) z (by decide)), Nat.not_lt.mp fun z => c2 (nI_lt (a := 126) z (by omega)), hn⟩
  rw [hw]
  obtain ⟨⟨f, hf, -, hv1, hv2⟩, -⟩ := kB.txt
  refine eBT_write_23 rfl ?_
  refine eBT_write_24 kB.obj.1 rfl ?_
  refine eBT_write_27 rfl ?_
  refine eBT_write_28 kB.obj.1 rfl ?_
  refine eBT_write_31 ?_
  refine eBT_write_32 hf (xn_in hn (by decide)) ?_
  have k1 : isB P b p Z (bs_g S (ub (b_g S) (b_n S) c)) z (x_put h (b + 1) (.inl (2, 30, .inl (upd f (nI (b_n S)).toNatClampNeg (vp_nar .char (nI c)))))) := by
    rw [nI_clamp (by omega)]
    refine kB.mG (fun i hi => ?_) rfl
    unfold upd ub
    split
    · refine ⟨?_, hc⟩
      unfold vp_nar
      rw [(pk_charN hc).1]
    · exact ⟨hv1 i hi, hv2 i hi⟩
  refine eBT_write_33 rfl ?_
  refine eBT_write_34 rfl ?_
  refine eBT_write_35 k1.obj.1 rfl ?_
  refine eBT_write_38 ?_
  refine eBT_write_39 ?_
  refine eBT_write_40 k1.obj.1 (Nat.le_of_ble_eq_true rfl) ?_
  refine eBT_write_43 ?_
  refine eBT_write_44 rfl ⟨rfl, ?_⟩
  have k2 := k1.mN (v := b_n S + 1) (by omega)
  rw [← nI_1] at k2
  exact k2
end

