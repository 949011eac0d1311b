/-! Small methods of the object -/
abbrev bO (b : Nat) (S : bS) : List Value := [.ref (b + 1), .int (nI (b_n S)), .ref (b + 2), .ref (b + 3), .ref (b + 4), .ref (b + 7), .ref (b + 8), .ref (b + 9), .int (nI (b_s S)), .ref (b + 10), .ref (b + 11), .ref (b + 12), .ref (b + 14)]
section
variable {P : x_P} {b : Nat} {p : Nat → Nat} {Z : Nat × Nat × (Nat → Option x_E)} {S : bS} {h h' : x_H} {z : Nat × Nat} {d : Nat}
theorem isB.obj (k : isB P b p Z S z h) : h.1 b = some (.inr (0, bO b S)) ∧ b_n S ≤ 30 ∧ b_s S ≤ 16 := by
  obtain ⟨o, E, nk, nn, k, -⟩ := k
  exact (k 0).2
theorem isB.txt (k : isB P b p Z S z h) : isT h (b + 1) 30 (b_g S) ∧ b + 1 < h.2.1 := by
  obtain ⟨o, E, nk, nn, k, -⟩ := k
  exact ⟨(k 1).2, (k 1).1.2⟩
theorem isB.lks (k : isB P b p Z S z h) : ∃ f, h.1 (b + 2) = some (.inl (4, 36, x_rf f)) ∧ ∀ k, k < 36 → f k = (lkF p k).map (fun j => b + 16 + 7 * j) := by
  obtain ⟨o, E, nk, nn, k, -⟩ := k
  exact (k 2).2
theorem isB.inb (k : isB P b p Z S z h) : ∃ f, h.1 (b + 3) = some (.inl (5, 8, x_rf f)) ∧ ∀ i, i < 8 → f i = some (qaF b (10 + i)) := by
  obtain ⟨o, E, nk, nn, k, -⟩ := k
  obtain ⟨f, h1, h2⟩ := (k 3).2
  refine ⟨f, h1, fun i hi => (h2 i hi).trans ?_⟩
  rw [qaF, if_neg (by omega)]
  congr 1
  omega
theorem isB.cat (k : isB P b p Z S z h) : isCa h (b + 4) (b + 5) (b + 6) ∧ (∃ ed nk, isK P h (b + 5) ed nk (b_K S)) ∧ isCv h (b + 6) (b_K S) ∧ (b_K S).length ≤ 16 := by
  obtain ⟨o, E, nk, nn, k, -⟩ := k
  obtain ⟨-, ed, h1, -⟩ := k 5
  exact ⟨(k 4).2, ⟨ed, nk, h1, fun q hq => ((k 13).2 q (List.mem_append_left _ hq)).2.2⟩, (k 6).2, (k 13).1⟩
theorem isB.su (k : isB P b p Z S z h) : ∃ f, h.1 (b + 7) = some (.inl (0, 16, .inl f)) ∧ ∀ k, k < 16 → f k = nI (b_su S k) ∧ b_su S k < 8 := by
  obtain ⟨o, E, nk, nn, k, -⟩ := k
  exact (k 7).2
theorem isB.wa (k : isB P b p Z S z h) : ∃ f, h.1 (b + 8) = some (.inl (0, 16, .inl f)) ∧ ∀ k, k < 16 → f k = nI (b_wa S k) ∧ b_wa S k < 16 := by
  obtain ⟨o, E, nk, nn, k, -⟩ := k
  exact (k 8).2
theorem isB.en (k : isB P b p Z S z h) : ∃ f, h.1 (b + 9) = some (.inl (1, 16, .inl f)) ∧ ∀ k, k < 16 → f k = b2i (b_en S k) := by
  obtain ⟨o, E, nk, nn, k, -⟩ := k
  exact (k 9).2
theorem isB.cn (k : isB P b p Z S z h) : ∃ f, h.1 (b + 11) = some (.inl (0, 4, .inl f)) ∧ ∀ k, k < 4 → f k = nI (b_cn S k) := by
  obtain ⟨o, E, nk, nn, k, -⟩ := k
  exact (k 11).2
theorem isB.of (k : isB P b p Z S z h) : isRow h (b + 12) (b_of S) := by
  obtain ⟨o, E, nk, nn, k, -⟩ := k
  exact (k 12).2.2
theorem isB.nd (k : isB P b p Z S z h) : isRow h (b + 14) (b_nd S) := by
  obtain ⟨o, E, nk, nn, k, -⟩ := k
  exact (k 14).2.2
theorem isB.nts (k : isB P b p Z S z h) : (∃ ed nn, isAL P h (b + 10) ed nn ((b_N S).map (fun q => q.1))) ∧ (b_N S).length ≤ 512 ∧ ∀ q ∈ b_N S, isNo h q.1 q.2.1 q.2.2.1 q.2.2.2 := by
  obtain ⟨o, E, nk, nn, k, -⟩ := k
  obtain ⟨-, ed, h1, -, h2, -⟩ := k 10
  exact ⟨⟨ed, nn, h1⟩, h2, fun q hq => (k 15 q hq).2⟩
theorem isB.lk {j : Nat} (k : isB P b p Z S z h) (hj : j < 10) : h.1 (b + 16 + 7 * j) = some (.inr (3, [.int (nI (frF p j)), .int (nI (toF p j)), .ref (b + 17 + 7 * j), .ref (b + 19 + 7 * j), .ref (qaF b j)])) := by
  obtain ⟨o, E, nk, nn, k, -⟩ := k
  have z0 := (k (4 * j + 0 + 16)).1 (by omega) (by omega)
  rw [show (4 * j + 0) / 4 = j by omega] at z0
  rw [qaF, if_pos hj]
  exact z0.2
theorem isB.rT {j : Nat} (k : isB P b p Z S z h) (hj : j < 10) : isRow h (b + 17 + 7 * j) (b_T S j) := by
  obtain ⟨o, E, nk, nn, k, -⟩ := k
  have z0 := (k (4 * j + 1 + 16)).2.1 (by omega) (by omega)
  rw [show (4 * j + 1) / 4 = j by omega] at z0
  exact z0.2.2
theorem isB.rH {j : Nat} (k : isB P b p Z S z h) (hj : j < 10) : isRow h (b + 19 + 7 * j) (b_H S j) := by
  obtain ⟨o, E, nk, nn, k, -⟩ := k
  have z0 := (k (4 * j + 2 + 16)).2.2.1 (by omega) (by omega)
  rw [show (4 * j + 2) / 4 = j by omega] at z0
  exact z0.2.2
theorem isRow.cell {h : x_H} {r : Nat} {l : List Nat} (k : isRow h r l) : ∃ fs, h.1 r = some (.inr (6, fs)) := by
  obtain ⟨f, m, hr, -⟩ := k
  exact ⟨_, hr⟩
theorem isRow.b16 {h : x_H} {r : Nat} {l : List Nat} (k : isRow h r l) : ∀ y ∈ l, y < 16 := by
  obtain ⟨_, _, -, -, -, -, -, -, h9⟩ := k
  exact h9
theorem isRow.nd {h : x_H} {r : Nat} {l : List Nat} (k : isRow h r l) : l.Nodup := by
  obtain ⟨_, _, -, -, -, -, -, h9, -⟩ := k
  exact h9
theorem sBT_isClient {c : Int32} : x_K P d mBT_isClient 0 [some (.int c)] [] h (fun oc h' => oc = .returned (some (.int (b2i (decide (0 ≤ c) && decide (c < 8))))) ∧ h' = h) := by
  refine eBT_isClient_0 ?_
  refine eBT_isClient_1 (fun c1 => ?_) (fun c1 => ?_)
  · refine eBT_isClient_14 ?_
    refine eBT_isClient_15 rfl ⟨?_, rfl⟩
    rw [decide_eq_false (Int32.not_le.mpr c1)]
    rfl
  refine eBT_isClient_4 ?_
  refine eBT_isClient_5 ?_
  refine eBT_isClient_7 (fun c2 => ?_) (fun c2 => ?_)
  · refine eBT_isClient_14 ?_
    refine eBT_isClient_15 rfl ⟨?_, rfl⟩
    rw [decide_eq_false (p := c < 8) (Int32.not_lt.mpr c2), Bool.and_false]
    rfl
  · refine eBT_isClient_10 ?_
    refine eBT_isClient_11 ?_
    refine eBT_isClient_15 rfl ⟨?_, rfl⟩
    rw [decide_eq_true (p := c < 8) (Int32.not_le.mp c2), decide_eq_true (Int32.not_lt.mp c1)]
    rfl
theorem sBT_isNum {c : Int32} : x_K P d mBT_isNumberOrNone 0 [some (.int c)] [] h (fun oc h' => oc = .returned (some (.int (b2i (decide (-999 ≤ c) && decide (c ≤ 1000))))) ∧ h' = h) := by
  refine eBT_isNumberOrNone_0 ?_
  refine eBT_isNumberOrNone_1 ?_
  refine eBT_isNumberOrNone_4 (fun c1 => ?_) (fun c1 => ?_)
  · refine eBT_isNumberOrNone_18 ?_
    refine eBT_isNumberOrNone_19 rfl ⟨?_, rfl⟩
    rw [decide_eq_false (Int32.not_le.mpr c1)]
    rfl
  refine eBT_isNumberOrNone_7 ?_
  refine eBT_isNumberOrNone_8 ?_
  refine eBT_isNumberOrNone_11 (fun c2 => ?_) (fun c2 => ?_)
  · refine eBT_isNumberOrNone_18 ?_
    refine eBT_isNumberOrNone_19 rfl ⟨?_, rfl⟩
    rw [decide_eq_false (p := c ≤ 1000) (Int32.not_le.mpr c2), Bool.and_false]
    rfl
  · refine eBT_isNumberOrNone_14 ?_
    refine eBT_isNumberOrNone_15 ?_
    refine eBT_isNumberOrNone_19 rfl ⟨?_, rfl⟩
    rw [decide_eq_true (p := c ≤ 1000) (Int32.not_lt.mp c2), decide_eq_true (Int32.not_lt.mp c1)]
    rfl
theorem sBT_brokerOf {c : Nat} (hc : c < 8) : x_K P d mBT_brokerOf 0 [some (.int (nI c))] [] h (fun oc h' => oc = .returned (some (.int (nI (c % 6)))) ∧ h' = h) := by
  refine eBT_brokerOf_0 ?_
  refine eBT_brokerOf_1 ?_
  refine eBT_brokerOf_3 (by decide) ?_
  refine eBT_brokerOf_4 ⟨?_, rfl⟩
  rw [show (6 : Int32) = nI 6 by decide, pk_rem (by omega) (by decide) (by decide)]
theorem sBT_linkBetween {i t : Nat} (k : isB P b p Z S z h) (hi : i < 6) (ht : t < 6) : x_K P d mBT_linkBetween 0 [some (.ref b), some (.int (nI i)), some (.int (nI t))] [] h (fun oc h' => oc = .returned (some (va_rf ((lkF p (6 * i + t)).map (fun j => b + 16 + 7 * j)))) ∧ h' = h) := by
  obtain ⟨f, hf, hv⟩ := k.lks
  refine eBT_linkBetween_0 ?_
  refine eBT_linkBetween_1 (fun c => absurd c (nI_pos (by omega))) (fun _ => ?_)
  refine eBT_linkBetween_4 ?_
  refine eBT_linkBetween_5 ?_
  refine eBT_linkBetween_7 (fun c => absurd c (nI_ge (b := 6) hi (by decide))) (fun _ => ?_)
  refine eBT_linkBetween_10 ?_
  refine eBT_linkBetween_11 (fun c => absurd c (nI_pos (by omega))) (fun _ => ?_)
  refine eBT_linkBetween_14 ?_
  refine eBT_linkBetween_15 ?_
  refine eBT_linkBetween_17 (fun _ => ?_) (fun c => absurd (nI_lt (b := 6) ht (by decide)) c)
  refine eBT_linkBetween_22 rfl ?_
  refine eBT_linkBetween_23 k.obj.1 rfl ?_
  refine eBT_linkBetween_26 ?_
  refine eBT_linkBetween_27 ?_
  refine eBT_linkBetween_29 ?_
  refine eBT_linkBetween_30 ?_
  refine eBT_linkBetween_31 ?_
  rw [show (6 : Int32) = nI 6 by decide, pk_mul, nI_add]
  refine eBT_linkBetween_32 hf rfl (xn_in (by omega) (by decide)) ?_
  refine eBT_linkBetween_33 (x_isr _) ⟨?_, rfl⟩
  rw [nI_clamp (by omega), hv _ (by omega), Nat.mul_comm i 6]
theorem sBT_linkOut {x y : Int32} (ho : ¬ (∃ i t : Nat, i < 6 ∧ t < 6 ∧ x = nI i ∧ y = nI t)) : x_K P d mBT_linkBetween 0 [some (.ref b), some (.int x), some (.int y)] [] h (fun oc h' => oc = .returned (some .null) ∧ h' = h) := by
  have out : x_K P d mBT_linkBetween 20 [some (.ref b), some (.int x), some (.int y)] [] h (fun oc h' => oc = .returned (some .null) ∧ h' = h) := by
    refine eBT_linkBetween_20 ?_
    exact eBT_linkBetween_21 rfl ⟨rfl, rfl⟩
  refine eBT_linkBetween_0 ?_
  refine eBT_linkBetween_1 (fun c => out) (fun c1 => ?_)
  refine eBT_linkBetween_4 ?_
  refine eBT_linkBetween_5 ?_
  refine eBT_linkBetween_7 (fun c => out) (fun c2 => ?_)
  refine eBT_linkBetween_10 ?_
  refine eBT_linkBetween_11 (fun c => out) (fun c3 => ?_)
  refine eBT_linkBetween_14 ?_
  refine eBT_linkBetween_15 ?_
  refine eBT_linkBetween_17 (fun c4 => ?_) (fun c => out)
  refine absurd ?_ ho
  obtain ⟨i, hi, ei⟩ := nI_of2 (M := 5) (n := 5) (by decide) c1 (by
    have h1 := Int32.not_le.mp c2
    rw [Int32.lt_iff_toInt_lt] at h1
    rw [Int32.le_iff_toInt_le]
    have h2 : (6 : Int32).toInt = 6 := by decide
    have h3 : (5 : Int32).toInt = 5 := by decide
    omega)
  obtain ⟨t, ht, et⟩ := nI_of2 (M := 5) (n := 5) (by decide) c3 (by
    have h1 := c4
    rw [Int32.lt_iff_toInt_lt] at h1
    rw [Int32.le_iff_toInt_le]
    have h2 : (6 : Int32).toInt = 6 := by decide
    have h3 : (5 : Int32).toInt = 5 := by decide
    omega)
  exact ⟨i, t, by omega, by omega, ei, et⟩
/-- a message in a line -/
theorem sBT_put {j kd x : Nat} (k : isB P b p Z S z h) (hj : j < 10) (hl : (b_Q S j).length < 1000) : x_K P (d + 2) mBT_put 0 [some (.ref (b + 16 + 7 * j)), some (.int (nI kd)), some (.int (nI x))] [] h (fun oc h' => oc = .returned none ∧ isB P b p Z (bs_Q S (ub (b_Q S) j (b_Q S j ++ [x * 3 + kd]))) z h') := by
  obtain ⟨fs, hq⟩ := k.qcell (j := j) (by omega)
  refine eBT_put_0 rfl ?_
  refine eBT_put_1 (k.lk hj) rfl ?_
  refine eBT_put_4 ?_
  refine eBT_put_5 ?_
  refine eBT_put_6 ?_
  refine eBT_put_7 ?_
  refine eBT_put_8 ?_
  rw [show (3 : Int32) = nI 3 by decide, pk_mul, nI_add]
  refine eBT_put_9 hq (Nat.le_of_ble_eq_true rfl) (k.qadd (by omega) hl) ?_
  rintro _ h1 ⟨rfl, k1⟩
  exact ⟨_, rfl, eBT_put_12 ⟨rfl, k1⟩⟩
end

