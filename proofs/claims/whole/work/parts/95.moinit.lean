/-! The reference: its constructor -/
def moI (bm i : Nat) : List Value := [.int 0, (if 1 ≤ i then .ref (bm + 1) else .null), .int 0, (if 2 ≤ i then .ref (bm + 2) else .null), .int 0, (if 3 ≤ i then .ref (bm + 3) else .null), (if 4 ≤ i then .ref (bm + 4) else .null), (if 5 ≤ i then .ref (bm + 5) else .null), (if 6 ≤ i then .ref (bm + 6) else .null), (if 7 ≤ i then .ref (bm + 7) else .null), (if 8 ≤ i then .ref (bm + 8) else .null), (if 9 ≤ i then .ref (bm + 9) else .null), (if 10 ≤ i then .ref (bm + 10) else .null), (if 11 ≤ i then .ref (bm + 11) else .null), (if 12 ≤ i then .ref (bm + 12) else .null), (if 13 ≤ i then .ref (bm + 13) else .null), (if 14 ≤ i then .ref (bm + 14) else .null), (if 15 ≤ i then .ref (bm + 15) else .null), .int 0, (if 16 ≤ i then .ref (bm + 16) else .null), (if 17 ≤ i then .ref (bm + 17) else .null), (if 18 ≤ i then .ref (bm + 18) else .null), (if 19 ≤ i then .ref (bm + 19) else .null), (if 20 ≤ i then .ref (bm + 20) else .null), (if 21 ≤ i then .ref (bm + 21) else .null), (if 22 ≤ i then .ref (bm + 22) else .null), (if 23 ≤ i then .ref (bm + 23) else .null), (if 24 ≤ i then .ref (bm + 24) else .null), (if 25 ≤ i then .ref (bm + 25) else .null), .int 0, (if 26 ≤ i then .ref (bm + 26) else .null), .int 0, .int 0, .int 0, .int 0, .int 0, (if 27 ≤ i then .ref (bm + 27) else .null), (if 28 ≤ i then .ref (bm + 28) else .null), (if 29 ≤ i then .ref (bm + 29) else .null), (if 30 ≤ i then .ref (bm + 30) else .null), (if 31 ≤ i then .ref (bm + 31) else .null), (if 32 ≤ i then .ref (bm + 32) else .null)]
def mq (h0 : x_H) (bm i s : Nat) : x_H := (fun q => if q = bm then some (.inr (8, moI bm i)) else if bm < q ∧ q ≤ bm + i then some (.inl (moT (q - bm), moN (q - bm), .inl (fun _ => 0))) else h0.1 q, bm + 1 + i, s)
theorem mq_o {h0 : x_H} {bm i s : Nat} : (mq h0 bm i s).1 bm = some (.inr (8, moI bm i)) := if_pos rfl
theorem mq_step {h0 : x_H} {bm i s : Nat} : x_put (x_new (mq h0 bm i s) (.inl (moT (i + 1), moN (i + 1), .inl (fun _ => 0))) (moN (i + 1))) bm (.inr (8, moI bm (i + 1))) = mq h0 bm (i + 1) (s + moN (i + 1)) := by
  refine Prod.ext ?_ rfl
  funext q
  show (if q = bm then _ else if q = bm + 1 + i then _ else if q = bm then _ else if bm < q ∧ q ≤ bm + i then _ else _) = (if q = bm then _ else if bm < q ∧ q ≤ bm + (i + 1) then _ else _)
  by_cases h1 : q = bm
  · rw [if_pos h1, if_pos h1]
  · simp only [if_neg h1]
    by_cases h2 : q = bm + 1 + i
    · rw [if_pos h2, if_pos (by omega), show q - bm = i + 1 by omega]
    · rw [if_neg h2]
      by_cases h3 : bm < q ∧ q ≤ bm + i
      · rw [if_pos h3, if_pos (by omega)]
      · rw [if_neg h3, if_neg (by omega)]
section
variable {P : x_P} {d : Nat} {h0 : x_H} {bm s : Nat} {Φ : Outcome → x_H → Prop}
theorem gMO_0 {v1 v2 v3 : Option Value} (k : x_K P (d + 1) mMO_init 12 [some (.ref bm), v1, v2, v3] [] (mq h0 bm 1 (s + 30)) Φ) : x_K P (d + 1) mMO_init 4 [some (.ref bm), v1, v2, v3] [] (mq h0 bm 0 s) Φ := by
  refine eMO_init_4 rfl ?_
  refine eMO_init_5 ?_
  refine eMO_init_7 (n := 30) (by decide) (by decide) (by decide) ?_
  refine eMO_init_9 (fs := moI bm 0) (xw_ne (by show bm ≠ bm + 1 + 0; omega) mq_o) (Nat.le_of_ble_eq_true rfl) ?_
  have e : x_put (x_new (mq h0 bm 0 s) (.inl (2, 30, .inl (fun _ => 0))) 30) bm (.inr (8, (moI bm 0).set 1 (.ref (mq h0 bm 0 s).2.1))) = mq h0 bm 1 (s + 30) := mq_step (i := 0)
  rw [e]
  exact k
theorem gMO_1 {v1 v2 v3 : Option Value} (k : x_K P (d + 1) mMO_init 20 [some (.ref bm), v1, v2, v3] [] (mq h0 bm 2 (s + 36)) Φ) : x_K P (d + 1) mMO_init 12 [some (.ref bm), v1, v2, v3] [] (mq h0 bm 1 s) Φ := by
  refine eMO_init_12 rfl ?_
  refine eMO_init_13 ?_
  refine eMO_init_15 (n := 36) (by decide) (by decide) (by decide) ?_
  refine eMO_init_17 (fs := moI bm 1) (xw_ne (by show bm ≠ bm + 1 + 1; omega) mq_o) (Nat.le_of_ble_eq_true rfl) ?_
  have e : x_put (x_new (mq h0 bm 1 s) (.inl (0, 36, .inl (fun _ => 0))) 36) bm (.inr (8, (moI bm 1).set 3 (.ref (mq h0 bm 1 s).2.1))) = mq h0 bm 2 (s + 36) := mq_step (i := 1)
  rw [e]
  exact k
theorem gMO_2 {v1 v2 v3 : Option Value} (k : x_K P (d + 1) mMO_init 28 [some (.ref bm), v1, v2, v3] [] (mq h0 bm 3 (s + 36)) Φ) : x_K P (d + 1) mMO_init 20 [some (.ref bm), v1, v2, v3] [] (mq h0 bm 2 s) Φ := by
  refine eMO_init_20 rfl ?_
  refine eMO_init_21 ?_
  refine eMO_init_23 (n := 36) (by decide) (by decide) (by decide) ?_
  refine eMO_init_25 (fs := moI bm 2) (xw_ne (by show bm ≠ bm + 1 + 2; omega) mq_o) (Nat.le_of_ble_eq_true rfl) ?_
  have e : x_put (x_new (mq h0 bm 2 s) (.inl (0, 36, .inl (fun _ => 0))) 36) bm (.inr (8, (moI bm 2).set 5 (.ref (mq h0 bm 2 s).2.1))) = mq h0 bm 3 (s + 36) := mq_step (i := 2)
  rw [e]
  exact k
theorem gMO_3 {v1 v2 v3 : Option Value} (k : x_K P (d + 1) mMO_init 36 [some (.ref bm), v1, v2, v3] [] (mq h0 bm 4 (s + 36)) Φ) : x_K P (d + 1) mMO_init 28 [some (.ref bm), v1, v2, v3] [] (mq h0 bm 3 s) Φ := by
  refine eMO_init_28 rfl ?_
  refine eMO_init_29 ?_
  refine eMO_init_31 (n := 36) (by decide) (by decide) (by decide) ?_
  refine eMO_init_33 (fs := moI bm 3) (xw_ne (by show bm ≠ bm + 1 + 3; omega) mq_o) (Nat.le_of_ble_eq_true rfl) ?_
  have e : x_put (x_new (mq h0 bm 3 s) (.inl (0, 36, .inl (fun _ => 0))) 36) bm (.inr (8, (moI bm 3).set 6 (.ref (mq h0 bm 3 s).2.1))) = mq h0 bm 4 (s + 36) := mq_step (i := 3)
  rw [e]
  exact k
theorem gMO_4 {v1 v2 v3 : Option Value} (k : x_K P (d + 1) mMO_init 44 [some (.ref bm), v1, v2, v3] [] (mq h0 bm 5 (s + 36)) Φ) : x_K P (d + 1) mMO_init 36 [some (.ref bm), v1, v2, v3] [] (mq h0 bm 4 s) Φ := by
  refine eMO_init_36 rfl ?_
  refine eMO_init_37 ?_
  refine eMO_init_39 (n := 36) (by decide) (by decide) (by decide) ?_
  refine eMO_init_41 (fs := moI bm 4) (xw_ne (by show bm ≠ bm + 1 + 4; omega) mq_o) (Nat.le_of_ble_eq_true rfl) ?_
  have e : x_put (x_new (mq h0 bm 4 s) (.inl (0, 36, .inl (fun _ => 0))) 36) bm (.inr (8, (moI bm 4).set 7 (.ref (mq h0 bm 4 s).2.1))) = mq h0 bm 5 (s + 36) := mq_step (i := 4)
  rw [e]
  exact k
theorem gMO_5 {v1 v2 v3 : Option Value} (k : x_K P (d + 1) mMO_init 52 [some (.ref bm), v1, v2, v3] [] (mq h0 bm 6 (s + 108)) Φ) : x_K P (d + 1) mMO_init 44 [some (.ref bm), v1, v2, v3] [] (mq h0 bm 5 s) Φ := by
  refine eMO_init_44 rfl ?_
  refine eMO_init_45 ?_
  refine eMO_init_47 (n := 108) (by decide) (by decide) (by decide) ?_
  refine eMO_init_49 (fs := moI bm 5) (xw_ne (by show bm ≠ bm + 1 + 5; omega) mq_o) (Nat.le_of_ble_eq_true rfl) ?_
  have e : x_put (x_new (mq h0 bm 5 s) (.inl (0, 108, .inl (fun _ => 0))) 108) bm (.inr (8, (moI bm 5).set 8 (.ref (mq h0 bm 5 s).2.1))) = mq h0 bm 6 (s + 108) := mq_step (i := 5)
  rw [e]
  exact k
theorem gMO_6 {v1 v2 v3 : Option Value} (k : x_K P (d + 1) mMO_init 60 [some (.ref bm), v1, v2, v3] [] (mq h0 bm 7 (s + 18)) Φ) : x_K P (d + 1) mMO_init 52 [some (.ref bm), v1, v2, v3] [] (mq h0 bm 6 s) Φ := by
  refine eMO_init_52 rfl ?_
  refine eMO_init_53 ?_
  refine eMO_init_55 (n := 18) (by decide) (by decide) (by decide) ?_
  refine eMO_init_57 (fs := moI bm 6) (xw_ne (by show bm ≠ bm + 1 + 6; omega) mq_o) (Nat.le_of_ble_eq_true rfl) ?_
  have e : x_put (x_new (mq h0 bm 6 s) (.inl (0, 18, .inl (fun _ => 0))) 18) bm (.inr (8, (moI bm 6).set 9 (.ref (mq h0 bm 6 s).2.1))) = mq h0 bm 7 (s + 18) := mq_step (i := 6)
  rw [e]
  exact k
theorem gMO_7 {v1 v2 v3 : Option Value} (k : x_K P (d + 1) mMO_init 68 [some (.ref bm), v1, v2, v3] [] (mq h0 bm 8 (s + 18)) Φ) : x_K P (d + 1) mMO_init 60 [some (.ref bm), v1, v2, v3] [] (mq h0 bm 7 s) Φ := by
  refine eMO_init_60 rfl ?_
  refine eMO_init_61 ?_
  refine eMO_init_63 (n := 18) (by decide) (by decide) (by decide) ?_
  refine eMO_init_65 (fs := moI bm 7) (xw_ne (by show bm ≠ bm + 1 + 7; omega) mq_o) (Nat.le_of_ble_eq_true rfl) ?_
  have e : x_put (x_new (mq h0 bm 7 s) (.inl (0, 18, .inl (fun _ => 0))) 18) bm (.inr (8, (moI bm 7).set 10 (.ref (mq h0 bm 7 s).2.1))) = mq h0 bm 8 (s + 18) := mq_step (i := 7)
  rw [e]
  exact k
theorem gMO_8 {v1 v2 v3 : Option Value} (k : x_K P (d + 1) mMO_init 76 [some (.ref bm), v1, v2, v3] [] (mq h0 bm 9 (s + 18)) Φ) : x_K P (d + 1) mMO_init 68 [some (.ref bm), v1, v2, v3] [] (mq h0 bm 8 s) Φ := by
  refine eMO_init_68 rfl ?_
  refine eMO_init_69 ?_
  refine eMO_init_71 (n := 18) (by decide) (by decide) (by decide) ?_
  refine eMO_init_73 (fs := moI bm 8) (xw_ne (by show bm ≠ bm + 1 + 8; omega) mq_o) (Nat.le_of_ble_eq_true rfl) ?_
  have e : x_put (x_new (mq h0 bm 8 s) (.inl (0, 18, .inl (fun _ => 0))) 18) bm (.inr (8, (moI bm 8).set 11 (.ref (mq h0 bm 8 s).2.1))) = mq h0 bm 9 (s + 18) := mq_step (i := 8)
  rw [e]
  exact k
theorem gMO_9 {v1 v2 v3 : Option Value} (k : x_K P (d + 1) mMO_init 84 [some (.ref bm), v1, v2, v3] [] (mq h0 bm 10 (s + 54)) Φ) : x_K P (d + 1) mMO_init 76 [some (.ref bm), v1, v2, v3] [] (mq h0 bm 9 s) Φ := by
  refine eMO_init_76 rfl ?_
  refine eMO_init_77 ?_
  refine eMO_init_79 (n := 54) (by decide) (by decide) (by decide) ?_
  refine eMO_init_81 (fs := moI bm 9) (xw_ne (by show bm ≠ bm + 1 + 9; omega) mq_o) (Nat.le_of_ble_eq_true rfl) ?_
  have e : x_put (x_new (mq h0 bm 9 s) (.inl (0, 54, .inl (fun _ => 0))) 54) bm (.inr (8, (moI bm 9).set 12 (.ref (mq h0 bm 9 s).2.1))) = mq h0 bm 10 (s + 54) := mq_step (i := 9)
  rw [e]
  exact k
theorem gMO_10 {v1 v2 v3 : Option Value} (k : x_K P (d + 1) mMO_init 92 [some (.ref bm), v1, v2, v3] [] (mq h0 bm 11 (s + 36)) Φ) : x_K P (d + 1) mMO_init 84 [some (.ref bm), v1, v2, v3] [] (mq h0 bm 10 s) Φ := by
  refine eMO_init_84 rfl ?_
  refine eMO_init_85 ?_
  refine eMO_init_87 (n := 36) (by decide) (by decide) (by decide) ?_
  refine eMO_init_89 (fs := moI bm 10) (xw_ne (by show bm ≠ bm + 1 + 10; omega) mq_o) (Nat.le_of_ble_eq_true rfl) ?_
  have e : x_put (x_new (mq h0 bm 10 s) (.inl (1, 36, .inl (fun _ => 0))) 36) bm (.inr (8, (moI bm 10).set 13 (.ref (mq h0 bm 10 s).2.1))) = mq h0 bm 11 (s + 36) := mq_step (i := 10)
  rw [e]
  exact k
theorem gMO_11 {v1 v2 v3 : Option Value} (k : x_K P (d + 1) mMO_init 100 [some (.ref bm), v1, v2, v3] [] (mq h0 bm 12 (s + 18)) Φ) : x_K P (d + 1) mMO_init 92 [some (.ref bm), v1, v2, v3] [] (mq h0 bm 11 s) Φ := by
  refine eMO_init_92 rfl ?_
  refine eMO_init_93 ?_
  refine eMO_init_95 (n := 18) (by decide) (by decide) (by decide) ?_
  refine eMO_init_97 (fs := moI bm 11) (xw_ne (by show bm ≠ bm + 1 + 11; omega) mq_o) (Nat.le_of_ble_eq_true rfl) ?_
  have e : x_put (x_new (mq h0 bm 11 s) (.inl (1, 18, .inl (fun _ => 0))) 18) bm (.inr (8, (moI bm 11).set 14 (.ref (mq h0 bm 11 s).2.1))) = mq h0 bm 12 (s + 18) := mq_step (i := 11)
  rw [e]
  exact k
theorem gMO_12 {v1 v2 v3 : Option Value} (k : x_K P (d + 1) mMO_init 108 [some (.ref bm), v1, v2, v3] [] (mq h0 bm 13 (s + 18)) Φ) : x_K P (d + 1) mMO_init 100 [some (.ref bm), v1, v2, v3] [] (mq h0 bm 12 s) Φ := by
  refine eMO_init_100 rfl ?_
  refine eMO_init_101 ?_
  refine eMO_init_103 (n := 18) (by decide) (by decide) (by decide) ?_
  refine eMO_init_105 (fs := moI bm 12) (xw_ne (by show bm ≠ bm + 1 + 12; omega) mq_o) (Nat.le_of_ble_eq_true rfl) ?_
  have e : x_put (x_new (mq h0 bm 12 s) (.inl (1, 18, .inl (fun _ => 0))) 18) bm (.inr (8, (moI bm 12).set 15 (.ref (mq h0 bm 12 s).2.1))) = mq h0 bm 13 (s + 18) := mq_step (i := 12)
  rw [e]
  exact k
theorem gMO_13 {v1 v2 v3 : Option Value} (k : x_K P (d + 1) mMO_init 116 [some (.ref bm), v1, v2, v3] [] (mq h0 bm 14 (s + 18)) Φ) : x_K P (d + 1) mMO_init 108 [some (.ref bm), v1, v2, v3] [] (mq h0 bm 13 s) Φ := by
  refine eMO_init_108 rfl ?_
  refine eMO_init_109 ?_
  refine eMO_init_111 (n := 18) (by decide) (by decide) (by decide) ?_
  refine eMO_init_113 (fs := moI bm 13) (xw_ne (by show bm ≠ bm + 1 + 13; omega) mq_o) (Nat.le_of_ble_eq_true rfl) ?_
  have e : x_put (x_new (mq h0 bm 13 s) (.inl (1, 18, .inl (fun _ => 0))) 18) bm (.inr (8, (moI bm 13).set 16 (.ref (mq h0 bm 13 s).2.1))) = mq h0 bm 14 (s + 18) := mq_step (i := 13)
  rw [e]
  exact k
theorem gMO_14 {v1 v2 v3 : Option Value} (k : x_K P (d + 1) mMO_init 125 [some (.ref bm), v1, v2, v3] [] (mq h0 bm 15 (s + 256)) Φ) : x_K P (d + 1) mMO_init 116 [some (.ref bm), v1, v2, v3] [] (mq h0 bm 14 s) Φ := by
  refine eMO_init_116 rfl ?_
  refine eMO_init_117 ?_
  refine eMO_init_120 (n := 256) (by decide) (by decide) (by decide) ?_
  refine eMO_init_122 (fs := moI bm 14) (xw_ne (by show bm ≠ bm + 1 + 14; omega) mq_o) (Nat.le_of_ble_eq_true rfl) ?_
  have e : x_put (x_new (mq h0 bm 14 s) (.inl (1, 256, .inl (fun _ => 0))) 256) bm (.inr (8, (moI bm 14).set 17 (.ref (mq h0 bm 14 s).2.1))) = mq h0 bm 15 (s + 256) := mq_step (i := 14)
  rw [e]
  exact k
theorem gMO_15 {v1 v2 v3 : Option Value} (k : x_K P (d + 1) mMO_init 133 [some (.ref bm), v1, v2, v3] [] (mq h0 bm 16 (s + 16)) Φ) : x_K P (d + 1) mMO_init 125 [some (.ref bm), v1, v2, v3] [] (mq h0 bm 15 s) Φ := by
  refine eMO_init_125 rfl ?_
  refine eMO_init_126 ?_
  refine eMO_init_128 (n := 16) (by decide) (by decide) (by decide) ?_
  refine eMO_init_130 (fs := moI bm 15) (xw_ne (by show bm ≠ bm + 1 + 15; omega) mq_o) (Nat.le_of_ble_eq_true rfl) ?_
  have e : x_put (x_new (mq h0 bm 15 s) (.inl (0, 16, .inl (fun _ => 0))) 16) bm (.inr (8, (moI bm 15).set 19 (.ref (mq h0 bm 15 s).2.1))) = mq h0 bm 16 (s + 16) := mq_step (i := 15)
  rw [e]
  exact k
theorem gMO_16 {v1 v2 v3 : Option Value} (k : x_K P (d + 1) mMO_init 141 [some (.ref bm), v1, v2, v3] [] (mq h0 bm 17 (s + 16)) Φ) : x_K P (d + 1) mMO_init 133 [some (.ref bm), v1, v2, v3] [] (mq h0 bm 16 s) Φ := by
  refine eMO_init_133 rfl ?_
  refine eMO_init_134 ?_
  refine eMO_init_136 (n := 16) (by decide) (by decide) (by decide) ?_
  refine eMO_init_138 (fs := moI bm 16) (xw_ne (by show bm ≠ bm + 1 + 16; omega) mq_o) (Nat.le_of_ble_eq_true rfl) ?_
  have e : x_put (x_new (mq h0 bm 16 s) (.inl (1, 16, .inl (fun _ => 0))) 16) bm (.inr (8, (moI bm 16).set 20 (.ref (mq h0 bm 16 s).2.1))) = mq h0 bm 17 (s + 16) := mq_step (i := 16)
  rw [e]
  exact k
theorem gMO_17 {v1 v2 v3 : Option Value} (k : x_K P (d + 1) mMO_init 149 [some (.ref bm), v1, v2, v3] [] (mq h0 bm 18 (s + 10)) Φ) : x_K P (d + 1) mMO_init 141 [some (.ref bm), v1, v2, v3] [] (mq h0 bm 17 s) Φ := by
  refine eMO_init_141 rfl ?_
  refine eMO_init_142 ?_
  refine eMO_init_144 (n := 10) (by decide) (by decide) (by decide) ?_
  refine eMO_init_146 (fs := moI bm 17) (xw_ne (by show bm ≠ bm + 1 + 17; omega) mq_o) (Nat.le_of_ble_eq_true rfl) ?_
  have e : x_put (x_new (mq h0 bm 17 s) (.inl (0, 10, .inl (fun _ => 0))) 10) bm (.inr (8, (moI bm 17).set 21 (.ref (mq h0 bm 17 s).2.1))) = mq h0 bm 18 (s + 10) := mq_step (i := 17)
  rw [e]
  exact k
theorem gMO_18 {v1 v2 v3 : Option Value} (k : x_K P (d + 1) mMO_init 158 [some (.ref bm), v1, v2, v3] [] (mq h0 bm 19 (s + 160)) Φ) : x_K P (d + 1) mMO_init 149 [some (.ref bm), v1, v2, v3] [] (mq h0 bm 18 s) Φ := by
  refine eMO_init_149 rfl ?_
  refine eMO_init_150 ?_
  refine eMO_init_153 (n := 160) (by decide) (by decide) (by decide) ?_
  refine eMO_init_155 (fs := moI bm 18) (xw_ne (by show bm ≠ bm + 1 + 18; omega) mq_o) (Nat.le_of_ble_eq_true rfl) ?_
  have e : x_put (x_new (mq h0 bm 18 s) (.inl (0, 160, .inl (fun _ => 0))) 160) bm (.inr (8, (moI bm 18).set 22 (.ref (mq h0 bm 18 s).2.1))) = mq h0 bm 19 (s + 160) := mq_step (i := 18)
  rw [e]
  exact k
theorem gMO_19 {v1 v2 v3 : Option Value} (k : x_K P (d + 1) mMO_init 166 [some (.ref bm), v1, v2, v3] [] (mq h0 bm 20 (s + 10)) Φ) : x_K P (d + 1) mMO_init 158 [some (.ref bm), v1, v2, v3] [] (mq h0 bm 19 s) Φ := by
  refine eMO_init_158 rfl ?_
  refine eMO_init_159 ?_
  refine eMO_init_161 (n := 10) (by decide) (by decide) (by decide) ?_
  refine eMO_init_163 (fs := moI bm 19) (xw_ne (by show bm ≠ bm + 1 + 19; omega) mq_o) (Nat.le_of_ble_eq_true rfl) ?_
  have e : x_put (x_new (mq h0 bm 19 s) (.inl (0, 10, .inl (fun _ => 0))) 10) bm (.inr (8, (moI bm 19).set 23 (.ref (mq h0 bm 19 s).2.1))) = mq h0 bm 20 (s + 10) := mq_step (i := 19)
  rw [e]
  exact k
theorem gMO_20 {v1 v2 v3 : Option Value} (k : x_K P (d + 1) mMO_init 175 [some (.ref bm), v1, v2, v3] [] (mq h0 bm 21 (s + 160)) Φ) : x_K P (d + 1) mMO_init 166 [some (.ref bm), v1, v2, v3] [] (mq h0 bm 20 s) Φ := by
  refine eMO_init_166 rfl ?_
  refine eMO_init_167 ?_
  refine eMO_init_170 (n := 160) (by decide) (by decide) (by decide) ?_
  refine eMO_init_172 (fs := moI bm 20) (xw_ne (by show bm ≠ bm + 1 + 20; omega) mq_o) (Nat.le_of_ble_eq_true rfl) ?_
  have e : x_put (x_new (mq h0 bm 20 s) (.inl (0, 160, .inl (fun _ => 0))) 160) bm (.inr (8, (moI bm 20).set 24 (.ref (mq h0 bm 20 s).2.1))) = mq h0 bm 21 (s + 160) := mq_step (i := 20)
  rw [e]
  exact k
theorem gMO_21 {v1 v2 v3 : Option Value} (k : x_K P (d + 1) mMO_init 183 [some (.ref bm), v1, v2, v3] [] (mq h0 bm 22 (s + 10)) Φ) : x_K P (d + 1) mMO_init 175 [some (.ref bm), v1, v2, v3] [] (mq h0 bm 21 s) Φ := by
  refine eMO_init_175 rfl ?_
  refine eMO_init_176 ?_
  refine eMO_init_178 (n := 10) (by decide) (by decide) (by decide) ?_
  refine eMO_init_180 (fs := moI bm 21) (xw_ne (by show bm ≠ bm + 1 + 21; omega) mq_o) (Nat.le_of_ble_eq_true rfl) ?_
  have e : x_put (x_new (mq h0 bm 21 s) (.inl (0, 10, .inl (fun _ => 0))) 10) bm (.inr (8, (moI bm 21).set 25 (.ref (mq h0 bm 21 s).2.1))) = mq h0 bm 22 (s + 10) := mq_step (i := 21)
  rw [e]
  exact k
theorem gMO_22 {v1 v2 v3 : Option Value} (k : x_K P (d + 1) mMO_init 191 [some (.ref bm), v1, v2, v3] [] (mq h0 bm 23 (s + 10)) Φ) : x_K P (d + 1) mMO_init 183 [some (.ref bm), v1, v2, v3] [] (mq h0 bm 22 s) Φ := by
  refine eMO_init_183 rfl ?_
  refine eMO_init_184 ?_
  refine eMO_init_186 (n := 10) (by decide) (by decide) (by decide) ?_
  refine eMO_init_188 (fs := moI bm 22) (xw_ne (by show bm ≠ bm + 1 + 22; omega) mq_o) (Nat.le_of_ble_eq_true rfl) ?_
  have e : x_put (x_new (mq h0 bm 22 s) (.inl (0, 10, .inl (fun _ => 0))) 10) bm (.inr (8, (moI bm 22).set 26 (.ref (mq h0 bm 22 s).2.1))) = mq h0 bm 23 (s + 10) := mq_step (i := 22)
  rw [e]
  exact k
theorem gMO_23 {v1 v2 v3 : Option Value} (k : x_K P (d + 1) mMO_init 200 [some (.ref bm), v1, v2, v3] [] (mq h0 bm 24 (s + 10000)) Φ) : x_K P (d + 1) mMO_init 191 [some (.ref bm), v1, v2, v3] [] (mq h0 bm 23 s) Φ := by
  refine eMO_init_191 rfl ?_
  refine eMO_init_192 ?_
  refine eMO_init_195 (n := 10000) (by decide) (by decide) (by decide) ?_
  refine eMO_init_197 (fs := moI bm 23) (xw_ne (by show bm ≠ bm + 1 + 23; omega) mq_o) (Nat.le_of_ble_eq_true rfl) ?_
  have e : x_put (x_new (mq h0 bm 23 s) (.inl (0, 10000, .inl (fun _ => 0))) 10000) bm (.inr (8, (moI bm 23).set 27 (.ref (mq h0 bm 23 s).2.1))) = mq h0 bm 24 (s + 10000) := mq_step (i := 23)
  rw [e]
  exact k
theorem gMO_24 {v1 v2 v3 : Option Value} (k : x_K P (d + 1) mMO_init 209 [some (.ref bm), v1, v2, v3] [] (mq h0 bm 25 (s + 128)) Φ) : x_K P (d + 1) mMO_init 200 [some (.ref bm), v1, v2, v3] [] (mq h0 bm 24 s) Φ := by
  refine eMO_init_200 rfl ?_
  refine eMO_init_201 ?_
  refine eMO_init_204 (n := 128) (by decide) (by decide) (by decide) ?_
  refine eMO_init_206 (fs := moI bm 24) (xw_ne (by show bm ≠ bm + 1 + 24; omega) mq_o) (Nat.le_of_ble_eq_true rfl) ?_
  have e : x_put (x_new (mq h0 bm 24 s) (.inl (0, 128, .inl (fun _ => 0))) 128) bm (.inr (8, (moI bm 24).set 28 (.ref (mq h0 bm 24 s).2.1))) = mq h0 bm 25 (s + 128) := mq_step (i := 24)
  rw [e]
  exact k
theorem gMO_25 {v1 v2 v3 : Option Value} (k : x_K P (d + 1) mMO_init 218 [some (.ref bm), v1, v2, v3] [] (mq h0 bm 26 (s + 128)) Φ) : x_K P (d + 1) mMO_init 209 [some (.ref bm), v1, v2, v3] [] (mq h0 bm 25 s) Φ := by
  refine eMO_init_209 rfl ?_
  refine eMO_init_210 ?_
  refine eMO_init_213 (n := 128) (by decide) (by decide) (by decide) ?_
  refine eMO_init_215 (fs := moI bm 25) (xw_ne (by show bm ≠ bm + 1 + 25; omega) mq_o) (Nat.le_of_ble_eq_true rfl) ?_
  have e : x_put (x_new (mq h0 bm 25 s) (.inl (1, 128, .inl (fun _ => 0))) 128) bm (.inr (8, (moI bm 25).set 30 (.ref (mq h0 bm 25 s).2.1))) = mq h0 bm 26 (s + 128) := mq_step (i := 25)
  rw [e]
  exact k
theorem gMO_26 {v1 v2 v3 : Option Value} (k : x_K P (d + 1) mMO_init 227 [some (.ref bm), v1, v2, v3] [] (mq h0 bm 27 (s + 520)) Φ) : x_K P (d + 1) mMO_init 218 [some (.ref bm), v1, v2, v3] [] (mq h0 bm 26 s) Φ := by
  refine eMO_init_218 rfl ?_
  refine eMO_init_219 ?_
  refine eMO_init_222 (n := 520) (by decide) (by decide) (by decide) ?_
  refine eMO_init_224 (fs := moI bm 26) (xw_ne (by show bm ≠ bm + 1 + 26; omega) mq_o) (Nat.le_of_ble_eq_true rfl) ?_
  have e : x_put (x_new (mq h0 bm 26 s) (.inl (0, 520, .inl (fun _ => 0))) 520) bm (.inr (8, (moI bm 26).set 36 (.ref (mq h0 bm 26 s).2.1))) = mq h0 bm 27 (s + 520) := mq_step (i := 26)
  rw [e]
  exact k
theorem gMO_27 {v1 v2 v3 : Option Value} (k : x_K P (d + 1) mMO_init 236 [some (.ref bm), v1, v2, v3] [] (mq h0 bm 28 (s + 520)) Φ) : x_K P (d + 1) mMO_init 227 [some (.ref bm), v1, v2, v3] [] (mq h0 bm 27 s) Φ := by
  refine eMO_init_227 rfl ?_
  refine eMO_init_228 ?_
  refine eMO_init_231 (n := 520) (by decide) (by decide) (by decide) ?_
  refine eMO_init_233 (fs := moI bm 27) (xw_ne (by show bm ≠ bm + 1 + 27; omega) mq_o) (Nat.le_of_ble_eq_true rfl) ?_
  have e : x_put (x_new (mq h0 bm 27 s) (.inl (0, 520, .inl (fun _ => 0))) 520) bm (.inr (8, (moI bm 27).set 37 (.ref (mq h0 bm 27 s).2.1))) = mq h0 bm 28 (s + 520) := mq_step (i := 27)
  rw [e]
  exact k
theorem gMO_28 {v1 v2 v3 : Option Value} (k : x_K P (d + 1) mMO_init 245 [some (.ref bm), v1, v2, v3] [] (mq h0 bm 29 (s + 520)) Φ) : x_K P (d + 1) mMO_init 236 [some (.ref bm), v1, v2, v3] [] (mq h0 bm 28 s) Φ := by
  refine eMO_init_236 rfl ?_
  refine eMO_init_237 ?_
  refine eMO_init_240 (n := 520) (by decide) (by decide) (by decide) ?_
  refine eMO_init_242 (fs := moI bm 28) (xw_ne (by show bm ≠ bm + 1 + 28; omega) mq_o) (Nat.le_of_ble_eq_true rfl) ?_
  have e : x_put (x_new (mq h0 bm 28 s) (.inl (0, 520, .inl (fun _ => 0))) 520) bm (.inr (8, (moI bm 28).set 38 (.ref (mq h0 bm 28 s).2.1))) = mq h0 bm 29 (s + 520) := mq_step (i := 28)
  rw [e]
  exact k
theorem gMO_29 {v1 v2 v3 : Option Value} (k : x_K P (d + 1) mMO_init 253 [some (.ref bm), v1, v2, v3] [] (mq h0 bm 30 (s + 8)) Φ) : x_K P (d + 1) mMO_init 245 [some (.ref bm), v1, v2, v3] [] (mq h0 bm 29 s) Φ := by
  refine eMO_init_245 rfl ?_
  refine eMO_init_246 ?_
  refine eMO_init_248 (n := 8) (by decide) (by decide) (by decide) ?_
  refine eMO_init_250 (fs := moI bm 29) (xw_ne (by show bm ≠ bm + 1 + 29; omega) mq_o) (Nat.le_of_ble_eq_true rfl) ?_
  have e : x_put (x_new (mq h0 bm 29 s) (.inl (0, 8, .inl (fun _ => 0))) 8) bm (.inr (8, (moI bm 29).set 39 (.ref (mq h0 bm 29 s).2.1))) = mq h0 bm 30 (s + 8) := mq_step (i := 29)
  rw [e]
  exact k
theorem gMO_30 {v1 v2 v3 : Option Value} (k : x_K P (d + 1) mMO_init 261 [some (.ref bm), v1, v2, v3] [] (mq h0 bm 31 (s + 8)) Φ) : x_K P (d + 1) mMO_init 253 [some (.ref bm), v1, v2, v3] [] (mq h0 bm 30 s) Φ := by
  refine eMO_init_253 rfl ?_
  refine eMO_init_254 ?_
  refine eMO_init_256 (n := 8) (by decide) (by decide) (by decide) ?_
  refine eMO_init_258 (fs := moI bm 30) (xw_ne (by show bm ≠ bm + 1 + 30; omega) mq_o) (Nat.le_of_ble_eq_true rfl) ?_
  have e : x_put (x_new (mq h0 bm 30 s) (.inl (0, 8, .inl (fun _ => 0))) 8) bm (.inr (8, (moI bm 30).set 40 (.ref (mq h0 bm 30 s).2.1))) = mq h0 bm 31 (s + 8) := mq_step (i := 30)
  rw [e]
  exact k
theorem gMO_31 {v1 v2 v3 : Option Value} (k : x_K P (d + 1) mMO_init 270 [some (.ref bm), v1, v2, v3] [] (mq h0 bm 32 (s + 4160)) Φ) : x_K P (d + 1) mMO_init 261 [some (.ref bm), v1, v2, v3] [] (mq h0 bm 31 s) Φ := by
  refine eMO_init_261 rfl ?_
  refine eMO_init_262 ?_
  refine eMO_init_265 (n := 4160) (by decide) (by decide) (by decide) ?_
  refine eMO_init_267 (fs := moI bm 31) (xw_ne (by show bm ≠ bm + 1 + 31; omega) mq_o) (Nat.le_of_ble_eq_true rfl) ?_
  have e : x_put (x_new (mq h0 bm 31 s) (.inl (0, 4160, .inl (fun _ => 0))) 4160) bm (.inr (8, (moI bm 31).set 41 (.ref (mq h0 bm 31 s).2.1))) = mq h0 bm 32 (s + 4160) := mq_step (i := 31)
  rw [e]
  exact k
end
theorem mq_mh {h0 : x_H} {bm s : Nat} : mq h0 bm 32 s = mh (h0.1, bm + 33, s) bm (fun _ => 0) (fun _ _ => 0) := by
  refine Prod.ext ?_ rfl
  funext q
  rfl
theorem mq_0 {h : x_H} {bm : Nat} (hb : h.1 bm = some (.inr (8, moI bm 0))) (hn : h.2.1 = bm + 1) : h = mq h bm 0 h.2.2 := by
  refine Prod.ext ?_ (Prod.ext hn rfl)
  funext q
  show h.1 q = (if q = bm then _ else if bm < q ∧ q ≤ bm + 0 then _ else h.1 q)
  by_cases c : q = bm
  · rw [if_pos c, c]; exact hb
  · rw [if_neg c, if_neg (by omega)]
theorem gMO_all {P : x_P} {d : Nat} {h0 : x_H} {bm s : Nat} {Φ : Outcome → x_H → Prop} {v1 v2 v3 : Option Value} (k : x_K P (d + 1) mMO_init 270 [some (.ref bm), v1, v2, v3] [] (mq h0 bm 32 (s + 17120)) Φ) : x_K P (d + 1) mMO_init 4 [some (.ref bm), v1, v2, v3] [] (mq h0 bm 0 s) Φ := by
  have e : s + 30 + 36 + 36 + 36 + 36 + 108 + 18 + 18 + 18 + 54 + 36 + 18 + 18 + 18 + 256 + 16 + 16 + 10 + 160 + 10 + 160 + 10 + 10 + 10000 + 128 + 128 + 520 + 520 + 520 + 8 + 8 + 4160 = s + 17120 := by omega
  rw [← e] at k
  exact gMO_0 (gMO_1 (gMO_2 (gMO_3 (gMO_4 (gMO_5 (gMO_6 (gMO_7 (gMO_8 (gMO_9 (gMO_10 (gMO_11 (gMO_12 (gMO_13 (gMO_14 (gMO_15 (gMO_16 (gMO_17 (gMO_18 (gMO_19 (gMO_20 (gMO_21 (gMO_22 (gMO_23 (gMO_24 (gMO_25 (gMO_26 (gMO_27 (gMO_28 (gMO_29 (gMO_30 (gMO_31 (k))))))))))))))))))))))))))))))))
def pF (x : Int32) (i : Nat) : Nat := x.toBitVec.toNat / 2 ^ (3 * (i - 1)) % 8 % i
theorem pF_P {x : Int32} : isP (pF x) := fun i h1 _ => Nat.mod_lt _ h1
theorem pF_lt {x : Int32} {i : Nat} : x.toBitVec.toNat / 2 ^ (3 * (i - 1)) % 8 < 8 := Nat.mod_lt _ (by decide)
/-- the arithmetic shift, three bits of it -/
theorem sh_and {x : Int32} {k : Nat} (hk : k = 0 ∨ k = 3 ∨ k = 6 ∨ k = 9 ∨ k = 12) {s : Int32} (hs : (s.toBitVec.smod 32).toNat = k) : (x >>> s) &&& 7 = nI (x.toBitVec.toNat / 2 ^ k % 8) := by
  rw [pk_and (x >>> s) (m := 7) 3 (by decide)]
  have h1 := pk_shr x s k hs
  congr 1
  have e1 : (x >>> s).toInt = ((x >>> s).toBitVec.toNat : Int) ∨ (x >>> s).toInt = ((x >>> s).toBitVec.toNat : Int) - 4294967296 := by
    show (x >>> s).toBitVec.toInt = _ ∨ (x >>> s).toBitVec.toInt = _
    rw [BitVec.toInt_eq_toNat_cond]
    split
    · exact Or.inl rfl
    · exact Or.inr rfl
  have e2 : x.toInt = (x.toBitVec.toNat : Int) ∨ x.toInt = (x.toBitVec.toNat : Int) - 4294967296 := by
    show x.toBitVec.toInt = _ ∨ x.toBitVec.toInt = _
    rw [BitVec.toInt_eq_toNat_cond]
    split
    · exact Or.inl rfl
    · exact Or.inr rfl
  generalize (x >>> s).toBitVec.toNat = A at *
  generalize x.toBitVec.toNat = B at *
  generalize (x >>> s).toInt = C at *
  generalize x.toInt = D at *
  rw [Int.shiftRight_eq_div_pow] at h1
  rcases hk with e | e | e | e | e <;> subst e <;> simp at h1 ⊢ <;> omega
/-- a part of the links: those of the brokers below n -/
def lkP (p : Nat → Nat) (n k : Nat) : Option Nat := if (0 < k / 6 ∧ k / 6 < n) ∧ p (k / 6) = k % 6 then some (2 * (k / 6) - 2) else if (0 < k % 6 ∧ k % 6 < n) ∧ p (k % 6) = k / 6 then some (2 * (k % 6) - 1) else none
theorem lkP_6 {p : Nat → Nat} {k : Nat} (hk : k < 36) : lkP p 6 k = lkF p k := by
  unfold lkP lkF
  have e1 : ((0 < k / 6 ∧ k / 6 < 6) ∧ p (k / 6) = k % 6) ↔ (0 < k / 6 ∧ p (k / 6) = k % 6) := ⟨fun z => ⟨z.1.1, z.2⟩, fun z => ⟨⟨z.1, by omega⟩, z.2⟩⟩
  have e2 : ((0 < k % 6 ∧ k % 6 < 6) ∧ p (k % 6) = k / 6) ↔ (0 < k % 6 ∧ p (k % 6) = k / 6) := ⟨fun z => ⟨z.1.1, z.2⟩, fun z => ⟨⟨z.1, by omega⟩, z.2⟩⟩
  simp only [e1, e2]
theorem lkP_step {p : Nat → Nat} (hp : isP p) {n k : Nat} (h1 : 0 < n) (h6 : n < 6) (hk : k < 36) : lkP p (n + 1) k = if k = 6 * p n + n then some (2 * n - 1) else if k = 6 * n + p n then some (2 * n - 2) else lkP p n k := by
  have hpn := hp n h1 h6
  by_cases c1 : k = 6 * p n + n
  · rw [if_pos c1]
    have e1 : k / 6 = p n := by omega
    have e2 : k % 6 = n := by omega
    unfold lkP
    rw [e1, e2, if_neg (fun z => by have := hp (p n) z.1.1 (by omega); omega), if_pos ⟨⟨h1, by omega⟩, rfl⟩]
  · rw [if_neg c1]
    by_cases c2 : k = 6 * n + p n
    · rw [if_pos c2]
      have e1 : k / 6 = n := by omega
      have e2 : k % 6 = p n := by omega
      unfold lkP
      rw [e1, e2, if_pos ⟨⟨h1, by omega⟩, rfl⟩]
    · rw [if_neg c2]
      unfold lkP
      have e1 : ((0 < k / 6 ∧ k / 6 < n + 1) ∧ p (k / 6) = k % 6) ↔ ((0 < k / 6 ∧ k / 6 < n) ∧ p (k / 6) = k % 6) := by
        constructor
        · rintro ⟨⟨a, b⟩, c⟩
          refine ⟨⟨a, ?_⟩, c⟩
          refine Classical.byContradiction fun z => c2 ?_
          have e : k / 6 = n := by omega
          rw [e] at c
          omega
        · rintro ⟨⟨a, b⟩, c⟩
          exact ⟨⟨a, by omega⟩, c⟩
      have e2 : ((0 < k % 6 ∧ k % 6 < n + 1) ∧ p (k % 6) = k / 6) ↔ ((0 < k % 6 ∧ k % 6 < n) ∧ p (k % 6) = k / 6) := by
        constructor
        · rintro ⟨⟨a, b⟩, c⟩
          refine ⟨⟨a, ?_⟩, c⟩
          refine Classical.byContradiction fun z => c1 ?_
          have e : k % 6 = n := by omega
          rw [e] at c
          omega
        · rintro ⟨⟨a, b⟩, c⟩
          exact ⟨⟨a, by omega⟩, c⟩
      simp only [e1, e2]
def oI (o : Option Nat) : Int32 := match o with
  | none => -1
  | some j => nI j
section
variable {P : x_P} {d : Nat} {h0 : x_H} {bm : Nat} {ze : Nat → Int32} {Φ : Outcome → x_H → Prop}
theorem lMO_init1 {v1 v3 : Option Value} (kk : ∀ si, (∀ K, K ≠ 2 → si K = fun _ => 0) → (∀ i, i < 36 → si 2 i = -1) → x_K P d mMO_init 291 [some (.ref bm), v1, some (.int (nI 36)), v3] [] (mh h0 bm ze si) Φ) :
  ∀ (n k : Nat) (si : Nat → Nat → Int32), k + n = 36 → (∀ K, K ≠ 2 → si K = fun _ => 0) → (∀ i, i < k → si 2 i = -1) → x_K P d mMO_init 272 [some (.ref bm), v1, some (.int (nI k)), v3] [] (mh h0 bm ze si) Φ := by
  intro n
  induction n with
  | zero =>
    intro k si hk h1 h2
    have ek : k = 36 := by omega
    subst ek
    refine eMO_init_272 ?_
    refine eMO_init_273 ?_
    refine eMO_init_275 (fun c275 => ?_) (fun c => absurd (by decide) c)
    exact kk si h1 h2
  | succ n ih =>
    intro k si hk h1 h2
    refine eMO_init_272 ?_
    refine eMO_init_273 ?_
    refine eMO_init_275 (fun c => absurd c (nI_ge (b := 36) (by omega) (by decide))) (fun c275 => ?_)
    refine eMO_init_278 rfl ?_
    refine eMO_init_279 mh_o rfl ?_
    refine eMO_init_282 ?_
    refine eMO_init_283 ?_
    refine eMO_init_284 mh_a2 (xn_in (by omega) (by decide)) ?_
    rw [mh_p2, nI_clamp (by omega)]
    refine eMO_init_285 ?_
    rw [nI_1]
    skip
    refine eMO_init_288 ?_
    refine ih (k + 1) _ (by omega) (fun K hK => (if_neg hK).trans (h1 K hK)) (fun i hi => ?_)
    show upd (si 2) k (-1) i = -1
    by_cases c : i = k
    · subst c; exact pk_us
    · rw [pk_un c]; exact h2 i (by omega)
theorem lMO_init2 {x : Int32} (kk : ∀ ze' si, (∀ i, i ≠ 2 → ze' i = 0) → (∀ K, K ≠ 2 → si K = fun _ => 0) → (∀ i, i < 36 → si 2 i = oI (lkF (pF x) i)) → Φ (.returned none) (mh h0 bm ze' si)) :
  ∀ (n k : Nat) (ze : Nat → Int32) (si : Nat → Nat → Int32) (v3 : Option Value), k + n = 6 → 0 < k → (∀ i, i ≠ 2 → ze i = 0) → ze 2 = nI (2 * k - 2) → (∀ K, K ≠ 2 → si K = fun _ => 0) → (∀ i, i < 36 → si 2 i = oI (lkP (pF x) k i)) → x_K P d mMO_init 293 [some (.ref bm), some (.int x), some (.int (nI k)), v3] [] (mh h0 bm ze si) Φ := by
  intro n
  induction n with
  | zero =>
    intro k ze si v3 hk h0' hz hz2 h1 h2
    have ek : k = 6 := by omega
    subst ek
    refine eMO_init_293 ?_
    refine eMO_init_294 ?_
    refine eMO_init_296 (fun c296 => ?_) (fun c => absurd (by decide) c)
    exact eMO_init_360 (kk ze si hz h1 (fun i hi => by rw [← lkP_6 hi]; exact h2 i hi))
  | succ n ih =>
    intro k ze si v3 hk h0' hz hz2 h1 h2
    have hpk := pF_P (x := x) k h0' (by omega)
    have e3 : (3 : Int32) * (nI k - 1) = nI (3 * (k - 1)) := by
      rw [show nI k - 1 = nI (k - 1) from pk_sub (b := 1) h0', mx3]
    have esh : (x >>> (nI (3 * (k - 1)) &&& 31)) &&& 7 = nI (x.toBitVec.toNat / 2 ^ (3 * (k - 1)) % 8) := sh_and (by omega) (xn_s _ (by omega))
    have erem : nI (x.toBitVec.toNat / 2 ^ (3 * (k - 1)) % 8) - nI (x.toBitVec.toNat / 2 ^ (3 * (k - 1)) % 8) / nI k * nI k = nI (pF x k) := pk_rem (by have := pF_lt (x := x) (i := k); omega) h0' (by omega)
    have hz2' : ∀ f : Nat → Nat → Int32, ze 2 = nI (2 * k - 2) := fun _ => hz2
    have en0 : ¬ nI k = 0 := nI_ne0 h0' (by omega)
    refine eMO_init_293 ?_
    refine eMO_init_294 ?_
    refine eMO_init_296 (fun c => absurd c (nI_ge (b := 6) (by omega) (by decide))) (fun c296 => ?_)
    refine eMO_init_299 ?_
    refine eMO_init_300 ?_
    refine eMO_init_301 ?_
    refine eMO_init_302 ?_
    skip
    refine eMO_init_303 ?_
    refine eMO_init_304 ?_
    rw [e3]
    refine eMO_init_305 ?_
    refine eMO_init_306 ?_
    refine eMO_init_308 ?_
    rw [esh]
    refine eMO_init_309 ?_
    refine eMO_init_310 en0 ?_
    rw [erem]
    refine eMO_init_311 ?_
    refine eMO_init_312 rfl ?_
    refine eMO_init_313 mh_o rfl ?_
    refine eMO_init_316 ?_
    refine eMO_init_318 ?_
    refine eMO_init_319 ?_
    rw [mx6]
    refine eMO_init_320 ?_
    refine eMO_init_321 ?_
    rw [nI_add]
    refine eMO_init_322 rfl ?_
    refine eMO_init_323 mh_o rfl ?_
    rw [hz2]
    refine eMO_init_326 mh_a2 (xn_in (by omega) (by decide)) ?_
    rw [mh_p2, nI_clamp (by omega)]
    refine eMO_init_327 rfl ?_
    refine eMO_init_328 mh_o rfl ?_
    refine eMO_init_331 ?_
    refine eMO_init_333 ?_
    refine eMO_init_334 ?_
    rw [mx6]
    refine eMO_init_335 ?_
    refine eMO_init_336 ?_
    rw [nI_add]
    refine eMO_init_337 rfl ?_
    refine eMO_init_338 mh_o rfl ?_
    rw [hz2]
    refine eMO_init_341 ?_
    refine eMO_init_342 ?_
    rw [nI_1]
    refine eMO_init_343 mh_a2 (xn_in (by omega) (by decide)) ?_
    rw [mh_p2, nI_clamp (by omega)]
    refine eMO_init_344 rfl ?_
    refine eMO_init_345 rfl ?_
    refine eMO_init_346 mh_o rfl ?_
    rw [hz2]
    refine eMO_init_349 ?_
    refine eMO_init_350 ?_
    rw [nI_a2]
    refine eMO_init_351 mh_o (Nat.le_of_ble_eq_true rfl) ?_
    rw [mh_f2]
    refine eMO_init_354 ?_
    rw [nI_1]
    skip
    refine eMO_init_357 ?_
    refine ih (k + 1) _ _ _ (by omega) (by omega) (fun i hi => (pk_un hi).trans (hz i hi)) (by rw [pk_us]; congr 1; omega) (fun K hK => (if_neg hK).trans ((if_neg hK).trans (h1 K hK))) (fun i hi => ?_)
    show upd (upd (si 2) (6 * k + pF x k) _) (6 * pF x k + k) _ i = _
    rw [lkP_step pF_P h0' (by omega) hi]
    by_cases c1 : i = 6 * pF x k + k
    · rw [if_pos c1, c1, pk_us]
      show _ = nI (2 * k - 1)
      congr 1
      omega
    · rw [if_neg c1, pk_un c1]
      by_cases c2 : i = 6 * k + pF x k
      · rw [if_pos c2, c2, pk_us]
        rfl
      · rw [if_neg c2, pk_un c2]
        exact h2 i hi
/-- the state at the beginning -/
def S0 : bS := (0, fun _ => 0, 0, fun _ => [], fun _ => [], fun _ => [], [], fun _ => 0, fun _ => 0, fun _ => false, [], fun _ => 0, [], [], [])
theorem isM_0 {p : Nat → Nat} {ze : Nat → Int32} {si : Nat → Nat → Int32} (hz : ∀ i, i ≠ 2 → ze i = 0) (h1 : ∀ K, K ≠ 2 → si K = fun _ => 0) (h2 : ∀ i, i < 36 → si 2 i = oI (lkF p i)) : isM p S0 (fun _ => fi0) (fun _ => []) (fun _ => []) (fun _ => 0) (fun _ => []) ze si := by
  have z0 : ∀ K i, K ≠ 2 → si K i = 0 := fun K i hK => by rw [h1 K hK]
  refine ⟨⟨fun i hi => ⟨z0 1 i (by decide), by show (0 : Nat) < 65536; decide⟩, hz 1 (by decide), Nat.zero_le _, hz 0 (by decide)⟩, fun k hk => h2 k hk, ⟨hz 3 (by decide), Nat.zero_le _, fun k hk => absurd hk (Nat.not_lt_zero _), fun k hk => z0 17 k (by decide)⟩, fun k hk => absurd hk (Nat.not_lt_zero _), fun f g hf => absurd hf (Nat.not_lt_zero _), ⟨hz 5 (by decide), Nat.zero_le _, fun i q hq => by simp [S0, b_N] at hq⟩, ⟨Nat.le_refl _, fun k hk => absurd hk (Nat.not_lt_zero _), fun a c q r hq => by simp [S0, b_K] at hq⟩, ⟨fun j hj => ⟨z0 18 j (by decide), Nat.zero_le _, fun i x hx => by simp at hx⟩, fun j hj => ⟨rfl, (fun x hx => by cases hx), List.nodup_nil⟩⟩, ⟨fun j hj => ⟨z0 20 j (by decide), Nat.zero_le _, fun i x hx => by simp at hx⟩, fun j hj => ⟨rfl, (fun x hx => by cases hx), List.nodup_nil⟩⟩, ⟨fun j hj => ⟨z0 22 j (by decide), z0 23 j (by decide), Nat.zero_le _, fun i x hx => by simp at hx⟩, fun j hj => ⟨rfl, fun x hx => by cases hx⟩⟩, ⟨hz 6 (by decide), hz 7 (by decide), hz 8 (by decide), hz 9 (by decide)⟩, fun c hc => ⟨z0 30 c (by decide), z0 31 c (by decide), Nat.zero_le _, fun i x hx => by simp [S0, b_Q] at hx⟩⟩
theorem INV_0 {p : Nat → Nat} (hp : isP p) : INV p S0 (fun _ => 0) 0 := by
  have hoff : ∀ u t, u < 6 → ∀ x, x ∉ offF S0 p u t := fun u t hu x hx => by
    obtain ⟨i, hi⟩ := (off_fam hp hu x).mp hx
    cases i with
    | none =>
      obtain ⟨q, a, -⟩ := ow_mem.mp hi
      exact absurd a (Nat.not_lt_zero _)
    | some k =>
      have hi' : x ∈ (if k < 10 ∧ toF p k = u ∧ frF p k ≠ t then b_H S0 k else []) := hi
      split at hi'
      · cases hi'
      · cases hi'
  have hnil : ∀ u t, u < 6 → offF S0 p u t = [] := fun u t hu => List.eq_nil_iff_forall_not_mem.mpr (hoff u t hu)
  refine ⟨fun _ _ => 0, fun _ _ => 0, fun _ _ => 0, fun _ _ => 0, fun _ _ => 0, fun _ _ => 0, fun _ _ => 0, ⟨⟨fun j hj φ => Nat.le_refl _, fun j hj φ => ?_, fun j hj => ⟨fun x => Iff.rfl, (fun a ha => by cases ha), List.nodup_nil, (fun x hx => by cases hx), (fun x hx => by cases hx), (fun m hm => by cases hm)⟩, fun q hq => absurd hq (Nat.not_lt_zero _), fun a c q r hq => by simp [S0, b_K] at hq⟩, ⟨fun j hj => Nat.le_refl _, fun c hc => Nat.le_refl _⟩, ⟨fun j hj n => Nat.le_refl _, fun j hj n => Nat.zero_le _, fun n => Nat.zero_le _, fun n hn b hb => rfl, fun c hc n => Nat.zero_le _, fun j hj m hm => by cases hm⟩, fun j hj => ?_⟩, fun φ => Nat.zero_le _, Nat.le_refl _, Nat.zero_le _, Nat.le_refl _, fun q hq => rfl⟩
  · rw [hnil _ _ (lkF_j hp hj).1]
    show 0 + (if lv (b_K S0) φ [] = lv (b_K S0) φ [] then 0 else 1) ≤ _
    rw [if_pos rfl]
    exact Nat.zero_le _
  · unfold rs
    rw [hnil _ _ (lkF_j hp hj).1]
    exact fun x => Iff.rfl
end
section
variable {P : x_P} {d : Nat} {bm : Nat}
theorem sMO_init {h : x_H} {x : Int32} (hb : h.1 bm = some (.inr (8, moI bm 0))) (hn : h.2.1 = bm + 1) : x_K P (d + 1) mMO_init 0 [some (.ref bm), some (.int x), none, none] [] h (fun oc h' => oc = .returned none ∧ ∃ ze si, h' = mh (h.1, bm + 33, h.2.2 + 17120) bm ze si ∧ isM (pF x) S0 (fun _ => fi0) (fun _ => []) (fun _ => []) (fun _ => 0) (fun _ => []) ze si) := by
  suffices H : x_K P (d + 1) mMO_init 0 [some (.ref bm), some (.int x), none, none] [] (mq h bm 0 h.2.2) (fun oc h' => oc = .returned none ∧ ∃ ze si, h' = mh (h.1, bm + 33, h.2.2 + 17120) bm ze si ∧ isM (pF x) S0 (fun _ => fi0) (fun _ => []) (fun _ => []) (fun _ => 0) (fun _ => []) ze si) by
    rw [← mq_0 hb hn] at H
    exact H
  refine eMO_init_0 rfl ?_
  refine eMO_init_1 (Nat.le_of_ble_eq_true rfl) ?_
  refine gMO_all ?_
  rw [mq_mh]
  refine eMO_init_270 ?_
  refine eMO_init_271 ?_
  skip
  refine lMO_init1 (fun si h1 h2 => ?_) 36 0 _ rfl (fun K hK => rfl) (fun i hi => absurd hi (Nat.not_lt_zero _))
  refine eMO_init_291 ?_
  refine eMO_init_292 ?_
  skip
  refine lMO_init2 (x := x) (fun ze' si' a b c => ⟨rfl, ze', si', rfl, isM_0 a b c⟩) 5 1 _ si _ rfl (by decide) (fun i hi => rfl) rfl h1 (fun i hi => ?_)
  · rw [h2 i hi]
    have e : lkP (pF x) 1 i = none := by
      unfold lkP
      rw [if_neg (by omega), if_neg (by omega)]
    rw [e]
    rfl
end

