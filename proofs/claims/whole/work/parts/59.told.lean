/-! tellNeeded, dropNotNeeded, settle -/
theorem ub_ub {α : Type} {f : Nat → α} {j : Nat} {u v : α} : ub (ub f j u) j v = ub f j v := by
  funext i
  unfold ub
  split <;> rfl
def tlS (S : bS) (j : Nat) (w : List Nat) : bS := bs_cn (bs_Q (bs_T S (ub (b_T S) j (b_T S j ++ w))) (ub (b_Q S) j (b_Q S j ++ w.map (fun x => x * 3)))) (ub (b_cn S) 2 (b_cn S 2 + w.length))
def dpS (S : bS) (j : Nat) (t w : List Nat) : bS := bs_cn (bs_Q (bs_T S (ub (b_T S) j t)) (ub (b_Q S) j (b_Q S j ++ w.map (fun x => x * 3 + 1)))) (ub (b_cn S) 3 (b_cn S 3 + w.length))
theorem ub_id {α : Type} {f : Nat → α} {j : Nat} {v : α} (h : v = f j) : ub f j v = f := funext fun i => by
  unfold ub
  split
  · rename_i e
    rw [e, h]
  · rfl
theorem tlS_nil {S : bS} {j : Nat} : tlS S j [] = S := by
  unfold tlS
  rw [ub_id (by simp), ub_id (by simp), ub_id (by simp), bsi_T, bsi_Q, bsi_cn]
theorem dpS_nil {S : bS} {j : Nat} : dpS S j (b_T S j) [] = S := by
  unfold dpS
  rw [ub_id rfl, ub_id (by simp), ub_id (by simp), bsi_T, bsi_Q, bsi_cn]
theorem tlS_T {S : bS} {j : Nat} {w : List Nat} : b_T (tlS S j w) = ub (b_T S) j (b_T S j ++ w) := by
  unfold tlS
  rw [bg_T_cn, bg_T_Q, bg_T]
theorem tlS_Q {S : bS} {j : Nat} {w : List Nat} : b_Q (tlS S j w) = ub (b_Q S) j (b_Q S j ++ w.map (fun x => x * 3)) := by
  unfold tlS
  rw [bg_Q_cn, bg_Q]
theorem tlS_cn {S : bS} {j : Nat} {w : List Nat} : b_cn (tlS S j w) = ub (b_cn S) 2 (b_cn S 2 + w.length) := by
  unfold tlS
  rw [bg_cn]
theorem tlS_nd {S : bS} {j : Nat} {w : List Nat} : b_nd (tlS S j w) = b_nd S := by
  unfold tlS
  rw [bg_nd_cn, bg_nd_Q, bg_nd_T]
theorem dpS_T {S : bS} {j : Nat} {t w : List Nat} : b_T (dpS S j t w) = ub (b_T S) j t := by
  unfold dpS
  rw [bg_T_cn, bg_T_Q, bg_T]
theorem dpS_Q {S : bS} {j : Nat} {t w : List Nat} : b_Q (dpS S j t w) = ub (b_Q S) j (b_Q S j ++ w.map (fun x => x * 3 + 1)) := by
  unfold dpS
  rw [bg_Q_cn, bg_Q]
theorem dpS_cn {S : bS} {j : Nat} {t w : List Nat} : b_cn (dpS S j t w) = ub (b_cn S) 3 (b_cn S 3 + w.length) := by
  unfold dpS
  rw [bg_cn]
theorem dpS_nd {S : bS} {j : Nat} {t w : List Nat} : b_nd (dpS S j t w) = b_nd S := by
  unfold dpS
  rw [bg_nd_cn, bg_nd_Q, bg_nd_T]
theorem bs3 {S : bS} {a A : Nat → List Nat} {c C : Nat → List Nat} {e E : Nat → Nat} : bs_cn (bs_Q (bs_T (bs_cn (bs_Q (bs_T S a) c) e) A) C) E = bs_cn (bs_Q (bs_T S A) C) E := by
  rw [bsc_T_cn, bsc_T_Q, bss_T, bsc_Q_cn, bss_Q, bss_cn]
theorem tlS_snoc {S : bS} {j x : Nat} {w : List Nat} : bs_cn (bs_Q (bs_T (tlS S j w) (ub (b_T (tlS S j w)) j (b_T (tlS S j w) j ++ [x]))) (ub (b_Q (tlS S j w)) j (b_Q (tlS S j w) j ++ [x * 3 + 0]))) (ub (b_cn (tlS S j w)) 2 (b_cn (tlS S j w) 2 + 1)) = tlS S j (w ++ [x]) := by
  rw [tlS_T, tlS_Q, tlS_cn, ub_ub, ub_ub, ub_ub, ub_s, ub_s, ub_s]
  unfold tlS
  rw [bs3, List.map_append, List.length_append, List.append_assoc, List.append_assoc]
  rfl
theorem dpS_snoc {S : bS} {j x : Nat} {t t' w : List Nat} : bs_cn (bs_Q (bs_T (dpS S j t w) (ub (b_T (dpS S j t w)) j t')) (ub (b_Q (dpS S j t w)) j (b_Q (dpS S j t w) j ++ [x * 3 + 1]))) (ub (b_cn (dpS S j t w)) 3 (b_cn (dpS S j t w) 3 + 1)) = dpS S j t' (w ++ [x]) := by
  rw [dpS_T, dpS_Q, dpS_cn, ub_ub, ub_ub, ub_ub, ub_s, ub_s]
  unfold dpS
  rw [bs3, List.map_append, List.length_append, List.append_assoc]
  rfl

