/-! settle -/
def slA (p : Nat → Nat) (S : bS) (j : Nat) : bS := bs_nd (bs_of S (offF S p (frF p j) (toF p j))) (needF (b_K S) (offF S p (frF p j) (toF p j)))
def slB (S : bS) (j : Nat) : bS := tlS S j ((b_nd S).filter (fun x => decide (x ∉ b_T S j)))
def slC (S : bS) (j : Nat) : bS := dpS S j ((b_T S j).filter (fun x => decide (x ∈ b_nd S))) ((b_T S j).filter (fun x => decide (x ∉ b_nd S)))
def slS (p : Nat → Nat) (S : bS) (j : Nat) : bS := slC (slB (slA p S j) j) j
def stF (p : Nat → Nat) (u t : Nat) (S : bS) : bS := match lkF p (6 * u + t) with
  | none => S
  | some j => slS p S j
def settleF (p : Nat → Nat) (u : Nat) (S : bS) : bS := lp (stF p u) 6 0 S
theorem slA_Q {p : Nat → Nat} {S : bS} {j : Nat} : b_Q (slA p S j) = b_Q S := by
  unfold slA
  rw [bg_Q_nd, bg_Q_of]
theorem slB_Q {S : bS} {j : Nat} : b_Q (slB S j) = ub (b_Q S) j (b_Q S j ++ ((b_nd S).filter (fun x => decide (x ∉ b_T S j))).map (fun x => x * 3)) := tlS_Q
theorem slC_Q {S : bS} {j : Nat} : b_Q (slC S j) = ub (b_Q S) j (b_Q S j ++ ((b_T S j).filter (fun x => decide (x ∉ b_nd S))).map (fun x => x * 3 + 1)) := dpS_Q
theorem ub_len {f : Nat → List Nat} {j i : Nat} {w : List Nat} : (f i).length ≤ (ub f j (f j ++ w) i).length := by
  unfold ub
  split
  · rename_i e
    rw [e, List.length_append]
    omega
  · exact Nat.le_refl _
theorem slS_len {p : Nat → Nat} {S : bS} {j i : Nat} : (b_Q S i).length ≤ (b_Q (slS p S j) i).length := by
  unfold slS
  rw [slC_Q]
  refine Nat.le_trans ?_ ub_len
  rw [slB_Q]
  refine Nat.le_trans ?_ ub_len
  rw [slA_Q]
  exact Nat.le_refl _
theorem stF_len {p : Nat → Nat} {S : bS} {u t i : Nat} : (b_Q S i).length ≤ (b_Q (stF p u t S) i).length := by
  unfold stF
  split
  · exact Nat.le_refl _
  · exact slS_len
theorem lp_len {f : Nat → bS → bS} (hf : ∀ k S i, (b_Q S i).length ≤ (b_Q (f k S) i).length) : ∀ (n k : Nat) (S : bS) (i : Nat), (b_Q S i).length ≤ (b_Q (lp f n k S) i).length := by
  intro n
  induction n with
  | zero => intro k S i; exact Nat.le_refl _
  | succ n ih => intro k S i; exact Nat.le_trans (hf k S i) (ih (k + 1) (f k S) i)
section
variable {P : x_P} {b : Nat} {p : Nat → Nat} {Z : Nat × Nat × (Nat → Option x_E)} {z : Nat × Nat} {d : Nat}
theorem lBT_settle {u : Nat} {Φ : Outcome → x_H → Prop} {Sf : bS} (hp : isP p) (hu : u < 6) (hq : ∀ j, j < 10 → (b_Q Sf j).length ≤ 1000) (kk : ∀ h1, isB P b p Z Sf z h1 → Φ (.returned none) h1) :
  ∀ (i k : Nat) (S : bS) (h : x_H) (v3 : Option Value), k + i = 6 → lp (stF p u) i k S = Sf → isB P b p Z S z h → x_K P (d + 4) mBT_settle 2 [some (.ref b), some (.int (nI u)), some (.int (nI k)), v3] [] h Φ := by
  intro i
  induction i with
  | zero =>
    intro k S h v3 hk hS kB
    have e : k = 6 := by omega
    subst e
    refine eBT_settle_2 ?_
    refine eBT_settle_3 ?_
    refine eBT_settle_5 (fun _ => eBT_settle_44 (kk h (by rw [← hS]; exact kB))) (fun c => absurd (by decide) c)
  | succ i ih =>
    intro k S h v3 hk hS kB
    have hlt : k < 6 := by omega
    have nxt : ∀ S' h' v, stF p u k S = S' → isB P b p Z S' z h' → x_K P (d + 4) mBT_settle 38 [some (.ref b), some (.int (nI u)), some (.int (nI k)), v] [] h' Φ := by
      intro S' h' v e1 k1
      refine eBT_settle_38 ?_
      refine eBT_settle_41 ?_
      rw [nI_1]
      exact ih (k + 1) S' h' v (by omega) (by rw [← e1]; exact hS) k1
    refine eBT_settle_2 ?_
    refine eBT_settle_3 ?_
    refine eBT_settle_5 (fun c => absurd c (nI_ge (b := 6) hlt (by decide))) (fun _ => ?_)
    refine eBT_settle_8 rfl ?_
    refine eBT_settle_9 ?_
    refine eBT_settle_10 ?_
    refine eBT_settle_11 kB.obj.1 (Nat.le_of_ble_eq_true rfl) (sBT_linkBetween kB hu hlt) ?_
    rintro _ h1 ⟨rfl, rfl⟩
    refine ⟨_, rfl, ?_⟩
    refine eBT_settle_14 (x_isr _) ?_
    refine eBT_settle_15 (x_isr _) ?_
    refine eBT_settle_16 (fun e => ?_) (fun a e => ?_)
    · have e1 : lkF p (6 * u + k) = none := by
        cases h9 : lkF p (6 * u + k) with
        | none => rfl
        | some j => rw [h9] at e; cases e
      exact nxt S h1 _ (by rw [stF, e1]) kB
    · obtain ⟨j, e1, e2⟩ := Option.map_eq_some_iff.mp e
      subst e2
      have hj := lkF_lt e1 (by omega)
      rw [e]
      have eS : stF p u k S = slS p S j := by rw [stF, e1]
      have hlen : (b_Q (slS p S j) j).length ≤ 1000 := by
        refine Nat.le_trans ?_ (hq j hj)
        rw [← hS]
        show _ ≤ (b_Q (lp (stF p u) i (k + 1) (stF p u k S)) j).length
        rw [eS]
        exact lp_len (fun _ _ _ => stF_len) i (k + 1) _ j
      have hl2 : (b_Q (slB (slA p S j) j) j).length + ((b_T (slB (slA p S j) j) j).filter (fun x => decide (x ∉ b_nd (slB (slA p S j) j)))).length ≤ 1000 := by
        have h9 := hlen
        unfold slS at h9
        rw [slC_Q, ub_s, List.length_append, List.length_map] at h9
        exact h9
      have hl1 : (b_Q (slA p S j) j).length + ((b_nd (slA p S j)).filter (fun x => decide (x ∉ b_T (slA p S j) j))).length ≤ 1000 := by
        have h9 : (b_Q (slB (slA p S j) j) j).length ≤ 1000 := by omega
        rw [slB_Q, ub_s, List.length_append, List.length_map] at h9
        exact h9
      show x_K P (d + 4) mBT_settle 19 [some (.ref b), some (.int (nI u)), some (.int (nI k)), some (.ref (b + 16 + 7 * j))] [] h1 Φ
      refine eBT_settle_19 rfl ?_
      refine eBT_settle_20 rfl ?_
      refine eBT_settle_21 kB.obj.1 rfl (Nat.le_of_ble_eq_true rfl) (sBT_gatherOffered kB hj hp) ?_
      rintro _ h2 ⟨rfl, k2⟩
      refine ⟨_, rfl, ?_⟩
      refine eBT_settle_24 rfl ?_
      refine eBT_settle_25 k2.obj.1 (Nat.le_of_ble_eq_true rfl) ((sBT_gatherNeed k2).up (d := d + 2) (by omega)) ?_
      rintro _ h3 ⟨rfl, k3⟩
      refine ⟨_, rfl, ?_⟩
      have k3' : isB P b p Z (slA p S j) z h3 := by
        unfold slA
        rw [bg_K_of, bg_of] at k3
        exact k3
      refine eBT_settle_28 rfl ?_
      refine eBT_settle_29 rfl ?_
      refine eBT_settle_30 k3'.obj.1 rfl (Nat.le_of_ble_eq_true rfl) (sBT_tellNeeded k3' hj hl1) ?_
      rintro _ h4 ⟨rfl, k4⟩
      refine ⟨_, rfl, ?_⟩
      have k4' : isB P b p Z (slB (slA p S j) j) z h4 := k4
      refine eBT_settle_33 rfl ?_
      refine eBT_settle_34 rfl ?_
      refine eBT_settle_35 k4'.obj.1 rfl (Nat.le_of_ble_eq_true rfl) (sBT_dropNotNeeded k4' hj hl2) ?_
      rintro _ h5 ⟨rfl, k5⟩
      refine ⟨_, rfl, ?_⟩
      exact nxt (slS p S j) h5 _ eS k5
theorem sBT_settle {S : bS} {h : x_H} {u : Nat} (kB : isB P b p Z S z h) (hp : isP p) (hu : u < 6) (hq : ∀ j, j < 10 → (b_Q (settleF p u S) j).length ≤ 1000) : x_K P (d + 4) mBT_settle 0 [some (.ref b), some (.int (nI u)), none, none] [] h (fun oc h' => oc = .returned none ∧ isB P b p Z (settleF p u S) z h') := by
  refine eBT_settle_0 ?_
  refine eBT_settle_1 ?_
  exact lBT_settle hp hu hq (fun h1 k1 => ⟨rfl, k1⟩) 6 0 S h none (by omega) rfl kB
end

