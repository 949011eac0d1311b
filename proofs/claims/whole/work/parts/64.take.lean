/-! takeFirst, firstBusyLink, run -/
def tkH (p : Nat → Nat) (S : bS) (j m : Nat) : bS := if m % 3 = 2 then (match (b_N S)[m / 3]? with
  | none => S
  | some q => handleF p (toF p j) (m / 3) (nI (frF p j)) q.2 S) else settleF p (toF p j) (bs_H S (ub (b_H S) j (if m % 3 = 0 then addL (b_H S j) (m / 3) else rmv (m / 3) (b_H S j))))
def tkF (p : Nat → Nat) (S : bS) (j : Nat) : bS := match b_Q S j with
  | [] => S
  | m :: l => tkH p (bs_Q S (ub (b_Q S) j l)) j m
def tkOk (p : Nat → Nat) (S : bS) (j m : Nat) (l : List Nat) : Prop := b_Q S j = m :: l ∧ m < 65536 ∧ (m % 3 = 2 → m / 3 < (b_N S).length) ∧ (m % 3 ≠ 2 → m / 3 < 16) ∧ ∀ i, i < 18 → (b_Q (tkF p S j) i).length ≤ 1000
def fbF (p : Nat → Nat) (S : bS) : Nat → Nat → Option Nat
  | 0, _ => none
  | i + 1, k => match lkF p k with
    | none => fbF p S i (k + 1)
    | some j => if b_Q S j = [] then fbF p S i (k + 1) else some j
def rnF (p : Nat → Nat) : Nat → Nat → bS → bS × Nat
  | 0, t, S => (S, t)
  | i + 1, t, S => match fbF p S 36 0 with
    | none => (S, t)
    | some j => rnF p i (t + 1) (tkF p S j)
section
variable {P : x_P} {b : Nat} {p : Nat → Nat} {Z : Nat × Nat × (Nat → Option x_E)} {z : Nat × Nat} {d : Nat} {S : bS} {h : x_H}
theorem sBT_takeFirst {j m : Nat} {l : List Nat} (kB : isB P b p Z S z h) (hp : isP p) (hj : j < 10) (hk : tkOk p S j m l) : x_K P (d + 6) mBT_takeFirst 0 [some (.ref b), some (.ref (b + 16 + 7 * j)), none, none, none] [] h (fun oc h' => oc = .returned (some (.int (nI (m % 3)))) ∧ isB P b p Z (tkF p S j) z h') := by
  obtain ⟨e, hm, hN, h16, hq⟩ := hk
  obtain ⟨hf6, ht6, -⟩ := lkF_j hp hj
  obtain ⟨fq, hq1⟩ := kB.qcell (j := j) (by omega)
  have eT : tkF p S j = tkH p (bs_Q S (ub (b_Q S) j l)) j m := by rw [tkF, e]
  rw [eT] at hq ⊢
  refine eBT_takeFirst_0 rfl ?_
  refine eBT_takeFirst_1 (kB.lk hj) rfl ?_
  refine eBT_takeFirst_4 hq1 (Nat.le_of_ble_eq_true rfl) (kB.qrem (by omega) e) ?_
  rintro _ h1 ⟨rfl, k1⟩
  refine ⟨_, rfl, ?_⟩
  refine eBT_takeFirst_7 ?_
  refine eBT_takeFirst_8 ?_
  refine eBT_takeFirst_9 ?_
  refine eBT_takeFirst_10 (by decide) ?_
  refine eBT_takeFirst_11 ?_
  refine eBT_takeFirst_12 ?_
  refine eBT_takeFirst_13 ?_
  refine eBT_takeFirst_14 (by decide) ?_
  refine eBT_takeFirst_15 ?_
  rw [show (3 : Int32) = nI 3 by decide, pk_rem (by omega) (by decide) (by decide), pk_div (by omega) (by decide) (by decide)]
  refine eBT_takeFirst_17 ?_
  refine eBT_takeFirst_18 ?_
  refine eBT_takeFirst_19 (fun c => ?_) (fun c => ?_)
  · have c2 : m % 3 ≠ 2 := fun z => c (by rw [z]; decide)
    have hx := h16 c2
    have eH : tkH p (bs_Q S (ub (b_Q S) j l)) j m = settleF p (toF p j) (bs_H (bs_Q S (ub (b_Q S) j l)) (ub (b_H S) j (if m % 3 = 0 then addL (b_H S j) (m / 3) else rmv (m / 3) (b_H S j)))) := by rw [tkH, if_neg c2, bg_H_Q]
    rw [eH] at hq ⊢
    obtain ⟨fr, hr⟩ := (k1.rH hj).cell
    have last : ∀ h2, isB P b p Z (bs_H (bs_Q S (ub (b_Q S) j l)) (ub (b_H S) j (if m % 3 = 0 then addL (b_H S j) (m / 3) else rmv (m / 3) (b_H S j)))) z h2 → x_K P (d + 6) mBT_takeFirst 63 [some (.ref b), some (.ref (b + 16 + 7 * j)), some (.int (nI m)), some (.int (nI (m % 3))), some (.int (nI (m / 3)))] [] h2 (fun oc h' => oc = .returned (some (.int (nI (m % 3)))) ∧ isB P b p Z (settleF p (toF p j) (bs_H (bs_Q S (ub (b_Q S) j l)) (ub (b_H S) j (if m % 3 = 0 then addL (b_H S j) (m / 3) else rmv (m / 3) (b_H S j))))) z h') := by
      intro h2 k2
      refine eBT_takeFirst_63 rfl ?_
      refine eBT_takeFirst_64 rfl ?_
      refine eBT_takeFirst_65 (k2.lk hj) rfl ?_
      refine eBT_takeFirst_68 k2.obj.1 (Nat.le_of_ble_eq_true rfl) ((sBT_settle k2 hp ht6 (fun i hi => hq i (by omega))).up (d := d + 4) (by omega)) ?_
      rintro _ h3 ⟨rfl, k3⟩
      refine ⟨_, rfl, ?_⟩
      refine eBT_takeFirst_71 ?_
      exact eBT_takeFirst_72 ⟨rfl, k3⟩
    refine eBT_takeFirst_38 ?_
    refine eBT_takeFirst_39 (fun c3 => ?_) (fun c3 => ?_)
    · have c4 : m % 3 ≠ 0 := fun z => c3 (by rw [z]; rfl)
      refine eBT_takeFirst_54 rfl ?_
      refine eBT_takeFirst_55 (k1.lk hj) rfl ?_
      refine eBT_takeFirst_58 ?_
      refine eBT_takeFirst_60 hr (Nat.le_of_ble_eq_true rfl) ((sRO_remove (k1.rH hj) hx).up (d := d + 4) (by omega)) ?_
      rintro _ h2 ⟨rfl, k2, g2⟩
      refine ⟨_, rfl, last h2 ?_⟩
      rw [if_neg c4]
      have k3 := k1.mH hj k2 g2
      rw [bg_H_Q] at k3
      exact k3
    · have c4 : m % 3 = 0 := (nI_eq (by omega) (by decide)).mp (c3.trans nI_0.symm)
      refine eBT_takeFirst_42 rfl ?_
      refine eBT_takeFirst_43 (k1.lk hj) rfl ?_
      refine eBT_takeFirst_46 ?_
      refine eBT_takeFirst_48 hr (Nat.le_of_ble_eq_true rfl) ((sRO_add (k1.rH hj) hx).up (d := d + 4) (by omega)) ?_
      rintro _ h2 ⟨rfl, k2, g2⟩
      refine ⟨_, rfl, ?_⟩
      refine eBT_takeFirst_51 (last h2 ?_)
      rw [if_pos c4]
      have k3 := k1.mH hj k2 g2
      rw [bg_H_Q] at k3
      exact k3
  · have c2 : m % 3 = 2 := (nI_eq (by omega) (by decide)).mp (c.trans (by decide))
    have hlt := hN c2
    have eg : (b_N (bs_Q S (ub (b_Q S) j l)))[m / 3]? = some (b_N S)[m / 3] := by rw [bg_N_Q]; exact List.getElem?_eq_getElem hlt
    have eH : tkH p (bs_Q S (ub (b_Q S) j l)) j m = handleF p (toF p j) (m / 3) (nI (frF p j)) (b_N S)[m / 3].2 (bs_Q S (ub (b_Q S) j l)) := by rw [tkH, if_pos c2, eg]
    rw [eH] at hq ⊢
    refine eBT_takeFirst_22 rfl ?_
    refine eBT_takeFirst_23 ?_
    refine eBT_takeFirst_25 rfl ?_
    refine eBT_takeFirst_26 (k1.lk hj) rfl ?_
    refine eBT_takeFirst_29 rfl ?_
    refine eBT_takeFirst_30 (k1.lk hj) rfl ?_
    refine eBT_takeFirst_33 k1.obj.1 (Nat.le_of_ble_eq_true rfl) (sBT_handle (n := (b_N S)[m / 3].1) (w := (b_N S)[m / 3].2) k1 ht6 eg hq) ?_
    rintro _ h3 ⟨rfl, k3⟩
    refine ⟨_, rfl, ?_⟩
    refine eBT_takeFirst_36 ?_
    exact eBT_takeFirst_37 ⟨rfl, k3⟩
theorem fbF_spec : ∀ (i k : Nat) {j : Nat}, fbF p S i k = some j → k + i ≤ 36 → j < 10 ∧ b_Q S j ≠ [] := by
  intro i
  induction i with
  | zero => intro k j h; cases h
  | succ i ih =>
    intro k j h hk
    rw [fbF] at h
    split at h
    · exact ih (k + 1) h (by omega)
    · rename_i j' e
      split at h
      · exact ih (k + 1) h (by omega)
      · cases h
        exact ⟨lkF_lt e (by omega), by assumption⟩
theorem lBT_busy (kB : isB P b p Z S z h) (hq : ∀ j, j < 10 → (b_Q S j).length ≤ 1000) : ∀ (i k : Nat) (v2 : Option Value), k + i = 36 → x_K P (d + 1) mBT_firstBusyLink 2 [some (.ref b), some (.int (nI k)), v2] [] h (fun oc h' => oc = .returned (some (va_rf ((fbF p S i k).map (fun j => b + 16 + 7 * j)))) ∧ h' = h) := by
  obtain ⟨f, hf, hv⟩ := kB.lks
  intro i
  induction i with
  | zero =>
    intro k v2 hk
    have e : k = 36 := by omega
    subst e
    refine eBT_firstBusyLink_2 ?_
    refine eBT_firstBusyLink_3 rfl ?_
    refine eBT_firstBusyLink_4 kB.obj.1 rfl ?_
    refine eBT_firstBusyLink_7 hf rfl ?_
    refine eBT_firstBusyLink_8 (fun _ => ?_) (fun c => absurd (nI_le (Nat.le_refl 36) (by decide)) c)
    refine eBT_firstBusyLink_40 ?_
    exact eBT_firstBusyLink_41 rfl ⟨rfl, rfl⟩
  | succ i ih =>
    intro k v2 hk
    have nxt : ∀ v, fbF p S (i + 1) k = fbF p S i (k + 1) → x_K P (d + 1) mBT_firstBusyLink 34 [some (.ref b), some (.int (nI k)), v] [] h (fun oc h' => oc = .returned (some (va_rf ((fbF p S (i + 1) k).map (fun j => b + 16 + 7 * j)))) ∧ h' = h) := by
      intro v e1
      refine eBT_firstBusyLink_34 ?_
      refine eBT_firstBusyLink_37 ?_
      rw [nI_1, e1]
      exact ih (k + 1) v (by omega)
    refine eBT_firstBusyLink_2 ?_
    refine eBT_firstBusyLink_3 rfl ?_
    refine eBT_firstBusyLink_4 kB.obj.1 rfl ?_
    refine eBT_firstBusyLink_7 hf rfl ?_
    refine eBT_firstBusyLink_8 (fun c => absurd c (nI_ge (b := 36) (by omega) (by decide))) (fun _ => ?_)
    refine eBT_firstBusyLink_11 rfl ?_
    refine eBT_firstBusyLink_12 kB.obj.1 rfl ?_
    refine eBT_firstBusyLink_15 ?_
    refine eBT_firstBusyLink_16 hf rfl (xn_in (by omega) (by decide)) ?_
    rw [nI_clamp (by omega), hv k (by omega)]
    refine eBT_firstBusyLink_17 (x_isr _) ?_
    refine eBT_firstBusyLink_18 (x_isr _) ?_
    refine eBT_firstBusyLink_19 (fun e => ?_) (fun a e => ?_)
    · have e1 : lkF p k = none := by
        cases h9 : lkF p k with
        | none => rfl
        | some j => rw [h9] at e; cases e
      exact nxt _ (by rw [fbF, e1])
    · obtain ⟨j, e1, e2⟩ := Option.map_eq_some_iff.mp e
      subst e2
      have hj := lkF_lt e1 (by omega)
      obtain ⟨fq, hq1⟩ := kB.qcell (j := j) (by omega)
      rw [e]
      refine eBT_firstBusyLink_22 rfl ?_
      refine eBT_firstBusyLink_23 (kB.lk hj) rfl ?_
      refine eBT_firstBusyLink_26 hq1 (Nat.le_of_ble_eq_true rfl) (kB.qsize (by omega)) ?_
      rintro _ h1 ⟨rfl, rfl⟩
      refine ⟨_, rfl, ?_⟩
      have hl := hq j hj
      refine eBT_firstBusyLink_29 (fun c => ?_) (fun c => ?_)
      · have c1 : b_Q S j = [] := by
          refine List.length_eq_zero_iff.mp ?_
          have := (nI_leI (a := (b_Q S j).length) (b := 0) (by omega) (by decide)).mp (by rw [nI_0]; exact c)
          omega
        exact nxt _ (by rw [fbF, e1]; exact if_pos c1)
      · have c1 : b_Q S j ≠ [] := fun z => c (by rw [z]; decide)
        refine eBT_firstBusyLink_32 rfl ?_
        refine eBT_firstBusyLink_33 rfl ⟨?_, rfl⟩
        rw [fbF, e1]
        show _ = Outcome.returned (some (va_rf (Option.map _ (if b_Q S j = [] then _ else some j))))
        rw [if_neg c1]
        rfl
theorem sBT_busy (kB : isB P b p Z S z h) (hq : ∀ j, j < 10 → (b_Q S j).length ≤ 1000) : x_K P (d + 1) mBT_firstBusyLink 0 [some (.ref b), none, none] [] h (fun oc h' => oc = .returned (some (va_rf ((fbF p S 36 0).map (fun j => b + 16 + 7 * j)))) ∧ h' = h) := by
  refine eBT_firstBusyLink_0 ?_
  refine eBT_firstBusyLink_1 ?_
  exact lBT_busy kB hq 36 0 none (by omega)
theorem lBT_run {I : bS → Prop} {Φ : Outcome → x_H → Prop} {R : bS × Nat} (hp : isP p) (hI : ∀ S j, I S → fbF p S 36 0 = some j → (∃ m l, tkOk p S j m l) ∧ I (tkF p S j)) (hI2 : ∀ S, I S → ∀ j, j < 10 → (b_Q S j).length ≤ 1000)
  (kk : ∀ h1, isB P b p Z R.1 z h1 → Φ (.returned (some (.int (nI R.2)))) h1) : ∀ (i t : Nat) (S : bS) (h : x_H) (v2 : Option Value), t + i = 200 → rnF p i t S = R → I S → isB P b p Z S z h → x_K P (d + 7) mBT_run 2 [some (.ref b), some (.int (nI t)), v2] [] h Φ := by
  intro i
  induction i with
  | zero =>
    intro t S h v2 ht hR hS kB
    have e : t = 200 := by omega
    subst e
    refine eBT_run_2 ?_
    refine eBT_run_3 ?_
    refine eBT_run_6 (fun _ => ?_) (fun c => absurd (by decide) c)
    refine eBT_run_32 ?_
    subst hR
    exact eBT_run_35 (kk h kB)
  | succ i ih =>
    intro t S h v2 ht hR hS kB
    refine eBT_run_2 ?_
    refine eBT_run_3 ?_
    refine eBT_run_6 (fun c => absurd c (nI_ge (b := 200) (by omega) (by decide))) (fun _ => ?_)
    refine eBT_run_9 rfl ?_
    refine eBT_run_10 kB.obj.1 (Nat.le_of_ble_eq_true rfl) ((sBT_busy kB (hI2 S hS)).up (d := d + 5) (by omega)) ?_
    rintro _ h1 ⟨rfl, rfl⟩
    refine ⟨_, rfl, ?_⟩
    refine eBT_run_13 (x_isr _) ?_
    refine eBT_run_14 (x_isr _) ?_
    refine eBT_run_15 (fun e => ?_) (fun a e => ?_)
    rotate_left
    · obtain ⟨j, e1, e2⟩ := Option.map_eq_some_iff.mp e
      subst e2
      obtain ⟨⟨m, l, hok⟩, hI3⟩ := hI S j hS e1
      have hj := (fbF_spec 36 0 e1 (by omega)).1
      rw [e]
      show x_K P (d + 7) mBT_run 20 [some (.ref b), some (.int (nI t)), some (.ref (b + 16 + 7 * j))] [] h1 Φ
      refine eBT_run_20 rfl ?_
      refine eBT_run_21 rfl ?_
      refine eBT_run_22 kB.obj.1 rfl (Nat.le_of_ble_eq_true rfl) (sBT_takeFirst kB hp hj hok) ?_
      rintro _ h2 ⟨rfl, k2⟩
      refine ⟨_, rfl, ?_⟩
      refine eBT_run_25 rfl ?_
      refine eBT_run_26 ?_
      refine eBT_run_29 ?_
      rw [nI_1]
      exact ih (t + 1) _ h2 _ (by omega) (by rw [← hR, rnF, e1]) hI3 k2
    · have e1 : fbF p S 36 0 = none := by
        cases h9 : fbF p S 36 0 with
        | none => rfl
        | some j => rw [h9] at e; cases e
      refine eBT_run_18 ?_
      rw [rnF, e1] at hR
      subst hR
      exact eBT_run_19 (kk h1 kB)
theorem sBT_run {I : bS → Prop} (kB : isB P b p Z S z h) (hp : isP p) (hI : ∀ S j, I S → fbF p S 36 0 = some j → (∃ m l, tkOk p S j m l) ∧ I (tkF p S j)) (hI2 : ∀ S, I S → ∀ j, j < 10 → (b_Q S j).length ≤ 1000) (hS : I S) : x_K P (d + 7) mBT_run 0 [some (.ref b), none, none] [] h (fun oc h' => oc = .returned (some (.int (nI (rnF p 200 0 S).2))) ∧ isB P b p Z (rnF p 200 0 S).1 z h') := by
  refine eBT_run_0 ?_
  refine eBT_run_1 ?_
  exact lBT_run hp hI hI2 (fun h1 k1 => ⟨rfl, k1⟩) 200 0 S h none (by omega) rfl hS kB
end

