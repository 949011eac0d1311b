/-! What changes a broker's input, and the account of it -/
section
variable {p : Nat → Nat} {S S' : bS} {u t j : Nat} {C A O : Nat → sp3 → Nat} {C' A' O' G : Nat → Nat → Nat} {fr : Nat → Nat} {K L : List (Nat × sp3)} {φ : sp3}
theorem pd_K : ∀ (Q X : List Nat), (∀ x ∈ X, x < K.length) → (∀ m ∈ Q, m % 3 ≠ 2 → m / 3 < K.length) → pd (K ++ L) φ X Q = pd K φ X Q := by
  intro Q
  induction Q with
  | nil => intro X _ _; rfl
  | cons m Q ih =>
    intro X hX hQ
    have hY : ∀ x ∈ apl X m, x < K.length := fun x hx => by
      rcases apl_mem.mp hx with z | z | z
      · exact hX x z.2
      · rcases z.2 with y | y
        · exact hX x y
        · rw [y]; exact hQ m List.mem_cons_self (by omega)
      · exact hX x z.2.1
    show (if lv (K ++ L) φ (apl X m) = lv (K ++ L) φ X then 0 else 1) + pd (K ++ L) φ (apl X m) Q = (if lv K φ (apl X m) = lv K φ X then 0 else 1) + pd K φ (apl X m) Q
    rw [lv_K hY, lv_K hX, ih _ hY (fun m' hm' => hQ m' (List.mem_cons_of_mem _ hm'))]
theorem covB_K {a c : Nat} (ha : a < K.length) (hc : c < K.length) : covB (K ++ L) a c = covB K a c := by
  unfold covB
  rw [List.getElem?_append_left ha, List.getElem?_append_left hc]
def O1 (O : Nat → sp3 → Nat) (u : Nat) (S S' : bS) : Nat → sp3 → Nat := fun b φ => if b = u then O b φ + (if lv (b_K S') φ (ow S' u) = lv (b_K S') φ (ow S u) then 0 else 1) else O b φ
/-- a subscription comes or ends -/
theorem fl_own (hp : isP p) (hu : u < 6) (hF : fF p S C A O) (hr : ∀ j, j < 10 → rs p S j) (eK : b_K S' = b_K S ++ L) (eT : b_T S' = b_T S) (eH : b_H S' = b_H S) (eQ : b_Q S' = b_Q S) (how : ∀ v, v < 6 → v ≠ u → eqm (ow S' v) (ow S v)) (hwa : ∀ q, q < b_s S' → b_wa S' q < (b_K S').length) (hK : KK (b_K S')) : fF p S' C A (O1 O u S S') := by
  have hFF := hF
  obtain ⟨f1, f2, f3, f4, f5⟩ := hF
  have hKl : (b_K S).length ≤ (b_K S').length := by rw [eK, List.length_append]; omega
  have hOle : ∀ b φ, O b φ ≤ O1 O u S S' b φ := fun b φ => by
    unfold O1
    split <;> omega
  have hfam : ∀ v w, v < 6 → ∀ x, x ∈ offF S p v w ↔ ∃ i, x ∈ fam S p v w i := fun v w hv => off_fam hp hv
  have hfam' : ∀ v w, v < 6 → ∀ x, x ∈ offF S' p v w ↔ ∃ i, x ∈ fam S' p v w i := fun v w hv => off_fam hp hv
  refine ⟨fun j hj φ => ?_, fun j hj φ => ?_, fun j hj => ?_, hwa, hK⟩
  · rw [eK, eH, eQ]
    obtain ⟨g1, g2, g3, g4, g5, g6⟩ := f3 j hj
    rw [pd_K _ _ g5 g6]
    exact f1 j hj φ
  · obtain ⟨g1, g2, g3, g4, g5, g6⟩ := f3 j hj
    have hv := (lkF_j hp hj).1
    have lT : lv (b_K S') φ (b_T S' j) = lv (b_K S) φ (b_T S j) := by rw [eK, eT, lv_K g4]
    have lO : lv (b_K S') φ (offF S p (frF p j) (toF p j)) = lv (b_K S) φ (offF S p (frF p j) (toF p j)) := by rw [eK, lv_K (fun x hx => off_lt hp hv hFF hx)]
    have lR : lv (b_K S) φ (b_T S j) = lv (b_K S) φ (offF S p (frF p j) (toF p j)) := by rw [lv_m (hr j hj), lv_need f5]
    have h2 := f2 j hj φ
    rw [if_pos lR] at h2
    have hle := hOle (frF p j) φ
    by_cases c : lv (b_K S') φ (b_T S' j) = lv (b_K S') φ (offF S' p (frF p j) (toF p j))
    · rw [if_pos c]
      omega
    · rw [if_neg c]
      have hne : lv (b_K S') φ (ow S' (frF p j)) ≠ lv (b_K S') φ (ow S (frF p j)) := fun z => c (by
        rw [lT, lR, ← lO]
        refine lv_fam (hfam _ _ hv) (hfam' _ _ hv) (fun i => ?_)
        cases i with
        | none => exact z.symm
        | some k =>
          show lv _ φ (if _ then b_H S k else []) = lv _ φ (if _ then b_H S' k else [])
          rw [eH])
      have eu : frF p j = u := Classical.byContradiction fun z => hne (lv_m (how _ hv z))
      rw [eu] at hne h2 ⊢
      have : O1 O u S S' u φ = O u φ + 1 := by
        unfold O1
        rw [if_pos rfl, if_neg hne]
      rw [this]
      omega
  · obtain ⟨g1, g2, g3, g4, g5, g6⟩ := f3 j hj
    rw [eH, eQ, eT]
    refine ⟨g1, fun a ha c hc => ?_, g3, fun x hx => Nat.lt_of_lt_of_le (g4 x hx) hKl, fun x hx => Nat.lt_of_lt_of_le (g5 x hx) hKl, fun m hm h2 => Nat.lt_of_lt_of_le (g6 m hm h2) hKl⟩
    rw [eK, covB_K (g4 a ha) (g4 c hc)]
    exact g2 a ha c hc
theorem kf_app {f : Nat} (h : f < K.length) : kf (K ++ L) f = kf K f := by
  unfold kf
  rw [List.getElem?_append_left h]
theorem sg_n {f : Nat → Nat} {n m : Nat} : sg f n ≤ sg f (n + m) := by
  induction m with
  | zero => exact Nat.le_refl _
  | succ m ih => exact Nat.le_trans ih (Nat.le_add_right _ _)
theorem fB_own (hB : fB S fr C C' G) (eK : b_K S' = b_K S ++ L) (eQ : b_Q S' = b_Q S) (eN : b_N S' = b_N S) : fB S' fr C C' G := by
  refine ⟨fun j hj => ?_, fun c hc => ?_⟩
  · have h1 := hB.1 j hj
    rw [eK, eQ, eN, List.length_append]
    have h2 := sg_n (f := fun f => C j (kf (b_K S ++ L) f)) (n := (b_K S).length) (m := L.length)
    have h3 : sg (fun f => C j (kf (b_K S ++ L) f)) (b_K S).length = sg (fun f => C j (kf (b_K S) f)) (b_K S).length := sg_eq _ (fun f hf => by rw [kf_app hf])
    omega
  · rw [eQ, eN]
    exact hB.2 c hc
theorem fN_own (hN : fN p S C' A' O' G) (eQ : b_Q S' = b_Q S) (eN : b_N S' = b_N S) : fN p S' C' A' O' G := by
  obtain ⟨n1, n2, n3, n4, n5, n6⟩ := hN
  exact ⟨by rw [eQ]; exact n1, n2, n3, by rw [eN]; exact n4, n5, by rw [eQ, eN]; exact n6⟩
theorem O1_sum : sg (fun b => O1 O u S S' b φ) 6 ≤ sg (fun b => O b φ) 6 + 1 := by
  by_cases hu : u < 6
  · have h1 := sg_up (f := fun b => O b φ) (m := u) (e := 1) 6 hu
    have h2 : sg (fun b => O1 O u S S' b φ) 6 ≤ sg (fun i => if i = u then O i φ + 1 else O i φ) 6 := sg_le 6 (fun b _ => by
      show (if b = u then _ else _) ≤ (if b = u then _ else _)
      by_cases c : b = u
      · rw [if_pos c, if_pos c]
        have : (if lv (b_K S') φ (ow S' u) = lv (b_K S') φ (ow S u) then 0 else 1) ≤ 1 := by split <;> omega
        omega
      · rw [if_neg c, if_neg c]
        exact Nat.le_refl _)
    omega
  · have h2 : sg (fun b => O1 O u S S' b φ) 6 = sg (fun b => O b φ) 6 := sg_eq 6 (fun b hb => if_neg (by omega))
    omega
/-! a message is taken -/
def A1 (K : List (Nat × sp3)) (A : Nat → sp3 → Nat) (k : Nat) (X : List Nat) (m : Nat) : Nat → sp3 → Nat := fun i φ => if i = k then A i φ + (if lv K φ (apl X m) = lv K φ X then 0 else 1) else A i φ
/-- a told or dropped filter -/
theorem fl_take {k m : Nat} {l : List Nat} (hp : isP p) (hk : k < 10) (hF : fF p S C A O) (hr : ∀ j, j < 10 → rs p S j) (hQ : b_Q S k = m :: l) (hm : m % 3 ≠ 2) : fF p (hrT (ppS S k l) k (apl (b_H S k) m)) C (A1 (b_K S) A k (b_H S k) m) O := by
  have hFF := hF
  obtain ⟨f1, f2, f3, f4, f5⟩ := hF
  generalize hS' : hrT (ppS S k l) k (apl (b_H S k) m) = S'
  have e : sm S S' := by rw [← hS']; exact ppS_sm.trans hrT_sm
  have eT : b_T S' = b_T S := by rw [← hS']; unfold hrT ppS; rw [bg_T_H, bg_T_Q]
  have eH : b_H S' = ub (b_H S) k (apl (b_H S k) m) := by rw [← hS']; unfold hrT ppS; rw [bg_H, bg_H_Q]
  have eQ : b_Q S' = ub (b_Q S) k l := by rw [← hS']; unfold hrT ppS; rw [bg_Q_H, bg_Q]
  have eK := e.2.2.2.1
  have hA : ∀ i φ, A i φ ≤ A1 (b_K S) A k (b_H S k) m i φ := fun i φ => by
    unfold A1
    split <;> omega
  have how : ∀ v, ow S' v = ow S v := fun v => by
    unfold ow
    rw [e.2.2.1, e.2.2.2.2.2.2.1, e.2.2.2.2.1, e.2.2.2.2.2.1]
  refine ⟨fun j hj φ => ?_, fun j hj φ => ?_, fun j hj => ?_, ?_, by rw [eK]; exact f5⟩
  · rw [eK, eH, eQ]
    by_cases c : j = k
    · subst c
      rw [ub_same, ub_same]
      have h1 := f1 j hj φ
      rw [hQ] at h1
      have h2 : pd (b_K S) φ (b_H S j) (m :: l) = (if lv (b_K S) φ (apl (b_H S j) m) = lv (b_K S) φ (b_H S j) then 0 else 1) + pd (b_K S) φ (apl (b_H S j) m) l := rfl
      have h3 : A1 (b_K S) A j (b_H S j) m j φ = A j φ + (if lv (b_K S) φ (apl (b_H S j) m) = lv (b_K S) φ (b_H S j) then 0 else 1) := if_pos rfl
      rw [h3]
      omega
    · rw [ub_ne c, ub_ne c, show A1 (b_K S) A k (b_H S k) m j φ = A j φ from if_neg c]
      exact f1 j hj φ
  · have hv := (lkF_j hp hj).1
    have lR : lv (b_K S) φ (b_T S j) = lv (b_K S) φ (offF S p (frF p j) (toF p j)) := by rw [lv_m (hr j hj), lv_need f5]
    have h2 := f2 j hj φ
    rw [if_pos lR] at h2
    rw [eK, eT]
    have hfe := feed_le (p := p) (A := fun k' => A k' φ) (A' := fun k' => A1 (b_K S) A k (b_H S k) m k' φ) (fun k' _ => hA k' φ) hp hj
    by_cases c : lv (b_K S) φ (b_T S j) = lv (b_K S) φ (offF S' p (frF p j) (toF p j))
    · rw [if_pos c]
      omega
    · rw [if_neg c]
      have hne : lv (b_K S) φ (apl (b_H S k) m) ≠ lv (b_K S) φ (b_H S k) ∧ toF p k = frF p j ∧ frF p k ≠ toF p j := Classical.byContradiction fun z => c (by
        rw [lR]
        refine lv_fam (off_fam hp hv) (off_fam hp hv) (fun i => ?_)
        cases i with
        | none =>
          show lv _ φ (ow S _) = lv _ φ (ow S' _)
          rw [how]
        | some k' =>
          show lv _ φ (if k' < 10 ∧ toF p k' = frF p j ∧ frF p k' ≠ toF p j then b_H S k' else []) = lv _ φ (if k' < 10 ∧ toF p k' = frF p j ∧ frF p k' ≠ toF p j then b_H S' k' else [])
          by_cases c1 : k' < 10 ∧ toF p k' = frF p j ∧ frF p k' ≠ toF p j
          · rw [if_pos c1, if_pos c1, eH]
            by_cases c2 : k' = k
            · subst c2
              rw [ub_same]
              exact Classical.byContradiction fun y => z ⟨fun q => y q.symm, c1.2⟩
            · rw [ub_ne c2]
          · rw [if_neg c1, if_neg c1])
      have h3 : A1 (b_K S) A k (b_H S k) m k φ = A k φ + 1 := by
        unfold A1
        rw [if_pos rfl, if_neg hne.1]
      have h4 := feed_bump (p := p) (A := fun k' => A k' φ) (A' := fun k' => A1 (b_K S) A k (b_H S k) m k' φ) (e := 1) (fun k' _ => hA k' φ) hk hj (by rw [h3]; exact Nat.le_refl _) hp hne.2.1 hne.2.2
      omega
  · rw [eK, eH, eQ, eT]
    by_cases c : j = k
    · subst c
      obtain ⟨g1, g2, g3, g4, g5, g6⟩ := f3 j hj
      rw [hQ] at g1 g6
      rw [ub_same, ub_same]
      refine ⟨g1, g2, g3, g4, fun x hx => ?_, fun m' hm' => g6 m' (List.mem_cons_of_mem _ hm')⟩
      rcases apl_mem.mp hx with z | z | z
      · exact absurd z.1 hm
      · rcases z.2 with y | y
        · exact g5 x y
        · rw [y]; exact g6 m List.mem_cons_self hm
      · exact g5 x z.2.1
    · rw [ub_ne c, ub_ne c]
      exact f3 j hj
  · rw [e.2.2.1, e.2.2.2.2.2.1, eK]
    exact f4
/-- a note is taken from a line -/
theorem fl_takeN {k m : Nat} {l : List Nat} (hk : k < 10) (hF : fF p S C A O) (hQ : b_Q S k = m :: l) (hm : m % 3 = 2) : fF p (ppS S k l) C A O := by
  obtain ⟨f1, f2, f3, f4, f5⟩ := hF
  have e : sm S (ppS S k l) := ppS_sm
  have eT : b_T (ppS S k l) = b_T S := by unfold ppS; rw [bg_T_Q]
  have eH : b_H (ppS S k l) = b_H S := by unfold ppS; rw [bg_H_Q]
  have eQ : b_Q (ppS S k l) = ub (b_Q S) k l := by unfold ppS; rw [bg_Q]
  have eK := e.2.2.2.1
  have ea : ∀ X : List Nat, apl X m = X := fun X => by unfold apl; rw [if_pos hm]
  refine ⟨fun j hj φ => ?_, fun j hj φ => ?_, fun j hj => ?_, ?_, by rw [eK]; exact f5⟩
  · rw [eK, eH, eQ]
    by_cases c : j = k
    · subst c
      rw [ub_same]
      have h1 := f1 j hj φ
      rw [hQ] at h1
      have h2 : pd (b_K S) φ (b_H S j) (m :: l) = (if lv (b_K S) φ (apl (b_H S j) m) = lv (b_K S) φ (b_H S j) then 0 else 1) + pd (b_K S) φ (apl (b_H S j) m) l := rfl
      rw [ea, if_pos rfl] at h2
      omega
    · rw [ub_ne c]
      exact f1 j hj φ
  · rw [eK, eT, offF_sm e eH]
    exact f2 j hj φ
  · rw [eK, eH, eQ, eT]
    by_cases c : j = k
    · subst c
      obtain ⟨g1, g2, g3, g4, g5, g6⟩ := f3 j hj
      rw [hQ] at g1 g6
      rw [ub_same]
      refine ⟨?_, g2, g3, g4, g5, fun m' hm' => g6 m' (List.mem_cons_of_mem _ hm')⟩
      have h9 : apQ (b_H S j) (m :: l) = apQ (apl (b_H S j) m) l := rfl
      rw [h9, ea] at g1
      exact g1
    · rw [ub_ne c]
      exact f3 j hj
  · rw [e.2.2.1, e.2.2.2.2.2.1, eK]
    exact f4
/-- the counts, when a line loses its first message -/
theorem fB_pop {k m : Nat} {l : List Nat} (hB : fB S fr C C' G) (hk : k < 10) (hQ : b_Q S k = m :: l) (eK : b_K S' = b_K S) (eQ : b_Q S' = ub (b_Q S) k l) (eN : b_N S' = b_N S) : fB S' (ub fr k (fr k + 1)) C C' G := by
  refine ⟨fun j hj => ?_, fun c hc => ?_⟩
  · rw [eK, eQ, eN]
    have h1 := hB.1 j hj
    by_cases c : j = k
    · subst c
      rw [ub_same, ub_same]
      rw [hQ, List.length_cons] at h1
      omega
    · rw [ub_ne c, ub_ne c]
      exact h1
  · rw [eQ, eN, ub_ne (by omega), ub_ne (by omega)]
    exact hB.2 c hc
theorem fN_take {k m : Nat} {l : List Nat} (hN : fN p S C' A' O' G) (hk : k < 10) (hQ : b_Q S k = m :: l) (hm : m % 3 ≠ 2) (eQ : b_Q S' = ub (b_Q S) k l) (eN : b_N S' = b_N S) : fN p S' C' A' O' G := by
  obtain ⟨n1, n2, n3, n4, n5, n6⟩ := hN
  refine ⟨fun j hj n => ?_, n2, n3, by rw [eN]; exact n4, n5, fun j hj m' hm' => ?_⟩
  · rw [eQ]
    by_cases c : j = k
    · subst c
      rw [ub_same]
      have h1 := n1 j hj n
      rw [hQ, List.count_cons_of_ne (by omega)] at h1
      exact h1
    · rw [ub_ne c]
      exact n1 j hj n
  · rw [eN]
    rw [eQ] at hm'
    by_cases c : j = k
    · subst c
      rw [ub_same] at hm'
      exact n6 j hj m' (by rw [hQ]; exact List.mem_cons_of_mem _ hm')
    · rw [ub_ne c] at hm'
      exact n6 j hj m' hm'
def B1 (A : Nat → Nat → Nat) (k n : Nat) : Nat → Nat → Nat := fun i q => if i = k ∧ q = n then A i q + 1 else A i q
theorem B1_le {A : Nat → Nat → Nat} {k n i q : Nat} : A i q ≤ B1 A k n i q := by
  unfold B1
  split <;> omega
theorem fN_takeN {k n : Nat} {l : List Nat} (hp : isP p) (hN : fN p S C' A' O' G) (hk : k < 10) (hQ : b_Q S k = (n * 3 + 2) :: l) (eQ : b_Q S' = ub (b_Q S) k l) (eN : b_N S' = b_N S) : fN p S' C' (B1 A' k n) O' G ∧
  (∀ j, j < 10 → toF p k = frF p j → frF p k ≠ toF p j → C' j n + 1 ≤ O' (frF p j) n + feed p (fun k' => B1 A' k n k' n) j) ∧ (∀ c, c < 8 → c % 6 = toF p k → G c n + 1 ≤ O' (c % 6) n + infl p (fun k' => B1 A' k n k' n) (c % 6)) := by
  obtain ⟨n1, n2, n3, n4, n5, n6⟩ := hN
  have hb : B1 A' k n k n = A' k n + 1 := if_pos ⟨rfl, rfl⟩
  refine ⟨⟨fun j hj q => ?_, fun j hj q => ?_, n3, by rw [eN]; exact n4, fun c hc q => ?_, fun j hj m' hm' => ?_⟩, fun j hj h1 h2 => ?_, fun c hc h1 => ?_⟩
  · rw [eQ]
    have h1 := n1 j hj q
    by_cases c : j = k
    · subst c
      rw [ub_same]
      rw [hQ] at h1
      by_cases c2 : q = n
      · subst c2
        rw [List.count_cons_self] at h1
        rw [hb]
        omega
      · rw [List.count_cons_of_ne (by omega)] at h1
        rw [show B1 A' j n j q = A' j q from if_neg (fun z => c2 z.2)]
        exact h1
    · rw [ub_ne c, show B1 A' k n j q = A' j q from if_neg (fun z => c z.1)]
      exact h1
  · have h1 := n2 j hj q
    have h2 := feed_le (p := p) (A := fun k' => A' k' q) (A' := fun k' => B1 A' k n k' q) (fun k' _ => B1_le) hp hj
    omega
  · have h1 := n5 c hc q
    have h2 := infl_le (p := p) (A := fun k' => A' k' q) (A' := fun k' => B1 A' k n k' q) (fun k' _ => B1_le) (b := c % 6) (by omega)
    omega
  · rw [eN]
    rw [eQ] at hm'
    by_cases c : j = k
    · subst c
      rw [ub_same] at hm'
      exact n6 j hj m' (by rw [hQ]; exact List.mem_cons_of_mem _ hm')
    · rw [ub_ne c] at hm'
      exact n6 j hj m' hm'
  · have h3 := n2 j hj n
    have h4 := feed_bump (p := p) (A := fun k' => A' k' n) (A' := fun k' => B1 A' k n k' n) (e := 1) (fun k' _ => B1_le) hk hj (by rw [hb]; exact Nat.le_refl _) hp h1 h2
    omega
  · have h3 := n5 c hc n
    have h4 := infl_bump (p := p) (A := fun k' => A' k' n) (A' := fun k' => B1 A' k n k' n) (e := 1) (fun k' _ => B1_le) hk (by rw [hb]; exact Nat.le_refl _) hp
    rw [h1] at h3 ⊢
    omega
end

