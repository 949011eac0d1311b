/-! A settled line keeps the account -/
theorem addL_nd {L : List Nat} {y : Nat} (h : L.Nodup) : (addL L y).Nodup := by
  unfold addL
  split
  · exact h
  · rename_i c
    exact List.nodup_append.mpr ⟨h, by simp, fun a ha b hb => by
      rw [List.mem_singleton.mp hb]
      exact fun e => c (by rw [← e]; exact ha)⟩
theorem fold_nd : ∀ (M L : List Nat), L.Nodup → (M.foldl addL L).Nodup := by
  intro M
  induction M with
  | nil => intro L h; exact h
  | cons a M ih => intro L h; exact ih _ (addL_nd h)
theorem lp_nd {f : Nat → List Nat → List Nat} (hf : ∀ k L, L.Nodup → (f k L).Nodup) : ∀ (n k : Nat) (L : List Nat), L.Nodup → (lp f n k L).Nodup := by
  intro n
  induction n with
  | zero => intro k L h; exact h
  | succ n ih => intro k L h; exact ih _ _ (hf k L h)
section
variable {p : Nat → Nat} {S S' : bS} {u t j : Nat} {C A O : Nat → sp3 → Nat} {C' A' O' G : Nat → Nat → Nat} {fr : Nat → Nat}
theorem off_nd : (offF S p u t).Nodup := by
  unfold offF
  refine lp_nd (fun k L h => ?_) 6 0 _ (lp_nd (fun k L h => ?_) _ _ _ List.nodup_nil)
  · unfold offH
    split
    · exact h
    · split
      · exact h
      · exact fold_nd _ _ h
  · unfold offS
    split
    · exact addL_nd h
    · exact h
theorem offF_sm (e : sm S S') (eH : b_H S' = b_H S) : offF S' p u t = offF S p u t := by
  have e1 : offS S' u = offS S u := by
    funext k l
    unfold offS
    rw [e.2.2.2.2.2.2.1, e.2.2.2.2.1, e.2.2.2.2.2.1]
  have e2 : offH S' p u t = offH S p u t := by
    funext k l
    unfold offH
    rw [eH]
  unfold offF
  rw [e1, e2, e.2.2.1]
theorem off_lt (hp : isP p) (hu : u < 6) (hF : fF p S C A O) {x : Nat} (hx : x ∈ offF S p u t) : x < (b_K S).length := by
  obtain ⟨i, hi⟩ := (off_fam hp hu x).mp hx
  cases i with
  | none =>
    obtain ⟨q, a, _, c⟩ := ow_mem.mp hi
    rw [← c]
    exact hF.2.2.2.1 q a
  | some k =>
    have hi' : x ∈ (if k < 10 ∧ toF p k = u ∧ frF p k ≠ t then b_H S k else []) := hi
    split at hi'
    · rename_i c
      exact (hF.2.2.1 k c.1).2.2.2.2.1 x hi'
    · cases hi'
/-- the level of the told set against that of the offered one -/
def dl (p : Nat → Nat) (S : bS) (j : Nat) (φ : sp3) : Nat := if lv (b_K S) φ (b_T S j) = lv (b_K S) φ (offF S p (frF p j) (toF p j)) then 0 else 1
def C1 (p : Nat → Nat) (S : bS) (C : Nat → sp3 → Nat) (j : Nat) : Nat → sp3 → Nat := fun i φ => if i = j then C j φ + dl p S j φ else C i φ
theorem C1_j {φ : sp3} : C1 p S C j j φ = C j φ + dl p S j φ := if_pos rfl
theorem C1_ne {i : Nat} {φ : sp3} (h : i ≠ j) : C1 p S C j i φ = C i φ := if_neg h
theorem told_m : eqm ((b_T S j ++ (needF (b_K S) (offF S p (frF p j) (toF p j))).filter (fun x => decide (x ∉ b_T S j))).filter (fun x => decide (x ∈ needF (b_K S) (offF S p (frF p j) (toF p j))))) (needF (b_K S) (offF S p (frF p j) (toF p j))) := fun x => by
  rw [List.mem_filter, List.mem_append, List.mem_filter, decide_eq_true_eq, decide_eq_true_eq]
  constructor
  · exact fun z => z.2
  · intro z
    refine ⟨?_, z⟩
    by_cases c : x ∈ b_T S j
    · exact Or.inl c
    · exact Or.inr ⟨z, c⟩
theorem fl_line (hp : isP p) (hF : fF p S C A O) (hj : j < 10) : fF p (slS p S j) (C1 p S C j) A O ∧ rs p (slS p S j) j := by
  obtain ⟨e, eH, eT, eQ⟩ := slS_f (p := p) (S := S) (j := j)
  have hFF := hF
  obtain ⟨f1, f2, f3, f4, f5⟩ := hF
  have eK := e.2.2.2.1
  have eO : ∀ u t, offF (slS p S j) p u t = offF S p u t := fun u t => offF_sm e eH
  obtain ⟨g1, g2, g3, g4, g5, g6⟩ := f3 j hj
  have hu := (lkF_j hp hj).1
  have hY : ∀ x ∈ needF (b_K S) (offF S p (frF p j) (toF p j)), x < (b_K S).length := fun x hx => off_lt hp hu hFF (List.mem_filter.mp hx).1
  have lN : ∀ φ, lv (b_K S) φ (needF (b_K S) (offF S p (frF p j) (toF p j))) = lv (b_K S) φ (offF S p (frF p j) (toF p j)) := fun φ => lv_need f5
  have tm := told_m (p := p) (S := S) (j := j)
  have ps := fun φ => pd_settle (K := b_K S) (φ := φ) (X := b_T S j) (Y := needF (b_K S) (offF S p (frF p j) (toF p j))) (Z := apQ (b_H S j) (b_Q S j)) g2 need_anC g1
  refine ⟨⟨fun i hi φ => ?_, fun i hi φ => ?_, fun i hi => ?_, ?_, ?_⟩, ?_⟩
  · rw [eK, eH, eQ]
    by_cases c : i = j
    · subst c
      rw [ub_same, C1_j, pd_app]
      have h1 := f1 i hi φ
      have h2 := (ps φ).1
      rw [lN φ] at h2
      unfold dl
      omega
    · rw [ub_ne c, C1_ne c]
      exact f1 i hi φ
  · rw [eK, eT, eO]
    by_cases c : i = j
    · subst c
      rw [ub_same, C1_j, lv_m tm, lN φ, if_pos rfl]
      exact f2 i hi φ
    · rw [ub_ne c, C1_ne c]
      exact f2 i hi φ
  · rw [eK, eH, eQ, eT]
    by_cases c : i = j
    · subst c
      rw [ub_same, ub_same, apQ_app]
      refine ⟨(ps fi0).2.trans tm.symm, need_anC.sub (fun x hx => (tm x).mp hx), ?_, fun x hx => hY x ((tm x).mp hx), g5, fun m hm h2 => ?_⟩
      · refine List.Pairwise.filter _ (List.nodup_append.mpr ⟨g3, List.Pairwise.filter _ (List.Pairwise.filter _ off_nd), fun a ha b hb => ?_⟩)
        rw [List.mem_filter, decide_eq_true_eq] at hb
        exact fun z => hb.2 (by rw [← z]; exact ha)
      · rcases List.mem_append.mp hm with h3 | h3
        · exact g6 m h3 h2
        · rcases List.mem_append.mp h3 with h4 | h4
          · obtain ⟨x, x1, x2⟩ := List.mem_map.mp h4
            have := hY x (List.mem_filter.mp x1).1
            omega
          · obtain ⟨x, x1, x2⟩ := List.mem_map.mp h4
            have h5 := (List.mem_filter.mp x1).1
            rcases List.mem_append.mp h5 with h6 | h6
            · have := g4 x h6; omega
            · have := hY x (List.mem_filter.mp h6).1; omega
    · rw [ub_ne c, ub_ne c]
      exact f3 i hi
  · rw [e.2.2.1, e.2.2.2.2.2.1, eK]
    exact f4
  · rw [eK]; exact f5
  · unfold rs
    rw [eK, eT, eO, ub_same]
    exact tm
theorem kf_at {K : List (Nat × sp3)} {f : Nat} (h : f < K.length) : ∃ q, K[f]? = some q ∧ kf K f = q.2 := by
  refine ⟨K[f], List.getElem?_eq_getElem h, ?_⟩
  unfold kf
  rw [List.getElem?_eq_getElem h]
theorem fB_line (hp : isP p) (hF : fF p S C A O) (hj : j < 10) (hB : fB S fr C C' G) : fB (slS p S j) fr (C1 p S C j) C' G := by
  obtain ⟨e, eH, eT, eQ⟩ := slS_f (p := p) (S := S) (j := j)
  have hFF := hF
  obtain ⟨f1, f2, f3, f4, f5⟩ := hF
  have eK := e.2.2.2.1
  have eN := e.2.2.2.2.2.2.2
  obtain ⟨g1, g2, g3, g4, g5, g6⟩ := f3 j hj
  have hu := (lkF_j hp hj).1
  have hY : ∀ x ∈ needF (b_K S) (offF S p (frF p j) (toF p j)), x < (b_K S).length := fun x hx => off_lt hp hu hFF (List.mem_filter.mp hx).1
  have lN : ∀ φ, lv (b_K S) φ (needF (b_K S) (offF S p (frF p j) (toF p j))) = lv (b_K S) φ (offF S p (frF p j) (toF p j)) := fun φ => lv_need f5
  refine ⟨fun i hi => ?_, fun c hc => ?_⟩
  · rw [eK, eN, eQ]
    by_cases c : i = j
    · subst c
      rw [ub_same, List.length_append]
      have h1 := hB.1 i hi
      generalize hW : (needF (b_K S) (offF S p (frF p i) (toF p i))).filter (fun x => decide (x ∉ b_T S i)) = W
      generalize hD : (b_T S i ++ W).filter (fun x => decide (x ∉ needF (b_K S) (offF S p (frF p i) (toF p i)))) = D
      have mW : ∀ x, x ∈ W ↔ x ∈ needF (b_K S) (offF S p (frF p i) (toF p i)) ∧ x ∉ b_T S i := fun x => by rw [← hW, List.mem_filter, decide_eq_true_eq]
      have mD : ∀ x, x ∈ D ↔ (x ∈ b_T S i ∨ x ∈ W) ∧ x ∉ needF (b_K S) (offF S p (frF p i) (toF p i)) := fun x => by rw [← hD, List.mem_filter, decide_eq_true_eq, List.mem_append]
      have ndW : W.Nodup := by rw [← hW]; exact List.Pairwise.filter _ (List.Pairwise.filter _ off_nd)
      have ndXW : (b_T S i ++ W).Nodup := List.nodup_append.mpr ⟨g3, ndW, fun a ha b hb => fun z => ((mW b).mp hb).2 (by rw [← z]; exact ha)⟩
      have ndD : D.Nodup := by rw [← hD]; exact List.Pairwise.filter _ ndXW
      have ndL : (W ++ D).Nodup := List.nodup_append.mpr ⟨ndW, ndD, fun a ha b hb => fun z => ((mD b).mp hb).2 (by rw [← z]; exact ((mW a).mp ha).1)⟩
      have dl1 : ∀ x ∈ W ++ D, x < (b_K S).length ∧ dl p S i (kf (b_K S) x) = 1 := fun x hx => by
        have hlt : x < (b_K S).length := by
          rcases List.mem_append.mp hx with h3 | h3
          · exact hY x ((mW x).mp h3).1
          · rcases ((mD x).mp h3).1 with h4 | h4
            · exact g4 x h4
            · exact hY x ((mW x).mp h4).1
        refine ⟨hlt, ?_⟩
        obtain ⟨q, q1, q2⟩ := kf_at hlt
        have o1 := g2.one f5 q1
        have o2 := (need_anC (K := b_K S) (X := offF S p (frF p i) (toF p i))).one f5 q1
        rw [lN] at o2
        unfold dl
        rw [q2]
        refine if_neg (fun z => ?_)
        rw [z] at o1
        rcases List.mem_append.mp hx with h3 | h3
        · exact ((mW x).mp h3).2 (o1.mpr (o2.mp ((mW x).mp h3).1))
        · have h4 := (mD x).mp h3
          rcases h4.1 with h5 | h5
          · exact h4.2 (o2.mpr (o1.mp h5))
          · exact h4.2 ((mW x).mp h5).1
      have h2 := sg_nd (f := fun f => C1 p S C i i (kf (b_K S) f)) (W ++ D) (b_K S).length (fun f => C i (kf (b_K S) f)) ndL (fun x hx => (dl1 x hx).1) (fun f hf => by
        show C i (kf (b_K S) f) ≤ C1 p S C i i (kf (b_K S) f)
        rw [C1_j]
        omega) (fun x hx => by
        show C i (kf (b_K S) x) + 1 ≤ C1 p S C i i (kf (b_K S) x)
        rw [C1_j, (dl1 x hx).2]
        exact Nat.le_refl _)
      rw [List.length_append] at h2
      rw [List.length_append, List.length_map, List.length_map]
      omega
    · rw [ub_ne c]
      have h1 := hB.1 i hi
      have h2 : sg (fun f => C1 p S C j i (kf (b_K S) f)) (b_K S).length = sg (fun f => C i (kf (b_K S) f)) (b_K S).length := sg_eq _ (fun f _ => C1_ne c)
      rw [h2]
      exact h1
  · rw [eN, eQ, ub_ne (by omega)]
    exact hB.2 c hc
theorem fN_line (hN : fN p S C' A' O' G) (hj : j < 10) : fN p (slS p S j) C' A' O' G := by
  obtain ⟨e, eH, eT, eQ⟩ := slS_f (p := p) (S := S) (j := j)
  obtain ⟨n1, n2, n3, n4, n5, n6⟩ := hN
  have eN := e.2.2.2.2.2.2.2
  have nw : ∀ m, m ∈ (((needF (b_K S) (offF S p (frF p j) (toF p j))).filter (fun x => decide (x ∉ b_T S j))).map (fun x => x * 3) ++ ((b_T S j ++ (needF (b_K S) (offF S p (frF p j) (toF p j))).filter (fun x => decide (x ∉ b_T S j))).filter (fun x => decide (x ∉ needF (b_K S) (offF S p (frF p j) (toF p j))))).map (fun x => x * 3 + 1)) → m % 3 ≠ 2 := fun m hm => by
    rcases List.mem_append.mp hm with h4 | h4
    · obtain ⟨x, x1, x2⟩ := List.mem_map.mp h4
      omega
    · obtain ⟨x, x1, x2⟩ := List.mem_map.mp h4
      omega
  refine ⟨fun i hi n => ?_, n2, n3, by rw [eN]; exact n4, n5, fun i hi m hm h2 => ?_⟩
  · rw [eQ]
    by_cases c : i = j
    · subst c
      rw [ub_same, List.count_append, List.count_eq_zero_of_not_mem (fun z => nw _ z (by omega)), Nat.add_zero]
      exact n1 i hi n
    · rw [ub_ne c]
      exact n1 i hi n
  · rw [eN]
    rw [eQ] at hm
    by_cases c : i = j
    · subst c
      rw [ub_same] at hm
      rcases List.mem_append.mp hm with h3 | h3
      · exact n6 i hi m h3 h2
      · exact absurd h2 (nw m h3)
    · rw [ub_ne c] at hm
      exact n6 i hi m hm h2
/-- a settling -/
theorem fl_settle (hp : isP p) (hu : u < 6) : ∀ (n m : Nat) (S : bS) (C : Nat → sp3 → Nat), m + n = 6 → fF p S C A O → fB S fr C C' G → fN p S C' A' O' G → (∀ j, j < 10 → (frF p j ≠ u ∨ toF p j < m) → rs p S j) →
    ∃ C2, fF p (lp (stF p u) n m S) C2 A O ∧ fB (lp (stF p u) n m S) fr C2 C' G ∧ fN p (lp (stF p u) n m S) C' A' O' G ∧ ∀ j, j < 10 → rs p (lp (stF p u) n m S) j := by
  intro n
  induction n with
  | zero =>
    intro m S C hm hF hB hN hr
    refine ⟨C, hF, hB, hN, fun j hj => hr j hj ?_⟩
    have := (lkF_j hp hj).2.1
    by_cases c : frF p j = u
    · exact Or.inr (by omega)
    · exact Or.inl c
  | succ n ih =>
    intro m S C hm hF hB hN hr
    show ∃ C2, fF p (lp (stF p u) n (m + 1) (stF p u m S)) C2 A O ∧ fB (lp (stF p u) n (m + 1) (stF p u m S)) fr C2 C' G ∧ fN p (lp (stF p u) n (m + 1) (stF p u m S)) C' A' O' G ∧ ∀ j, j < 10 → rs p (lp (stF p u) n (m + 1) (stF p u m S)) j
    cases hk : lkF p (6 * u + m) with
    | none =>
      have eo : stF p u m S = S := by unfold stF; rw [hk]
      rw [eo]
      refine ih (m + 1) S C (by omega) hF hB hN (fun j hj hc => hr j hj ?_)
      rcases hc with hc | hc
      · exact Or.inl hc
      · by_cases c : frF p j = u
        · by_cases c2 : toF p j = m
          · have := (lkF_j hp hj).2.2
            rw [c, c2, hk] at this
            cases this
          · exact Or.inr (by omega)
        · exact Or.inl c
    | some j0 =>
      have hj0 := lkF_lt hk (by omega)
      have hkk := lkF_k hk
      rw [show (6 * u + m) / 6 = u by omega, show (6 * u + m) % 6 = m by omega] at hkk
      have eo : stF p u m S = slS p S j0 := by unfold stF; rw [hk]
      rw [eo]
      obtain ⟨l1, l2⟩ := fl_line hp hF hj0
      refine ih (m + 1) _ _ (by omega) l1 (fB_line hp hF hj0 hB) (fN_line hN hj0) (fun j hj hc => ?_)
      by_cases c : j = j0
      · rw [c]; exact l2
      · have hold : rs p S j := hr j hj (by
          rcases hc with hc | hc
          · exact Or.inl hc
          · by_cases c1 : frF p j = u
            · by_cases c2 : toF p j = m
              · have := (lkF_j hp hj).2.2
                rw [c1, c2, hk] at this
                exact absurd (Option.some.inj this).symm c
              · exact Or.inr (by omega)
            · exact Or.inl c1)
        obtain ⟨e, eH, eT, eQ⟩ := slS_f (p := p) (S := S) (j := j0)
        unfold rs at hold ⊢
        rw [e.2.2.2.1, eT, ub_ne c, offF_sm e eH]
        exact hold
end

