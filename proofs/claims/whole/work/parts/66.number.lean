/-! A filter that was read; its number -/
section
variable {P : x_P} {b : Nat} {p : Nat → Nat} {Z : Nat × Nat × (Nat → Option x_E)} {S : bS} {h h' : x_H} {z : Nat × Nat} {d : Nat}
theorem isB.pend {F : sp3} {n m : Nat} (kB : isB P b p Z S z h) (g : x_gr h h' n m []) (hn : 7 ≤ n) (kf : isFi h' h.2.1 F) : isB P b p Z (bs_pf S (b_pf S ++ [(h.2.1, F)])) (z.1 + n, z.2 + m) h' := by
  obtain ⟨o, E, nk, nn, kB, s1, s2⟩ := kB
  have k1 := pcs.fresh 13 kB g
  have hb : b < h.2.1 := (kB 0).1.2
  have hg := g.1
  refine ⟨fun q => if q < h.2.1 then o q else 13, E, nk, nn, pcs.mut (cs := [13]) k1 (fun q _ _ _ => ⟨rfl, rfl⟩) (Nat.le_refl _) (by simp) (fun k hk _ z => match k, hk, z with | 0, _, z => z | 1, _, z => z | 2, _, z => z | 3, _, z => z | 4, _, z => z | 5, _, z => z | 6, _, z => z | 7, _, z => z | 8, _, z => z | 9, _, z => z | 10, _, z => z | 11, _, z => z | 12, _, z => z | 13, hk, _ => absurd (by simp) hk | 14, _, z => z | 15, _, z => z | _ + 16, _, z => z) (fun k hk => ?_), ?_, ?_⟩
  · cases List.mem_singleton.mp hk
    refine ⟨(k1 13).1, fun q hq => ?_⟩
    rw [bg_K_pf, bg_pf, ← List.append_assoc] at hq
    rcases List.mem_append.mp hq with h9 | h9
    · exact (k1 13).2 q h9
    · rw [List.mem_singleton.mp h9]
      exact ⟨Nat.le_of_lt hb, fun i hi => ⟨if_neg (by show ¬ h.2.1 + i < h.2.1; omega), by show h.2.1 + i < h'.2.1; omega⟩, kf⟩
  · rw [g.1]; show _ ≤ z.1 + n + _; omega
  · rw [g.2.1]; show _ ≤ z.2 + m + _; omega
theorem isB.unpend (kB : isB P b p Z S z h) : isB P b p Z (bs_pf S []) z h := by
  obtain ⟨o, E, nk, nn, kB, s1, s2⟩ := kB
  refine ⟨o, E, nk, nn, pcs.mut (cs := [13]) kB (fun q _ _ _ => ⟨rfl, rfl⟩) (Nat.le_refl _) (by simp) (fun k hk _ z => match k, hk, z with | 0, _, z => z | 1, _, z => z | 2, _, z => z | 3, _, z => z | 4, _, z => z | 5, _, z => z | 6, _, z => z | 7, _, z => z | 8, _, z => z | 9, _, z => z | 10, _, z => z | 11, _, z => z | 12, _, z => z | 13, hk, _ => absurd (by simp) hk | 14, _, z => z | 15, _, z => z | _ + 16, _, z => z) (fun k hk => ?_), s1, s2⟩
  cases List.mem_singleton.mp hk
  refine ⟨(kB 13).1, fun q hq => (kB 13).2 q ?_⟩
  rw [bg_K_pf, bg_pf, List.append_nil] at hq
  exact List.mem_append_left _ hq
theorem isB.pf {q : Nat × sp3} (kB : isB P b p Z S z h) (hq : q ∈ b_pf S) : isFi h q.1 q.2 := by
  obtain ⟨o, E, nk, nn, kB, s1, s2⟩ := kB
  exact ((kB 13).2 q (List.mem_append_right _ hq)).2.2
def cnum (K : List (Nat × sp3)) (F : sp3) : Nat := K.findIdx (alF F)
def cadd (K : List (Nat × sp3)) (q : Nat × sp3) : List (Nat × sp3) := if K.any (alF q.2) then K else K ++ [q]
theorem cnum_of {K : List (Nat × sp3)} {F : sp3} {k : Nat} {r : Nat × sp3} (h1 : K[k]? = some r) (h2 : alF F r = true) (h3 : ∀ i p', i < k → K[i]? = some p' → alF F p' = false) : cnum K F = k ∧ K.any (alF F) = true := by
  obtain ⟨hk, e⟩ := List.getElem?_eq_some_iff.mp h1
  refine ⟨?_, List.any_eq_true.mpr ⟨r, List.mem_of_getElem? h1, h2⟩⟩
  refine (List.findIdx_eq hk).mpr ⟨by rw [e]; exact h2, fun i hi => ?_⟩
  exact h3 i _ hi (List.getElem?_eq_getElem (by omega))
theorem cnum_no {K : List (Nat × sp3)} {F : sp3} (h : ∀ r ∈ K, alF F r = false) : cnum K F = K.length ∧ K.any (alF F) = false := by
  refine ⟨List.findIdx_eq_length.mpr (fun r hr => h r hr), ?_⟩
  rw [List.any_eq_false]
  intro r hr
  rw [h r hr]
  decide
theorem isB.number {q : Nat} {F : sp3} (kB : isB P b p Z S z h) (hE : P.2.2.2.2.2.2.2.1 < b) (hpf : b_pf S = [(q, F)]) (hK2 : (∀ r ∈ b_K S, alF F r = false) → (b_K S).length < 16) : x_K P (d + 8) mCA_numberOf 0 [some (.ref (b + 4)), some (.ref q), none, none] [] h (fun oc h' => oc = .returned (some (.int (nI (cnum (b_K S) F)))) ∧ isB P b p Z (bs_pf (bs_K S (cadd (b_K S) (q, F))) []) z h') := by
  have kB0 := kB
  obtain ⟨o, E, nk, nn, kB, s1, s2⟩ := kB
  obtain ⟨w4, ka⟩ := kB 4
  obtain ⟨w5, ed, kl, h60, hed⟩ := kB 5
  obtain ⟨w6, kv⟩ := kB 6
  obtain ⟨h16, k13⟩ := kB 13
  have hfq := k13 (q, F) (List.mem_append_right _ (by rw [hpf]; simp))
  have hin : ∀ r ∈ (q, F) :: b_K S, b ≤ r.1 ∧ (∀ i, i ≤ 6 → own o h 13 (r.1 + i)) ∧ isFi h r.1 r.2 := by
    intro r hr
    rcases List.mem_cons.mp hr with h9 | h9
    · rw [h9]; exact hfq
    · exact k13 r (List.mem_append_left _ h9)
  have hedc : ∀ a c, o a = c → c ≠ 5 → b ≤ a → a ≠ ed := by
    intro a c h1 h2 h3 h4
    rcases hed with ⟨e1, -, -⟩ | h9
    · omega
    · rw [h4, h9.1] at h1
      exact h2 h1.symm
  have hsz : nk = 0 ∨ 10 ≤ nk := by
    obtain ⟨mc, -, z9⟩ := kl
    rcases z9 with z9 | ⟨f, -, -, z9, -⟩
    · exact Or.inl z9.2.1
    · exact Or.inr z9
  refine x_Kmono (sCA_numberOf (d := d) (ed := ed) (n := nk) ka ⟨kl, fun r hr => (hin r (List.mem_cons_of_mem _ hr)).2.2⟩ kv hfq.2.2 h16 hK2 (by omega) (by omega) (by omega) (Ne.symm (hedc (b + 6) 6 w6.1 (by decide) (by omega))) (fun r hr i hi => ?_) w5.2 w6.2 (fun e he => ?_)) ?_
  · have h9 := (hin r hr).2.1 i hi
    refine ⟨fun e => ?_, fun e => ?_, hedc _ 13 h9.1 (by decide) (by have := (hin r hr).1; omega), h9.2⟩
    · have h8 := h9.1
      rw [e, w6.1] at h8
      exact absurd h8 (by decide)
    · have h8 := h9.1
      rw [e, w5.1] at h8
      exact absurd h8 (by decide)
  · rcases hed with ⟨e1, -, -⟩ | h9
    · have := w5.2; omega
    · exact h9.2
  rintro oc h' (⟨k, r, h1, h2, h3, rfl, rfl⟩ | ⟨hno, rfl, kv', hz⟩)
  · obtain ⟨c1, c2⟩ := cnum_of h1 h2 h3
    rw [c1, cadd, if_pos c2, bsi_K]
    exact ⟨rfl, kB0.unpend⟩
  · obtain ⟨c1, c2⟩ := cnum_no hno
    have h15 := hK2 hno
    rw [c1, cadd, if_neg (by rw [c2]; decide)]
    refine ⟨rfl, ?_⟩
    have e5 : b_K (bs_pf (bs_K S (b_K S ++ [(q, F)])) []) = b_K S ++ [(q, F)] := by rw [bg_K_pf, bg_K]
    have e6 : b_pf (bs_pf (bs_K S (b_K S ++ [(q, F)])) []) = [] := bg_pf
    rcases hz with ⟨z1, z2, z3⟩ | ⟨z1, z2, z3⟩
    · have hown : own o h 5 ed := by
        rcases hed with ⟨-, e2, -⟩ | h9
        · omega
        · exact h9
      refine ⟨o, E, nk, nn, pcs.mut (cs := [5, 6, 13]) kB (fr_only z3 ?_) (by rw [z3.1]; exact Nat.le_refl _) (by simp) (fun k hk _ z => match k, hk, z with | 0, _, z => z | 1, _, z => z | 2, _, z => z | 3, _, z => z | 4, _, z => z | 5, hk, _ => absurd (by simp) hk | 6, hk, _ => absurd (by simp) hk | 7, _, z => z | 8, _, z => z | 9, _, z => z | 10, _, z => z | 11, _, z => z | 12, _, z => z | 13, hk, _ => absurd (by simp) hk | 14, _, z => z | 15, _, z => z | _ + 16, _, z => z) (fun k hk => ?_), by rw [z3.1]; exact s1, by rw [z3.1]; exact s2⟩
      · intro a ha
        simp only [List.mem_cons, List.not_mem_nil, or_false] at ha
        rcases ha with rfl | rfl | rfl
        · rw [w6.1]; simp
        · rw [w5.1]; simp
        · rw [hown.1]; simp
      · simp only [List.mem_cons, List.not_mem_nil, or_false] at hk
        rcases hk with rfl | rfl | rfl
        · exact ⟨own_o w5 z3.1, ed, by rw [e5]; exact z2.1, h60, Or.inr (own_o hown z3.1)⟩
        · exact ⟨own_o w6 z3.1, by rw [e5]; exact kv'⟩
        · refine ⟨by rw [e5, List.length_append]; exact h15, fun r hr => ?_⟩
          rw [e5, e6, List.append_nil] at hr
          have hr2 : r ∈ (q, F) :: b_K S := by
            rcases List.mem_append.mp hr with h9 | h9
            · exact List.mem_cons_of_mem _ h9
            · rw [List.mem_singleton.mp h9]; exact List.mem_cons_self
          exact ⟨(hin r hr2).1, fun i hi => own_o ((hin r hr2).2.1 i hi) z3.1, z2.2 r hr⟩
    · have hg : 4 * nk + alG nk + 4 ≤ 4 * alG nk ∧ alG nk ≤ 60 := by
        unfold alG
        split <;> omega
      have n1 := z3.1
      have n2 := z3.2.1
      refine ⟨fun a => if a < h.2.1 then o a else 5, E, alG nk, nn, pcs.mut (cs := [5, 6, 13]) kB (fun a h1 h2 h3 => ⟨if_pos h1, z3.2.2 a h1 (fun ha => h3 ?_)⟩) (by omega) (by simp) (fun k hk _ z => match k, hk, z with | 0, _, z => z | 1, _, z => z | 2, _, z => z | 3, _, z => z | 4, _, z => z | 5, hk, _ => absurd (by simp) hk | 6, hk, _ => absurd (by simp) hk | 7, _, z => z | 8, _, z => z | 9, _, z => z | 10, _, z => z | 11, _, z => z | 12, _, z => z | 13, hk, _ => absurd (by simp) hk | 14, _, z => z | 15, _, z => z | _ + 16, _, z => z) (fun k hk => ?_), ?_, ?_⟩
      · simp only [List.mem_cons, List.not_mem_nil, or_false] at ha
        rcases ha with rfl | rfl
        · rw [w6.1]; simp
        · rw [w5.1]; simp
      · have up : ∀ {c a : Nat}, own o h c a → own (fun a => if a < h.2.1 then o a else 5) h' c a := fun k => ⟨(if_pos k.2).trans k.1, by have := k.2; omega⟩
        simp only [List.mem_cons, List.not_mem_nil, or_false] at hk
        rcases hk with rfl | rfl | rfl
        · exact ⟨up w5, h.2.1, by rw [e5]; exact z2.1, hg.2, Or.inr ⟨if_neg (Nat.lt_irrefl _), by omega⟩⟩
        · exact ⟨up w6, by rw [e5]; exact kv'⟩
        · refine ⟨by rw [e5, List.length_append]; exact h15, fun r hr => ?_⟩
          rw [e5, e6, List.append_nil] at hr
          have hr2 : r ∈ (q, F) :: b_K S := by
            rcases List.mem_append.mp hr with h9 | h9
            · exact List.mem_cons_of_mem _ h9
            · rw [List.mem_singleton.mp h9]; exact List.mem_cons_self
          exact ⟨(hin r hr2).1, fun i hi => up ((hin r hr2).2.1 i hi), z2.2 r hr⟩
      · unfold mB at s1 ⊢
        omega
      · unfold mB at s2 ⊢
        omega
end

