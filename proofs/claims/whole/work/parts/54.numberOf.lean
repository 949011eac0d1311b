section
variable {P : x_P} {d : Nat} {h : x_H} {ca kn cv ed n q : Nat} {K : List (Nat × sp3)} {F : sp3}
theorem x_obF {a : Nat} {F : sp3} (k : isFi h a F) : x_ob h a := ⟨2, _, _, k.1, rfl, List.mem_of_getElem? (i := 26) rfl⟩
theorem x_obN {a : Nat} {x y z : Int32} (k : isNo h a x y z) : x_ob h a := ⟨4, _, _, k, rfl, List.mem_of_getElem? (i := 28) rfl⟩
theorem sCA_numberOf (kc : isCa h ca kn cv) (kk : isK P h kn ed n K) (kv : isCv h cv K) (kf : isFi h q F) (hK : K.length ≤ 16) (hK2 : (∀ p ∈ K, alF F p = false) → K.length < 16) (hn : n ≤ 60000) (h1 : ca ≠ cv) (h2 : kn ≠ cv) (h3 : ed ≠ cv)
  (hs : ∀ p ∈ (q, F) :: K, ∀ i, i ≤ 6 → p.1 + i ≠ cv ∧ p.1 + i ≠ kn ∧ p.1 + i ≠ ed ∧ p.1 + i < h.2.1) (hkl : kn < h.2.1) (hcl : cv < h.2.1) (hel : ∀ e, h.1 ed = some e → ed < h.2.1) :
  x_K P (d + 8) mCA_numberOf 0 [some (.ref ca), some (.ref q), none, none] [] h (fun oc h' =>
    (∃ k p, K[k]? = some p ∧ alF F p = true ∧ (∀ i p', i < k → K[i]? = some p' → alF F p' = false) ∧ oc = .returned (some (.int (nI k))) ∧ h' = h) ∨
    ((∀ p ∈ K, alF F p = false) ∧ oc = .returned (some (.int (nI K.length))) ∧ isCv h' cv (K ++ [(q, F)]) ∧
      ((K.length < n ∧ isK P h' kn ed n (K ++ [(q, F)]) ∧ x_only h h' [cv, kn, ed]) ∨ (K.length = n ∧ isK P h' kn h.2.1 (alG n) (K ++ [(q, F)]) ∧ x_gr h h' 1 (alG n) [cv, kn])))) := by
  have hal := kk.1.choose_spec.1
  refine eCA_numberOf_0 rfl ?_
  refine eCA_numberOf_1 kc rfl ?_
  refine eCA_numberOf_4 hal (Nat.le_of_ble_eq_true rfl) (sAL_size kk.1) ?_
  rintro _ h' ⟨rfl, rfl⟩
  refine ⟨_, rfl, ?_⟩
  rw [List.length_map]
  refine eCA_numberOf_7 ?_
  refine eCA_numberOf_8 ?_
  refine eCA_numberOf_9 ?_
  refine lCA_find (d := d + 5) kc kk kf hK (fun k p a b c => Or.inl ⟨k, p, a, b, c, rfl, rfl⟩) (fun hno => ?_) K.length 0 (by omega) (fun i p' hi => by omega)
  have hK3 := hK2 hno
  refine eCA_numberOf_59 ?_
  refine eCA_numberOf_60 ?_
  refine eCA_numberOf_62 (fun _ => ?_) (fun c => absurd (nI_lt (b := 16) hK3 (by decide)) c)
  refine eCA_numberOf_67 ?_
  refine eCA_numberOf_68 ?_
  obtain ⟨f, hf, hb⟩ := kv
  have keepF : ∀ (S : List Nat) (ha : x_H), (∀ p ∈ (q, F) :: K, ∀ i, i ≤ 6 → ha.1 (p.1 + i) = h'.1 (p.1 + i)) → (∀ p ∈ K, isFi ha p.1 p.2) ∧ isFi ha q F := by
    intro S ha hh
    refine ⟨fun p hp => (kk.2 p hp).keep fun z z1 z2 => ?_, kf.keep fun z z1 z2 => ?_⟩
    · have := hh p (List.mem_cons_of_mem _ hp) (z - p.1) (by omega)
      rwa [show p.1 + (z - p.1) = z by omega] at this
    · have := hh (q, F) List.mem_cons_self (z - q) (by omega)
      rwa [show (q, F).1 + (z - q) = z by show q + (z - q) = z; omega] at this
  refine lCA_cov (d := d + 5) (F := F) (h0 := h') (ed := ed) (n := n) hK3 h1 h2 (fun hc oc kcv => ?_) kc (fun hc oc => ?_) K.length 0 h' f (by omega) x_only.rf hf (hb.of fun g i _ _ => ⟨fun z => Or.inl z, fun z => by
    rcases z with z | ⟨-, z, -⟩ | ⟨-, z, -⟩
    · exact z
    · omega
    · omega⟩)
  rotate_left
  · have := keepF [] hc (fun p hp i hi => oc.2 _ (by simp [(hs p hp i hi).1]))
    exact ⟨⟨kk.1.keep (oc.2 _ (by simp [h2])) (oc.2 _ (by simp [h3])), this.1⟩, this.2⟩
  have kc1 : isCa hc ca kn cv := (oc.2 ca (by simp [h1])).trans kc
  have kk1 := keepF [] hc (fun p hp i hi => oc.2 _ (by simp [(hs p hp i hi).1]))
  have ka1 : isAL P hc kn ed n (K.map (fun p => p.1)) := kk.1.keep (oc.2 _ (by simp [h2])) (oc.2 _ (by simp [h3]))
  have hn1 : hc.2.1 = h'.2.1 := by rw [oc.1]
  refine eCA_numberOf_140 rfl ?_
  refine eCA_numberOf_141 kc1 rfl ?_
  refine eCA_numberOf_144 rfl ?_
  refine eCA_numberOf_145 ka1.choose_spec.1 rfl (Nat.le_of_ble_eq_true rfl) (sAL_add (v := q) ka1 hn (fun z hz e hze => ?_) (fun y hy => ?_) (x_obF kk1.2)) ?_
  · rw [hn1]
    simp only [List.mem_cons, List.mem_map] at hz
    rcases hz with rfl | rfl | rfl | ⟨p, hp, rfl⟩
    · exact hkl
    · exact hel e (by rw [← oc.2 z (by simp [h3])]; exact hze)
    · exact (hs (z, F) List.mem_cons_self 0 (by omega)).2.2.2
    · exact (hs p (List.mem_cons_of_mem _ hp) 0 (by omega)).2.2.2
  · obtain ⟨p, hp, rfl⟩ := List.mem_map.mp hy
    exact x_obF (kk1.1 p hp)
  rintro _ h5 ⟨rfl, hz⟩
  refine ⟨_, rfl, ?_⟩
  refine eCA_numberOf_148 rfl ?_
  refine eCA_numberOf_149 ?_
  refine eCA_numberOf_150 (Or.inr ⟨hno, rfl, ?_⟩)
  have hmap : (K ++ [(q, F)]).map (fun p => p.1) = K.map (fun p => p.1) ++ [q] := by simp
  rw [List.length_map] at hz
  rcases hz with ⟨z1, z2, z3⟩ | ⟨z1, z2, z3⟩
  · have same : ∀ p ∈ (q, F) :: K, ∀ i, i ≤ 6 → h5.1 (p.1 + i) = h'.1 (p.1 + i) := fun p hp i hi => (z3.2 _ (by simp [hs p hp i hi])).trans (oc.2 _ (by simp [(hs p hp i hi).1]))
    have kk5 := keepF [] h5 same
    refine ⟨?_, Or.inl ⟨z1, ⟨by rw [hmap]; exact z2, fun p hp => ?_⟩, oc.trans z3 (by simp) (by simp)⟩⟩
    · obtain ⟨f5, g1, g2⟩ := kcv
      exact ⟨f5, (z3.2 cv (by simp [Ne.symm h2, Ne.symm h3])).trans g1, g2⟩
    · rcases List.mem_append.mp hp with hp | hp
      · exact kk5.1 p hp
      · rw [List.mem_singleton.mp hp]; exact kk5.2
  · have same : ∀ p ∈ (q, F) :: K, ∀ i, i ≤ 6 → h5.1 (p.1 + i) = h'.1 (p.1 + i) := fun p hp i hi => (z3.2.2 _ (by rw [hn1]; exact (hs p hp i hi).2.2.2) (by simp [hs p hp i hi])).trans (oc.2 _ (by simp [(hs p hp i hi).1]))
    have kk5 := keepF [] h5 same
    have g9 := oc.gr.trans z3 (S := [cv, kn]) (by simp) (fun z hz _ => by simp at hz; simp [hz])
    rw [Nat.zero_add, Nat.zero_add] at g9
    refine ⟨?_, Or.inr ⟨z1, ⟨by rw [hmap, ← hn1]; exact z2, fun p hp => ?_⟩, g9⟩⟩
    · obtain ⟨f5, g1, g2⟩ := kcv
      exact ⟨f5, (z3.2.2 cv (by rw [hn1]; exact hcl) (by simp [Ne.symm h2])).trans g1, g2⟩
    · rcases List.mem_append.mp hp with hp | hp
      · exact kk5.1 p hp
      · rw [List.mem_singleton.mp hp]; exact kk5.2
end

