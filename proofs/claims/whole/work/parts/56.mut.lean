/-! How the pieces change -/
def ub {α : Type} (f : Nat → α) (j : Nat) (v : α) : Nat → α := fun i => if i = j then v else f i
theorem ub_s {α : Type} {f : Nat → α} {j : Nat} {v : α} : ub f j v j = v := if_pos rfl
theorem ub_n {α : Type} {f : Nat → α} {j i : Nat} {v : α} (h : i ≠ j) : ub f j v i = f i := if_neg h
section
variable {P : x_P} {b : Nat} {p : Nat → Nat} {Z : Nat × Nat × (Nat → Option x_E)} {S : bS} {o o' E : Nat → Nat} {nk nn : Nat} {h h' : x_H} {z : Nat × Nat}
theorem fr_only {A cs : List Nat} (g : x_only h h' A) (ha : ∀ a ∈ A, o a ∈ cs) : ∀ q, q < h.2.1 → o q ≠ 99 → o q ∉ cs → o q = o q ∧ h'.1 q = h.1 q := fun q _ _ hc => ⟨rfl, g.2 q fun hq => hc (ha q hq)⟩
theorem own_o {c a : Nat} (k : own o h c a) (e : h'.2 = h.2) : own o h' c a := ⟨k.1, by rw [e]; exact k.2⟩
theorem isB.mOf {l : List Nat} (kB : isB P b p Z S z h) (k : isRow h' (b + 12) l) (g : x_only h h' [b + 12, b + 12 + 1]) : isB P b p Z (bs_of S l) z h' := by
  obtain ⟨o, E, nk, nn, kB, s1, s2⟩ := kB
  obtain ⟨w1, w2, -⟩ := kB 12
  refine ⟨o, E, nk, nn, pcs.mut (cs := [12]) kB (fr_only g ?_) (by rw [g.1]; exact Nat.le_refl _) (by simp) (fun k hk _ z => match k, hk, z with | 0, _, z => z | 1, _, z => z | 2, _, z => z | 3, _, z => z | 4, _, z => z | 5, _, z => z | 6, _, z => z | 7, _, z => z | 8, _, z => z | 9, _, z => z | 10, _, z => z | 11, _, z => z | 12, hk, _ => absurd (by simp) hk | 13, _, z => z | 14, _, z => z | 15, _, z => z | _ + 16, _, z => z) (fun k hk => ?_), by rw [g.1]; exact s1, by rw [g.1]; exact s2⟩
  · intro a ha
    simp only [List.mem_cons, List.not_mem_nil, or_false] at ha
    rcases ha with rfl | rfl
    · rw [w1.1]; simp
    · rw [show o (b + 12 + 1) = 12 from w2.1]; simp
  · cases List.mem_singleton.mp hk
    exact ⟨own_o w1 g.1, own_o w2 g.1, k⟩
theorem isB.mNd {l : List Nat} (kB : isB P b p Z S z h) (k : isRow h' (b + 14) l) (g : x_only h h' [b + 14, b + 14 + 1]) : isB P b p Z (bs_nd S l) z h' := by
  obtain ⟨o, E, nk, nn, kB, s1, s2⟩ := kB
  obtain ⟨w1, w2, -⟩ := kB 14
  refine ⟨o, E, nk, nn, pcs.mut (cs := [14]) kB (fr_only g ?_) (by rw [g.1]; exact Nat.le_refl _) (by simp) (fun k hk _ z => match k, hk, z with | 0, _, z => z | 1, _, z => z | 2, _, z => z | 3, _, z => z | 4, _, z => z | 5, _, z => z | 6, _, z => z | 7, _, z => z | 8, _, z => z | 9, _, z => z | 10, _, z => z | 11, _, z => z | 12, _, z => z | 13, _, z => z | 14, hk, _ => absurd (by simp) hk | 15, _, z => z | _ + 16, _, z => z) (fun k hk => ?_), by rw [g.1]; exact s1, by rw [g.1]; exact s2⟩
  · intro a ha
    simp only [List.mem_cons, List.not_mem_nil, or_false] at ha
    rcases ha with rfl | rfl
    · rw [w1.1]; simp
    · rw [show o (b + 14 + 1) = 14 from w2.1]; simp
  · cases List.mem_singleton.mp hk
    exact ⟨own_o w1 g.1, own_o w2 g.1, k⟩
theorem isB.mCn {v : Nat → Nat} {f : Nat → Int32} {e : x_E} (kB : isB P b p Z S z h) (k : ∀ i, i < 4 → f i = nI (v i)) (he : e = .inl (0, 4, .inl f)) : isB P b p Z (bs_cn S v) z (x_put h (b + 11) e) := by
  obtain ⟨o, E, nk, nn, kB, s1, s2⟩ := kB
  have w := (kB 11).1
  refine ⟨o, E, nk, nn, pcs.mut (cs := [11]) kB (fr_only (A := [b + 11]) (x_only.rf.put (by simp)) ?_) (Nat.le_refl _) (by simp) (fun k hk _ z => match k, hk, z with | 0, _, z => z | 1, _, z => z | 2, _, z => z | 3, _, z => z | 4, _, z => z | 5, _, z => z | 6, _, z => z | 7, _, z => z | 8, _, z => z | 9, _, z => z | 10, _, z => z | 11, hk, _ => absurd (by simp) hk | 12, _, z => z | 13, _, z => z | 14, _, z => z | 15, _, z => z | _ + 16, _, z => z) (fun k hk => ?_), s1, s2⟩
  · intro a ha
    rw [List.mem_singleton.mp ha, w.1]
    simp
  · cases List.mem_singleton.mp hk
    exact ⟨own_o w rfl, f, by rw [xq_eq, he], k⟩
theorem isB.mSu {v : Nat → Nat} {f : Nat → Int32} {e : x_E} (kB : isB P b p Z S z h) (k : ∀ i, i < 16 → f i = nI (v i) ∧ v i < 8) (he : e = .inl (0, 16, .inl f)) : isB P b p Z (bs_su S v) z (x_put h (b + 7) e) := by
  obtain ⟨o, E, nk, nn, kB, s1, s2⟩ := kB
  have w := (kB 7).1
  refine ⟨o, E, nk, nn, pcs.mut (cs := [7]) kB (fr_only (A := [b + 7]) (x_only.rf.put (by simp)) ?_) (Nat.le_refl _) (by simp) (fun k hk _ z => match k, hk, z with | 0, _, z => z | 1, _, z => z | 2, _, z => z | 3, _, z => z | 4, _, z => z | 5, _, z => z | 6, _, z => z | 7, hk, _ => absurd (by simp) hk | 8, _, z => z | 9, _, z => z | 10, _, z => z | 11, _, z => z | 12, _, z => z | 13, _, z => z | 14, _, z => z | 15, _, z => z | _ + 16, _, z => z) (fun k hk => ?_), s1, s2⟩
  · intro a ha
    rw [List.mem_singleton.mp ha, w.1]
    simp
  · cases List.mem_singleton.mp hk
    exact ⟨own_o w rfl, f, by rw [xq_eq, he], k⟩
theorem isB.mWa {v : Nat → Nat} {f : Nat → Int32} {e : x_E} (kB : isB P b p Z S z h) (k : ∀ i, i < 16 → f i = nI (v i) ∧ v i < 16) (he : e = .inl (0, 16, .inl f)) : isB P b p Z (bs_wa S v) z (x_put h (b + 8) e) := by
  obtain ⟨o, E, nk, nn, kB, s1, s2⟩ := kB
  have w := (kB 8).1
  refine ⟨o, E, nk, nn, pcs.mut (cs := [8]) kB (fr_only (A := [b + 8]) (x_only.rf.put (by simp)) ?_) (Nat.le_refl _) (by simp) (fun k hk _ z => match k, hk, z with | 0, _, z => z | 1, _, z => z | 2, _, z => z | 3, _, z => z | 4, _, z => z | 5, _, z => z | 6, _, z => z | 7, _, z => z | 8, hk, _ => absurd (by simp) hk | 9, _, z => z | 10, _, z => z | 11, _, z => z | 12, _, z => z | 13, _, z => z | 14, _, z => z | 15, _, z => z | _ + 16, _, z => z) (fun k hk => ?_), s1, s2⟩
  · intro a ha
    rw [List.mem_singleton.mp ha, w.1]
    simp
  · cases List.mem_singleton.mp hk
    exact ⟨own_o w rfl, f, by rw [xq_eq, he], k⟩
theorem isB.mEn {v : Nat → Bool} {f : Nat → Int32} {e : x_E} (kB : isB P b p Z S z h) (k : ∀ i, i < 16 → f i = b2i (v i)) (he : e = .inl (1, 16, .inl f)) : isB P b p Z (bs_en S v) z (x_put h (b + 9) e) := by
  obtain ⟨o, E, nk, nn, kB, s1, s2⟩ := kB
  have w := (kB 9).1
  refine ⟨o, E, nk, nn, pcs.mut (cs := [9]) kB (fr_only (A := [b + 9]) (x_only.rf.put (by simp)) ?_) (Nat.le_refl _) (by simp) (fun k hk _ z => match k, hk, z with | 0, _, z => z | 1, _, z => z | 2, _, z => z | 3, _, z => z | 4, _, z => z | 5, _, z => z | 6, _, z => z | 7, _, z => z | 8, _, z => z | 9, hk, _ => absurd (by simp) hk | 10, _, z => z | 11, _, z => z | 12, _, z => z | 13, _, z => z | 14, _, z => z | 15, _, z => z | _ + 16, _, z => z) (fun k hk => ?_), s1, s2⟩
  · intro a ha
    rw [List.mem_singleton.mp ha, w.1]
    simp
  · cases List.mem_singleton.mp hk
    exact ⟨own_o w rfl, f, by rw [xq_eq, he], k⟩
theorem isB.mG {v : Nat → Nat} {f : Nat → Int32} {e : x_E} (kB : isB P b p Z S z h) (k : ∀ i, i < 30 → f i = nI (v i) ∧ v i < 65536) (he : e = .inl (2, 30, .inl f)) : isB P b p Z (bs_g S v) z (x_put h (b + 1) e) := by
  obtain ⟨o, E, nk, nn, kB, s1, s2⟩ := kB
  have w := (kB 1).1
  refine ⟨o, E, nk, nn, pcs.mut (cs := [1]) kB (fr_only (A := [b + 1]) (x_only.rf.put (by simp)) ?_) (Nat.le_refl _) (by simp) (fun k hk _ z => match k, hk, z with | 0, _, z => z | 1, hk, _ => absurd (by simp) hk | 2, _, z => z | 3, _, z => z | 4, _, z => z | 5, _, z => z | 6, _, z => z | 7, _, z => z | 8, _, z => z | 9, _, z => z | 10, _, z => z | 11, _, z => z | 12, _, z => z | 13, _, z => z | 14, _, z => z | 15, _, z => z | _ + 16, _, z => z) (fun k hk => ?_), s1, s2⟩
  · intro a ha
    rw [List.mem_singleton.mp ha, w.1]
    simp
  · cases List.mem_singleton.mp hk
    exact ⟨own_o w rfl, f, by rw [xq_eq, he], by decide, fun i hi => (k i hi).1, fun i hi => (k i hi).2⟩
theorem isB.mN {v : Nat} (kB : isB P b p Z S z h) (hv : v ≤ 30) : isB P b p Z (bs_n S v) z (x_put h b (.inr (0, [.ref (b + 1), .int (nI (v)), .ref (b + 2), .ref (b + 3), .ref (b + 4), .ref (b + 7), .ref (b + 8), .ref (b + 9), .int (nI (b_s S)), .ref (b + 10), .ref (b + 11), .ref (b + 12), .ref (b + 14)]))) := by
  obtain ⟨o, E, nk, nn, kB, s1, s2⟩ := kB
  obtain ⟨w, -, hn, hs⟩ := kB 0
  refine ⟨o, E, nk, nn, pcs.mut (cs := [0]) kB (fr_only (A := [b]) (x_only.rf.put (by simp)) ?_) (Nat.le_refl _) (by simp) (fun k hk _ z => match k, hk, z with | 0, hk, _ => absurd (by simp) hk | 1, _, z => z | 2, _, z => z | 3, _, z => z | 4, _, z => z | 5, _, z => z | 6, _, z => z | 7, _, z => z | 8, _, z => z | 9, _, z => z | 10, _, z => z | 11, _, z => z | 12, _, z => z | 13, _, z => z | 14, _, z => z | 15, _, z => z | _ + 16, _, z => z) (fun k hk => ?_), s1, s2⟩
  · intro a ha
    rw [List.mem_singleton.mp ha, w.1]
    simp
  · cases List.mem_singleton.mp hk
    exact ⟨own_o w rfl, xq_eq, hv, hs⟩
theorem isB.mS {v : Nat} (kB : isB P b p Z S z h) (hv : v ≤ 16) : isB P b p Z (bs_s S v) z (x_put h b (.inr (0, [.ref (b + 1), .int (nI (b_n S)), .ref (b + 2), .ref (b + 3), .ref (b + 4), .ref (b + 7), .ref (b + 8), .ref (b + 9), .int (nI (v)), .ref (b + 10), .ref (b + 11), .ref (b + 12), .ref (b + 14)]))) := by
  obtain ⟨o, E, nk, nn, kB, s1, s2⟩ := kB
  obtain ⟨w, -, hn, hs⟩ := kB 0
  refine ⟨o, E, nk, nn, pcs.mut (cs := [0]) kB (fr_only (A := [b]) (x_only.rf.put (by simp)) ?_) (Nat.le_refl _) (by simp) (fun k hk _ z => match k, hk, z with | 0, hk, _ => absurd (by simp) hk | 1, _, z => z | 2, _, z => z | 3, _, z => z | 4, _, z => z | 5, _, z => z | 6, _, z => z | 7, _, z => z | 8, _, z => z | 9, _, z => z | 10, _, z => z | 11, _, z => z | 12, _, z => z | 13, _, z => z | 14, _, z => z | 15, _, z => z | _ + 16, _, z => z) (fun k hk => ?_), s1, s2⟩
  · intro a ha
    rw [List.mem_singleton.mp ha, w.1]
    simp
  · cases List.mem_singleton.mp hk
    exact ⟨own_o w rfl, xq_eq, hn, hv⟩
theorem isB.mT {j : Nat} {l : List Nat} (kB : isB P b p Z S z h) (hj : j < 10) (k : isRow h' (b + 17 + 7 * j) l) (g : x_only h h' [b + 17 + 7 * j, b + 17 + 7 * j + 1]) : isB P b p Z (bs_T S (ub (b_T S) j l)) z h' := by
  obtain ⟨o, E, nk, nn, kB, s1, s2⟩ := kB
  have e1 : (4 * j + 1) % 4 = 1 := by omega
  have e2 : (4 * j + 1) / 4 = j := by omega
  have z0 := (kB (4 * j + 1 + 16)).2.1 e1 (by omega)
  rw [e2] at z0
  obtain ⟨w1, w2, -⟩ := z0
  refine ⟨o, E, nk, nn, pcs.mut (cs := [4 * j + 1 + 16]) kB (fr_only g ?_) (by rw [g.1]; exact Nat.le_refl _) (by simp; omega) (fun k hk _ z => match k, hk, z with | 0, _, z => z | 1, _, z => z | 2, _, z => z | 3, _, z => z | 4, _, z => z | 5, _, z => z | 6, _, z => z | 7, _, z => z | 8, _, z => z | 9, _, z => z | 10, _, z => z | 11, _, z => z | 12, _, z => z | 13, _, z => z | 14, _, z => z | 15, _, z => z | k + 16, hk, z => ⟨z.1, fun e1 e2 => by rw [show b_T (bs_T S (ub (b_T S) j l)) (k / 4) = b_T S (k / 4) from ub_n (fun e => hk (by simp; omega))]; exact z.2.1 e1 e2, z.2.2.1, z.2.2.2.1, z.2.2.2.2⟩) (fun k hk => ?_), by rw [g.1]; exact s1, by rw [g.1]; exact s2⟩
  · intro a ha
    simp only [List.mem_cons, List.not_mem_nil, or_false] at ha
    rcases ha with rfl | rfl
    · rw [w1.1]; simp
    · rw [w2.1]; simp
  · cases List.mem_singleton.mp hk
    refine ⟨fun e => by omega, fun e => ?_, fun e => ?_, fun e => by omega, fun e => by omega⟩
    · rw [e2]; intro _; exact ⟨own_o w1 g.1, own_o w2 g.1, by rw [show b_T (bs_T S (ub (b_T S) j l)) j = l from ub_s]; exact k⟩
    · omega
theorem isB.mH {j : Nat} {l : List Nat} (kB : isB P b p Z S z h) (hj : j < 10) (k : isRow h' (b + 19 + 7 * j) l) (g : x_only h h' [b + 19 + 7 * j, b + 19 + 7 * j + 1]) : isB P b p Z (bs_H S (ub (b_H S) j l)) z h' := by
  obtain ⟨o, E, nk, nn, kB, s1, s2⟩ := kB
  have e1 : (4 * j + 2) % 4 = 2 := by omega
  have e2 : (4 * j + 2) / 4 = j := by omega
  have z0 := (kB (4 * j + 2 + 16)).2.2.1 e1 (by omega)
  rw [e2] at z0
  obtain ⟨w1, w2, -⟩ := z0
  refine ⟨o, E, nk, nn, pcs.mut (cs := [4 * j + 2 + 16]) kB (fr_only g ?_) (by rw [g.1]; exact Nat.le_refl _) (by simp; omega) (fun k hk _ z => match k, hk, z with | 0, _, z => z | 1, _, z => z | 2, _, z => z | 3, _, z => z | 4, _, z => z | 5, _, z => z | 6, _, z => z | 7, _, z => z | 8, _, z => z | 9, _, z => z | 10, _, z => z | 11, _, z => z | 12, _, z => z | 13, _, z => z | 14, _, z => z | 15, _, z => z | k + 16, hk, z => ⟨z.1, z.2.1, fun e1 e2 => by rw [show b_H (bs_H S (ub (b_H S) j l)) (k / 4) = b_H S (k / 4) from ub_n (fun e => hk (by simp; omega))]; exact z.2.2.1 e1 e2, z.2.2.2.1, z.2.2.2.2⟩) (fun k hk => ?_), by rw [g.1]; exact s1, by rw [g.1]; exact s2⟩
  · intro a ha
    simp only [List.mem_cons, List.not_mem_nil, or_false] at ha
    rcases ha with rfl | rfl
    · rw [w1.1]; simp
    · rw [w2.1]; simp
  · cases List.mem_singleton.mp hk
    refine ⟨fun e => by omega, fun e => ?_, fun e => ?_, fun e => by omega, fun e => by omega⟩
    · omega
    · rw [e2]; intro _; exact ⟨own_o w1 g.1, own_o w2 g.1, by rw [show b_H (bs_H S (ub (b_H S) j l)) j = l from ub_s]; exact k⟩
theorem pcs.q {j : Nat} (kB : ∀ k, pcs P b p Z S o E nk nn h k) (hj : j < 18) : E j ≤ 10 ∧ ∃ w first, own o h (4 * j + 3 + 16) (qaF b j) ∧ own o h (4 * j + 3 + 16) w ∧ isQ h (qaF b j) w (E j) first ((b_Q S j).map nI) := by
  have z0 := (kB (4 * j + 3 + 16)).2.2.2.1 (by omega) (by omega)
  rw [show (4 * j + 3) / 4 = j by omega] at z0
  exact z0
theorem pcs.mQ {j w first : Nat} {l : List Nat} {E' : Nat → Nat} (kB : ∀ k, pcs P b p Z S o E nk nn h k) (hj : j < 18) (f : ∀ q, q < h.2.1 → o q ≠ 99 → o q ≠ 4 * j + 3 + 16 → o' q = o q ∧ h'.1 q = h.1 q) (hl : h.2.1 ≤ h'.2.1) (hE : ∀ i, i ≠ j → E' i = E i) (h10 : E' j ≤ 10) (w1 : own o' h' (4 * j + 3 + 16) (qaF b j)) (w2 : own o' h' (4 * j + 3 + 16) w) (kq : isQ h' (qaF b j) w (E' j) first (l.map nI)) : ∀ k, pcs P b p Z (bs_Q S (ub (b_Q S) j l)) o' E' nk nn h' k := by
  refine pcs.mut (cs := [4 * j + 3 + 16]) kB (fun q h1 h2 h3 => f q h1 h2 (by simpa using h3)) hl (by simp; omega) (fun k hk _ z => match k, hk, z with | 0, _, z => z | 1, _, z => z | 2, _, z => z | 3, _, z => z | 4, _, z => z | 5, _, z => z | 6, _, z => z | 7, _, z => z | 8, _, z => z | 9, _, z => z | 10, _, z => z | 11, _, z => z | 12, _, z => z | 13, _, z => z | 14, _, z => z | 15, _, z => z | k + 16, hk, z => ⟨z.1, z.2.1, z.2.2.1, fun e1 e2 => by rw [show b_Q (bs_Q S (ub (b_Q S) j l)) (k / 4) = b_Q S (k / 4) from ub_n (fun e => hk (by simp; omega)), show E' (k / 4) = E (k / 4) from hE _ (fun e => hk (by simp; omega))]; exact z.2.2.2.1 e1 e2, z.2.2.2.2⟩) (fun k hk => ?_)
  cases List.mem_singleton.mp hk
  refine ⟨fun e => by omega, fun e => by omega, fun e => by omega, fun e => ?_, fun e => by omega⟩
  rw [show (4 * j + 3) / 4 = j by omega]
  intro _
  exact ⟨h10, w, first, w1, w2, by rw [show b_Q (bs_Q S (ub (b_Q S) j l)) j = l from ub_s]; exact kq⟩
theorem sum_ub : ∀ (n : Nat) (f : Nat → Nat) (j v : Nat), j < n → ((List.range n).map (fun i => if i = j then v else f i)).sum + f j = ((List.range n).map f).sum + v := by
  intro n
  induction n with
  | zero => intro f j v hj; omega
  | succ n ih =>
    intro f j v hj
    rw [List.range_succ, List.map_append, List.map_append, List.sum_append, List.sum_append]
    simp only [List.map_cons, List.map_nil, List.sum_cons, List.sum_nil]
    by_cases e : j = n
    · subst e
      have : (List.range j).map (fun i => if i = j then v else f i) = (List.range j).map f := List.map_congr_left fun i hi => if_neg (by have := List.mem_range.mp hi; omega)
      rw [this, if_pos rfl]
      omega
    · have := ih f j v (by omega)
      rw [if_neg (fun z => e z.symm)]
      omega
theorem mB_grow {j : Nat} (hj : j < 18) : mB (ub E j (E j + 1)) nk nn = mB E nk nn + 2 ^ (E j + 1) := by
  have h1 := sum_ub 18 (fun i => 2 ^ (E i + 1)) j (2 ^ (E j + 2)) hj
  have h2 : (fun i => 2 ^ (ub E j (E j + 1) i + 1)) = (fun i => if i = j then 2 ^ (E j + 2) else 2 ^ (E i + 1)) := by
    funext i
    unfold ub
    split <;> rfl
  unfold mB
  rw [h2]
  have h3 : 2 ^ (E j + 2) = 2 * 2 ^ (E j + 1) := by rw [Nat.pow_succ, Nat.mul_comm]
  omega
variable {d : Nat}
theorem isB.qsize {j : Nat} (kB : isB P b p Z S z h) (hj : j < 18) : x_K P d mQU_size 0 [some (.ref (qaF b j))] [] h (fun oc h' => oc = .returned (some (.int (nI (b_Q S j).length))) ∧ h' = h) := by
  obtain ⟨o, E, nk, nn, kB, -, -⟩ := kB
  obtain ⟨-, w, first, -, -, kq⟩ := pcs.q kB hj
  have := sQU_size (P := P) (d := d) kq
  rwa [List.length_map] at this
theorem isB.qcell {j : Nat} (kB : isB P b p Z S z h) (hj : j < 18) : ∃ fs, h.1 (qaF b j) = some (.inr (5, fs)) := by
  obtain ⟨o, E, nk, nn, kB, -, -⟩ := kB
  obtain ⟨-, w, first, -, -, f, hq, -⟩ := pcs.q kB hj
  exact ⟨_, hq⟩
theorem isB.qrem {j v : Nat} {l : List Nat} (kB : isB P b p Z S z h) (hj : j < 18) (hl : b_Q S j = v :: l) : x_K P d mQU_removeFirst 0 [some (.ref (qaF b j)), none] [] h (fun oc h' => oc = .returned (some (.int (nI v))) ∧ isB P b p Z (bs_Q S (ub (b_Q S) j l)) z h') := by
  obtain ⟨o, E, nk, nn, kB, s1, s2⟩ := kB
  obtain ⟨h10, w, first, w1, w2, kq⟩ := pcs.q kB hj
  rw [hl, List.map_cons] at kq
  refine x_Kmono (sQU_removeFirst kq) ?_
  rintro oc h' ⟨e, kq', g⟩
  refine ⟨e, o, E, nk, nn, pcs.mQ kB hj (fun q h1 h2 h3 => ⟨rfl, g.2 q (fun hq => h3 (by rw [List.mem_singleton.mp hq]; exact w1.1))⟩) (by rw [g.1]; exact Nat.le_refl _) (fun _ _ => rfl) h10 (own_o w1 g.1) (own_o w2 g.1) kq', by rw [g.1]; exact s1, by rw [g.1]; exact s2⟩
theorem isB.qadd {j v : Nat} (kB : isB P b p Z S z h) (hj : j < 18) (hv : (b_Q S j).length < 1000) : x_K P (d + 1) mQU_add 0 [some (.ref (qaF b j)), some (.int (nI v))] [] h (fun oc h' => oc = .returned none ∧ isB P b p Z (bs_Q S (ub (b_Q S) j (b_Q S j ++ [v]))) z h') := by
  obtain ⟨o, E, nk, nn, kB, s1, s2⟩ := kB
  obtain ⟨h10, w, first, w1, w2, kq⟩ := pcs.q kB hj
  refine x_Kmono (sQU_add kq (by omega) w1.2 w2.2) ?_
  rintro oc h' ⟨e, hz⟩
  have em : (b_Q S j ++ [v]).map nI = (b_Q S j).map nI ++ [nI v] := by simp
  rcases hz with ⟨z1, z2, z3⟩ | ⟨z1, z2, z3, z4⟩
  · refine ⟨e, o, E, nk, nn, pcs.mQ kB hj (fun q h1 h2 h3 => ⟨rfl, z3.2 q (fun hq => h3 ?_)⟩) (by rw [z3.1]; exact Nat.le_refl _) (fun _ _ => rfl) h10 (own_o w1 z3.1) (own_o w2 z3.1) (by rw [em]; exact z2), by rw [z3.1]; exact s1, by rw [z3.1]; exact s2⟩
    simp only [List.mem_cons, List.not_mem_nil, or_false] at hq
    rcases hq with rfl | rfl
    · exact w1.1
    · exact w2.1
  · have e9 : E j ≤ 9 := by
      rw [List.length_map] at z1
      refine Nat.not_lt.mp fun h11 => ?_
      have : E j = 10 := by omega
      rw [this] at z1
      omega
    have n1 : h'.2.1 = h.2.1 + 1 := by rw [z3]
    have n2 : h'.2.2 = h.2.2 + 2 ^ (E j + 1) := by rw [z3]
    have hp : 1 ≤ 2 ^ (E j + 1) := Nat.one_le_two_pow
    refine ⟨e, fun q => if q < h.2.1 then o q else 4 * j + 3 + 16, ub E j (E j + 1), nk, nn, pcs.mQ (w := h.2.1) (first := 0) kB hj (fun q h1 h2 h3 => ⟨if_pos h1, z4 q (fun hq => h3 (by rw [hq]; exact w1.1)) (by omega)⟩) (by omega) (fun i hi => ub_n hi) (by rw [ub_s]; omega) ⟨(if_pos w1.2).trans w1.1, by have := w1.2; omega⟩ ⟨if_neg (by omega), by omega⟩ (by rw [em, ub_s]; exact z2), ?_, ?_⟩
    · rw [mB_grow hj, n1]; omega
    · rw [mB_grow hj, n2]; omega
end
