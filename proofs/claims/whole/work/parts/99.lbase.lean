/-! The law's heap: the object at b, the reference at bm, the array of one long behind it -/
section
variable {h h1 g : x_H} {bm q : Nat} {ze ze' : Nat → Int32} {si si' : Nat → Nat → Int32}
theorem mh_out (hq : q < bm ∨ bm + 32 < q) : (mh h bm ze si).1 q = h.1 q := by
  show (if q = bm then _ else if bm < q ∧ q ≤ bm + 32 then _ else h.1 q) = _
  rw [if_neg (by omega), if_neg (by omega)]
theorem mh_in (h1 : bm ≤ q) (h2 : q ≤ bm + 32) : (mh h bm ze si).1 q = (mh g bm ze si).1 q := by
  show (if q = bm then _ else if bm < q ∧ q ≤ bm + 32 then _ else h.1 q) = (if q = bm then _ else if bm < q ∧ q ≤ bm + 32 then _ else g.1 q)
  by_cases c : q = bm
  · rw [if_pos c, if_pos c]
  · rw [if_neg c, if_neg c, if_pos (by omega), if_pos (by omega)]
theorem mh_mh : mh (mh h bm ze si) bm ze' si' = mh h bm ze' si' := by
  refine Prod.ext ?_ rfl
  funext q
  by_cases c : bm ≤ q ∧ q ≤ bm + 32
  · exact mh_in c.1 c.2
  · rw [mh_out (by omega), mh_out (by omega), mh_out (by omega)]
theorem mh_of (hm : h = mh h bm ze si) (hr : ∀ q, bm ≤ q → q ≤ bm + 32 → h1.1 q = h.1 q) : h1 = mh h1 bm ze si := by
  refine Prod.ext ?_ rfl
  funext q
  by_cases c : bm ≤ q ∧ q ≤ bm + 32
  · rw [hr q c.1 c.2, mh_in (g := h) c.1 c.2, ← hm]
  · rw [mh_out (by omega)]
end
section
variable {P : x_P} {b bm : Nat} {p : Nat → Nat} {S : bS} {h h1 : x_H} {z : Nat × Nat} {Z Z' : Nat × Nat × (Nat → Option x_E)} {o E : Nat → Nat} {nk nn : Nat}
theorem pcs.Zc : ∀ (k : Nat), pcs P b p Z S o E nk nn h k → (∀ q, Z'.1 ≤ q → q < Z'.1 + Z'.2.1 → own o h 90 q ∧ h.1 q = Z'.2.2 q) → pcs P b p Z' S o E nk nn h k
  | 0, k, _ => k
  | 1, k, _ => k
  | 2, k, _ => k
  | 3, k, _ => k
  | 4, k, _ => k
  | 5, k, _ => k
  | 6, k, _ => k
  | 7, k, _ => k
  | 8, k, _ => k
  | 9, k, _ => k
  | 10, k, _ => k
  | 11, k, _ => k
  | 12, k, _ => k
  | 13, k, _ => k
  | 14, k, _ => k
  | 15, k, _ => k
  | k + 16, ⟨z0, z1, z2, z3, z4⟩, f => ⟨z0, z1, z2, z3, fun _ q q1 q2 => f q q1 q2⟩
theorem pcs.r90 {G : Nat → Option x_E} (k : ∀ k, pcs P b p (bm, 34, G) S o E nk nn h k) {q : Nat} (h1 : bm ≤ q) (h2 : q < bm + 34) : own o h 90 q ∧ h.1 q = G q := by
  have h9 : pcs P b p (bm, 34, G) S o E nk nn h (74 + 16) := k 90
  exact h9.2.2.2.2 rfl q h1 h2
theorem isB.rz {G : Nat → Option x_E} (k : isB P b p (bm, 34, G) S z h) : (∀ q, bm ≤ q → q < bm + 34 → h.1 q = G q) ∧ isB P b p (bm, 34, h.1) S z h := by
  obtain ⟨o, E, nk, nn, k, s1, s2⟩ := k
  exact ⟨fun q q1 q2 => (pcs.r90 k q1 q2).2, o, E, nk, nn, fun kk => pcs.Zc kk (k kk) (fun q q1 q2 => ⟨(pcs.r90 k q1 q2).1, rfl⟩), s1, s2⟩
theorem isB.reg {G : Nat → Option x_E} (k : isB P b p (bm, 34, G) S z h) (ho : ∀ q, q < bm ∨ bm + 34 ≤ q → h1.1 q = h.1 q) (h2 : h1.2 = h.2) : isB P b p (bm, 34, h1.1) S z h1 := by
  obtain ⟨o, E, nk, nn, k, s1, s2⟩ := k
  refine ⟨o, E, nk, nn, fun kk => ?_, by rw [h2]; exact s1, by rw [h2]; exact s2⟩
  have hlt : h1.2.1 = h.2.1 := by rw [h2]
  have hw : ∀ q, bm ≤ q → q < bm + 34 → own o h1 90 q ∧ h1.1 q = h1.1 q := fun q q1 q2 => ⟨⟨(pcs.r90 k q1 q2).1.1, by rw [hlt]; exact (pcs.r90 k q1 q2).1.2⟩, rfl⟩
  by_cases c : kk = 90
  · subst c
    show pcs P b p (bm, 34, h1.1) S o E nk nn h1 (74 + 16)
    exact ⟨fun e => absurd e (by decide), fun e => absurd e (by decide), fun _ e => absurd e (by decide), fun e => absurd e (by decide), fun _ q q1 q2 => hw q q1 q2⟩
  · refine pcs.Zc kk ((k kk).keep kk (fun q hq ho' => ⟨ho', ho q ?_⟩) (by omega)) hw
    by_cases c2 : bm ≤ q ∧ q < bm + 34
    · exact absurd (ho'.symm.trans (pcs.r90 k c2.1 c2.2).1.1) c
    · omega
theorem isB.reg0 {F : Nat → Option x_E} {n m : Nat} (k : isB P b p (0, 0, F) S z h) (g : x_gr h h1 n m []) (hn : 34 ≤ n) : isB P b p (h.2.1, 34, h1.1) S (z.1 + n, z.2 + m) h1 := by
  obtain ⟨o, E, nk, nn, k, s1, s2⟩ := k
  refine ⟨_, E, nk, nn, fun kk => pcs.Zc kk (pcs.fresh 90 k g kk) (fun q q1 q2 => ⟨⟨if_neg (by show ¬ q < h.2.1; have : h.2.1 ≤ q := q1; omega), ?_⟩, rfl⟩), ?_, ?_⟩
  · have : q < h.2.1 + 34 := q2
    rw [g.1]; omega
  · rw [g.1]; show _ ≤ z.1 + n + _; omega
  · rw [g.2.1]; show _ ≤ z.2 + m + _; omega
theorem isB.zm {z' : Nat × Nat} (k : isB P b p Z S z h) (h1 : z.1 ≤ z'.1) (h2 : z.2 ≤ z'.2) : isB P b p Z S z' h := by
  obtain ⟨o, E, nk, nn, k, s1, s2⟩ := k
  exact ⟨o, E, nk, nn, k, by omega, by omega⟩
theorem isB.bnd (k : isB P b p Z S z h) : h.2.1 ≤ z.1 + 46000 ∧ h.2.2 ≤ z.2 + 46000 := by
  obtain ⟨o, E, nk, nn, k, s1, s2⟩ := k
  have hm : mB E nk nn ≤ 46000 := by
    obtain ⟨-, ed, -, hk, -⟩ : pcs P b p Z S o E nk nn h 5 := k 5
    obtain ⟨-, ed', -, hn, -⟩ : pcs P b p Z S o E nk nn h 10 := k 10
    have hE : ∀ j, j < 18 → 2 ^ (E j + 1) ≤ 2048 := fun j hj => by
      have := (pcs.q k hj).1
      exact Nat.le_trans (Nat.pow_le_pow_right (by decide) (Nat.succ_le_succ this)) (by decide)
    have hs : ∀ l : List Nat, (∀ j ∈ l, j < 18) → (l.map (fun j => 2 ^ (E j + 1))).sum ≤ 2048 * l.length := by
      intro l
      induction l with
      | nil => intro _; exact Nat.le_refl _
      | cons a l ih =>
        intro hl
        have h1 := hE a (hl a List.mem_cons_self)
        have h2 := ih (fun j hj => hl j (List.mem_cons_of_mem _ hj))
        rw [List.map_cons, List.sum_cons, List.length_cons]
        omega
    have h3 := hs (List.range 18) (fun j hj => List.mem_range.mp hj)
    rw [List.length_range] at h3
    unfold mB
    omega
  omega
end
abbrev arL (f : Nat → Int64) : x_E := .inl (3, 1, .inr (.inl f))
/-- the law's state after t calls -/
def isL (P : x_P) (b bm : Nat) (p : Nat → Nat) (t : Nat) (Y : Nat × Nat) (h : x_H) : Prop := ∃ (S : bS) (F : Nat → sp3) (T H : Nat → List Nat) (fr : Nat → Nat) (M : Nat → List Nat) (ze : Nat → Int32) (si : Nat → Nat → Int32) (z : Nat × Nat) (f : Nat → Int64), isB P b p (bm, 34, h.1) S z h ∧ b_pf S = [] ∧ h = mh h bm ze si ∧ h.1 (bm + 33) = some (arL f) ∧ isM p S F T H fr M ze si ∧ INV p S fr t ∧ z.1 ≤ Y.1 + 15 * t ∧ z.2 ≤ Y.2 + 54 * t
section
variable {P : x_P} {b bm t : Nat} {p : Nat → Nat} {S S' : bS} {F : Nat → sp3} {T H M : Nat → List Nat} {fr : Nat → Nat} {ze ze' : Nat → Int32} {si si' : Nat → Nat → Int32} {h h1 : x_H} {z : Nat × Nat} {Y : Nat × Nat} {f : Nat → Int64} {G : Nat → Option x_E}
/-- after a call of the object -/
theorem lwB (kB : isB P b p (bm, 34, h.1) S z h1) (hm : h = mh h bm ze si) (ha : h.1 (bm + 33) = some (arL f)) : isB P b p (bm, 34, h1.1) S z h1 ∧ h1 = mh h1 bm ze si ∧ h1.1 (bm + 33) = some (arL f) := by
  obtain ⟨r, k⟩ := kB.rz
  exact ⟨k, mh_of hm (fun q q1 q2 => r q q1 (by omega)), (r _ (by omega) (by omega)).trans ha⟩
/-- after a store into the array -/
theorem lwA {f' : Nat → Int64} (kB : isB P b p (bm, 34, h.1) S z h) (hm : h = mh h bm ze si) : isB P b p (bm, 34, (x_put h (bm + 33) (arL f')).1) S z (x_put h (bm + 33) (arL f')) ∧ x_put h (bm + 33) (arL f') = mh (x_put h (bm + 33) (arL f')) bm ze si ∧ (x_put h (bm + 33) (arL f')).1 (bm + 33) = some (arL f') :=
  ⟨kB.reg (fun q hq => if_neg (by omega)) rfl, mh_of hm (fun q q1 q2 => if_neg (by omega)), xq_eq⟩
/-- after a call of the reference -/
theorem isL.mk (kB : isB P b p (bm, 34, h.1) S z h) (ha : h.1 (bm + 33) = some (arL f)) (kM : isM p S F T H fr M ze' si') (hI : INV p S fr t) (h1 : z.1 ≤ Y.1 + 15 * t) (h2 : z.2 ≤ Y.2 + 54 * t) : isL P b bm p t Y (mh h bm ze' si') :=
  ⟨bs_pf S [], F, T, H, fr, M, ze', si', z, f, (kB.reg (fun q hq => mh_out (by omega)) rfl).unpend, rfl, mh_mh.symm, (mh_out (by omega)).trans ha, kM, hI.txt ⟨⟨rfl, rfl, rfl, rfl, rfl, rfl⟩, rfl, rfl, rfl, rfl⟩, h1, h2⟩
theorem mh_cell (hm : h = mh h bm ze si) : h.1 bm = some (.inr (8, moF bm ze)) := by rw [hm]; exact mh_o
end

