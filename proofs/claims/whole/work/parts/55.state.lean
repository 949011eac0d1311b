/-! The state of the object: text (n, g), subscriptions s (su, wa, en), links (T told, H heard), queues Q (lines, then inboxes), catalog K, notes N, counts cn, the rows of and nd, filters just read pf -/
abbrev bS := (Nat) × (Nat → Nat) × (Nat) × (Nat → List Nat) × (Nat → List Nat) × (Nat → List Nat) × (List (Nat × sp3)) × (Nat → Nat) × (Nat → Nat) × (Nat → Bool) × (List (Nat × Int32 × Int32 × Int32)) × (Nat → Nat) × (List Nat) × (List Nat) × (List (Nat × sp3))
def b_n (S : bS) : Nat := S.1
def b_g (S : bS) : Nat → Nat := S.2.1
def b_s (S : bS) : Nat := S.2.2.1
def b_T (S : bS) : Nat → List Nat := S.2.2.2.1
def b_H (S : bS) : Nat → List Nat := S.2.2.2.2.1
def b_Q (S : bS) : Nat → List Nat := S.2.2.2.2.2.1
def b_K (S : bS) : List (Nat × sp3) := S.2.2.2.2.2.2.1
def b_su (S : bS) : Nat → Nat := S.2.2.2.2.2.2.2.1
def b_wa (S : bS) : Nat → Nat := S.2.2.2.2.2.2.2.2.1
def b_en (S : bS) : Nat → Bool := S.2.2.2.2.2.2.2.2.2.1
def b_N (S : bS) : List (Nat × Int32 × Int32 × Int32) := S.2.2.2.2.2.2.2.2.2.2.1
def b_cn (S : bS) : Nat → Nat := S.2.2.2.2.2.2.2.2.2.2.2.1
def b_of (S : bS) : List Nat := S.2.2.2.2.2.2.2.2.2.2.2.2.1
def b_nd (S : bS) : List Nat := S.2.2.2.2.2.2.2.2.2.2.2.2.2.1
def b_pf (S : bS) : List (Nat × sp3) := S.2.2.2.2.2.2.2.2.2.2.2.2.2.2
def bs_n (S : bS) (v : Nat) : bS := (v, S.2.1, S.2.2.1, S.2.2.2.1, S.2.2.2.2.1, S.2.2.2.2.2.1, S.2.2.2.2.2.2.1, S.2.2.2.2.2.2.2.1, S.2.2.2.2.2.2.2.2.1, S.2.2.2.2.2.2.2.2.2.1, S.2.2.2.2.2.2.2.2.2.2.1, S.2.2.2.2.2.2.2.2.2.2.2.1, S.2.2.2.2.2.2.2.2.2.2.2.2.1, S.2.2.2.2.2.2.2.2.2.2.2.2.2.1, S.2.2.2.2.2.2.2.2.2.2.2.2.2.2)
def bs_g (S : bS) (v : Nat → Nat) : bS := (S.1, v, S.2.2.1, S.2.2.2.1, S.2.2.2.2.1, S.2.2.2.2.2.1, S.2.2.2.2.2.2.1, S.2.2.2.2.2.2.2.1, S.2.2.2.2.2.2.2.2.1, S.2.2.2.2.2.2.2.2.2.1, S.2.2.2.2.2.2.2.2.2.2.1, S.2.2.2.2.2.2.2.2.2.2.2.1, S.2.2.2.2.2.2.2.2.2.2.2.2.1, S.2.2.2.2.2.2.2.2.2.2.2.2.2.1, S.2.2.2.2.2.2.2.2.2.2.2.2.2.2)
def bs_s (S : bS) (v : Nat) : bS := (S.1, S.2.1, v, S.2.2.2.1, S.2.2.2.2.1, S.2.2.2.2.2.1, S.2.2.2.2.2.2.1, S.2.2.2.2.2.2.2.1, S.2.2.2.2.2.2.2.2.1, S.2.2.2.2.2.2.2.2.2.1, S.2.2.2.2.2.2.2.2.2.2.1, S.2.2.2.2.2.2.2.2.2.2.2.1, S.2.2.2.2.2.2.2.2.2.2.2.2.1, S.2.2.2.2.2.2.2.2.2.2.2.2.2.1, S.2.2.2.2.2.2.2.2.2.2.2.2.2.2)
def bs_T (S : bS) (v : Nat → List Nat) : bS := (S.1, S.2.1, S.2.2.1, v, S.2.2.2.2.1, S.2.2.2.2.2.1, S.2.2.2.2.2.2.1, S.2.2.2.2.2.2.2.1, S.2.2.2.2.2.2.2.2.1, S.2.2.2.2.2.2.2.2.2.1, S.2.2.2.2.2.2.2.2.2.2.1, S.2.2.2.2.2.2.2.2.2.2.2.1, S.2.2.2.2.2.2.2.2.2.2.2.2.1, S.2.2.2.2.2.2.2.2.2.2.2.2.2.1, S.2.2.2.2.2.2.2.2.2.2.2.2.2.2)
def bs_H (S : bS) (v : Nat → List Nat) : bS := (S.1, S.2.1, S.2.2.1, S.2.2.2.1, v, S.2.2.2.2.2.1, S.2.2.2.2.2.2.1, S.2.2.2.2.2.2.2.1, S.2.2.2.2.2.2.2.2.1, S.2.2.2.2.2.2.2.2.2.1, S.2.2.2.2.2.2.2.2.2.2.1, S.2.2.2.2.2.2.2.2.2.2.2.1, S.2.2.2.2.2.2.2.2.2.2.2.2.1, S.2.2.2.2.2.2.2.2.2.2.2.2.2.1, S.2.2.2.2.2.2.2.2.2.2.2.2.2.2)
def bs_Q (S : bS) (v : Nat → List Nat) : bS := (S.1, S.2.1, S.2.2.1, S.2.2.2.1, S.2.2.2.2.1, v, S.2.2.2.2.2.2.1, S.2.2.2.2.2.2.2.1, S.2.2.2.2.2.2.2.2.1, S.2.2.2.2.2.2.2.2.2.1, S.2.2.2.2.2.2.2.2.2.2.1, S.2.2.2.2.2.2.2.2.2.2.2.1, S.2.2.2.2.2.2.2.2.2.2.2.2.1, S.2.2.2.2.2.2.2.2.2.2.2.2.2.1, S.2.2.2.2.2.2.2.2.2.2.2.2.2.2)
def bs_K (S : bS) (v : List (Nat × sp3)) : bS := (S.1, S.2.1, S.2.2.1, S.2.2.2.1, S.2.2.2.2.1, S.2.2.2.2.2.1, v, S.2.2.2.2.2.2.2.1, S.2.2.2.2.2.2.2.2.1, S.2.2.2.2.2.2.2.2.2.1, S.2.2.2.2.2.2.2.2.2.2.1, S.2.2.2.2.2.2.2.2.2.2.2.1, S.2.2.2.2.2.2.2.2.2.2.2.2.1, S.2.2.2.2.2.2.2.2.2.2.2.2.2.1, S.2.2.2.2.2.2.2.2.2.2.2.2.2.2)
def bs_su (S : bS) (v : Nat → Nat) : bS := (S.1, S.2.1, S.2.2.1, S.2.2.2.1, S.2.2.2.2.1, S.2.2.2.2.2.1, S.2.2.2.2.2.2.1, v, S.2.2.2.2.2.2.2.2.1, S.2.2.2.2.2.2.2.2.2.1, S.2.2.2.2.2.2.2.2.2.2.1, S.2.2.2.2.2.2.2.2.2.2.2.1, S.2.2.2.2.2.2.2.2.2.2.2.2.1, S.2.2.2.2.2.2.2.2.2.2.2.2.2.1, S.2.2.2.2.2.2.2.2.2.2.2.2.2.2)
def bs_wa (S : bS) (v : Nat → Nat) : bS := (S.1, S.2.1, S.2.2.1, S.2.2.2.1, S.2.2.2.2.1, S.2.2.2.2.2.1, S.2.2.2.2.2.2.1, S.2.2.2.2.2.2.2.1, v, S.2.2.2.2.2.2.2.2.2.1, S.2.2.2.2.2.2.2.2.2.2.1, S.2.2.2.2.2.2.2.2.2.2.2.1, S.2.2.2.2.2.2.2.2.2.2.2.2.1, S.2.2.2.2.2.2.2.2.2.2.2.2.2.1, S.2.2.2.2.2.2.2.2.2.2.2.2.2.2)
def bs_en (S : bS) (v : Nat → Bool) : bS := (S.1, S.2.1, S.2.2.1, S.2.2.2.1, S.2.2.2.2.1, S.2.2.2.2.2.1, S.2.2.2.2.2.2.1, S.2.2.2.2.2.2.2.1, S.2.2.2.2.2.2.2.2.1, v, S.2.2.2.2.2.2.2.2.2.2.1, S.2.2.2.2.2.2.2.2.2.2.2.1, S.2.2.2.2.2.2.2.2.2.2.2.2.1, S.2.2.2.2.2.2.2.2.2.2.2.2.2.1, S.2.2.2.2.2.2.2.2.2.2.2.2.2.2)
def bs_N (S : bS) (v : List (Nat × Int32 × Int32 × Int32)) : bS := (S.1, S.2.1, S.2.2.1, S.2.2.2.1, S.2.2.2.2.1, S.2.2.2.2.2.1, S.2.2.2.2.2.2.1, S.2.2.2.2.2.2.2.1, S.2.2.2.2.2.2.2.2.1, S.2.2.2.2.2.2.2.2.2.1, v, S.2.2.2.2.2.2.2.2.2.2.2.1, S.2.2.2.2.2.2.2.2.2.2.2.2.1, S.2.2.2.2.2.2.2.2.2.2.2.2.2.1, S.2.2.2.2.2.2.2.2.2.2.2.2.2.2)
def bs_cn (S : bS) (v : Nat → Nat) : bS := (S.1, S.2.1, S.2.2.1, S.2.2.2.1, S.2.2.2.2.1, S.2.2.2.2.2.1, S.2.2.2.2.2.2.1, S.2.2.2.2.2.2.2.1, S.2.2.2.2.2.2.2.2.1, S.2.2.2.2.2.2.2.2.2.1, S.2.2.2.2.2.2.2.2.2.2.1, v, S.2.2.2.2.2.2.2.2.2.2.2.2.1, S.2.2.2.2.2.2.2.2.2.2.2.2.2.1, S.2.2.2.2.2.2.2.2.2.2.2.2.2.2)
def bs_of (S : bS) (v : List Nat) : bS := (S.1, S.2.1, S.2.2.1, S.2.2.2.1, S.2.2.2.2.1, S.2.2.2.2.2.1, S.2.2.2.2.2.2.1, S.2.2.2.2.2.2.2.1, S.2.2.2.2.2.2.2.2.1, S.2.2.2.2.2.2.2.2.2.1, S.2.2.2.2.2.2.2.2.2.2.1, S.2.2.2.2.2.2.2.2.2.2.2.1, v, S.2.2.2.2.2.2.2.2.2.2.2.2.2.1, S.2.2.2.2.2.2.2.2.2.2.2.2.2.2)
def bs_nd (S : bS) (v : List Nat) : bS := (S.1, S.2.1, S.2.2.1, S.2.2.2.1, S.2.2.2.2.1, S.2.2.2.2.2.1, S.2.2.2.2.2.2.1, S.2.2.2.2.2.2.2.1, S.2.2.2.2.2.2.2.2.1, S.2.2.2.2.2.2.2.2.2.1, S.2.2.2.2.2.2.2.2.2.2.1, S.2.2.2.2.2.2.2.2.2.2.2.1, S.2.2.2.2.2.2.2.2.2.2.2.2.1, v, S.2.2.2.2.2.2.2.2.2.2.2.2.2.2)
def bs_pf (S : bS) (v : List (Nat × sp3)) : bS := (S.1, S.2.1, S.2.2.1, S.2.2.2.1, S.2.2.2.2.1, S.2.2.2.2.2.1, S.2.2.2.2.2.2.1, S.2.2.2.2.2.2.2.1, S.2.2.2.2.2.2.2.2.1, S.2.2.2.2.2.2.2.2.2.1, S.2.2.2.2.2.2.2.2.2.2.1, S.2.2.2.2.2.2.2.2.2.2.2.1, S.2.2.2.2.2.2.2.2.2.2.2.2.1, S.2.2.2.2.2.2.2.2.2.2.2.2.2.1, v)
/-- the link from k / 6 to k % 6 in the tree in which the broker i hangs on p i -/
def lkF (p : Nat → Nat) (k : Nat) : Option Nat := if 0 < k / 6 ∧ p (k / 6) = k % 6 then some (2 * (k / 6) - 2) else if 0 < k % 6 ∧ p (k % 6) = k / 6 then some (2 * (k % 6) - 1) else none
def frF (p : Nat → Nat) (j : Nat) : Nat := if j % 2 = 0 then j / 2 + 1 else p (j / 2 + 1)
def toF (p : Nat → Nat) (j : Nat) : Nat := if j % 2 = 0 then p (j / 2 + 1) else j / 2 + 1
def isP (p : Nat → Nat) : Prop := ∀ i, 0 < i → i < 6 → p i < i
theorem lkF_lt {p : Nat → Nat} {k j : Nat} (h : lkF p k = some j) (hk : k < 36) : j < 10 := by
  unfold lkF at h
  split at h
  · cases h; omega
  · split at h
    · cases h; omega
    · cases h
theorem lkF_k {p : Nat → Nat} {k j : Nat} (h : lkF p k = some j) : frF p j = k / 6 ∧ toF p j = k % 6 := by
  unfold lkF at h
  split at h
  · rename_i h1
    cases h
    unfold frF toF
    rw [if_pos (by omega), if_pos (by omega), show (2 * (k / 6) - 2) / 2 + 1 = k / 6 by omega]
    exact ⟨rfl, h1.2⟩
  · split at h
    · rename_i h1
      cases h
      unfold frF toF
      rw [if_neg (by omega), if_neg (by omega), show (2 * (k % 6) - 1) / 2 + 1 = k % 6 by omega]
      exact ⟨h1.2, rfl⟩
    · cases h
theorem lkF_j {p : Nat → Nat} (hp : isP p) {j : Nat} (hj : j < 10) : frF p j < 6 ∧ toF p j < 6 ∧ lkF p (6 * frF p j + toF p j) = some j := by
  have h1 := hp (j / 2 + 1) (by omega) (by omega)
  unfold frF toF lkF
  by_cases h2 : j % 2 = 0
  · rw [if_pos h2, if_pos h2]
    refine ⟨by omega, by omega, ?_⟩
    have e1 : (6 * (j / 2 + 1) + p (j / 2 + 1)) / 6 = j / 2 + 1 := by omega
    have e2 : (6 * (j / 2 + 1) + p (j / 2 + 1)) % 6 = p (j / 2 + 1) := by omega
    rw [e1, e2, if_pos ⟨by omega, rfl⟩]
    congr 1
    omega
  · rw [if_neg h2, if_neg h2]
    refine ⟨by omega, by omega, ?_⟩
    have e1 : (6 * p (j / 2 + 1) + (j / 2 + 1)) / 6 = p (j / 2 + 1) := by omega
    have e2 : (6 * p (j / 2 + 1) + (j / 2 + 1)) % 6 = j / 2 + 1 := by omega
    rw [e1, e2, if_neg (fun z => by have := hp _ z.1 (by omega); omega), if_pos ⟨by omega, rfl⟩]
    congr 1
    omega
def qaF (b j : Nat) : Nat := if j < 10 then b + 21 + 7 * j else b + 66 + 2 * j
def own (o : Nat → Nat) (h : x_H) (c a : Nat) : Prop := o a = c ∧ a < h.2.1
abbrev x_rf (f : Nat → Option Nat) : (Nat → Int32) ⊕ (Nat → Int64) ⊕ (Nat → UInt32) ⊕ (Nat → UInt64) ⊕ (Nat → Option Nat) := .inr (.inr (.inr (.inr f)))
/-- the pieces of the object in the heap; the owner of a cell is the number of the piece that it belongs to -/
def pcs (P : x_P) (b : Nat) (p : Nat → Nat) (Z : Nat × Nat × (Nat → Option x_E)) (S : bS) (o E : Nat → Nat) (nk nn : Nat) (h : x_H) : Nat → Prop
  | 0 => own o h 0 b ∧ h.1 b = some (.inr (0, [.ref (b + 1), .int (nI (b_n S)), .ref (b + 2), .ref (b + 3), .ref (b + 4), .ref (b + 7), .ref (b + 8), .ref (b + 9), .int (nI (b_s S)), .ref (b + 10), .ref (b + 11), .ref (b + 12), .ref (b + 14)])) ∧ b_n S ≤ 30 ∧ b_s S ≤ 16
  | 1 => own o h 1 (b + 1) ∧ isT h (b + 1) 30 (b_g S)
  | 2 => own o h 2 (b + 2) ∧ ∃ f, h.1 (b + 2) = some (.inl (4, 36, x_rf f)) ∧ ∀ k, k < 36 → f k = (lkF p k).map (fun j => b + 16 + 7 * j)
  | 3 => own o h 3 (b + 3) ∧ ∃ f, h.1 (b + 3) = some (.inl (5, 8, x_rf f)) ∧ ∀ i, i < 8 → f i = some (b + 86 + 2 * i)
  | 4 => own o h 4 (b + 4) ∧ isCa h (b + 4) (b + 5) (b + 6)
  | 5 => own o h 5 (b + 5) ∧ ∃ ed, isAL P h (b + 5) ed nk ((b_K S).map (fun q => q.1)) ∧ nk ≤ 60 ∧ ((ed = P.2.2.2.2.2.2.2.1 ∧ nk = 0 ∧ b_K S = []) ∨ own o h 5 ed)
  | 6 => own o h 6 (b + 6) ∧ isCv h (b + 6) (b_K S)
  | 7 => own o h 7 (b + 7) ∧ ∃ f, h.1 (b + 7) = some (.inl (0, 16, .inl f)) ∧ ∀ k, k < 16 → f k = nI (b_su S k) ∧ b_su S k < 8
  | 8 => own o h 8 (b + 8) ∧ ∃ f, h.1 (b + 8) = some (.inl (0, 16, .inl f)) ∧ ∀ k, k < 16 → f k = nI (b_wa S k) ∧ b_wa S k < 16
  | 9 => own o h 9 (b + 9) ∧ ∃ f, h.1 (b + 9) = some (.inl (1, 16, .inl f)) ∧ ∀ k, k < 16 → f k = b2i (b_en S k)
  | 10 => own o h 10 (b + 10) ∧ ∃ ed, isAL P h (b + 10) ed nn ((b_N S).map (fun q => q.1)) ∧ nn ≤ 2000 ∧ (b_N S).length ≤ 512 ∧ ((ed = P.2.2.2.2.2.2.2.1 ∧ nn = 0 ∧ b_N S = []) ∨ own o h 10 ed)
  | 11 => own o h 11 (b + 11) ∧ ∃ f, h.1 (b + 11) = some (.inl (0, 4, .inl f)) ∧ ∀ k, k < 4 → f k = nI (b_cn S k)
  | 12 => own o h 12 (b + 12) ∧ own o h 12 (b + 13) ∧ isRow h (b + 12) (b_of S)
  | 13 => (b_K S).length ≤ 16 ∧ ∀ q ∈ b_K S ++ b_pf S, b ≤ q.1 ∧ (∀ i, i ≤ 6 → own o h 13 (q.1 + i)) ∧ isFi h q.1 q.2
  | 14 => own o h 14 (b + 14) ∧ own o h 14 (b + 15) ∧ isRow h (b + 14) (b_nd S)
  | 15 => ∀ q ∈ b_N S, own o h 15 q.1 ∧ isNo h q.1 q.2.1 q.2.2.1 q.2.2.2
  | k + 16 =>
    (k % 4 = 0 → k / 4 < 10 → own o h (k + 16) (b + 16 + 7 * (k / 4)) ∧ h.1 (b + 16 + 7 * (k / 4)) = some (.inr (3, [.int (nI (frF p (k / 4))), .int (nI (toF p (k / 4))), .ref (b + 17 + 7 * (k / 4)), .ref (b + 19 + 7 * (k / 4)), .ref (b + 21 + 7 * (k / 4))]))) ∧
    (k % 4 = 1 → k / 4 < 10 → own o h (k + 16) (b + 17 + 7 * (k / 4)) ∧ own o h (k + 16) (b + 17 + 7 * (k / 4) + 1) ∧ isRow h (b + 17 + 7 * (k / 4)) (b_T S (k / 4))) ∧
    (k % 4 = 2 → k / 4 < 10 → own o h (k + 16) (b + 19 + 7 * (k / 4)) ∧ own o h (k + 16) (b + 19 + 7 * (k / 4) + 1) ∧ isRow h (b + 19 + 7 * (k / 4)) (b_H S (k / 4))) ∧
    (k % 4 = 3 → k / 4 < 18 → E (k / 4) ≤ 10 ∧ ∃ w first, own o h (k + 16) (qaF b (k / 4)) ∧ own o h (k + 16) w ∧ isQ h (qaF b (k / 4)) w (E (k / 4)) first ((b_Q S (k / 4)).map nI)) ∧
    (k = 74 → ∀ q, Z.1 ≤ q → q < Z.1 + Z.2.1 → own o h 90 q ∧ h.1 q = Z.2.2 q)
theorem isRow.keep2 {h h' : x_H} {r : Nat} {l : List Nat} (k : isRow h r l) (h1 : h'.1 r = h.1 r) (h2 : h'.1 (r + 1) = h.1 (r + 1)) : isRow h' r l := by
  obtain ⟨f, m, hr, ha, z⟩ := k
  exact ⟨f, m, h1.trans hr, h2.trans ha, z⟩
theorem isQ.keep2 {h h' : x_H} {q w e first : Nat} {l : List Int32} (k : isQ h q w e first l) (h1 : h'.1 q = h.1 q) (h2 : h'.1 w = h.1 w) : isQ h' q w e first l := by
  obtain ⟨f, hr, ha, z⟩ := k
  exact ⟨f, h1.trans hr, h2.trans ha, z⟩
section
variable {P : x_P} {b : Nat} {p : Nat → Nat} {Z : Nat × Nat × (Nat → Option x_E)} {S : bS} {o o' E : Nat → Nat} {nk nn : Nat} {h h' : x_H}
theorem own.keep {c a : Nat} (k : own o h c a) (f : ∀ q, q < h.2.1 → o q = c → o' q = c ∧ h'.1 q = h.1 q) (hl : h.2.1 ≤ h'.2.1) : own o' h' c a ∧ h'.1 a = h.1 a := ⟨⟨(f a k.2 k.1).1, Nat.lt_of_lt_of_le k.2 hl⟩, (f a k.2 k.1).2⟩
theorem pcs.keep : ∀ (k : Nat), pcs P b p Z S o E nk nn h k → (∀ q, q < h.2.1 → o q = k → o' q = k ∧ h'.1 q = h.1 q) → h.2.1 ≤ h'.2.1 → pcs P b p Z S o' E nk nn h' k
  | 0, ⟨w, z⟩, f, l => ⟨(w.keep f l).1, (w.keep f l).2.trans z.1, z.2⟩
  | 1, ⟨w, z⟩, f, l => ⟨(w.keep f l).1, z.keep (w.keep f l).2⟩
  | 2, ⟨w, g, z, y⟩, f, l => ⟨(w.keep f l).1, g, (w.keep f l).2.trans z, y⟩
  | 3, ⟨w, g, z, y⟩, f, l => ⟨(w.keep f l).1, g, (w.keep f l).2.trans z, y⟩
  | 4, ⟨w, z⟩, f, l => ⟨(w.keep f l).1, (w.keep f l).2.trans z⟩
  | 5, ⟨w, ed, a, n, c⟩, f, l => ⟨(w.keep f l).1, ed, by
      rcases c with c | c
      · obtain ⟨mc, z, _⟩ := a
        exact ⟨mc, (w.keep f l).2.trans z, Or.inl ⟨c.1, c.2.1, by rw [c.2.2]; rfl⟩⟩
      · exact a.keep (w.keep f l).2 (c.keep f l).2, n, c.imp id (fun c => (c.keep f l).1)⟩
  | 6, ⟨w, g, z, y⟩, f, l => ⟨(w.keep f l).1, g, (w.keep f l).2.trans z, y⟩
  | 7, ⟨w, g, z, y⟩, f, l => ⟨(w.keep f l).1, g, (w.keep f l).2.trans z, y⟩
  | 8, ⟨w, g, z, y⟩, f, l => ⟨(w.keep f l).1, g, (w.keep f l).2.trans z, y⟩
  | 9, ⟨w, g, z, y⟩, f, l => ⟨(w.keep f l).1, g, (w.keep f l).2.trans z, y⟩
  | 10, ⟨w, ed, a, n, n2, c⟩, f, l => ⟨(w.keep f l).1, ed, by
      rcases c with c | c
      · obtain ⟨mc, z, _⟩ := a
        exact ⟨mc, (w.keep f l).2.trans z, Or.inl ⟨c.1, c.2.1, by rw [c.2.2]; rfl⟩⟩
      · exact a.keep (w.keep f l).2 (c.keep f l).2, n, n2, c.imp id (fun c => (c.keep f l).1)⟩
  | 11, ⟨w, g, z, y⟩, f, l => ⟨(w.keep f l).1, g, (w.keep f l).2.trans z, y⟩
  | 12, ⟨w, v, z⟩, f, l => ⟨(w.keep f l).1, (v.keep f l).1, z.keep2 (w.keep f l).2 (v.keep f l).2⟩
  | 13, ⟨n, z⟩, f, l => ⟨n, fun q hq => ⟨(z q hq).1, fun i hi => (((z q hq).2.1 i hi).keep f l).1, (z q hq).2.2.keep fun a h1 h2 => by
      have h3 := (((z q hq).2.1 (a - q.1) (by omega)).keep f l).2
      rwa [show q.1 + (a - q.1) = a by omega] at h3⟩⟩
  | 14, ⟨w, v, z⟩, f, l => ⟨(w.keep f l).1, (v.keep f l).1, z.keep2 (w.keep f l).2 (v.keep f l).2⟩
  | 15, z, f, l => fun q hq => ⟨((z q hq).1.keep f l).1, ((z q hq).1.keep f l).2.trans (z q hq).2⟩
  | k + 16, ⟨z0, z1, z2, z3, z4⟩, f, l => ⟨fun e e2 => ⟨((z0 e e2).1.keep f l).1, ((z0 e e2).1.keep f l).2.trans (z0 e e2).2⟩,
      fun e e2 => ⟨((z1 e e2).1.keep f l).1, ((z1 e e2).2.1.keep f l).1, (z1 e e2).2.2.keep2 ((z1 e e2).1.keep f l).2 ((z1 e e2).2.1.keep f l).2⟩,
      fun e e2 => ⟨((z2 e e2).1.keep f l).1, ((z2 e e2).2.1.keep f l).1, (z2 e e2).2.2.keep2 ((z2 e e2).1.keep f l).2 ((z2 e e2).2.1.keep f l).2⟩,
      fun e e2 => by
        obtain ⟨y0, w, fi, y1, y2, y3⟩ := z3 e e2
        exact ⟨y0, w, fi, (y1.keep f l).1, (y2.keep f l).1, y3.keep2 (y1.keep f l).2 (y2.keep f l).2⟩,
      fun e q q1 q2 => by
        subst e
        have y := z4 rfl q q1 q2
        exact ⟨(y.1.keep f l).1, (y.1.keep f l).2.trans y.2⟩⟩
def mB (E : Nat → Nat) (nk nn : Nat) : Nat := ((List.range 18).map (fun j => 2 ^ (E j + 1))).sum + 4 * nk + 4 * nn
/-- the object at b; z bounds what else the heap holds -/
def isB (P : x_P) (b : Nat) (p : Nat → Nat) (Z : Nat × Nat × (Nat → Option x_E)) (S : bS) (z : Nat × Nat) (h : x_H) : Prop := ∃ (o E : Nat → Nat) (nk nn : Nat), (∀ k, pcs P b p Z S o E nk nn h k) ∧ h.2.1 ≤ z.1 + mB E nk nn ∧ h.2.2 ≤ z.2 + mB E nk nn
/-- some pieces come new, the others are as they were -/
theorem pcs.mut {S' : bS} {E' : Nat → Nat} {nk' nn' : Nat} {cs : List Nat} (kB : ∀ k, pcs P b p Z S o E nk nn h k) (f : ∀ q, q < h.2.1 → o q ≠ 99 → o q ∉ cs → o' q = o q ∧ h'.1 q = h.1 q) (hl : h.2.1 ≤ h'.2.1) (hc : 99 ∉ cs) (hS : ∀ k, k ∉ cs → k ≠ 99 → pcs P b p Z S o' E nk nn h' k → pcs P b p Z S' o' E' nk' nn' h' k) (hn : ∀ k ∈ cs, pcs P b p Z S' o' E' nk' nn' h' k) : ∀ k, pcs P b p Z S' o' E' nk' nn' h' k := by
  intro k
  by_cases h1 : k ∈ cs
  · exact hn k h1
  by_cases h2 : k = 99
  · subst h2
    exact ⟨fun e => absurd e (by decide), fun e => absurd e (by decide), fun e => absurd e (by decide), fun _ e => absurd e (by decide), fun e => absurd e (by decide)⟩
  · exact hS k h1 h2 ((kB k).keep k (fun q hq ho => by
      have := f q hq (by rw [ho]; exact h2) (by rw [ho]; exact h1)
      exact ⟨this.1.trans ho, this.2⟩) hl)
/-- fresh cells belong to nobody yet, or to a piece that does not speak of them yet -/
theorem pcs.fresh (cc : Nat) (kB : ∀ k, pcs P b p Z S o E nk nn h k) {n m : Nat} (g : x_gr h h' n m []) : ∀ k, pcs P b p Z S (fun q => if q < h.2.1 then o q else cc) E nk nn h' k :=
  pcs.mut (cs := []) kB (fun q hq _ _ => ⟨if_pos hq, g.2.2 q hq (by simp)⟩) (by have := g.1; omega) (by simp) (fun _ _ _ z => z) (fun k hk => by cases hk)
theorem isB.gr {z : Nat × Nat} {n m : Nat} (kB : isB P b p Z S z h) (g : x_gr h h' n m []) : isB P b p Z S (z.1 + n, z.2 + m) h' := by
  obtain ⟨o, E, nk, nn, k, s1, s2⟩ := kB
  refine ⟨_, E, nk, nn, pcs.fresh 99 k g, ?_, ?_⟩
  · rw [g.1]; show _ ≤ z.1 + n + _; omega
  · rw [g.2.1]; show _ ≤ z.2 + m + _; omega
end
