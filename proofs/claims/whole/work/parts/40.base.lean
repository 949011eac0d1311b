/-! Small rows over the abstract heap and over numbers. -/
theorem xq_eq {h : x_H} {a : Nat} {e : x_E} : (x_put h a e).1 a = some e := by simp [x_put]
theorem xq_ne {h : x_H} {a q : Nat} {e e' : x_E} (hne : q ≠ a) (hq : h.1 q = some e') : (x_put h a e).1 q = some e' := by simp [x_put, hne, hq]
theorem xq_of {h : x_H} {a q : Nat} {e : x_E} (hne : q ≠ a) : (x_put h a e).1 q = h.1 q := by simp [x_put, hne]
theorem xw_eq {h : x_H} {e : x_E} {n : Nat} : (x_new h e n).1 h.2.1 = some e := by simp [x_new]
theorem xw_ne {h : x_H} {q : Nat} {e e' : x_E} {n : Nat} (hne : q ≠ h.2.1) (hq : h.1 q = some e') : (x_new h e n).1 q = some e' := by simp [x_new, hne, hq]
/-- what lies at other places is the same, and no cell has come -/
def x_only (h h' : x_H) (S : List Nat) : Prop := h'.2 = h.2 ∧ ∀ q, q ∉ S → h'.1 q = h.1 q
theorem x_only.rf {h : x_H} {S : List Nat} : x_only h h S := ⟨rfl, fun _ _ => rfl⟩
theorem x_only.put {h h1 : x_H} {S : List Nat} {a : Nat} {e : x_E} (k : x_only h h1 S) (ha : a ∈ S) : x_only h (x_put h1 a e) S := ⟨k.1, fun q hq => (xq_of (fun z => hq (by rw [z]; exact ha))).trans (k.2 q hq)⟩
theorem x_only.trans {h h1 h2 : x_H} {S S1 S2 : List Nat} (k1 : x_only h h1 S1) (k2 : x_only h1 h2 S2) (s1 : ∀ q ∈ S1, q ∈ S) (s2 : ∀ q ∈ S2, q ∈ S) : x_only h h2 S := ⟨k2.1.trans k1.1, fun q hq => (k2.2 q (fun z => hq (s2 q z))).trans (k1.2 q (fun z => hq (s1 q z)))⟩
theorem x_only.at {h h' : x_H} {S : List Nat} {q : Nat} {e : Option x_E} (k : x_only h h' S) (hq : q ∉ S) (he : h.1 q = e) : h'.1 q = e := (k.2 q hq).trans he
theorem xn_s : ∀ n, n < 32 → ((nI n &&& 31).toBitVec.smod 32).toNat = n := by decide
theorem xn_bit {m x : Nat} (hm : m < 65536) (hx : x < 16) : ((nI m >>> (nI x &&& 31)) &&& 1) = 0 ↔ m.testBit x = false := by
  rw [pk_shrN (by omega) (nI x &&& 31) x (xn_s x (by omega))]
  have h1 : m / 2 ^ x < 2 ^ 32 := Nat.lt_of_le_of_lt (Nat.div_le_self _ _) (by omega)
  rw [pk_andN h1 (m := 1) 1 (by decide), ← nI_0, nI_eq (by have := Nat.mod_lt (m / 2 ^ x) (show 0 < 2 ^ 1 by decide); omega) (by decide), Nat.testBit_eq_decide_div_mod_eq]
  simp only [Nat.pow_one, decide_eq_false_iff_not]
  omega
theorem xn_shl {x : Nat} (hx : x < 16) : (1 : Int32) <<< (nI x &&& 31) = nI (2 ^ x) := by
  have h1 : (1 : Int32) = nI 1 := by decide
  have h2 : 1 * 2 ^ x < 2 ^ 32 := by
    rw [Nat.one_mul]
    exact Nat.pow_lt_pow_right (by decide) (by omega)
  rw [h1, pk_shlN (nI x &&& 31) x (xn_s x (by omega)) h2, Nat.one_mul]
theorem xn_or (a b : Nat) : nI a ||| nI b = nI (a ||| b) := by
  apply Int32.toBitVec_inj.mp
  show (Int32.ofNat a ||| Int32.ofNat b).toBitVec = (Int32.ofNat (a ||| b)).toBitVec
  simp [Int32.toBitVec_or, BitVec.ofNat_or]
theorem xn_and (a b : Nat) : nI a &&& nI b = nI (a &&& b) := by
  apply Int32.toBitVec_inj.mp
  show (Int32.ofNat a &&& Int32.ofNat b).toBitVec = (Int32.ofNat (a &&& b)).toBitVec
  simp [Int32.toBitVec_and, BitVec.ofNat_and]
theorem xn_in {j n : Nat} (h : j < n) (hn : n < 2 ^ 31) : vp_in (nI j) n := vp_in_nI h hn
theorem nd_len : ∀ (n : Nat) (l : List Nat), l.Nodup → (∀ x ∈ l, x < n) → l.length ≤ n := by
  intro n
  induction n with
  | zero =>
    intro l _ hb
    cases l with
    | nil => exact Nat.le_refl _
    | cons a t => exact absurd (hb a List.mem_cons_self) (by omega)
  | succ n ih =>
    intro l hd hb
    have h1 := ih (l.erase n) (hd.erase n) (fun x hx => by
      have h2 := (List.Nodup.mem_erase_iff hd).mp hx
      have h3 := hb x h2.2
      have h4 := h2.1
      omega)
    have h5 := List.length_erase (a := n) (l := l)
    split at h5 <;> omega

