/-! The reference: words in the record of a filter -/
def wOk (w n : Nat) : Prop := w < 1048576 ∧ n ≤ 4 ∧ (n = 0 → w = 0) ∧ (n = 1 → w % 32768 = 0) ∧ (n = 2 → w % 1024 = 0) ∧ (n = 3 → w % 32 = 0) ∧ (1 ≤ n → 1 ≤ w / 32768 ∧ w / 32768 ≤ 26) ∧ (2 ≤ n → 1 ≤ w / 1024 % 32 ∧ w / 1024 % 32 ≤ 26) ∧ (3 ≤ n → 1 ≤ w / 32 % 32 ∧ w / 32 % 32 ≤ 26) ∧ (4 ≤ n → 1 ≤ w % 32 ∧ w % 32 ≤ 26)
def mxI (a b : Int32) : Int32 := if a < b then b else a
def mnI (a b : Int32) : Int32 := if b < a then b else a
theorem mxI_nI {a b : Nat} (ha : a < 2 ^ 31) (hb : b < 2 ^ 31) : mxI (nI a) (nI b) = nI (max a b) := by
  unfold mxI
  by_cases h : a < b
  · rw [if_pos (nI_lt h hb), Nat.max_eq_right (by omega)]
  · rw [if_neg (nI_nlt (by omega) ha), Nat.max_eq_left (by omega)]
theorem mnI_nI {a b : Nat} (ha : a < 2 ^ 31) (hb : b < 2 ^ 31) : mnI (nI a) (nI b) = nI (min a b) := by
  unfold mnI
  by_cases h : b < a
  · rw [if_pos (nI_lt h ha), Nat.min_eq_right (by omega)]
  · rw [if_neg (nI_nlt (by omega) hb), Nat.min_eq_left (by omega)]
theorem mxI_ge {a b : Int32} : a.toInt ≤ (mxI a b).toInt := by
  unfold mxI
  split
  · rename_i h
    have := Int32.lt_iff_toInt_lt.mp h
    omega
  · exact Int.le_refl _
theorem mnI_le {a b : Int32} : (mnI a b).toInt ≤ a.toInt := by
  unfold mnI
  split
  · rename_i h
    have := Int32.lt_iff_toInt_lt.mp h
    omega
  · exact Int.le_refl _
def wSh (lo hi em wh wd lt : Int32) : Prop :=
  (em = 1 ∧ hi.toInt < lo.toInt) ∨
  (em = 0 ∧ wh = 1 ∧ ∃ w n, 1 ≤ n ∧ wOk w n ∧ wd = nI w ∧ lo = nI w ∧ hi = nI w) ∨
  (em = 0 ∧ wh = 0 ∧ ∃ w n, n ≤ 3 ∧ wOk w n ∧ wd = nI w ∧ lt = nI n ∧ lo = nI (max 1 w) ∧ hi = nI (w + 32 ^ (4 - n) - 1))
theorem wOk_pw {n : Nat} (h : n ≤ 4) : (n = 0 ∧ 32 ^ (4 - n) = 1048576) ∨ (n = 1 ∧ 32 ^ (4 - n) = 32768) ∨ (n = 2 ∧ 32 ^ (4 - n) = 1024) ∨ (n = 3 ∧ 32 ^ (4 - n) = 32) ∨ (n = 4 ∧ 32 ^ (4 - n) = 1) := by
  have h1 : n = 0 ∨ n = 1 ∨ n = 2 ∨ n = 3 ∨ n = 4 := by omega
  rcases h1 with e | e | e | e | e <;> subst e <;> decide
theorem wOk_top {w n : Nat} (h : wOk w n) : w + 32 ^ (4 - n) ≤ 1048576 := by
  obtain ⟨h1, h2, a0, a1, a2, a3, b1, b2, b3, b4⟩ := h
  rcases wOk_pw h2 with ⟨e, q⟩ | ⟨e, q⟩ | ⟨e, q⟩ | ⟨e, q⟩ | ⟨e, q⟩ <;> subst e <;> rw [q] <;> omega
theorem wOk_1 {w n : Nat} (h : wOk w n) (hn : 1 ≤ n) : 1 ≤ w := by
  have := h.2.2.2.2.2.2.1 hn
  omega
theorem wOk_or {w n : Nat} (h : wOk w n) : nI w ||| nI (32 ^ (4 - n) - 1) = nI (w + 32 ^ (4 - n) - 1) := by
  rw [xn_or]
  obtain ⟨h1, h2, a0, a1, a2, a3, b1, b2, b3, b4⟩ := h
  rcases wOk_pw h2 with ⟨e, q⟩ | ⟨e, q⟩ | ⟨e, q⟩ | ⟨e, q⟩ | ⟨e, q⟩ <;> subst e <;> rw [q]
  · rw [a0 rfl]; rfl
  · have h3 := Nat.two_pow_add_eq_or_of_lt (i := 15) (b := 32767) (by decide) (w / 32768)
    rw [show 2 ^ 15 * (w / 32768) = w by have := a1 rfl; omega] at h3
    rw [show (32768 : Nat) - 1 = 32767 from rfl, ← h3]
    rfl
  · have h3 := Nat.two_pow_add_eq_or_of_lt (i := 10) (b := 1023) (by decide) (w / 1024)
    rw [show 2 ^ 10 * (w / 1024) = w by have := a2 rfl; omega] at h3
    rw [show (1024 : Nat) - 1 = 1023 from rfl, ← h3]
    rfl
  · have h3 := Nat.two_pow_add_eq_or_of_lt (i := 5) (b := 31) (by decide) (w / 32)
    rw [show 2 ^ 5 * (w / 32) = w by have := a3 rfl; omega] at h3
    rw [show (32 : Nat) - 1 = 31 from rfl, ← h3]
    rfl
  · rw [show (1 : Nat) - 1 = 0 from rfl, Nat.or_zero]
    rfl
/-- a word of n letters among those that begin with w0 of n0 -/
theorem wOk_in {w n w0 n0 : Nat} (h : wOk w n) (h0 : wOk w0 n0) (hn : n0 ≤ n) : w / 32 ^ (4 - n0) = w0 / 32 ^ (4 - n0) ↔ w0 ≤ w ∧ w + 32 ^ (4 - n) ≤ w0 + 32 ^ (4 - n0) := by
  obtain ⟨h1, h2, a0, a1, a2, a3, b1, b2, b3, b4⟩ := h
  obtain ⟨g1, g2, c0, c1, c2, c3, d1, d2, d3, d4⟩ := h0
  rcases wOk_pw h2 with ⟨e, q⟩ | ⟨e, q⟩ | ⟨e, q⟩ | ⟨e, q⟩ | ⟨e, q⟩ <;> rcases wOk_pw g2 with ⟨e', q'⟩ | ⟨e', q'⟩ | ⟨e', q'⟩ | ⟨e', q'⟩ | ⟨e', q'⟩ <;> rw [q, q'] <;> subst e <;> subst e' <;> omega
/-- those that begin with w and those that begin with w0 have nothing in common -/
theorem wOk_out {w n w0 n0 : Nat} (h : wOk w n) (h0 : wOk w0 n0) (hn : n0 ≤ n) (hne : w / 32 ^ (4 - n0) ≠ w0 / 32 ^ (4 - n0)) : w + 32 ^ (4 - n) ≤ w0 ∨ w0 + 32 ^ (4 - n0) ≤ w := by
  obtain ⟨h1, h2, a0, a1, a2, a3, b1, b2, b3, b4⟩ := h
  obtain ⟨g1, g2, c0, c1, c2, c3, d1, d2, d3, d4⟩ := h0
  rcases wOk_pw h2 with ⟨e, q⟩ | ⟨e, q⟩ | ⟨e, q⟩ | ⟨e, q⟩ | ⟨e, q⟩ <;> rcases wOk_pw g2 with ⟨e', q'⟩ | ⟨e', q'⟩ | ⟨e', q'⟩ | ⟨e', q'⟩ | ⟨e', q'⟩ <;> rw [q'] at hne <;> rw [q, q'] <;> subst e <;> subst e' <;> omega
theorem wOk_lohi {w n x : Nat} (h : wOk w n) (e : x / 32 ^ (4 - n) = w / 32 ^ (4 - n)) : w ≤ x ∧ x < w + 32 ^ (4 - n) := by
  obtain ⟨h1, h2, a0, a1, a2, a3, -⟩ := h
  rcases wOk_pw h2 with ⟨e', q⟩ | ⟨e', q⟩ | ⟨e', q⟩ | ⟨e', q⟩ | ⟨e', q⟩ <;> subst e' <;> rw [q] at e ⊢ <;> omega
theorem wOk_lohi2 {w n x : Nat} (h : wOk w n) (e : ¬ x / 32 ^ (4 - n) = w / 32 ^ (4 - n)) : x < w ∨ w + 32 ^ (4 - n) ≤ x := by
  obtain ⟨h1, h2, a0, a1, a2, a3, -⟩ := h
  rcases wOk_pw h2 with ⟨e', q⟩ | ⟨e', q⟩ | ⟨e', q⟩ | ⟨e', q⟩ | ⟨e', q⟩ <;> subst e' <;> rw [q] at e ⊢ <;> omega
theorem wP {n : Nat} : 1 ≤ 32 ^ (4 - n) := Nat.pow_pos (by decide)
def isRW (si : Nat → Nat → Int32) (f : Nat) (s : sp) : Prop := exR (si 9) (si 10) f s.2.2 ∧ (∀ v ∈ s.2.2, ∃ e m, v = nI e ∧ 1 ≤ m ∧ wOk e m) ∧ sB s ∧ ((si 12 f = 0 ∧ si 13 f = 0 ∧ si 14 f = 0 ∧ si 7 f = 0 ∧ si 8 f = 0 ∧ s = (0, 1048575, [])) ∨ (si 12 f = 1 ∧ wSh s.1 s.2.1 (si 14 f) (si 13 f) (si 7 f) (si 8 f)))
theorem mxI_ub {a b : Int32} {c : Int} (h1 : a.toInt ≤ c) (h2 : b.toInt ≤ c) : (mxI a b).toInt ≤ c := by
  unfold mxI
  split <;> assumption
theorem mnI_lb {a b : Int32} {c : Int} (h1 : c ≤ a.toInt) (h2 : c ≤ b.toInt) : c ≤ (mnI a b).toInt := by
  unfold mnI
  split <;> assumption
section
variable {si si' : Nat → Nat → Int32} {f : Nat}
theorem isRW.keep {s : sp} (k : isRW si f s) (h1 : ∀ K, K = 7 ∨ K = 8 ∨ K = 9 ∨ K = 12 ∨ K = 13 ∨ K = 14 → si' K f = si K f) (h2 : ∀ i, i < 3 → si' 10 (3 * f + i) = si 10 (3 * f + i)) : isRW si' f s := by
  obtain ⟨a, b, b', c⟩ := k
  refine ⟨a.keep (h1 9 (by decide)) h2, b, b', ?_⟩
  rw [h1 7 (by decide), h1 8 (by decide), h1 12 (by decide), h1 13 (by decide), h1 14 (by decide)]
  exact c
theorem isRW.kN {s : sp} {t : Nat} (k : isRW si f s) (h : frN t si si') : isRW si' f s :=
  k.keep (fun K hK => by
    rcases h K f with a | a | a
    · omega
    · omega
    · exact a) (fun i hi => by
    rcases h 10 (3 * f + i) with a | a | a
    · omega
    · omega
    · exact a)
/-- what a word's condition begins with -/
theorem isRW.sh {s : sp} (k : isRW si f s) : wSh (mxI s.1 1) (mnI s.2.1 1048575) (si 14 f) (si 13 f) (si 7 f) (si 8 f) := by
  rcases k.2.2.2 with ⟨a, b, c, d, e, rfl⟩ | ⟨a, b⟩
  · rw [b, c, d, e]
    refine Or.inr (Or.inr ⟨rfl, rfl, 0, 0, by decide, by unfold wOk; decide, rfl, rfl, ?_, ?_⟩)
    · decide
    · decide
  · rcases b with ⟨b1, b2⟩ | ⟨b1, b2, w, n, b3, b4, b5, b6, b7⟩ | ⟨b1, b2, w, n, b3, b4, b5, b6, b7, b8⟩
    · refine Or.inl ⟨b1, ?_⟩
      have h1 := mxI_ge (a := s.1) (b := 1)
      have h2 := mnI_le (a := s.2.1) (b := 1048575)
      omega
    · have h1 := b4.1
      have h2 := wOk_1 b4 b3
      refine Or.inr (Or.inl ⟨b1, b2, w, n, b3, b4, b5, ?_, ?_⟩)
      · rw [b6]
        show mxI (nI w) (nI 1) = _
        rw [mxI_nI (by omega) (by decide), Nat.max_eq_left h2]
      · rw [b7]
        show mnI (nI w) (nI 1048575) = _
        rw [mnI_nI (by omega) (by decide), Nat.min_eq_left (by omega)]
    · have h1 := wOk_top b4
      have h2 := wP (n := n)
      refine Or.inr (Or.inr ⟨b1, b2, w, n, b3, b4, b5, b6, ?_, ?_⟩)
      · rw [b7]
        show mxI (nI (max 1 w)) (nI 1) = _
        rw [mxI_nI (by omega) (by decide)]
        congr 1
        omega
      · rw [b8]
        show mnI (nI _) (nI 1048575) = _
        rw [mnI_nI (by omega) (by decide), Nat.min_eq_left (by omega)]
/-- emptied for good -/
theorem wSh.em {lo hi x y wh wd lt wh' wd' lt' : Int32} (h : wSh lo hi 1 wh wd lt) : wSh (mxI lo x) (mnI hi y) 1 wh' wd' lt' := by
  rcases h with ⟨_, h⟩ | ⟨h, _⟩ | ⟨h, _⟩
  · refine Or.inl ⟨rfl, ?_⟩
    have h1 := mxI_ge (a := lo) (b := x)
    have h2 := mnI_le (a := hi) (b := y)
    omega
  · exact absurd h (by decide)
  · exact absurd h (by decide)
theorem wSh.out {a b x y : Nat} {wh wd lt : Int32} (ha : a < 2 ^ 31) (hb : b < 2 ^ 31) (hx : x < 2 ^ 31) (hy : y < 2 ^ 31) (h : min b y < max a x) : wSh (mxI (nI a) (nI x)) (mnI (nI b) (nI y)) 1 wh wd lt := by
  rw [mxI_nI ha hx, mnI_nI hb hy]
  refine Or.inl ⟨rfl, ?_⟩
  rw [nI_toInt (by omega), nI_toInt (by omega)]
  omega
end
theorem vu14_7 {si : Nat → Nat → Int32} {x : Nat → Int32} : va_up si 14 x 7 = si 7 := rfl
theorem vu14_8 {si : Nat → Nat → Int32} {x : Nat → Int32} : va_up si 14 x 8 = si 8 := rfl
theorem vu7_8 {si : Nat → Nat → Int32} {x : Nat → Int32} : va_up si 7 x 8 = si 8 := rfl
section
variable {P : x_P} {d : Nat} {h0 : x_H} {bm : Nat} {ze : Nat → Int32} {si : Nat → Nat → Int32} {h : x_H}
theorem kMO_w1 {g n : Nat} {v0 v1 v3 v5 v6 : Option Value} {Φ : Outcome → x_H → Prop} (hg : g < 65536) (hn : n ≤ 4) (kk : x_K P d mMO_wordly 59 [v0, v1, some (.int (nI g)), v3, some (.int (nI n)), some (.int (b2i (decide (g = 61 ∨ n = 4)))), v6] [] h Φ) : x_K P d mMO_wordly 40 [v0, v1, some (.int (nI g)), v3, some (.int (nI n)), v5, v6] [] h Φ := by
  have e1 : nI g = nI 61 ↔ g = 61 := nI_eq (by omega) (by omega)
  have e2 : nI n = nI 4 ↔ n = 4 := nI_eq (by omega) (by omega)
  by_cases h1 : g = 61
  · rw [decide_eq_true (Or.inl h1)] at kk
    refine eMO_wordly_40 ?_
    refine eMO_wordly_41 ?_
    refine eMO_wordly_43 (fun c43 => ?_) (fun c => absurd (e1.mpr h1) c)
    refine eMO_wordly_52 ?_
    refine eMO_wordly_53 ?_
    refine eMO_wordly_57 ?_
    exact kk
  · by_cases h2 : n = 4
    · rw [decide_eq_true (Or.inr h2)] at kk
      refine eMO_wordly_40 ?_
      refine eMO_wordly_41 ?_
      refine eMO_wordly_43 (fun c => absurd (e1.mp c) h1) (fun c43 => ?_)
      refine eMO_wordly_46 ?_
      refine eMO_wordly_48 ?_
      refine eMO_wordly_49 (fun c => absurd (e2.mpr h2) c) (fun c49 => ?_)
      refine eMO_wordly_52 ?_
      refine eMO_wordly_53 ?_
      refine eMO_wordly_57 ?_
      exact kk
    · rw [decide_eq_false (fun z => z.elim h1 h2)] at kk
      refine eMO_wordly_40 ?_
      refine eMO_wordly_41 ?_
      refine eMO_wordly_43 (fun c => absurd (e1.mp c) h1) (fun c43 => ?_)
      refine eMO_wordly_46 ?_
      refine eMO_wordly_48 ?_
      refine eMO_wordly_49 (fun c49 => ?_) (fun c => absurd (e2.mp c) h2)
      refine eMO_wordly_56 ?_
      refine eMO_wordly_57 ?_
      exact kk
/-- an emptied record -/
theorem kMO_wE {f w n : Nat} {al : Bool} {v2 v6 : Option Value} {lo hi x y : Int32} {Φ : Outcome → x_H → Prop} (hf : f < 18) (sh : wSh lo hi 1 (si 13 f) (si 7 f) (si 8 f)) (h14 : si 14 f = 1)
  (kk : ∀ si', frW f si si' → si' 12 f = si 12 f → si' 9 = si 9 → si' 10 = si 10 → wSh (mxI lo x) (mnI hi y) (si' 14 f) (si' 13 f) (si' 7 f) (si' 8 f) → Φ (.returned none) (mh h0 bm ze si')) :
  x_K P (d + 1) mMO_wordly 59 [some (.ref bm), some (.int (nI f)), v2, some (.int (nI w)), some (.int (nI n)), some (.int (b2i al)), v6] [] (mh h0 bm ze si) Φ := by
  have u1 : ∀ g : Nat → Int32, upd g f (vp_nar .boolean 1) f = 1 := fun g => by rw [pk_us]; rfl
  by_cases h13 : si 13 f = 0
  · cases al with
    | true =>
      refine eMO_wordly_59 rfl ?_
      refine eMO_wordly_60 mh_o rfl ?_
      refine eMO_wordly_63 ?_
      refine eMO_wordly_64 mh_a13 (xn_in hf (by decide)) ?_
      rw [nI_clamp (by omega)]
      refine eMO_wordly_65 (fun c65 => ?_) (fun c => absurd h13 c)
      refine eMO_wordly_124 ?_
      refine eMO_wordly_126 (fun c => absurd c (by decide)) (fun c126 => ?_)
      refine eMO_wordly_129 rfl ?_
      refine eMO_wordly_130 mh_o rfl ?_
      refine eMO_wordly_133 ?_
      refine eMO_wordly_134 rfl ?_
      refine eMO_wordly_135 mh_o rfl ?_
      refine eMO_wordly_138 ?_
      refine eMO_wordly_139 mh_a14 (xn_in hf (by decide)) ?_
      rw [nI_clamp (by omega)]
      rw [h14]
      refine eMO_wordly_140 (fun c140 => ?_) (fun c => absurd c (by decide))
      refine eMO_wordly_162 ?_
      refine eMO_wordly_163 ?_
      refine eMO_wordly_167 mh_a14 (xn_in hf (by decide)) ?_
      rw [mh_p14, nI_clamp (by omega)]
      refine eMO_wordly_168 rfl ?_
      refine eMO_wordly_169 mh_o rfl ?_
      refine eMO_wordly_172 ?_
      refine eMO_wordly_173 ?_
      refine eMO_wordly_174 mh_a7 (xn_in hf (by decide)) ?_
      rw [mh_p7, nI_clamp (by omega)]
      refine eMO_wordly_175 rfl ?_
      refine eMO_wordly_176 mh_o rfl ?_
      refine eMO_wordly_179 ?_
      refine eMO_wordly_180 ?_
      refine eMO_wordly_181 mh_a13 (xn_in hf (by decide)) ?_
      rw [mh_p13, nI_clamp (by omega)]
      refine eMO_wordly_182 ?_
      refine eMO_wordly_299 (kk _ (((frW.rf.up (by omega)).up (by omega)).up (by omega)) rfl rfl rfl ?_)
      rw [show (va_up (va_up (va_up si 14 (upd (si 14) f (vp_nar .boolean 1))) 7 _) 13 _) 14 f = 1 from u1 _]
      exact sh.em
    | false =>
      refine eMO_wordly_59 rfl ?_
      refine eMO_wordly_60 mh_o rfl ?_
      refine eMO_wordly_63 ?_
      refine eMO_wordly_64 mh_a13 (xn_in hf (by decide)) ?_
      rw [nI_clamp (by omega)]
      refine eMO_wordly_65 (fun c65 => ?_) (fun c => absurd h13 c)
      refine eMO_wordly_124 ?_
      refine eMO_wordly_126 (fun c126 => ?_) (fun c => absurd rfl c)
      refine eMO_wordly_185 ?_
      refine eMO_wordly_187 rfl ?_
      refine eMO_wordly_188 mh_o rfl ?_
      refine eMO_wordly_191 ?_
      refine eMO_wordly_192 mh_a8 (xn_in hf (by decide)) ?_
      rw [nI_clamp (by omega)]
      refine eMO_wordly_193 (fun c193 => ?_) (fun c193 => ?_)
      · refine eMO_wordly_201 rfl ?_
        refine eMO_wordly_202 mh_o rfl ?_
        refine eMO_wordly_205 ?_
        refine eMO_wordly_206 mh_a8 (xn_in hf (by decide)) ?_
        rw [nI_clamp (by omega)]
        refine eMO_wordly_207 ?_
        refine eMO_wordly_209 rfl ?_
        refine eMO_wordly_210 mh_o rfl ?_
        refine eMO_wordly_213 ?_
        refine eMO_wordly_214 rfl ?_
        refine eMO_wordly_215 mh_o rfl ?_
        refine eMO_wordly_218 ?_
        refine eMO_wordly_219 mh_a14 (xn_in hf (by decide)) ?_
        rw [nI_clamp (by omega)]
        rw [h14]
        refine eMO_wordly_220 (fun c220 => ?_) (fun c => absurd c (by decide))
        refine eMO_wordly_238 ?_
        refine eMO_wordly_239 ?_
        refine eMO_wordly_243 mh_a14 (xn_in hf (by decide)) ?_
        rw [mh_p14, nI_clamp (by omega)]
        refine eMO_wordly_244 rfl ?_
        refine eMO_wordly_245 mh_o rfl ?_
        refine eMO_wordly_248 ?_
        refine eMO_wordly_249 ?_
        refine eMO_wordly_251 rfl ?_
        refine eMO_wordly_252 mh_o rfl ?_
        refine eMO_wordly_255 ?_
        refine eMO_wordly_256 mh_a8 (xn_in hf (by decide)) ?_
        rw [nI_clamp (by omega)]
        refine eMO_wordly_257 (fun c257 => ?_) (fun c257 => ?_)
        · refine eMO_wordly_264 rfl ?_
          refine eMO_wordly_265 mh_o rfl ?_
          refine eMO_wordly_268 ?_
          refine eMO_wordly_269 mh_a7 (xn_in hf (by decide)) ?_
          rw [nI_clamp (by omega)]
          refine eMO_wordly_270 mh_a7 (xn_in hf (by decide)) ?_
          rw [mh_p7, nI_clamp (by omega)]
          refine eMO_wordly_271 rfl ?_
          refine eMO_wordly_272 mh_o rfl ?_
          refine eMO_wordly_275 ?_
          refine eMO_wordly_276 ?_
          refine eMO_wordly_278 rfl ?_
          refine eMO_wordly_279 mh_o rfl ?_
          refine eMO_wordly_282 ?_
          refine eMO_wordly_283 mh_a8 (xn_in hf (by decide)) ?_
          rw [nI_clamp (by omega)]
          refine eMO_wordly_284 (fun c284 => ?_) (fun c284 => ?_)
          · refine eMO_wordly_292 rfl ?_
            refine eMO_wordly_293 mh_o rfl ?_
            refine eMO_wordly_296 ?_
            refine eMO_wordly_297 mh_a8 (xn_in hf (by decide)) ?_
            rw [nI_clamp (by omega)]
            refine eMO_wordly_298 mh_a8 (xn_in hf (by decide)) ?_
            rw [mh_p8, nI_clamp (by omega)]
            refine eMO_wordly_299 (kk _ (((frW.rf.up (by omega)).up (by omega)).up (by omega)) rfl rfl rfl ?_)
            rw [show (va_up (va_up (va_up si 14 (upd (si 14) f (vp_nar .boolean 1))) 7 _) 8 _) 14 f = 1 from u1 _]
            exact sh.em
          · refine eMO_wordly_287 ?_
            refine eMO_wordly_289 ?_
            refine eMO_wordly_298 mh_a8 (xn_in hf (by decide)) ?_
            rw [mh_p8, nI_clamp (by omega)]
            refine eMO_wordly_299 (kk _ (((frW.rf.up (by omega)).up (by omega)).up (by omega)) rfl rfl rfl ?_)
            rw [show (va_up (va_up (va_up si 14 (upd (si 14) f (vp_nar .boolean 1))) 7 _) 8 _) 14 f = 1 from u1 _]
            exact sh.em
        · refine eMO_wordly_260 ?_
          refine eMO_wordly_261 ?_
          refine eMO_wordly_270 mh_a7 (xn_in hf (by decide)) ?_
          rw [mh_p7, nI_clamp (by omega)]
          refine eMO_wordly_271 rfl ?_
          refine eMO_wordly_272 mh_o rfl ?_
          refine eMO_wordly_275 ?_
          refine eMO_wordly_276 ?_
          refine eMO_wordly_278 rfl ?_
          refine eMO_wordly_279 mh_o rfl ?_
          refine eMO_wordly_282 ?_
          refine eMO_wordly_283 mh_a8 (xn_in hf (by decide)) ?_
          rw [nI_clamp (by omega)]
          refine eMO_wordly_284 (fun c284 => ?_) (fun c284 => ?_)
          · refine eMO_wordly_292 rfl ?_
            refine eMO_wordly_293 mh_o rfl ?_
            refine eMO_wordly_296 ?_
            refine eMO_wordly_297 mh_a8 (xn_in hf (by decide)) ?_
            rw [nI_clamp (by omega)]
            refine eMO_wordly_298 mh_a8 (xn_in hf (by decide)) ?_
            rw [mh_p8, nI_clamp (by omega)]
            refine eMO_wordly_299 (kk _ (((frW.rf.up (by omega)).up (by omega)).up (by omega)) rfl rfl rfl ?_)
            rw [show (va_up (va_up (va_up si 14 (upd (si 14) f (vp_nar .boolean 1))) 7 _) 8 _) 14 f = 1 from u1 _]
            exact sh.em
          · refine eMO_wordly_287 ?_
            refine eMO_wordly_289 ?_
            refine eMO_wordly_298 mh_a8 (xn_in hf (by decide)) ?_
            rw [mh_p8, nI_clamp (by omega)]
            refine eMO_wordly_299 (kk _ (((frW.rf.up (by omega)).up (by omega)).up (by omega)) rfl rfl rfl ?_)
            rw [show (va_up (va_up (va_up si 14 (upd (si 14) f (vp_nar .boolean 1))) 7 _) 8 _) 14 f = 1 from u1 _]
            exact sh.em
      · refine eMO_wordly_196 ?_
        refine eMO_wordly_198 ?_
        refine eMO_wordly_207 ?_
        refine eMO_wordly_209 rfl ?_
        refine eMO_wordly_210 mh_o rfl ?_
        refine eMO_wordly_213 ?_
        refine eMO_wordly_214 rfl ?_
        refine eMO_wordly_215 mh_o rfl ?_
        refine eMO_wordly_218 ?_
        refine eMO_wordly_219 mh_a14 (xn_in hf (by decide)) ?_
        rw [nI_clamp (by omega)]
        rw [h14]
        refine eMO_wordly_220 (fun c220 => ?_) (fun c => absurd c (by decide))
        refine eMO_wordly_238 ?_
        refine eMO_wordly_239 ?_
        refine eMO_wordly_243 mh_a14 (xn_in hf (by decide)) ?_
        rw [mh_p14, nI_clamp (by omega)]
        refine eMO_wordly_244 rfl ?_
        refine eMO_wordly_245 mh_o rfl ?_
        refine eMO_wordly_248 ?_
        refine eMO_wordly_249 ?_
        refine eMO_wordly_251 rfl ?_
        refine eMO_wordly_252 mh_o rfl ?_
        refine eMO_wordly_255 ?_
        refine eMO_wordly_256 mh_a8 (xn_in hf (by decide)) ?_
        rw [nI_clamp (by omega)]
        refine eMO_wordly_257 (fun c257 => ?_) (fun c257 => ?_)
        · refine eMO_wordly_264 rfl ?_
          refine eMO_wordly_265 mh_o rfl ?_
          refine eMO_wordly_268 ?_
          refine eMO_wordly_269 mh_a7 (xn_in hf (by decide)) ?_
          rw [nI_clamp (by omega)]
          refine eMO_wordly_270 mh_a7 (xn_in hf (by decide)) ?_
          rw [mh_p7, nI_clamp (by omega)]
          refine eMO_wordly_271 rfl ?_
          refine eMO_wordly_272 mh_o rfl ?_
          refine eMO_wordly_275 ?_
          refine eMO_wordly_276 ?_
          refine eMO_wordly_278 rfl ?_
          refine eMO_wordly_279 mh_o rfl ?_
          refine eMO_wordly_282 ?_
          refine eMO_wordly_283 mh_a8 (xn_in hf (by decide)) ?_
          rw [nI_clamp (by omega)]
          refine eMO_wordly_284 (fun c284 => ?_) (fun c284 => ?_)
          · refine eMO_wordly_292 rfl ?_
            refine eMO_wordly_293 mh_o rfl ?_
            refine eMO_wordly_296 ?_
            refine eMO_wordly_297 mh_a8 (xn_in hf (by decide)) ?_
            rw [nI_clamp (by omega)]
            refine eMO_wordly_298 mh_a8 (xn_in hf (by decide)) ?_
            rw [mh_p8, nI_clamp (by omega)]
            refine eMO_wordly_299 (kk _ (((frW.rf.up (by omega)).up (by omega)).up (by omega)) rfl rfl rfl ?_)
            rw [show (va_up (va_up (va_up si 14 (upd (si 14) f (vp_nar .boolean 1))) 7 _) 8 _) 14 f = 1 from u1 _]
            exact sh.em
          · refine eMO_wordly_287 ?_
            refine eMO_wordly_289 ?_
            refine eMO_wordly_298 mh_a8 (xn_in hf (by decide)) ?_
            rw [mh_p8, nI_clamp (by omega)]
            refine eMO_wordly_299 (kk _ (((frW.rf.up (by omega)).up (by omega)).up (by omega)) rfl rfl rfl ?_)
            rw [show (va_up (va_up (va_up si 14 (upd (si 14) f (vp_nar .boolean 1))) 7 _) 8 _) 14 f = 1 from u1 _]
            exact sh.em
        · refine eMO_wordly_260 ?_
          refine eMO_wordly_261 ?_
          refine eMO_wordly_270 mh_a7 (xn_in hf (by decide)) ?_
          rw [mh_p7, nI_clamp (by omega)]
          refine eMO_wordly_271 rfl ?_
          refine eMO_wordly_272 mh_o rfl ?_
          refine eMO_wordly_275 ?_
          refine eMO_wordly_276 ?_
          refine eMO_wordly_278 rfl ?_
          refine eMO_wordly_279 mh_o rfl ?_
          refine eMO_wordly_282 ?_
          refine eMO_wordly_283 mh_a8 (xn_in hf (by decide)) ?_
          rw [nI_clamp (by omega)]
          refine eMO_wordly_284 (fun c284 => ?_) (fun c284 => ?_)
          · refine eMO_wordly_292 rfl ?_
            refine eMO_wordly_293 mh_o rfl ?_
            refine eMO_wordly_296 ?_
            refine eMO_wordly_297 mh_a8 (xn_in hf (by decide)) ?_
            rw [nI_clamp (by omega)]
            refine eMO_wordly_298 mh_a8 (xn_in hf (by decide)) ?_
            rw [mh_p8, nI_clamp (by omega)]
            refine eMO_wordly_299 (kk _ (((frW.rf.up (by omega)).up (by omega)).up (by omega)) rfl rfl rfl ?_)
            rw [show (va_up (va_up (va_up si 14 (upd (si 14) f (vp_nar .boolean 1))) 7 _) 8 _) 14 f = 1 from u1 _]
            exact sh.em
          · refine eMO_wordly_287 ?_
            refine eMO_wordly_289 ?_
            refine eMO_wordly_298 mh_a8 (xn_in hf (by decide)) ?_
            rw [mh_p8, nI_clamp (by omega)]
            refine eMO_wordly_299 (kk _ (((frW.rf.up (by omega)).up (by omega)).up (by omega)) rfl rfl rfl ?_)
            rw [show (va_up (va_up (va_up si 14 (upd (si 14) f (vp_nar .boolean 1))) 7 _) 8 _) 14 f = 1 from u1 _]
            exact sh.em
  · refine eMO_wordly_59 rfl ?_
    refine eMO_wordly_60 mh_o rfl ?_
    refine eMO_wordly_63 ?_
    refine eMO_wordly_64 mh_a13 (xn_in hf (by decide)) ?_
    rw [nI_clamp (by omega)]
    refine eMO_wordly_65 (fun c => absurd c h13) (fun c65 => ?_)
    refine eMO_wordly_68 rfl ?_
    refine eMO_wordly_69 mh_o rfl ?_
    refine eMO_wordly_72 ?_
    refine eMO_wordly_73 rfl ?_
    refine eMO_wordly_74 mh_o rfl ?_
    refine eMO_wordly_77 ?_
    refine eMO_wordly_78 mh_a14 (xn_in hf (by decide)) ?_
    rw [nI_clamp (by omega)]
    rw [h14]
    refine eMO_wordly_79 (fun c79 => ?_) (fun c => absurd c (by decide))
    refine eMO_wordly_115 ?_
    refine eMO_wordly_116 ?_
    refine eMO_wordly_120 mh_a14 (xn_in hf (by decide)) ?_
    rw [mh_p14, nI_clamp (by omega)]
    refine eMO_wordly_121 ?_
    refine eMO_wordly_299 (kk _ (frW.rf.up (by omega)) rfl rfl rfl ?_)
    rw [show (va_up si 14 (upd (si 14) f (vp_nar .boolean 1))) 14 f = 1 from u1 _]
    exact sh.em
/-- a record with one word -/
theorem kMO_wW {f w n w0 n0 : Nat} {al : Bool} {v2 v6 : Option Value} {Φ : Outcome → x_H → Prop} (hf : f < 18) (hn : 1 ≤ n) (hw : wOk w n) (hal : al = true ∨ n ≤ 3) (hn0 : 1 ≤ n0) (hw0 : wOk w0 n0) (h14 : si 14 f = 0) (h13 : si 13 f = 1) (h7 : si 7 f = nI w0)
  (kk : ∀ si', frW f si si' → si' 12 f = si 12 f → si' 9 = si 9 → si' 10 = si 10 → wSh (mxI (nI w0) (nI w)) (mnI (nI w0) (nI (if al then w else w + 32 ^ (4 - n) - 1))) (si' 14 f) (si' 13 f) (si' 7 f) (si' 8 f) → Φ (.returned none) (mh h0 bm ze si')) :
  x_K P (d + 1) mMO_wordly 59 [some (.ref bm), some (.int (nI f)), v2, some (.int (nI w)), some (.int (nI n)), some (.int (b2i al)), v6] [] (mh h0 bm ze si) Φ := by
  have u1 : ∀ g : Nat → Int32, upd g f (vp_nar .boolean 1) f = 1 := fun g => by rw [pk_us]; rfl
  have u0 : ∀ g : Nat → Int32, upd g f (vp_nar .boolean 0) f = 0 := fun g => by rw [pk_us]; rfl
  have b1 := hw.1
  have b2 := hw0.1
  have b3 := wOk_top hw
  have b4 := wP (n := n)
  have hn4 := hw.2.1
  cases al with
  | true =>
    by_cases h1 : w = w0
    · refine eMO_wordly_59 rfl ?_
      refine eMO_wordly_60 mh_o rfl ?_
      refine eMO_wordly_63 ?_
      refine eMO_wordly_64 mh_a13 (xn_in hf (by decide)) ?_
      rw [nI_clamp (by omega)]
      rw [h13]
      refine eMO_wordly_65 (fun c => absurd c (by decide)) (fun c65 => ?_)
      refine eMO_wordly_68 rfl ?_
      refine eMO_wordly_69 mh_o rfl ?_
      refine eMO_wordly_72 ?_
      refine eMO_wordly_73 rfl ?_
      refine eMO_wordly_74 mh_o rfl ?_
      refine eMO_wordly_77 ?_
      refine eMO_wordly_78 mh_a14 (xn_in hf (by decide)) ?_
      rw [nI_clamp (by omega)]
      rw [h14]
      refine eMO_wordly_79 (fun c => absurd rfl c) (fun c79 => ?_)
      refine eMO_wordly_82 ?_
      refine eMO_wordly_84 (fun c => absurd c (by decide)) (fun c84 => ?_)
      refine eMO_wordly_87 ?_
      refine eMO_wordly_88 rfl ?_
      refine eMO_wordly_89 mh_o rfl ?_
      refine eMO_wordly_92 ?_
      refine eMO_wordly_93 mh_a7 (xn_in hf (by decide)) ?_
      rw [nI_clamp (by omega)]
      rw [h7]
      refine eMO_wordly_94 (fun c94 => ?_) (fun c => absurd (by rw [h1]) c)
      refine eMO_wordly_119 ?_
      refine eMO_wordly_120 mh_a14 (xn_in hf (by decide)) ?_
      rw [mh_p14, nI_clamp (by omega)]
      refine eMO_wordly_121 ?_
      refine eMO_wordly_299 (kk _ (frW.rf.up (by omega)) rfl rfl rfl ?_)
      rw [show (va_up si 14 (upd (si 14) f (vp_nar .boolean 0))) 14 f = 0 from u0 _]
      refine Or.inr (Or.inl ⟨rfl, h13, w0, n0, hn0, hw0, h7, ?_, ?_⟩)
      · rw [h1, mxI_nI (by omega) (by omega), Nat.max_self]
      · rw [if_pos rfl, h1, mnI_nI (by omega) (by omega), Nat.min_self]
    · refine eMO_wordly_59 rfl ?_
      refine eMO_wordly_60 mh_o rfl ?_
      refine eMO_wordly_63 ?_
      refine eMO_wordly_64 mh_a13 (xn_in hf (by decide)) ?_
      rw [nI_clamp (by omega)]
      rw [h13]
      refine eMO_wordly_65 (fun c => absurd c (by decide)) (fun c65 => ?_)
      refine eMO_wordly_68 rfl ?_
      refine eMO_wordly_69 mh_o rfl ?_
      refine eMO_wordly_72 ?_
      refine eMO_wordly_73 rfl ?_
      refine eMO_wordly_74 mh_o rfl ?_
      refine eMO_wordly_77 ?_
      refine eMO_wordly_78 mh_a14 (xn_in hf (by decide)) ?_
      rw [nI_clamp (by omega)]
      rw [h14]
      refine eMO_wordly_79 (fun c => absurd rfl c) (fun c79 => ?_)
      refine eMO_wordly_82 ?_
      refine eMO_wordly_84 (fun c => absurd c (by decide)) (fun c84 => ?_)
      refine eMO_wordly_87 ?_
      refine eMO_wordly_88 rfl ?_
      refine eMO_wordly_89 mh_o rfl ?_
      refine eMO_wordly_92 ?_
      refine eMO_wordly_93 mh_a7 (xn_in hf (by decide)) ?_
      rw [nI_clamp (by omega)]
      rw [h7]
      refine eMO_wordly_94 (fun c => absurd ((nI_eq (by omega) (by omega)).mp c) h1) (fun c94 => ?_)
      refine eMO_wordly_97 ?_
      refine eMO_wordly_115 ?_
      refine eMO_wordly_116 ?_
      refine eMO_wordly_120 mh_a14 (xn_in hf (by decide)) ?_
      rw [mh_p14, nI_clamp (by omega)]
      refine eMO_wordly_121 ?_
      refine eMO_wordly_299 (kk _ (frW.rf.up (by omega)) rfl rfl rfl ?_)
      rw [show (va_up si 14 (upd (si 14) f (vp_nar .boolean 1))) 14 f = 1 from u1 _]
      exact wSh.out (by omega) (by omega) (by omega) (by rw [if_pos rfl]; omega) (by rw [if_pos rfl]; omega)
  | false =>
    have hn3 : n ≤ 3 := hal.resolve_left (by decide)
    have hin := wOk_in hw0 hw
    by_cases h1 : w0 / 32 ^ (4 - n) = w / 32 ^ (4 - n)
    · refine eMO_wordly_59 rfl ?_
      refine eMO_wordly_60 mh_o rfl ?_
      refine eMO_wordly_63 ?_
      refine eMO_wordly_64 mh_a13 (xn_in hf (by decide)) ?_
      rw [nI_clamp (by omega)]
      rw [h13]
      refine eMO_wordly_65 (fun c => absurd c (by decide)) (fun c65 => ?_)
      refine eMO_wordly_68 rfl ?_
      refine eMO_wordly_69 mh_o rfl ?_
      refine eMO_wordly_72 ?_
      refine eMO_wordly_73 rfl ?_
      refine eMO_wordly_74 mh_o rfl ?_
      refine eMO_wordly_77 ?_
      refine eMO_wordly_78 mh_a14 (xn_in hf (by decide)) ?_
      rw [nI_clamp (by omega)]
      rw [h14]
      refine eMO_wordly_79 (fun c => absurd rfl c) (fun c79 => ?_)
      refine eMO_wordly_82 ?_
      refine eMO_wordly_84 (fun c84 => ?_) (fun c => absurd rfl c)
      refine eMO_wordly_100 rfl ?_
      refine eMO_wordly_101 mh_o rfl ?_
      refine eMO_wordly_104 ?_
      refine eMO_wordly_105 mh_a7 (xn_in hf (by decide)) ?_
      rw [nI_clamp (by omega)]
      rw [h7]
      refine eMO_wordly_106 ?_
      refine eMO_wordly_107 ?_
      refine eMO_wordly_109 (Nat.le_of_ble_eq_true rfl) (sMO_beginsN hn4 (by omega) (by omega)) ?_
      rintro _ _ ⟨rfl, rfl⟩
      refine ⟨_, rfl, ?_⟩
      rw [decide_eq_true h1]
      refine eMO_wordly_112 (fun c112 => ?_) (fun c => absurd c (by decide))
      refine eMO_wordly_119 ?_
      refine eMO_wordly_120 mh_a14 (xn_in hf (by decide)) ?_
      rw [mh_p14, nI_clamp (by omega)]
      refine eMO_wordly_121 ?_
      refine eMO_wordly_299 (kk _ (frW.rf.up (by omega)) rfl rfl rfl ?_)
      rw [show (va_up si 14 (upd (si 14) f (vp_nar .boolean 0))) 14 f = 0 from u0 _]
      have h2 := wOk_lohi hw h1
      refine Or.inr (Or.inl ⟨rfl, h13, w0, n0, hn0, hw0, h7, ?_, ?_⟩)
      · rw [mxI_nI (by omega) (by omega), Nat.max_eq_left h2.1]
      · rw [if_neg (by decide), mnI_nI (by omega) (by omega), Nat.min_eq_left (by omega)]
    · refine eMO_wordly_59 rfl ?_
      refine eMO_wordly_60 mh_o rfl ?_
      refine eMO_wordly_63 ?_
      refine eMO_wordly_64 mh_a13 (xn_in hf (by decide)) ?_
      rw [nI_clamp (by omega)]
      rw [h13]
      refine eMO_wordly_65 (fun c => absurd c (by decide)) (fun c65 => ?_)
      refine eMO_wordly_68 rfl ?_
      refine eMO_wordly_69 mh_o rfl ?_
      refine eMO_wordly_72 ?_
      refine eMO_wordly_73 rfl ?_
      refine eMO_wordly_74 mh_o rfl ?_
      refine eMO_wordly_77 ?_
      refine eMO_wordly_78 mh_a14 (xn_in hf (by decide)) ?_
      rw [nI_clamp (by omega)]
      rw [h14]
      refine eMO_wordly_79 (fun c => absurd rfl c) (fun c79 => ?_)
      refine eMO_wordly_82 ?_
      refine eMO_wordly_84 (fun c84 => ?_) (fun c => absurd rfl c)
      refine eMO_wordly_100 rfl ?_
      refine eMO_wordly_101 mh_o rfl ?_
      refine eMO_wordly_104 ?_
      refine eMO_wordly_105 mh_a7 (xn_in hf (by decide)) ?_
      rw [nI_clamp (by omega)]
      rw [h7]
      refine eMO_wordly_106 ?_
      refine eMO_wordly_107 ?_
      refine eMO_wordly_109 (Nat.le_of_ble_eq_true rfl) (sMO_beginsN hn4 (by omega) (by omega)) ?_
      rintro _ _ ⟨rfl, rfl⟩
      refine ⟨_, rfl, ?_⟩
      rw [decide_eq_false h1]
      refine eMO_wordly_112 (fun c => absurd rfl c) (fun c112 => ?_)
      refine eMO_wordly_115 ?_
      refine eMO_wordly_116 ?_
      refine eMO_wordly_120 mh_a14 (xn_in hf (by decide)) ?_
      rw [mh_p14, nI_clamp (by omega)]
      refine eMO_wordly_121 ?_
      refine eMO_wordly_299 (kk _ (frW.rf.up (by omega)) rfl rfl rfl ?_)
      rw [show (va_up si 14 (upd (si 14) f (vp_nar .boolean 1))) 14 f = 1 from u1 _]
      have h2 := wOk_lohi2 hw h1
      exact wSh.out (by omega) (by omega) (by omega) (by rw [if_neg (by decide)]; omega) (by rw [if_neg (by decide)]; omega)
/-- a record with a beginning -/
theorem kMO_wP {f w n w0 n0 : Nat} {al : Bool} {v2 v6 : Option Value} {Φ : Outcome → x_H → Prop} (hf : f < 18) (hn : 1 ≤ n) (hw : wOk w n) (hal : al = true ∨ n ≤ 3) (hn0 : n0 ≤ 3) (hw0 : wOk w0 n0) (h14 : si 14 f = 0) (h13 : si 13 f = 0) (h7 : si 7 f = nI w0) (h8 : si 8 f = nI n0)
  (kk : ∀ si', frW f si si' → si' 12 f = si 12 f → si' 9 = si 9 → si' 10 = si 10 → wSh (mxI (nI (max 1 w0)) (nI w)) (mnI (nI (w0 + 32 ^ (4 - n0) - 1)) (nI (if al then w else w + 32 ^ (4 - n) - 1))) (si' 14 f) (si' 13 f) (si' 7 f) (si' 8 f) → Φ (.returned none) (mh h0 bm ze si')) :
  x_K P (d + 1) mMO_wordly 59 [some (.ref bm), some (.int (nI f)), v2, some (.int (nI w)), some (.int (nI n)), some (.int (b2i al)), v6] [] (mh h0 bm ze si) Φ := by
  have u1 : ∀ g : Nat → Int32, upd g f (vp_nar .boolean 1) f = 1 := fun g => by rw [pk_us]; rfl
  have u0 : ∀ g : Nat → Int32, upd g f (vp_nar .boolean 0) f = 0 := fun g => by rw [pk_us]; rfl
  have b1 := hw.1
  have b2 := hw0.1
  have b3 := wOk_top hw
  have b4 := wP (n := n)
  have b5 := wOk_top hw0
  have b6 := wP (n := n0)
  have b7 := wOk_1 hw hn
  have hn4 := hw.2.1
  cases al with
  | true =>
    by_cases h1 : w / 32 ^ (4 - n0) = w0 / 32 ^ (4 - n0)
    · refine eMO_wordly_59 rfl ?_
      refine eMO_wordly_60 mh_o rfl ?_
      refine eMO_wordly_63 ?_
      refine eMO_wordly_64 mh_a13 (xn_in hf (by decide)) ?_
      rw [nI_clamp (by omega)]
      rw [h13]
      refine eMO_wordly_65 (fun c65 => ?_) (fun c => absurd rfl c)
      refine eMO_wordly_124 ?_
      refine eMO_wordly_126 (fun c => absurd c (by decide)) (fun c126 => ?_)
      refine eMO_wordly_129 rfl ?_
      refine eMO_wordly_130 mh_o rfl ?_
      refine eMO_wordly_133 ?_
      refine eMO_wordly_134 rfl ?_
      refine eMO_wordly_135 mh_o rfl ?_
      refine eMO_wordly_138 ?_
      refine eMO_wordly_139 mh_a14 (xn_in hf (by decide)) ?_
      rw [nI_clamp (by omega)]
      rw [h14]
      refine eMO_wordly_140 (fun c => absurd rfl c) (fun c140 => ?_)
      refine eMO_wordly_143 ?_
      refine eMO_wordly_144 rfl ?_
      refine eMO_wordly_145 mh_o rfl ?_
      refine eMO_wordly_148 ?_
      refine eMO_wordly_149 mh_a7 (xn_in hf (by decide)) ?_
      rw [nI_clamp (by omega)]
      rw [h7]
      refine eMO_wordly_150 rfl ?_
      refine eMO_wordly_151 mh_o rfl ?_
      refine eMO_wordly_154 ?_
      refine eMO_wordly_155 mh_a8 (xn_in hf (by decide)) ?_
      rw [nI_clamp (by omega)]
      rw [h8]
      refine eMO_wordly_156 (Nat.le_of_ble_eq_true rfl) (sMO_beginsN (by omega) (by omega) (by omega)) ?_
      rintro _ _ ⟨rfl, rfl⟩
      refine ⟨_, rfl, ?_⟩
      rw [decide_eq_true h1]
      refine eMO_wordly_159 (fun c159 => ?_) (fun c => absurd c (by decide))
      refine eMO_wordly_166 ?_
      refine eMO_wordly_167 mh_a14 (xn_in hf (by decide)) ?_
      rw [mh_p14, nI_clamp (by omega)]
      refine eMO_wordly_168 rfl ?_
      refine eMO_wordly_169 mh_o rfl ?_
      refine eMO_wordly_172 ?_
      refine eMO_wordly_173 ?_
      refine eMO_wordly_174 mh_a7 (xn_in hf (by decide)) ?_
      rw [mh_p7, nI_clamp (by omega)]
      refine eMO_wordly_175 rfl ?_
      refine eMO_wordly_176 mh_o rfl ?_
      refine eMO_wordly_179 ?_
      refine eMO_wordly_180 ?_
      refine eMO_wordly_181 mh_a13 (xn_in hf (by decide)) ?_
      rw [mh_p13, nI_clamp (by omega)]
      refine eMO_wordly_182 ?_
      refine eMO_wordly_299 (kk _ (((frW.rf.up (by omega)).up (by omega)).up (by omega)) rfl rfl rfl ?_)
      have h2 := wOk_lohi hw0 h1
      refine Or.inr (Or.inl ⟨u0 _, u1 _, w, n, hn, hw, pk_us, ?_, ?_⟩)
      · rw [mxI_nI (by omega) (by omega), Nat.max_eq_right (by omega)]
      · rw [if_pos rfl, mnI_nI (by omega) (by omega), Nat.min_eq_right (by omega)]
    · refine eMO_wordly_59 rfl ?_
      refine eMO_wordly_60 mh_o rfl ?_
      refine eMO_wordly_63 ?_
      refine eMO_wordly_64 mh_a13 (xn_in hf (by decide)) ?_
      rw [nI_clamp (by omega)]
      rw [h13]
      refine eMO_wordly_65 (fun c65 => ?_) (fun c => absurd rfl c)
      refine eMO_wordly_124 ?_
      refine eMO_wordly_126 (fun c => absurd c (by decide)) (fun c126 => ?_)
      refine eMO_wordly_129 rfl ?_
      refine eMO_wordly_130 mh_o rfl ?_
      refine eMO_wordly_133 ?_
      refine eMO_wordly_134 rfl ?_
      refine eMO_wordly_135 mh_o rfl ?_
      refine eMO_wordly_138 ?_
      refine eMO_wordly_139 mh_a14 (xn_in hf (by decide)) ?_
      rw [nI_clamp (by omega)]
      rw [h14]
      refine eMO_wordly_140 (fun c => absurd rfl c) (fun c140 => ?_)
      refine eMO_wordly_143 ?_
      refine eMO_wordly_144 rfl ?_
      refine eMO_wordly_145 mh_o rfl ?_
      refine eMO_wordly_148 ?_
      refine eMO_wordly_149 mh_a7 (xn_in hf (by decide)) ?_
      rw [nI_clamp (by omega)]
      rw [h7]
      refine eMO_wordly_150 rfl ?_
      refine eMO_wordly_151 mh_o rfl ?_
      refine eMO_wordly_154 ?_
      refine eMO_wordly_155 mh_a8 (xn_in hf (by decide)) ?_
      rw [nI_clamp (by omega)]
      rw [h8]
      refine eMO_wordly_156 (Nat.le_of_ble_eq_true rfl) (sMO_beginsN (by omega) (by omega) (by omega)) ?_
      rintro _ _ ⟨rfl, rfl⟩
      refine ⟨_, rfl, ?_⟩
      rw [decide_eq_false h1]
      refine eMO_wordly_159 (fun c => absurd rfl c) (fun c159 => ?_)
      refine eMO_wordly_162 ?_
      refine eMO_wordly_163 ?_
      refine eMO_wordly_167 mh_a14 (xn_in hf (by decide)) ?_
      rw [mh_p14, nI_clamp (by omega)]
      refine eMO_wordly_168 rfl ?_
      refine eMO_wordly_169 mh_o rfl ?_
      refine eMO_wordly_172 ?_
      refine eMO_wordly_173 ?_
      refine eMO_wordly_174 mh_a7 (xn_in hf (by decide)) ?_
      rw [mh_p7, nI_clamp (by omega)]
      refine eMO_wordly_175 rfl ?_
      refine eMO_wordly_176 mh_o rfl ?_
      refine eMO_wordly_179 ?_
      refine eMO_wordly_180 ?_
      refine eMO_wordly_181 mh_a13 (xn_in hf (by decide)) ?_
      rw [mh_p13, nI_clamp (by omega)]
      refine eMO_wordly_182 ?_
      refine eMO_wordly_299 (kk _ (((frW.rf.up (by omega)).up (by omega)).up (by omega)) rfl rfl rfl ?_)
      have h2 := wOk_lohi2 hw0 h1
      rw [show (va_up (va_up (va_up si 14 (upd (si 14) f (vp_nar .boolean 1))) 7 _) 13 _) 14 f = 1 from u1 _]
      exact wSh.out (by omega) (by omega) (by omega) (by rw [if_pos rfl]; omega) (by rw [if_pos rfl]; omega)
  | false =>
    have hn3 : n ≤ 3 := hal.resolve_left (by decide)
    by_cases hlt : n < n0
    · by_cases h1 : w / 32 ^ (4 - n) = w0 / 32 ^ (4 - n)
      · refine eMO_wordly_59 rfl ?_
        refine eMO_wordly_60 mh_o rfl ?_
        refine eMO_wordly_63 ?_
        refine eMO_wordly_64 mh_a13 (xn_in hf (by decide)) ?_
        rw [nI_clamp (by omega)]
        rw [h13]
        refine eMO_wordly_65 (fun c65 => ?_) (fun c => absurd rfl c)
        refine eMO_wordly_124 ?_
        refine eMO_wordly_126 (fun c126 => ?_) (fun c => absurd rfl c)
        refine eMO_wordly_185 ?_
        refine eMO_wordly_187 rfl ?_
        refine eMO_wordly_188 mh_o rfl ?_
        refine eMO_wordly_191 ?_
        refine eMO_wordly_192 mh_a8 (xn_in hf (by decide)) ?_
        rw [nI_clamp (by omega)]
        rw [h8]
        refine eMO_wordly_193 (fun c => absurd c (nI_ge hlt (by omega))) (fun c193 => ?_)
        refine eMO_wordly_196 ?_
        refine eMO_wordly_198 ?_
        refine eMO_wordly_207 ?_
        refine eMO_wordly_209 rfl ?_
        refine eMO_wordly_210 mh_o rfl ?_
        refine eMO_wordly_213 ?_
        refine eMO_wordly_214 rfl ?_
        refine eMO_wordly_215 mh_o rfl ?_
        refine eMO_wordly_218 ?_
        refine eMO_wordly_219 mh_a14 (xn_in hf (by decide)) ?_
        rw [nI_clamp (by omega)]
        rw [h14]
        refine eMO_wordly_220 (fun c => absurd rfl c) (fun c220 => ?_)
        refine eMO_wordly_223 ?_
        refine eMO_wordly_224 rfl ?_
        refine eMO_wordly_225 mh_o rfl ?_
        refine eMO_wordly_228 ?_
        refine eMO_wordly_229 mh_a7 (xn_in hf (by decide)) ?_
        rw [nI_clamp (by omega)]
        rw [h7]
        refine eMO_wordly_230 ?_
        refine eMO_wordly_232 (Nat.le_of_ble_eq_true rfl) (sMO_beginsN (by omega) (by omega) (by omega)) ?_
        rintro _ _ ⟨rfl, rfl⟩
        refine ⟨_, rfl, ?_⟩
        rw [decide_eq_true h1]
        refine eMO_wordly_235 (fun c235 => ?_) (fun c => absurd c (by decide))
        refine eMO_wordly_242 ?_
        refine eMO_wordly_243 mh_a14 (xn_in hf (by decide)) ?_
        rw [mh_p14, nI_clamp (by omega)]
        refine eMO_wordly_244 rfl ?_
        refine eMO_wordly_245 mh_o rfl ?_
        refine eMO_wordly_248 ?_
        refine eMO_wordly_249 ?_
        refine eMO_wordly_251 rfl ?_
        refine eMO_wordly_252 mh_o rfl ?_
        refine eMO_wordly_255 ?_
        refine eMO_wordly_256 mh_a8 (xn_in hf (by decide)) ?_
        rw [nI_clamp (by omega)]
        rw [vu14_8, h8]
        refine eMO_wordly_257 (fun c257 => ?_) (fun c => absurd (nI_le (by omega) (by omega)) c)
        refine eMO_wordly_264 rfl ?_
        refine eMO_wordly_265 mh_o rfl ?_
        refine eMO_wordly_268 ?_
        refine eMO_wordly_269 mh_a7 (xn_in hf (by decide)) ?_
        rw [nI_clamp (by omega)]
        rw [vu14_7, h7]
        refine eMO_wordly_270 mh_a7 (xn_in hf (by decide)) ?_
        rw [mh_p7, nI_clamp (by omega)]
        refine eMO_wordly_271 rfl ?_
        refine eMO_wordly_272 mh_o rfl ?_
        refine eMO_wordly_275 ?_
        refine eMO_wordly_276 ?_
        refine eMO_wordly_278 rfl ?_
        refine eMO_wordly_279 mh_o rfl ?_
        refine eMO_wordly_282 ?_
        refine eMO_wordly_283 mh_a8 (xn_in hf (by decide)) ?_
        rw [nI_clamp (by omega)]
        rw [vu7_8, vu14_8, h8]
        refine eMO_wordly_284 (fun c284 => ?_) (fun c => absurd (nI_le (by omega) (by omega)) c)
        refine eMO_wordly_292 rfl ?_
        refine eMO_wordly_293 mh_o rfl ?_
        refine eMO_wordly_296 ?_
        refine eMO_wordly_297 mh_a8 (xn_in hf (by decide)) ?_
        rw [nI_clamp (by omega)]
        rw [vu7_8, vu14_8, h8]
        refine eMO_wordly_298 mh_a8 (xn_in hf (by decide)) ?_
        rw [mh_p8, nI_clamp (by omega)]
        refine eMO_wordly_299 (kk _ (((frW.rf.up (by omega)).up (by omega)).up (by omega)) rfl rfl rfl ?_)
        have h2 := (wOk_in hw0 hw (by omega)).mp h1.symm
        refine Or.inr (Or.inr ⟨u0 _, h13, w0, n0, hn0, hw0, pk_us, pk_us, ?_, ?_⟩)
        · rw [mxI_nI (by omega) (by omega), Nat.max_eq_left (by omega)]
        · rw [if_neg (by decide), mnI_nI (by omega) (by omega), Nat.min_eq_left (by omega)]
      · refine eMO_wordly_59 rfl ?_
        refine eMO_wordly_60 mh_o rfl ?_
        refine eMO_wordly_63 ?_
        refine eMO_wordly_64 mh_a13 (xn_in hf (by decide)) ?_
        rw [nI_clamp (by omega)]
        rw [h13]
        refine eMO_wordly_65 (fun c65 => ?_) (fun c => absurd rfl c)
        refine eMO_wordly_124 ?_
        refine eMO_wordly_126 (fun c126 => ?_) (fun c => absurd rfl c)
        refine eMO_wordly_185 ?_
        refine eMO_wordly_187 rfl ?_
        refine eMO_wordly_188 mh_o rfl ?_
        refine eMO_wordly_191 ?_
        refine eMO_wordly_192 mh_a8 (xn_in hf (by decide)) ?_
        rw [nI_clamp (by omega)]
        rw [h8]
        refine eMO_wordly_193 (fun c => absurd c (nI_ge hlt (by omega))) (fun c193 => ?_)
        refine eMO_wordly_196 ?_
        refine eMO_wordly_198 ?_
        refine eMO_wordly_207 ?_
        refine eMO_wordly_209 rfl ?_
        refine eMO_wordly_210 mh_o rfl ?_
        refine eMO_wordly_213 ?_
        refine eMO_wordly_214 rfl ?_
        refine eMO_wordly_215 mh_o rfl ?_
        refine eMO_wordly_218 ?_
        refine eMO_wordly_219 mh_a14 (xn_in hf (by decide)) ?_
        rw [nI_clamp (by omega)]
        rw [h14]
        refine eMO_wordly_220 (fun c => absurd rfl c) (fun c220 => ?_)
        refine eMO_wordly_223 ?_
        refine eMO_wordly_224 rfl ?_
        refine eMO_wordly_225 mh_o rfl ?_
        refine eMO_wordly_228 ?_
        refine eMO_wordly_229 mh_a7 (xn_in hf (by decide)) ?_
        rw [nI_clamp (by omega)]
        rw [h7]
        refine eMO_wordly_230 ?_
        refine eMO_wordly_232 (Nat.le_of_ble_eq_true rfl) (sMO_beginsN (by omega) (by omega) (by omega)) ?_
        rintro _ _ ⟨rfl, rfl⟩
        refine ⟨_, rfl, ?_⟩
        rw [decide_eq_false h1]
        refine eMO_wordly_235 (fun c => absurd rfl c) (fun c235 => ?_)
        refine eMO_wordly_238 ?_
        refine eMO_wordly_239 ?_
        refine eMO_wordly_243 mh_a14 (xn_in hf (by decide)) ?_
        rw [mh_p14, nI_clamp (by omega)]
        refine eMO_wordly_244 rfl ?_
        refine eMO_wordly_245 mh_o rfl ?_
        refine eMO_wordly_248 ?_
        refine eMO_wordly_249 ?_
        refine eMO_wordly_251 rfl ?_
        refine eMO_wordly_252 mh_o rfl ?_
        refine eMO_wordly_255 ?_
        refine eMO_wordly_256 mh_a8 (xn_in hf (by decide)) ?_
        rw [nI_clamp (by omega)]
        rw [vu14_8, h8]
        refine eMO_wordly_257 (fun c257 => ?_) (fun c => absurd (nI_le (by omega) (by omega)) c)
        refine eMO_wordly_264 rfl ?_
        refine eMO_wordly_265 mh_o rfl ?_
        refine eMO_wordly_268 ?_
        refine eMO_wordly_269 mh_a7 (xn_in hf (by decide)) ?_
        rw [nI_clamp (by omega)]
        rw [vu14_7, h7]
        refine eMO_wordly_270 mh_a7 (xn_in hf (by decide)) ?_
        rw [mh_p7, nI_clamp (by omega)]
        refine eMO_wordly_271 rfl ?_
        refine eMO_wordly_272 mh_o rfl ?_
        refine eMO_wordly_275 ?_
        refine eMO_wordly_276 ?_
        refine eMO_wordly_278 rfl ?_
        refine eMO_wordly_279 mh_o rfl ?_
        refine eMO_wordly_282 ?_
        refine eMO_wordly_283 mh_a8 (xn_in hf (by decide)) ?_
        rw [nI_clamp (by omega)]
        rw [vu7_8, vu14_8, h8]
        refine eMO_wordly_284 (fun c284 => ?_) (fun c => absurd (nI_le (by omega) (by omega)) c)
        refine eMO_wordly_292 rfl ?_
        refine eMO_wordly_293 mh_o rfl ?_
        refine eMO_wordly_296 ?_
        refine eMO_wordly_297 mh_a8 (xn_in hf (by decide)) ?_
        rw [nI_clamp (by omega)]
        rw [vu7_8, vu14_8, h8]
        refine eMO_wordly_298 mh_a8 (xn_in hf (by decide)) ?_
        rw [mh_p8, nI_clamp (by omega)]
        refine eMO_wordly_299 (kk _ (((frW.rf.up (by omega)).up (by omega)).up (by omega)) rfl rfl rfl ?_)
        have h2 := wOk_out hw0 hw (by omega) (fun z => h1 z.symm)
        rw [show (va_up (va_up (va_up si 14 (upd (si 14) f (vp_nar .boolean 1))) 7 _) 8 _) 14 f = 1 from u1 _]
        exact wSh.out (by omega) (by omega) (by omega) (by rw [if_neg (by decide)]; omega) (by rw [if_neg (by decide)]; omega)
    · by_cases h1 : w / 32 ^ (4 - n0) = w0 / 32 ^ (4 - n0)
      · have h2 := (wOk_in hw hw0 (by omega)).mp h1
        by_cases hgt : n0 < n
        · refine eMO_wordly_59 rfl ?_
          refine eMO_wordly_60 mh_o rfl ?_
          refine eMO_wordly_63 ?_
          refine eMO_wordly_64 mh_a13 (xn_in hf (by decide)) ?_
          rw [nI_clamp (by omega)]
          rw [h13]
          refine eMO_wordly_65 (fun c65 => ?_) (fun c => absurd rfl c)
          refine eMO_wordly_124 ?_
          refine eMO_wordly_126 (fun c126 => ?_) (fun c => absurd rfl c)
          refine eMO_wordly_185 ?_
          refine eMO_wordly_187 rfl ?_
          refine eMO_wordly_188 mh_o rfl ?_
          refine eMO_wordly_191 ?_
          refine eMO_wordly_192 mh_a8 (xn_in hf (by decide)) ?_
          rw [nI_clamp (by omega)]
          rw [h8]
          refine eMO_wordly_193 (fun c193 => ?_) (fun c => absurd (nI_le (by omega) (by omega)) c)
          refine eMO_wordly_201 rfl ?_
          refine eMO_wordly_202 mh_o rfl ?_
          refine eMO_wordly_205 ?_
          refine eMO_wordly_206 mh_a8 (xn_in hf (by decide)) ?_
          rw [nI_clamp (by omega)]
          rw [h8]
          refine eMO_wordly_207 ?_
          refine eMO_wordly_209 rfl ?_
          refine eMO_wordly_210 mh_o rfl ?_
          refine eMO_wordly_213 ?_
          refine eMO_wordly_214 rfl ?_
          refine eMO_wordly_215 mh_o rfl ?_
          refine eMO_wordly_218 ?_
          refine eMO_wordly_219 mh_a14 (xn_in hf (by decide)) ?_
          rw [nI_clamp (by omega)]
          rw [h14]
          refine eMO_wordly_220 (fun c => absurd rfl c) (fun c220 => ?_)
          refine eMO_wordly_223 ?_
          refine eMO_wordly_224 rfl ?_
          refine eMO_wordly_225 mh_o rfl ?_
          refine eMO_wordly_228 ?_
          refine eMO_wordly_229 mh_a7 (xn_in hf (by decide)) ?_
          rw [nI_clamp (by omega)]
          rw [h7]
          refine eMO_wordly_230 ?_
          refine eMO_wordly_232 (Nat.le_of_ble_eq_true rfl) (sMO_beginsN (by omega) (by omega) (by omega)) ?_
          rintro _ _ ⟨rfl, rfl⟩
          refine ⟨_, rfl, ?_⟩
          rw [decide_eq_true h1]
          refine eMO_wordly_235 (fun c235 => ?_) (fun c => absurd c (by decide))
          refine eMO_wordly_242 ?_
          refine eMO_wordly_243 mh_a14 (xn_in hf (by decide)) ?_
          rw [mh_p14, nI_clamp (by omega)]
          refine eMO_wordly_244 rfl ?_
          refine eMO_wordly_245 mh_o rfl ?_
          refine eMO_wordly_248 ?_
          refine eMO_wordly_249 ?_
          refine eMO_wordly_251 rfl ?_
          refine eMO_wordly_252 mh_o rfl ?_
          refine eMO_wordly_255 ?_
          refine eMO_wordly_256 mh_a8 (xn_in hf (by decide)) ?_
          rw [nI_clamp (by omega)]
          rw [vu14_8, h8]
          refine eMO_wordly_257 (fun c => absurd c (nI_ge hgt (by omega))) (fun c257 => ?_)
          refine eMO_wordly_260 ?_
          refine eMO_wordly_261 ?_
          refine eMO_wordly_270 mh_a7 (xn_in hf (by decide)) ?_
          rw [mh_p7, nI_clamp (by omega)]
          refine eMO_wordly_271 rfl ?_
          refine eMO_wordly_272 mh_o rfl ?_
          refine eMO_wordly_275 ?_
          refine eMO_wordly_276 ?_
          refine eMO_wordly_278 rfl ?_
          refine eMO_wordly_279 mh_o rfl ?_
          refine eMO_wordly_282 ?_
          refine eMO_wordly_283 mh_a8 (xn_in hf (by decide)) ?_
          rw [nI_clamp (by omega)]
          rw [vu7_8, vu14_8, h8]
          refine eMO_wordly_284 (fun c => absurd c (nI_ge hgt (by omega))) (fun c284 => ?_)
          refine eMO_wordly_287 ?_
          refine eMO_wordly_289 ?_
          refine eMO_wordly_298 mh_a8 (xn_in hf (by decide)) ?_
          rw [mh_p8, nI_clamp (by omega)]
          refine eMO_wordly_299 (kk _ (((frW.rf.up (by omega)).up (by omega)).up (by omega)) rfl rfl rfl ?_)
          refine Or.inr (Or.inr ⟨u0 _, h13, w, n, hn3, hw, pk_us, pk_us, ?_, ?_⟩)
          · rw [mxI_nI (by omega) (by omega)]
            congr 1
            omega
          · rw [if_neg (by decide), mnI_nI (by omega) (by omega), Nat.min_eq_right (by omega)]
        · have en : n = n0 := by omega
          subst en
          have ew : w = w0 := by omega
          subst ew
          refine eMO_wordly_59 rfl ?_
          refine eMO_wordly_60 mh_o rfl ?_
          refine eMO_wordly_63 ?_
          refine eMO_wordly_64 mh_a13 (xn_in hf (by decide)) ?_
          rw [nI_clamp (by omega)]
          rw [h13]
          refine eMO_wordly_65 (fun c65 => ?_) (fun c => absurd rfl c)
          refine eMO_wordly_124 ?_
          refine eMO_wordly_126 (fun c126 => ?_) (fun c => absurd rfl c)
          refine eMO_wordly_185 ?_
          refine eMO_wordly_187 rfl ?_
          refine eMO_wordly_188 mh_o rfl ?_
          refine eMO_wordly_191 ?_
          refine eMO_wordly_192 mh_a8 (xn_in hf (by decide)) ?_
          rw [nI_clamp (by omega)]
          rw [h8]
          refine eMO_wordly_193 (fun c193 => ?_) (fun c => absurd (nI_le (by omega) (by omega)) c)
          refine eMO_wordly_201 rfl ?_
          refine eMO_wordly_202 mh_o rfl ?_
          refine eMO_wordly_205 ?_
          refine eMO_wordly_206 mh_a8 (xn_in hf (by decide)) ?_
          rw [nI_clamp (by omega)]
          rw [h8]
          refine eMO_wordly_207 ?_
          refine eMO_wordly_209 rfl ?_
          refine eMO_wordly_210 mh_o rfl ?_
          refine eMO_wordly_213 ?_
          refine eMO_wordly_214 rfl ?_
          refine eMO_wordly_215 mh_o rfl ?_
          refine eMO_wordly_218 ?_
          refine eMO_wordly_219 mh_a14 (xn_in hf (by decide)) ?_
          rw [nI_clamp (by omega)]
          rw [h14]
          refine eMO_wordly_220 (fun c => absurd rfl c) (fun c220 => ?_)
          refine eMO_wordly_223 ?_
          refine eMO_wordly_224 rfl ?_
          refine eMO_wordly_225 mh_o rfl ?_
          refine eMO_wordly_228 ?_
          refine eMO_wordly_229 mh_a7 (xn_in hf (by decide)) ?_
          rw [nI_clamp (by omega)]
          rw [h7]
          refine eMO_wordly_230 ?_
          refine eMO_wordly_232 (Nat.le_of_ble_eq_true rfl) (sMO_beginsN (by omega) (by omega) (by omega)) ?_
          rintro _ _ ⟨rfl, rfl⟩
          refine ⟨_, rfl, ?_⟩
          rw [decide_eq_true h1]
          refine eMO_wordly_235 (fun c235 => ?_) (fun c => absurd c (by decide))
          refine eMO_wordly_242 ?_
          refine eMO_wordly_243 mh_a14 (xn_in hf (by decide)) ?_
          rw [mh_p14, nI_clamp (by omega)]
          refine eMO_wordly_244 rfl ?_
          refine eMO_wordly_245 mh_o rfl ?_
          refine eMO_wordly_248 ?_
          refine eMO_wordly_249 ?_
          refine eMO_wordly_251 rfl ?_
          refine eMO_wordly_252 mh_o rfl ?_
          refine eMO_wordly_255 ?_
          refine eMO_wordly_256 mh_a8 (xn_in hf (by decide)) ?_
          rw [nI_clamp (by omega)]
          rw [vu14_8, h8]
          refine eMO_wordly_257 (fun c257 => ?_) (fun c => absurd (nI_le (by omega) (by omega)) c)
          refine eMO_wordly_264 rfl ?_
          refine eMO_wordly_265 mh_o rfl ?_
          refine eMO_wordly_268 ?_
          refine eMO_wordly_269 mh_a7 (xn_in hf (by decide)) ?_
          rw [nI_clamp (by omega)]
          rw [vu14_7, h7]
          refine eMO_wordly_270 mh_a7 (xn_in hf (by decide)) ?_
          rw [mh_p7, nI_clamp (by omega)]
          refine eMO_wordly_271 rfl ?_
          refine eMO_wordly_272 mh_o rfl ?_
          refine eMO_wordly_275 ?_
          refine eMO_wordly_276 ?_
          refine eMO_wordly_278 rfl ?_
          refine eMO_wordly_279 mh_o rfl ?_
          refine eMO_wordly_282 ?_
          refine eMO_wordly_283 mh_a8 (xn_in hf (by decide)) ?_
          rw [nI_clamp (by omega)]
          rw [vu7_8, vu14_8, h8]
          refine eMO_wordly_284 (fun c284 => ?_) (fun c => absurd (nI_le (by omega) (by omega)) c)
          refine eMO_wordly_292 rfl ?_
          refine eMO_wordly_293 mh_o rfl ?_
          refine eMO_wordly_296 ?_
          refine eMO_wordly_297 mh_a8 (xn_in hf (by decide)) ?_
          rw [nI_clamp (by omega)]
          rw [vu7_8, vu14_8, h8]
          refine eMO_wordly_298 mh_a8 (xn_in hf (by decide)) ?_
          rw [mh_p8, nI_clamp (by omega)]
          refine eMO_wordly_299 (kk _ (((frW.rf.up (by omega)).up (by omega)).up (by omega)) rfl rfl rfl ?_)
          refine Or.inr (Or.inr ⟨u0 _, h13, w, n, hn3, hw, pk_us, pk_us, ?_, ?_⟩)
          · rw [mxI_nI (by omega) (by omega)]
            congr 1
            omega
          · rw [if_neg (by decide), mnI_nI (by omega) (by omega), Nat.min_self]
      · have h2 := wOk_out hw hw0 (by omega) h1
        refine eMO_wordly_59 rfl ?_
        refine eMO_wordly_60 mh_o rfl ?_
        refine eMO_wordly_63 ?_
        refine eMO_wordly_64 mh_a13 (xn_in hf (by decide)) ?_
        rw [nI_clamp (by omega)]
        rw [h13]
        refine eMO_wordly_65 (fun c65 => ?_) (fun c => absurd rfl c)
        refine eMO_wordly_124 ?_
        refine eMO_wordly_126 (fun c126 => ?_) (fun c => absurd rfl c)
        refine eMO_wordly_185 ?_
        refine eMO_wordly_187 rfl ?_
        refine eMO_wordly_188 mh_o rfl ?_
        refine eMO_wordly_191 ?_
        refine eMO_wordly_192 mh_a8 (xn_in hf (by decide)) ?_
        rw [nI_clamp (by omega)]
        rw [h8]
        refine eMO_wordly_193 (fun c193 => ?_) (fun c => absurd (nI_le (by omega) (by omega)) c)
        refine eMO_wordly_201 rfl ?_
        refine eMO_wordly_202 mh_o rfl ?_
        refine eMO_wordly_205 ?_
        refine eMO_wordly_206 mh_a8 (xn_in hf (by decide)) ?_
        rw [nI_clamp (by omega)]
        rw [h8]
        refine eMO_wordly_207 ?_
        refine eMO_wordly_209 rfl ?_
        refine eMO_wordly_210 mh_o rfl ?_
        refine eMO_wordly_213 ?_
        refine eMO_wordly_214 rfl ?_
        refine eMO_wordly_215 mh_o rfl ?_
        refine eMO_wordly_218 ?_
        refine eMO_wordly_219 mh_a14 (xn_in hf (by decide)) ?_
        rw [nI_clamp (by omega)]
        rw [h14]
        refine eMO_wordly_220 (fun c => absurd rfl c) (fun c220 => ?_)
        refine eMO_wordly_223 ?_
        refine eMO_wordly_224 rfl ?_
        refine eMO_wordly_225 mh_o rfl ?_
        refine eMO_wordly_228 ?_
        refine eMO_wordly_229 mh_a7 (xn_in hf (by decide)) ?_
        rw [nI_clamp (by omega)]
        rw [h7]
        refine eMO_wordly_230 ?_
        refine eMO_wordly_232 (Nat.le_of_ble_eq_true rfl) (sMO_beginsN (by omega) (by omega) (by omega)) ?_
        rintro _ _ ⟨rfl, rfl⟩
        refine ⟨_, rfl, ?_⟩
        rw [decide_eq_false h1]
        refine eMO_wordly_235 (fun c => absurd rfl c) (fun c235 => ?_)
        refine eMO_wordly_238 ?_
        refine eMO_wordly_239 ?_
        refine eMO_wordly_243 mh_a14 (xn_in hf (by decide)) ?_
        rw [mh_p14, nI_clamp (by omega)]
        refine eMO_wordly_244 rfl ?_
        refine eMO_wordly_245 mh_o rfl ?_
        refine eMO_wordly_248 ?_
        refine eMO_wordly_249 ?_
        refine eMO_wordly_251 rfl ?_
        refine eMO_wordly_252 mh_o rfl ?_
        refine eMO_wordly_255 ?_
        refine eMO_wordly_256 mh_a8 (xn_in hf (by decide)) ?_
        rw [nI_clamp (by omega)]
        refine eMO_wordly_257 (fun c257 => ?_) (fun c257 => ?_)
        · refine eMO_wordly_264 rfl ?_
          refine eMO_wordly_265 mh_o rfl ?_
          refine eMO_wordly_268 ?_
          refine eMO_wordly_269 mh_a7 (xn_in hf (by decide)) ?_
          rw [nI_clamp (by omega)]
          refine eMO_wordly_270 mh_a7 (xn_in hf (by decide)) ?_
          rw [mh_p7, nI_clamp (by omega)]
          refine eMO_wordly_271 rfl ?_
          refine eMO_wordly_272 mh_o rfl ?_
          refine eMO_wordly_275 ?_
          refine eMO_wordly_276 ?_
          refine eMO_wordly_278 rfl ?_
          refine eMO_wordly_279 mh_o rfl ?_
          refine eMO_wordly_282 ?_
          refine eMO_wordly_283 mh_a8 (xn_in hf (by decide)) ?_
          rw [nI_clamp (by omega)]
          refine eMO_wordly_284 (fun c284 => ?_) (fun c284 => ?_)
          · refine eMO_wordly_292 rfl ?_
            refine eMO_wordly_293 mh_o rfl ?_
            refine eMO_wordly_296 ?_
            refine eMO_wordly_297 mh_a8 (xn_in hf (by decide)) ?_
            rw [nI_clamp (by omega)]
            refine eMO_wordly_298 mh_a8 (xn_in hf (by decide)) ?_
            rw [mh_p8, nI_clamp (by omega)]
            refine eMO_wordly_299 (kk _ (((frW.rf.up (by omega)).up (by omega)).up (by omega)) rfl rfl rfl ?_)
            rw [show (va_up (va_up (va_up si 14 (upd (si 14) f (vp_nar .boolean 1))) 7 _) 8 _) 14 f = 1 from u1 _]
            exact wSh.out (by omega) (by omega) (by omega) (by rw [if_neg (by decide)]; omega) (by rw [if_neg (by decide)]; omega)
          · refine eMO_wordly_287 ?_
            refine eMO_wordly_289 ?_
            refine eMO_wordly_298 mh_a8 (xn_in hf (by decide)) ?_
            rw [mh_p8, nI_clamp (by omega)]
            refine eMO_wordly_299 (kk _ (((frW.rf.up (by omega)).up (by omega)).up (by omega)) rfl rfl rfl ?_)
            rw [show (va_up (va_up (va_up si 14 (upd (si 14) f (vp_nar .boolean 1))) 7 _) 8 _) 14 f = 1 from u1 _]
            exact wSh.out (by omega) (by omega) (by omega) (by rw [if_neg (by decide)]; omega) (by rw [if_neg (by decide)]; omega)
        · refine eMO_wordly_260 ?_
          refine eMO_wordly_261 ?_
          refine eMO_wordly_270 mh_a7 (xn_in hf (by decide)) ?_
          rw [mh_p7, nI_clamp (by omega)]
          refine eMO_wordly_271 rfl ?_
          refine eMO_wordly_272 mh_o rfl ?_
          refine eMO_wordly_275 ?_
          refine eMO_wordly_276 ?_
          refine eMO_wordly_278 rfl ?_
          refine eMO_wordly_279 mh_o rfl ?_
          refine eMO_wordly_282 ?_
          refine eMO_wordly_283 mh_a8 (xn_in hf (by decide)) ?_
          rw [nI_clamp (by omega)]
          refine eMO_wordly_284 (fun c284 => ?_) (fun c284 => ?_)
          · refine eMO_wordly_292 rfl ?_
            refine eMO_wordly_293 mh_o rfl ?_
            refine eMO_wordly_296 ?_
            refine eMO_wordly_297 mh_a8 (xn_in hf (by decide)) ?_
            rw [nI_clamp (by omega)]
            refine eMO_wordly_298 mh_a8 (xn_in hf (by decide)) ?_
            rw [mh_p8, nI_clamp (by omega)]
            refine eMO_wordly_299 (kk _ (((frW.rf.up (by omega)).up (by omega)).up (by omega)) rfl rfl rfl ?_)
            rw [show (va_up (va_up (va_up si 14 (upd (si 14) f (vp_nar .boolean 1))) 7 _) 8 _) 14 f = 1 from u1 _]
            exact wSh.out (by omega) (by omega) (by omega) (by rw [if_neg (by decide)]; omega) (by rw [if_neg (by decide)]; omega)
          · refine eMO_wordly_287 ?_
            refine eMO_wordly_289 ?_
            refine eMO_wordly_298 mh_a8 (xn_in hf (by decide)) ?_
            rw [mh_p8, nI_clamp (by omega)]
            refine eMO_wordly_299 (kk _ (((frW.rf.up (by omega)).up (by omega)).up (by omega)) rfl rfl rfl ?_)
            rw [show (va_up (va_up (va_up si 14 (upd (si 14) f (vp_nar .boolean 1))) 7 _) 8 _) 14 f = 1 from u1 _]
            exact wSh.out (by omega) (by omega) (by omega) (by rw [if_neg (by decide)]; omega) (by rw [if_neg (by decide)]; omega)
theorem kMO_w0 {f g w n : Nat} {ex : List Int32} {lo hi : Int32} {v5 v6 : Option Value} {Φ : Outcome → x_H → Prop} (hf : f < 18) (h12 : si 12 f = 1) (kx : exR (si 9) (si 10) f ex) (hl : ex.length < 3) (sh : wSh lo hi (si 14 f) (si 13 f) (si 7 f) (si 8 f)) (hg : g < 65536) (hn : 1 ≤ n) (hw : wOk w n)
  (k33 : g = 33 → ∀ si', frW f si si' → si' 12 f = 1 → exR (si' 9) (si' 10) f (ex ++ [nI w]) → wSh lo hi (si' 14 f) (si' 13 f) (si' 7 f) (si' 8 f) → Φ (.returned none) (mh h0 bm ze si'))
  (kel : g ≠ 33 → ∀ si', frW f si si' → si' 12 f = 1 → exR (si' 9) (si' 10) f ex → wSh (mxI lo (nI w)) (mnI hi (nI (if g = 61 ∨ n = 4 then w else w + 32 ^ (4 - n) - 1))) (si' 14 f) (si' 13 f) (si' 7 f) (si' 8 f) → Φ (.returned none) (mh h0 bm ze si')) :
  x_K P (d + 1) mMO_wordly 7 [some (.ref bm), some (.int (nI f)), some (.int (nI g)), some (.int (nI w)), some (.int (nI n)), v5, v6] [] (mh h0 bm ze si) Φ := by
  have e : nI g = nI 33 ↔ g = 33 := nI_eq (by omega) (by omega)
  by_cases h1 : g = 33
  · refine eMO_wordly_7 ?_
    refine eMO_wordly_8 ?_
    refine eMO_wordly_10 (fun c => absurd (e.mpr h1) c) (fun c10 => ?_)
    refine eMO_wordly_13 rfl ?_
    refine eMO_wordly_14 mh_o rfl ?_
    refine eMO_wordly_17 ?_
    refine eMO_wordly_18 ?_
    refine eMO_wordly_19 ?_
    rw [mx3]
    refine eMO_wordly_20 rfl ?_
    refine eMO_wordly_21 mh_o rfl ?_
    refine eMO_wordly_24 ?_
    refine eMO_wordly_25 mh_a9 (xn_in hf (by decide)) ?_
    rw [nI_clamp (by omega)]
    rw [kx.1]
    refine eMO_wordly_26 ?_
    rw [nI_add]
    refine eMO_wordly_27 ?_
    refine eMO_wordly_28 mh_a10 (xn_in (by omega) (by decide)) ?_
    rw [mh_p10, nI_clamp (by omega)]
    refine eMO_wordly_29 rfl ?_
    refine eMO_wordly_30 mh_o rfl ?_
    refine eMO_wordly_33 ?_
    refine eMO_wordly_34 rfl rfl ?_
    refine eMO_wordly_35 mh_a9 (xn_in hf (by decide)) ?_
    rw [nI_clamp (by omega)]
    refine eMO_wordly_36 ?_
    refine eMO_wordly_37 ?_
    refine eMO_wordly_38 mh_a9 (xn_in hf (by decide)) ?_
    rw [mh_p9, nI_clamp (by omega)]
    refine eMO_wordly_39 (k33 h1 _ ((frW.rf.up (K := 10) (i := 3 * f + ex.length) (x := nI w) (by omega)).up (K := 9) (i := f) (by omega)) h12 ?_ sh)
    refine ⟨?_, by simp; omega, fun i v hi => ?_⟩
    · show upd _ f _ f = _
      rw [pk_us]
      show si 9 f + 1 = _
      rw [kx.1, nI_1, List.length_append]
      rfl
    · show upd (si 10) (3 * f + ex.length) (nI w) (3 * f + i) = v
      by_cases h2 : i = ex.length
      · subst h2
        rw [pk_us]
        rw [List.getElem?_append_right (Nat.le_refl _), Nat.sub_self] at hi
        exact Option.some.inj hi
      · rw [pk_un (by omega)]
        have h3 := (List.getElem?_eq_some_iff.mp hi).1
        rw [List.length_append, List.length_singleton] at h3
        rw [List.getElem?_append_left (by omega)] at hi
        exact kx.2.2 i v hi
  · have hal : decide (g = 61 ∨ n = 4) = true ∨ n ≤ 3 := by
      by_cases h2 : g = 61 ∨ n = 4
      · exact Or.inl (decide_eq_true h2)
      · have := hw.2.1
        exact Or.inr (by omega)
    have kel' := kel h1
    rw [show (if g = 61 ∨ n = 4 then w else w + 32 ^ (4 - n) - 1) = (if decide (g = 61 ∨ n = 4) = true then w else w + 32 ^ (4 - n) - 1) by simp only [decide_eq_true_eq]] at kel'
    refine eMO_wordly_7 ?_
    refine eMO_wordly_8 ?_
    refine eMO_wordly_10 (fun c10 => ?_) (fun c => absurd (e.mp c) h1)
    skip
    refine kMO_w1 hg hw.2.1 ?_
    rcases sh with ⟨s1, s2⟩ | ⟨s1, s2, w0, n0, s3, s4, s5, s6, s7⟩ | ⟨s1, s2, w0, n0, s3, s4, s5, s6, s7, s8⟩
    · exact kMO_wE hf (Or.inl ⟨rfl, s2⟩) s1 (fun si' f1 a b c z => kel' si' f1 (a.trans h12) (by rw [b, c]; exact kx) z)
    · subst s6 s7
      exact kMO_wW hf hn hw hal s3 s4 s1 s2 s5 (fun si' f1 a b c z => kel' si' f1 (a.trans h12) (by rw [b, c]; exact kx) z)
    · subst s7 s8
      exact kMO_wP hf hn hw hal s3 s4 s1 s2 s5 s6 (fun si' f1 a b c z => kel' si' f1 (a.trans h12) (by rw [b, c]; exact kx) z)
theorem sB_K {s : sp} {x y : Int32} (h : sB s) (hx : -2000000 < x.toInt ∧ x.toInt < 2000000) (hy : -2000000 < y.toInt ∧ y.toInt < 2000000) : sB (spK s x y) := by
  obtain ⟨a, b, c, e⟩ := h
  have h1 := spK_in (s := s) (x := x) (y := y) (a := -1999999) (b := 1999999) (by omega) (by omega)
  have h2 := spK_in2 (s := s) (x := x) (y := y) (a := -1999999) (b := 1999999) (by omega) (by omega)
  exact ⟨by omega, by omega, by omega, by omega⟩
theorem sMO_wordly {f g w n : Nat} {s T : sp} (k : isRW si f s) (hf : f < 18) (hl : s.2.2.length < 3) (hn : 1 ≤ n) (hw : wOk w n) (hT : nword s g w n = some T) (hg : g < 65536) : x_K P (d + 1) mMO_wordly 0 [some (.ref bm), some (.int (nI f)), some (.int (nI g)), some (.int (nI w)), some (.int (nI n)), none, none] [] (mh h0 bm ze si) (fun oc h' => oc = .returned none ∧ ∃ si', h' = mh h0 bm ze si' ∧ frW f si si' ∧ isRW si' f T) := by
  have b1 := hw.1
  have b2 := wOk_top hw
  have b3 := wP (n := n)
  have hsB : sB (spK s 1 1048575) := sB_K k.2.2.1 (by decide) (by decide)
  have f1 : frW f si (va_up si 12 (upd (si 12) f (vp_nar .boolean 1))) := frW.rf.up (by omega)
  have ft : ∀ {si'}, frW f (va_up si 12 (upd (si 12) f (vp_nar .boolean 1))) si' → frW f si si' := by
    intro si' f2 K i
    rcases f2 K i with a | a | a
    · exact Or.inl a
    · exact Or.inr (Or.inl a)
    · rcases f1 K i with b | b | b
      · exact Or.inl b
      · exact Or.inr (Or.inl b)
      · exact Or.inr (Or.inr (a.trans b))
  refine eMO_wordly_0 rfl ?_
  refine eMO_wordly_1 mh_o rfl ?_
  refine eMO_wordly_4 ?_
  refine eMO_wordly_5 ?_
  refine eMO_wordly_6 mh_a12 (xn_in hf (by decide)) ?_
  rw [mh_p12, nI_clamp (by omega)]
  skip
  refine kMO_w0 (ex := s.2.2) (lo := mxI s.1 1) (hi := mnI s.2.1 1048575) hf (by show upd (si 12) f _ f = 1; rw [pk_us]; rfl) (k.1.keep rfl (fun _ _ => rfl)) hl k.sh hg hn hw (fun h33 si' f2 a b c => ⟨rfl, si', rfl, ft f2, ?_⟩) (fun h33 si' f2 a b c => ⟨rfl, si', rfl, ft f2, ?_⟩)
  · have eT : T = spX (spK s 1 1048575) (nI w) := by
      subst h33
      simp [nword] at hT
      exact hT.symm
    rw [eT]
    refine ⟨b, fun v hv => ?_, hsB, Or.inr ⟨a, c⟩⟩
    rcases List.mem_append.mp hv with h1 | h1
    · exact k.2.1 v h1
    · exact ⟨w, n, List.mem_singleton.mp h1, hn, hw⟩
  · have eT : T = spK (spK s 1 1048575) (nI w) (nI (if g = 61 ∨ n = 4 then w else w + 32 ^ (4 - n) - 1)) := by
      unfold nword at hT
      split at hT
      · rename_i h1
        rw [if_pos (Or.inl h1)]
        exact (Option.some.inj hT).symm
      · rename_i h1
        split at hT
        · rw [wOk_or hw] at hT
          have e : (if g = 61 ∨ n = 4 then w else w + 32 ^ (4 - n) - 1) = w + 32 ^ (4 - n) - 1 := by
            split
            · rename_i h2
              have h3 : n = 4 := h2.resolve_left h1
              rw [h3]
              show w = w + 1 - 1
              omega
            · rfl
          rw [e]
          exact (Option.some.inj hT).symm
        · cases hT
    have hy : (if g = 61 ∨ n = 4 then w else w + 32 ^ (4 - n) - 1) < 1048576 := by
      split <;> omega
    rw [eT]
    exact ⟨b, k.2.1, sB_K hsB (by rw [nI_toInt (by omega)]; omega) (by rw [nI_toInt (by omega)]; omega), Or.inr ⟨a, c⟩⟩
end

