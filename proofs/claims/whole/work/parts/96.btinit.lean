/-! The object: its constructor -/
section
variable {P : x_P} {d : Nat} {h : x_H} {b c : Nat} {Φ : Outcome → x_H → Prop}
theorem sCA_init {a : Nat} (hs : h.1 a = some (.inr (1, [.null, .null]))) (hn : h.2.1 = a + 1) : x_K P (d + 4) mCA_init 0 [some (.ref a)] [] h (fun oc h' => oc = .returned none ∧ isCa h' a (a + 1) (a + 2) ∧ isAL P h' (a + 1) P.2.2.2.2.2.2.2.1 0 [] ∧ h'.1 (a + 2) = some (.inl (0, 16, .inl (fun _ => 0))) ∧ x_gr h h' 2 19 [a]) := by
  refine eCA_init_0 rfl ?_
  refine eCA_init_1 (Nat.le_of_ble_eq_true rfl) ?_
  refine eCA_init_4 rfl ?_
  refine eCA_init_5 ?_
  refine eCA_init_8 rfl ?_
  refine eCA_init_9 (Nat.le_of_ble_eq_true rfl) (sAL_init xw_eq) ?_
  rintro _ h1 ⟨rfl, r1, g1⟩
  refine ⟨_, rfl, ?_⟩
  have g1' : x_gr h h1 1 3 [] := (x_gr.new (S := [])).trans g1.gr (S := []) (fun _ z => z) (fun q hq hlt => by simp at hq; omega)
  have n1 : h1.2.1 = a + 2 := by rw [g1'.1, hn]
  have c1 := (g1'.2.2 a (by omega) (by simp)).trans hs
  refine eCA_init_12 c1 (Nat.le_of_ble_eq_true rfl) ?_
  refine eCA_init_15 rfl ?_
  refine eCA_init_16 ?_
  refine eCA_init_18 (n := 16) (by decide) (by decide) (by decide) ?_
  refine eCA_init_20 (xw_ne (by show a ≠ h1.2.1; omega) xq_eq) (Nat.le_of_ble_eq_true rfl) ?_
  have t : x_gr h (x_put h1 a (.inr (1, [.ref h.2.1, .null]))) 1 3 [a] := (g1'.trans (S := [a]) x_gr.rf (fun _ z => by cases z) (fun _ z _ => z)).put (by simp)
  refine eCA_init_23 ⟨rfl, ?_, ?_, ?_, (t.trans (S := [a]) (x_gr.new (S := [a])) (fun _ z => z) (fun _ z _ => z)).put (by simp)⟩
  · unfold isCa
    rw [xq_eq]
    show some (Sum.inr (1, [Value.ref h.2.1, Value.ref h1.2.1])) = _
    rw [hn, n1]
  · rw [← hn]
    obtain ⟨mc, e, f⟩ := r1
    exact ⟨mc, xq_ne (by omega) (xw_ne (by show h.2.1 ≠ h1.2.1; omega) (xq_ne (by omega) e)), Or.inl ⟨rfl, rfl, rfl⟩⟩
  · refine xq_ne (by omega) ?_
    have e : (x_put h1 a (.inr (1, [.ref h.2.1, .null]))).2.1 = a + 2 := n1
    rw [← e]
    exact xw_eq
theorem gBT_4 {v1 v2 v3 : Option Value} {fs : List Value} (hb : h.1 b = some (.inr (0, fs))) (hl : fs.length = 13) (hlt : b < c) (hn : h.2.1 = c) (k : ∀ h', x_gr h h' 1 30 [b] → h'.2.1 = c + 1 → h'.1 b = some (.inr (0, fs.set 0 (.ref c))) → h'.1 c = some (.inl (2, 30, .inl (fun _ => 0))) → x_K P d mBT_init 12 [some (.ref b), v1, v2, v3] [] h' Φ) : x_K P d mBT_init 4 [some (.ref b), v1, v2, v3] [] h Φ := by
  refine eBT_init_4 rfl ?_
  refine eBT_init_5 ?_
  refine eBT_init_7 (n := 30) (by decide) (by decide) (by decide) ?_
  refine eBT_init_9 (xw_ne (by omega) hb) (by omega) ?_
  subst hn
  exact k _ (x_gr.new.put (by simp)) rfl xq_eq (xq_ne (by omega) xw_eq)
theorem gBT_12 {v1 v2 v3 : Option Value} {fs : List Value} (hb : h.1 b = some (.inr (0, fs))) (hl : fs.length = 13) (hlt : b < c) (hn : h.2.1 = c) (k : ∀ h', x_gr h h' 1 36 [b] → h'.2.1 = c + 1 → h'.1 b = some (.inr (0, fs.set 2 (.ref c))) → h'.1 c = some (.inl (4, 36, x_rf (fun _ => none))) → x_K P d mBT_init 21 [some (.ref b), v1, v2, v3] [] h' Φ) : x_K P d mBT_init 12 [some (.ref b), v1, v2, v3] [] h Φ := by
  refine eBT_init_12 rfl ?_
  refine eBT_init_13 ?_
  refine eBT_init_15 (n := 36) (by decide) (by decide) (by decide) ?_
  refine eBT_init_18 (xw_ne (by omega) hb) (by omega) ?_
  subst hn
  exact k _ (x_gr.new.put (by simp)) rfl xq_eq (xq_ne (by omega) xw_eq)
theorem gBT_21 {v1 v2 v3 : Option Value} {fs : List Value} (hb : h.1 b = some (.inr (0, fs))) (hl : fs.length = 13) (hlt : b < c) (hn : h.2.1 = c) (k : ∀ h', x_gr h h' 1 8 [b] → h'.2.1 = c + 1 → h'.1 b = some (.inr (0, fs.set 3 (.ref c))) → h'.1 c = some (.inl (5, 8, x_rf (fun _ => none))) → x_K P d mBT_init 30 [some (.ref b), v1, v2, v3] [] h' Φ) : x_K P d mBT_init 21 [some (.ref b), v1, v2, v3] [] h Φ := by
  refine eBT_init_21 rfl ?_
  refine eBT_init_22 ?_
  refine eBT_init_24 (n := 8) (by decide) (by decide) (by decide) ?_
  refine eBT_init_27 (xw_ne (by omega) hb) (by omega) ?_
  subst hn
  exact k _ (x_gr.new.put (by simp)) rfl xq_eq (xq_ne (by omega) xw_eq)
theorem gBT_41 {v1 v2 v3 : Option Value} {fs : List Value} (hb : h.1 b = some (.inr (0, fs))) (hl : fs.length = 13) (hlt : b < c) (hn : h.2.1 = c) (k : ∀ h', x_gr h h' 1 16 [b] → h'.2.1 = c + 1 → h'.1 b = some (.inr (0, fs.set 5 (.ref c))) → h'.1 c = some (.inl (0, 16, .inl (fun _ => 0))) → x_K P d mBT_init 49 [some (.ref b), v1, v2, v3] [] h' Φ) : x_K P d mBT_init 41 [some (.ref b), v1, v2, v3] [] h Φ := by
  refine eBT_init_41 rfl ?_
  refine eBT_init_42 ?_
  refine eBT_init_44 (n := 16) (by decide) (by decide) (by decide) ?_
  refine eBT_init_46 (xw_ne (by omega) hb) (by omega) ?_
  subst hn
  exact k _ (x_gr.new.put (by simp)) rfl xq_eq (xq_ne (by omega) xw_eq)
theorem gBT_49 {v1 v2 v3 : Option Value} {fs : List Value} (hb : h.1 b = some (.inr (0, fs))) (hl : fs.length = 13) (hlt : b < c) (hn : h.2.1 = c) (k : ∀ h', x_gr h h' 1 16 [b] → h'.2.1 = c + 1 → h'.1 b = some (.inr (0, fs.set 6 (.ref c))) → h'.1 c = some (.inl (0, 16, .inl (fun _ => 0))) → x_K P d mBT_init 57 [some (.ref b), v1, v2, v3] [] h' Φ) : x_K P d mBT_init 49 [some (.ref b), v1, v2, v3] [] h Φ := by
  refine eBT_init_49 rfl ?_
  refine eBT_init_50 ?_
  refine eBT_init_52 (n := 16) (by decide) (by decide) (by decide) ?_
  refine eBT_init_54 (xw_ne (by omega) hb) (by omega) ?_
  subst hn
  exact k _ (x_gr.new.put (by simp)) rfl xq_eq (xq_ne (by omega) xw_eq)
theorem gBT_57 {v1 v2 v3 : Option Value} {fs : List Value} (hb : h.1 b = some (.inr (0, fs))) (hl : fs.length = 13) (hlt : b < c) (hn : h.2.1 = c) (k : ∀ h', x_gr h h' 1 16 [b] → h'.2.1 = c + 1 → h'.1 b = some (.inr (0, fs.set 7 (.ref c))) → h'.1 c = some (.inl (1, 16, .inl (fun _ => 0))) → x_K P d mBT_init 65 [some (.ref b), v1, v2, v3] [] h' Φ) : x_K P d mBT_init 57 [some (.ref b), v1, v2, v3] [] h Φ := by
  refine eBT_init_57 rfl ?_
  refine eBT_init_58 ?_
  refine eBT_init_60 (n := 16) (by decide) (by decide) (by decide) ?_
  refine eBT_init_62 (xw_ne (by omega) hb) (by omega) ?_
  subst hn
  exact k _ (x_gr.new.put (by simp)) rfl xq_eq (xq_ne (by omega) xw_eq)
theorem gBT_76 {v1 v2 v3 : Option Value} {fs : List Value} (hb : h.1 b = some (.inr (0, fs))) (hl : fs.length = 13) (hlt : b < c) (hn : h.2.1 = c) (k : ∀ h', x_gr h h' 1 4 [b] → h'.2.1 = c + 1 → h'.1 b = some (.inr (0, fs.set 10 (.ref c))) → h'.1 c = some (.inl (0, 4, .inl (fun _ => 0))) → x_K P d mBT_init 83 [some (.ref b), v1, v2, v3] [] h' Φ) : x_K P d mBT_init 76 [some (.ref b), v1, v2, v3] [] h Φ := by
  refine eBT_init_76 rfl ?_
  refine eBT_init_77 ?_
  refine eBT_init_78 (n := 4) (by decide) (by decide) (by decide) ?_
  refine eBT_init_80 (xw_ne (by omega) hb) (by omega) ?_
  subst hn
  exact k _ (x_gr.new.put (by simp)) rfl xq_eq (xq_ne (by omega) xw_eq)
theorem gBT_30 {v1 v2 v3 : Option Value} {fs : List Value} (hb : h.1 b = some (.inr (0, fs))) (hl : fs.length = 13) (hlt : b < c) (hn : h.2.1 = c) (k : ∀ h', x_gr h h' 3 21 [b] → h'.2.1 = c + 3 → h'.1 b = some (.inr (0, fs.set 4 (.ref c))) → isCa h' c (c + 1) (c + 2) → isAL P h' (c + 1) P.2.2.2.2.2.2.2.1 0 [] → h'.1 (c + 2) = some (.inl (0, 16, .inl (fun _ => 0))) → x_K P (d + 5) mBT_init 41 [some (.ref b), v1, v2, v3] [] h' Φ) : x_K P (d + 5) mBT_init 30 [some (.ref b), v1, v2, v3] [] h Φ := by
  refine eBT_init_30 rfl ?_
  refine eBT_init_31 ?_
  refine eBT_init_34 rfl ?_
  refine eBT_init_35 (Nat.le_of_ble_eq_true rfl) (sCA_init xw_eq rfl) ?_
  rintro _ h1 ⟨rfl, r1, r2, r3, g1⟩
  refine ⟨_, rfl, ?_⟩
  have g1' : x_gr h h1 3 21 [] := (x_gr.new (S := [])).trans g1 (S := []) (fun _ z => z) (fun q hq hlt => by simp at hq; omega)
  subst hn
  refine eBT_init_38 ((g1'.2.2 b hlt (by simp)).trans hb) (by omega) ?_
  obtain ⟨mc, r2, -⟩ := r2
  exact k _ ((g1'.trans (S := [b]) x_gr.rf (fun _ z => by cases z) (fun _ z _ => z)).put (by simp)) g1'.1 xq_eq (xq_ne (by omega) r1) ⟨mc, xq_ne (by omega) r2, Or.inl ⟨rfl, rfl, rfl⟩⟩ (xq_ne (by omega) r3)
theorem gBT_65 {v1 v2 v3 : Option Value} {fs : List Value} (hb : h.1 b = some (.inr (0, fs))) (hl : fs.length = 13) (hlt : b < c) (hn : h.2.1 = c) (k : ∀ h', x_gr h h' 1 3 [b] → h'.2.1 = c + 1 → h'.1 b = some (.inr (0, fs.set 9 (.ref c))) → isAL P h' c P.2.2.2.2.2.2.2.1 0 [] → x_K P (d + 5) mBT_init 76 [some (.ref b), v1, v2, v3] [] h' Φ) : x_K P (d + 5) mBT_init 65 [some (.ref b), v1, v2, v3] [] h Φ := by
  refine eBT_init_65 rfl ?_
  refine eBT_init_66 ?_
  refine eBT_init_69 rfl ?_
  refine eBT_init_70 (Nat.le_of_ble_eq_true rfl) (x_K.up (d := 3) (by omega) (sAL_init (d := 0) xw_eq)) ?_
  rintro _ h1 ⟨rfl, r1, g1⟩
  refine ⟨_, rfl, ?_⟩
  have g1' : x_gr h h1 1 3 [] := (x_gr.new (S := [])).trans g1.gr (S := []) (fun _ z => z) (fun q hq hlt => by simp at hq; omega)
  subst hn
  refine eBT_init_73 ((g1'.2.2 b hlt (by simp)).trans hb) (by omega) ?_
  obtain ⟨mc, r2, -⟩ := r1
  exact k _ ((g1'.trans (S := [b]) x_gr.rf (fun _ z => by cases z) (fun _ z _ => z)).put (by simp)) g1'.1 xq_eq ⟨mc, xq_ne (by omega) r2, Or.inl ⟨rfl, rfl, rfl⟩⟩
theorem gBT_83 {v1 v2 v3 : Option Value} {fs : List Value} (hb : h.1 b = some (.inr (0, fs))) (hl : fs.length = 13) (hlt : b < c) (hn : h.2.1 = c) (k : ∀ h', x_gr h h' 2 19 [b] → h'.2.1 = c + 2 → h'.1 b = some (.inr (0, fs.set 11 (.ref c))) → isRow h' c [] → x_K P (d + 5) mBT_init 94 [some (.ref b), v1, v2, v3] [] h' Φ) : x_K P (d + 5) mBT_init 83 [some (.ref b), v1, v2, v3] [] h Φ := by
  refine eBT_init_83 rfl ?_
  refine eBT_init_84 ?_
  refine eBT_init_87 rfl ?_
  refine eBT_init_88 (Nat.le_of_ble_eq_true rfl) (sRO_init xw_eq rfl) ?_
  rintro _ h1 ⟨rfl, r1, g1⟩
  refine ⟨_, rfl, ?_⟩
  have g1' : x_gr h h1 2 19 [] := (x_gr.new (S := [])).trans g1 (S := []) (fun _ z => z) (fun q hq hlt => by simp at hq; omega)
  subst hn
  refine eBT_init_91 ((g1'.2.2 b hlt (by simp)).trans hb) (by omega) ?_
  exact k _ ((g1'.trans (S := [b]) x_gr.rf (fun _ z => by cases z) (fun _ z _ => z)).put (by simp)) g1'.1 xq_eq (r1.keep2 (if_neg (by omega)) (if_neg (by omega)))
theorem gBT_94 {v1 v2 v3 : Option Value} {fs : List Value} (hb : h.1 b = some (.inr (0, fs))) (hl : fs.length = 13) (hlt : b < c) (hn : h.2.1 = c) (k : ∀ h', x_gr h h' 2 19 [b] → h'.2.1 = c + 2 → h'.1 b = some (.inr (0, fs.set 12 (.ref c))) → isRow h' c [] → x_K P (d + 5) mBT_init 105 [some (.ref b), v1, v2, v3] [] h' Φ) : x_K P (d + 5) mBT_init 94 [some (.ref b), v1, v2, v3] [] h Φ := by
  refine eBT_init_94 rfl ?_
  refine eBT_init_95 ?_
  refine eBT_init_98 rfl ?_
  refine eBT_init_99 (Nat.le_of_ble_eq_true rfl) (sRO_init xw_eq rfl) ?_
  rintro _ h1 ⟨rfl, r1, g1⟩
  refine ⟨_, rfl, ?_⟩
  have g1' : x_gr h h1 2 19 [] := (x_gr.new (S := [])).trans g1 (S := []) (fun _ z => z) (fun q hq hlt => by simp at hq; omega)
  subst hn
  refine eBT_init_102 ((g1'.2.2 b hlt (by simp)).trans hb) (by omega) ?_
  exact k _ ((g1'.trans (S := [b]) x_gr.rf (fun _ z => by cases z) (fun _ z _ => z)).put (by simp)) g1'.1 xq_eq (r1.keep2 (if_neg (by omega)) (if_neg (by omega)))
end
section
variable {P : x_P} {d : Nat} {h : x_H} {b c : Nat} {Φ : Outcome → x_H → Prop}
theorem gBT_126 {v1 : Option Value} {fs : List Value} {f : Nat → Option Nat} {i x : Nat} (hb : h.1 b = some (.inr (0, fs))) (hl : fs[2]? = some (.ref (b + 2))) (ha : h.1 (b + 2) = some (.inl (4, 36, x_rf f))) (hlt : b + 2 < c) (hn : h.2.1 = c) (hi : i < 6) (hx : x < 6) (k : ∀ h', x_gr h h' 7 62 [b + 2] → h'.2.1 = c + 7 → h'.1 (b + 2) = some (.inl (4, 36, x_rf (va_up f (6 * i + x) (some c)))) → isLk h' c (nI i) (nI x) [] [] [] → x_K P (d + 3) mBT_init 146 [some (.ref b), v1, some (.int (nI i)), some (.int (nI x))] [] h' Φ) : x_K P (d + 3) mBT_init 126 [some (.ref b), v1, some (.int (nI i)), some (.int (nI x))] [] h Φ := by
  have e6 : nI i * 6 = nI (6 * i) := by rw [show (6 : Int32) = nI 6 by decide, pk_mul, Nat.mul_comm]
  refine eBT_init_126 rfl ?_
  refine eBT_init_127 hb hl ?_
  refine eBT_init_130 ?_
  refine eBT_init_131 ?_
  refine eBT_init_133 ?_
  rw [e6]
  refine eBT_init_134 ?_
  refine eBT_init_135 ?_
  rw [nI_add]
  refine eBT_init_136 ?_
  refine eBT_init_139 rfl ?_
  refine eBT_init_140 ?_
  refine eBT_init_141 ?_
  refine eBT_init_142 (Nat.le_of_ble_eq_true rfl) (sLI_init xw_eq rfl) ?_
  rintro _ h1 ⟨rfl, r1, g1⟩
  refine ⟨_, rfl, ?_⟩
  have g1' : x_gr h h1 7 62 [] := (x_gr.new (S := [])).trans g1 (S := []) (fun _ z => z) (fun q hq hlt => by simp at hq; omega)
  subst hn
  refine eBT_init_145 (ci := 3) ((g1'.2.2 (b + 2) hlt (by simp)).trans ha) rfl r1.1 rfl (xn_in (by omega) (by decide)) ?_
  rw [nI_clamp (show 6 * i + x < 2 ^ 31 by omega)]
  have o : x_only h1 (x_put h1 (b + 2) (.inl (4, 36, x_rf (va_up f (6 * i + x) (some h.2.1))))) [b + 2] := x_only.rf.put (by simp)
  exact k _ ((g1'.trans (S := [b + 2]) x_gr.rf (fun _ z => by cases z) (fun _ z _ => z)).put (by simp)) g1'.1 xq_eq ⟨xq_ne (by omega) r1.1, r1.2.1.keep o (by simp <;> omega) (by simp <;> omega), r1.2.2.1.keep o (by simp <;> omega) (by simp <;> omega), r1.2.2.2.keep o (by simp <;> omega) (by simp <;> omega)⟩
theorem gBT_146 {v1 : Option Value} {fs : List Value} {f : Nat → Option Nat} {i x : Nat} (hb : h.1 b = some (.inr (0, fs))) (hl : fs[2]? = some (.ref (b + 2))) (ha : h.1 (b + 2) = some (.inl (4, 36, x_rf f))) (hlt : b + 2 < c) (hn : h.2.1 = c) (hi : i < 6) (hx : x < 6) (k : ∀ h', x_gr h h' 7 62 [b + 2] → h'.2.1 = c + 7 → h'.1 (b + 2) = some (.inl (4, 36, x_rf (va_up f (6 * x + i) (some c)))) → isLk h' c (nI x) (nI i) [] [] [] → x_K P (d + 3) mBT_init 166 [some (.ref b), v1, some (.int (nI i)), some (.int (nI x))] [] h' Φ) : x_K P (d + 3) mBT_init 146 [some (.ref b), v1, some (.int (nI i)), some (.int (nI x))] [] h Φ := by
  have e6 : nI x * 6 = nI (6 * x) := by rw [show (6 : Int32) = nI 6 by decide, pk_mul, Nat.mul_comm]
  refine eBT_init_146 rfl ?_
  refine eBT_init_147 hb hl ?_
  refine eBT_init_150 ?_
  refine eBT_init_151 ?_
  refine eBT_init_153 ?_
  rw [e6]
  refine eBT_init_154 ?_
  refine eBT_init_155 ?_
  rw [nI_add]
  refine eBT_init_156 ?_
  refine eBT_init_159 rfl ?_
  refine eBT_init_160 ?_
  refine eBT_init_161 ?_
  refine eBT_init_162 (Nat.le_of_ble_eq_true rfl) (sLI_init xw_eq rfl) ?_
  rintro _ h1 ⟨rfl, r1, g1⟩
  refine ⟨_, rfl, ?_⟩
  have g1' : x_gr h h1 7 62 [] := (x_gr.new (S := [])).trans g1 (S := []) (fun _ z => z) (fun q hq hlt => by simp at hq; omega)
  subst hn
  refine eBT_init_165 (ci := 3) ((g1'.2.2 (b + 2) hlt (by simp)).trans ha) rfl r1.1 rfl (xn_in (by omega) (by decide)) ?_
  rw [nI_clamp (show 6 * x + i < 2 ^ 31 by omega)]
  have o : x_only h1 (x_put h1 (b + 2) (.inl (4, 36, x_rf (va_up f (6 * x + i) (some h.2.1))))) [b + 2] := x_only.rf.put (by simp)
  exact k _ ((g1'.trans (S := [b + 2]) x_gr.rf (fun _ z => by cases z) (fun _ z _ => z)).put (by simp)) g1'.1 xq_eq ⟨xq_ne (by omega) r1.1, r1.2.1.keep o (by simp <;> omega) (by simp <;> omega), r1.2.2.1.keep o (by simp <;> omega) (by simp <;> omega), r1.2.2.2.keep o (by simp <;> omega) (by simp <;> omega)⟩
theorem gBT_180 {v1 v3 : Option Value} {fs : List Value} {f : Nat → Option Nat} {i : Nat} (hb : h.1 b = some (.inr (0, fs))) (hl : fs[3]? = some (.ref (b + 3))) (ha : h.1 (b + 3) = some (.inl (5, 8, x_rf f))) (hlt : b + 3 < c) (hn : h.2.1 = c) (hi : i < 8) (k : ∀ h', x_gr h h' 2 19 [b + 3] → h'.2.1 = c + 2 → h'.1 (b + 3) = some (.inl (5, 8, x_rf (va_up f i (some c)))) → isQ h' c (c + 1) 4 0 [] → x_K P (d + 3) mBT_init 193 [some (.ref b), v1, some (.int (nI i)), v3] [] h' Φ) : x_K P (d + 3) mBT_init 180 [some (.ref b), v1, some (.int (nI i)), v3] [] h Φ := by
  refine eBT_init_180 rfl ?_
  refine eBT_init_181 hb hl ?_
  refine eBT_init_184 ?_
  refine eBT_init_185 ?_
  refine eBT_init_188 rfl ?_
  refine eBT_init_189 (Nat.le_of_ble_eq_true rfl) (sQU_init xw_eq rfl) ?_
  rintro _ h1 ⟨rfl, r1, g1⟩
  refine ⟨_, rfl, ?_⟩
  have g1' : x_gr h h1 2 19 [] := (x_gr.new (S := [])).trans g1 (S := []) (fun _ z => z) (fun q hq hlt => by simp at hq; omega)
  subst hn
  have r1c := r1
  obtain ⟨fq, r2, -⟩ := r1c
  refine eBT_init_192 (ci := 5) ((g1'.2.2 (b + 3) hlt (by simp)).trans ha) rfl r2 rfl (xn_in (by omega) (by decide)) ?_
  rw [nI_clamp (show i < 2 ^ 31 by omega)]
  have o : x_only h1 (x_put h1 (b + 3) (.inl (5, 8, x_rf (va_up f i (some h.2.1))))) [b + 3] := x_only.rf.put (by simp)
  exact k _ ((g1'.trans (S := [b + 3]) x_gr.rf (fun _ z => by cases z) (fun _ z _ => z)).put (by simp)) g1'.1 xq_eq (r1.keep o (by simp <;> omega) (by simp <;> omega))
theorem isLk.gr {h' : x_H} {a : Nat} {u v : Int32} {T H : List Nat} {L : List Int32} {n m : Nat} {S : List Nat} (k : isLk h a u v T H L) (g : x_gr h h' n m S) (hl : a + 6 < h.2.1) (hS : ∀ q ∈ S, q < a) : isLk h' a u v T H L := by
  have nS : ∀ i, a + i ∉ S := fun i z => by have := hS _ z; omega
  exact ⟨(g.2.2 a (by omega) (nS 0)).trans k.1, k.2.1.gr g (by omega) (nS 1) (nS 2), k.2.2.1.gr g (by omega) (nS 3) (nS 4), k.2.2.2.gr g (by omega) (by omega) (nS 5) (nS 6)⟩
theorem sh_andU {x : Int32} {k : Nat} (hk : k ≤ 12) : ((x.toUInt32 >>> ((nI k).toUInt32 &&& Int32.toUInt32 31)).toInt32) &&& 7 = nI (x.toBitVec.toNat / 2 ^ k % 8) := by
  have hs : ∀ n, n < 32 → (((nI n).toUInt32 &&& Int32.toUInt32 31).toBitVec % 32).toNat = n := by decide
  rw [pk_and _ (m := 7) 3 (by decide), pk_ushr x (nI k) k (hs k (by omega))]
/-- the first loop: the links -/
theorem lBT_init1 {x : Int32} {fs : List Value} {h0 : x_H} (hb0 : h0.1 b = some (.inr (0, fs))) (hl : fs[2]? = some (.ref (b + 2))) (hn0 : h0.2.1 = b + 16) (kk : ∀ h v3 f, x_gr h0 h 70 620 [b + 2] → h.1 (b + 2) = some (.inl (4, 36, x_rf f)) → (∀ q, q < 36 → f q = (lkF (pF x) q).map (fun j => b + 16 + 7 * j)) → (∀ j, j < 10 → isLk h (b + 16 + 7 * j) (nI (frF (pF x) j)) (nI (toF (pF x) j)) [] [] []) → x_K P (d + 3) mBT_init 172 [some (.ref b), some (.int x), some (.int (nI 6)), v3] [] h Φ) :
  ∀ (n i : Nat) (h : x_H) (v3 : Option Value) (f : Nat → Option Nat), i + n = 6 → 0 < i → x_gr h0 h (14 * (i - 1)) (124 * (i - 1)) [b + 2] → h.1 (b + 2) = some (.inl (4, 36, x_rf f)) → (∀ q, q < 36 → f q = (lkP (pF x) i q).map (fun j => b + 16 + 7 * j)) → (∀ j, j < 2 * (i - 1) → isLk h (b + 16 + 7 * j) (nI (frF (pF x) j)) (nI (toF (pF x) j)) [] [] []) → x_K P (d + 3) mBT_init 107 [some (.ref b), some (.int x), some (.int (nI i)), v3] [] h Φ := by
  intro n
  induction n with
  | zero =>
    intro i h v3 f hk h1 g ha hf hL
    have ei : i = 6 := by omega
    subst ei
    refine eBT_init_107 ?_
    refine eBT_init_108 ?_
    refine eBT_init_110 (fun _ => ?_) (fun c => absurd (by decide) c)
    exact kk h v3 f g ha (fun q hq => by rw [hf q hq, lkP_6 hq]) hL
  | succ n ih =>
    intro i h v3 f hk h1 g ha hf hL
    have hpk := pF_P (x := x) i h1 (by omega)
    have e3 : (3 : Int32) * (nI i - 1) = nI (3 * (i - 1)) := by
      rw [show nI i - 1 = nI (i - 1) from pk_sub (b := 1) h1, mx3]
    have erem : nI (x.toBitVec.toNat / 2 ^ (3 * (i - 1)) % 8) - nI (x.toBitVec.toNat / 2 ^ (3 * (i - 1)) % 8) / nI i * nI i = nI (pF x i) := pk_rem (by have := pF_lt (x := x) (i := i); omega) h1 (by omega)
    refine eBT_init_107 ?_
    refine eBT_init_108 ?_
    refine eBT_init_110 (fun c => absurd c (nI_ge (b := 6) (by omega) (by decide))) (fun _ => ?_)
    refine eBT_init_113 ?_
    refine eBT_init_114 ?_
    refine eBT_init_115 ?_
    refine eBT_init_116 ?_
    refine eBT_init_117 ?_
    refine eBT_init_118 ?_
    rw [e3]
    refine eBT_init_119 ?_
    refine eBT_init_120 ?_
    refine eBT_init_122 ?_
    rw [sh_andU (by omega)]
    refine eBT_init_123 ?_
    refine eBT_init_124 (nI_ne0 h1 (by omega)) ?_
    rw [erem]
    refine eBT_init_125 ?_
    have hnh : h.2.1 = b + 16 + 14 * (i - 1) := by rw [g.1, hn0]
    refine gBT_126 ((g.2.2 b (by omega) (by simp)).trans hb0) hl ha (by omega) hnh (by omega) (by omega) (fun h1' g1 n1 a1 k1 => ?_)
    have g1' := g.trans g1 (S := [b + 2]) (fun _ z => z) (fun _ z _ => z)
    refine gBT_146 ((g1'.2.2 b (by omega) (by simp)).trans hb0) hl a1 (by omega) n1 (by omega) (by omega) (fun h2 g2 n2 a2 k2 => ?_)
    have g2' := g1'.trans g2 (S := [b + 2]) (fun _ z => z) (fun _ z _ => z)
    refine eBT_init_166 ?_
    rw [nI_1]
    refine eBT_init_169 ?_
    refine ih (i + 1) h2 _ _ (by omega) (by omega) ?_ a2 (fun q hq => ?_) (fun j hj => ?_)
    · have e1 : 14 * (i + 1 - 1) = 14 * (i - 1) + 7 + 7 := by omega
      have e2 : 124 * (i + 1 - 1) = 124 * (i - 1) + 62 + 62 := by omega
      rw [e1, e2]
      exact g2'
    · rw [lkP_step pF_P h1 (by omega) hq]
      unfold va_up
      by_cases c1 : q = 6 * pF x i + i
      · rw [if_pos c1, if_pos c1]
        show some _ = some (b + 16 + 7 * (2 * i - 1))
        congr 1
        omega
      · rw [if_neg c1, if_neg c1]
        by_cases c2 : q = 6 * i + pF x i
        · rw [if_pos c2, if_pos c2]
          show some _ = some (b + 16 + 7 * (2 * i - 2))
          congr 1
          omega
        · rw [if_neg c2, if_neg c2]
          exact hf q hq
    · by_cases c1 : j < 2 * (i - 1)
      · exact ((hL j c1).gr g1 (by omega) (fun q hq => by simp at hq; omega)).gr g2 (by omega) (fun q hq => by simp at hq; omega)
      · by_cases c2 : j = 2 * (i - 1)
        · have e1 : frF (pF x) j = i := by unfold frF; rw [if_pos (by omega)]; omega
          have e2 : toF (pF x) j = pF x i := by unfold toF; rw [if_pos (by omega)]; congr 1; omega
          rw [e1, e2, show b + 16 + 7 * j = b + 16 + 14 * (i - 1) by omega]
          exact k1.gr g2 (by omega) (fun q hq => by simp at hq; omega)
        · have e1 : frF (pF x) j = pF x i := by unfold frF; rw [if_neg (by omega)]; congr 1; omega
          have e2 : toF (pF x) j = i := by unfold toF; rw [if_neg (by omega)]; omega
          rw [e1, e2, show b + 16 + 7 * j = b + 16 + 14 * (i - 1) + 7 by omega]
          exact k2
/-- the second loop: the inboxes -/
theorem lBT_init2 {v1 v3 : Option Value} {fs : List Value} {h0 : x_H} (hb0 : h0.1 b = some (.inr (0, fs))) (hl : fs[3]? = some (.ref (b + 3))) (hn0 : h0.2.1 = b + 86) (kk : ∀ h f, x_gr h0 h 16 152 [b + 3] → h.1 (b + 3) = some (.inl (5, 8, x_rf f)) → (∀ q, q < 8 → f q = some (b + 86 + 2 * q)) → (∀ j, j < 8 → isQ h (b + 86 + 2 * j) (b + 86 + 2 * j + 1) 4 0 []) → Φ (.returned none) h) :
  ∀ (n i : Nat) (h : x_H) (f : Nat → Option Nat), i + n = 8 → x_gr h0 h (2 * i) (19 * i) [b + 3] → h.1 (b + 3) = some (.inl (5, 8, x_rf f)) → (∀ q, q < i → f q = some (b + 86 + 2 * q)) → (∀ j, j < i → isQ h (b + 86 + 2 * j) (b + 86 + 2 * j + 1) 4 0 []) → x_K P (d + 3) mBT_init 174 [some (.ref b), v1, some (.int (nI i)), v3] [] h Φ := by
  intro n
  induction n with
  | zero =>
    intro i h f hk g ha hf hL
    have ei : i = 8 := by omega
    subst ei
    refine eBT_init_174 ?_
    refine eBT_init_175 ?_
    refine eBT_init_177 (fun _ => ?_) (fun c => absurd (by decide) c)
    exact eBT_init_199 (kk h f g ha hf hL)
  | succ n ih =>
    intro i h f hk g ha hf hL
    refine eBT_init_174 ?_
    refine eBT_init_175 ?_
    refine eBT_init_177 (fun c => absurd c (nI_ge (b := 8) (by omega) (by decide))) (fun _ => ?_)
    have hnh : h.2.1 = b + 86 + 2 * i := by rw [g.1, hn0]
    refine gBT_180 ((g.2.2 b (by omega) (by simp)).trans hb0) hl ha (by omega) hnh (by omega) (fun h1 g1 n1 a1 k1 => ?_)
    refine eBT_init_193 ?_
    rw [nI_1]
    refine eBT_init_196 ?_
    refine ih (i + 1) h1 _ (by omega) ?_ a1 (fun q hq => ?_) (fun j hj => ?_)
    · rw [show 2 * (i + 1) = 2 * i + 2 by omega, show 19 * (i + 1) = 19 * i + 19 by omega]
      exact g.trans g1 (S := [b + 3]) (fun _ z => z) (fun _ z _ => z)
    · unfold va_up
      by_cases c : q = i
      · rw [if_pos c, c]
      · rw [if_neg c]; exact hf q (by omega)
    · by_cases c : j = i
      · rw [c]; exact k1
      · exact (hL j (by omega)).gr g1 (by omega) (by omega) (by simp <;> omega) (by simp <;> omega)
end
/-- what the constructor has laid out -/
def bLay (P : x_P) (b : Nat) (h : x_H) : Prop := h.1 (b + 1) = some (.inl (2, 30, .inl (fun _ => 0))) ∧ isCa h (b + 4) (b + 5) (b + 6) ∧ isAL P h (b + 5) P.2.2.2.2.2.2.2.1 0 [] ∧ h.1 (b + 6) = some (.inl (0, 16, .inl (fun _ => 0))) ∧ h.1 (b + 7) = some (.inl (0, 16, .inl (fun _ => 0))) ∧ h.1 (b + 8) = some (.inl (0, 16, .inl (fun _ => 0))) ∧ h.1 (b + 9) = some (.inl (1, 16, .inl (fun _ => 0))) ∧ isAL P h (b + 10) P.2.2.2.2.2.2.2.1 0 [] ∧ h.1 (b + 11) = some (.inl (0, 4, .inl (fun _ => 0))) ∧ isRow h (b + 12) [] ∧ isRow h (b + 14) []
def ofs (b q : Nat) : Nat := if q < b then 99 else if q - b < 12 then q - b else if q - b < 14 then 12 else if q - b < 16 then 14 else if q - b < 86 then (if (q - b - 16) % 7 = 0 then 16 + 4 * ((q - b - 16) / 7) else if (q - b - 16) % 7 < 3 then 17 + 4 * ((q - b - 16) / 7) else if (q - b - 16) % 7 < 5 then 18 + 4 * ((q - b - 16) / 7) else 19 + 4 * ((q - b - 16) / 7)) else if q - b < 102 then 59 + 4 * ((q - b - 86) / 2) else 99
theorem ofs_lk {b j i : Nat} (hj : j < 10) (hi : i < 7) : ofs b (b + 16 + 7 * j + i) = (if i = 0 then 16 + 4 * j else if i < 3 then 17 + 4 * j else if i < 5 then 18 + 4 * j else 19 + 4 * j) := by
  unfold ofs
  have e1 : (b + 16 + 7 * j + i - b - 16) % 7 = i := by omega
  have e2 : (b + 16 + 7 * j + i - b - 16) / 7 = j := by omega
  rw [if_neg (by omega), if_neg (by omega), if_neg (by omega), if_neg (by omega), if_pos (by omega), e1, e2]
theorem ofs_q {b j i : Nat} (hj : j < 8) (hi : i < 2) : ofs b (b + 86 + 2 * j + i) = 59 + 4 * j := by
  unfold ofs
  have e2 : (b + 86 + 2 * j + i - b - 86) / 2 = j := by omega
  rw [if_neg (by omega), if_neg (by omega), if_neg (by omega), if_neg (by omega), if_neg (by omega), if_pos (by omega), e2]
theorem ofs_s {b i : Nat} (hi : i < 12) : ofs b (b + i) = i := by
  unfold ofs
  rw [if_neg (by omega), if_pos (by omega)]
  omega
theorem isB_0 {P : x_P} {b : Nat} {p : Nat → Nat} {h : x_H} {f2 f3 : Nat → Option Nat} (hn : h.2.1 = b + 102) (hb : h.1 b = some (.inr (0, [.ref (b + 1), .int 0, .ref (b + 2), .ref (b + 3), .ref (b + 4), .ref (b + 7), .ref (b + 8), .ref (b + 9), .int 0, .ref (b + 10), .ref (b + 11), .ref (b + 12), .ref (b + 14)]))) (kA : bLay P b h) (h2 : h.1 (b + 2) = some (.inl (4, 36, x_rf f2))) (h2' : ∀ q, q < 36 → f2 q = (lkF p q).map (fun j => b + 16 + 7 * j)) (h3 : h.1 (b + 3) = some (.inl (5, 8, x_rf f3))) (h3' : ∀ q, q < 8 → f3 q = some (b + 86 + 2 * q)) (hL : ∀ j, j < 10 → isLk h (b + 16 + 7 * j) (nI (frF p j)) (nI (toF p j)) [] [] []) (hI : ∀ j, j < 8 → isQ h (b + 86 + 2 * j) (b + 86 + 2 * j + 1) 4 0 []) {F : Nat → Option x_E} : isB P b p (0, 0, F) S0 (b + 102, h.2.2) h := by
  obtain ⟨a1, a4, a5, a6, a7, a8, a9, a10, a11, a12, a14⟩ := kA
  have w : ∀ i, i < 12 → own (ofs b) h i (b + i) := fun i hi => ⟨ofs_s hi, by omega⟩
  have wl : ∀ j i, j < 10 → i < 7 → own (ofs b) h (if i = 0 then 16 + 4 * j else if i < 3 then 17 + 4 * j else if i < 5 then 18 + 4 * j else 19 + 4 * j) (b + 16 + 7 * j + i) := fun j i hj hi => ⟨ofs_lk hj hi, by omega⟩
  refine ⟨ofs b, fun _ => 4, 0, 0, ?_, by rw [hn]; exact Nat.le_add_right _ _, Nat.le_add_right _ _⟩
  intro k
  match k with
  | 0 => exact ⟨w 0 (by omega), hb, Nat.zero_le _, Nat.zero_le _⟩
  | 1 => exact ⟨w 1 (by omega), _, a1, by decide, fun i _ => rfl, fun i _ => by show 0 < 65536; decide⟩
  | 2 => exact ⟨w 2 (by omega), _, h2, h2'⟩
  | 3 => exact ⟨w 3 (by omega), _, h3, h3'⟩
  | 4 => exact ⟨w 4 (by omega), a4⟩
  | 5 => exact ⟨w 5 (by omega), _, a5, by decide, Or.inl ⟨rfl, rfl, rfl⟩⟩
  | 6 => exact ⟨w 6 (by omega), _, a6, fun i hi => ⟨0, by decide, rfl, fun g _ => by simp [covB, S0, b_K]⟩⟩
  | 7 => exact ⟨w 7 (by omega), _, a7, fun i _ => ⟨rfl, by show 0 < 8; decide⟩⟩
  | 8 => exact ⟨w 8 (by omega), _, a8, fun i _ => ⟨rfl, by show 0 < 16; decide⟩⟩
  | 9 => exact ⟨w 9 (by omega), _, a9, fun i _ => rfl⟩
  | 10 => exact ⟨w 10 (by omega), _, a10, by decide, Nat.zero_le _, Or.inl ⟨rfl, rfl, rfl⟩⟩
  | 11 => exact ⟨w 11 (by omega), _, a11, fun i _ => rfl⟩
  | 12 => exact ⟨⟨by unfold ofs; rw [if_neg (by omega), if_neg (by omega), if_pos (by omega)], by omega⟩, ⟨by unfold ofs; rw [if_neg (by omega), if_neg (by omega), if_pos (by omega)], by omega⟩, a12⟩
  | 13 => exact ⟨Nat.zero_le _, fun q hq => by cases hq⟩
  | 14 => exact ⟨⟨by unfold ofs; rw [if_neg (by omega), if_neg (by omega), if_neg (by omega), if_pos (by omega)], by omega⟩, ⟨by unfold ofs; rw [if_neg (by omega), if_neg (by omega), if_neg (by omega), if_pos (by omega)], by omega⟩, a14⟩
  | 15 => exact fun q hq => by cases hq
  | k + 16 =>
    refine ⟨fun e e2 => ?_, fun e e2 => ?_, fun e e2 => ?_, fun e e2 => ?_, fun e q q1 q2 => ?_⟩
    · have z := wl (k / 4) 0 e2 (by omega)
      rw [if_pos rfl, show 16 + 4 * (k / 4) = k + 16 by omega] at z
      refine ⟨z, ?_⟩
      have y := (hL (k / 4) e2).1
      rw [y]
      rw [show b + 16 + 7 * (k / 4) + 1 = b + 17 + 7 * (k / 4) by omega, show b + 16 + 7 * (k / 4) + 3 = b + 19 + 7 * (k / 4) by omega, show b + 16 + 7 * (k / 4) + 5 = b + 21 + 7 * (k / 4) by omega]
    · have z1 := wl (k / 4) 1 e2 (by omega)
      have z2 := wl (k / 4) 2 e2 (by omega)
      rw [if_neg (by omega), if_pos (by omega), show 17 + 4 * (k / 4) = k + 16 by omega] at z1 z2
      rw [show b + 16 + 7 * (k / 4) + 1 = b + 17 + 7 * (k / 4) by omega] at z1
      rw [show b + 16 + 7 * (k / 4) + 2 = b + 17 + 7 * (k / 4) + 1 by omega] at z2
      have y := (hL (k / 4) e2).2.1
      rw [show b + 16 + 7 * (k / 4) + 1 = b + 17 + 7 * (k / 4) by omega] at y
      exact ⟨z1, z2, y⟩
    · have z1 := wl (k / 4) 3 e2 (by omega)
      have z2 := wl (k / 4) 4 e2 (by omega)
      rw [if_neg (by omega), if_neg (by omega), if_pos (by omega), show 18 + 4 * (k / 4) = k + 16 by omega] at z1 z2
      rw [show b + 16 + 7 * (k / 4) + 3 = b + 19 + 7 * (k / 4) by omega] at z1
      rw [show b + 16 + 7 * (k / 4) + 4 = b + 19 + 7 * (k / 4) + 1 by omega] at z2
      have y := (hL (k / 4) e2).2.2.1
      rw [show b + 16 + 7 * (k / 4) + 3 = b + 19 + 7 * (k / 4) by omega] at y
      exact ⟨z1, z2, y⟩
    · refine ⟨by show 4 ≤ 10; decide, ?_⟩
      by_cases c : k / 4 < 10
      · have z1 := wl (k / 4) 5 c (by omega)
        have z2 := wl (k / 4) 6 c (by omega)
        rw [if_neg (by omega), if_neg (by omega), if_neg (by omega), show 19 + 4 * (k / 4) = k + 16 by omega] at z1 z2
        have y := (hL (k / 4) c).2.2.2
        have eq : qaF b (k / 4) = b + 16 + 7 * (k / 4) + 5 := by unfold qaF; rw [if_pos c]; omega
        rw [eq]
        exact ⟨_, 0, z1, z2, y⟩
      · have y := hI (k / 4 - 10) (by omega)
        have eq : qaF b (k / 4) = b + 86 + 2 * (k / 4 - 10) := by unfold qaF; rw [if_neg c]; omega
        rw [eq]
        refine ⟨_, 0, ⟨?_, by omega⟩, ⟨?_, by omega⟩, y⟩
        · have := ofs_q (b := b) (j := k / 4 - 10) (i := 0) (by omega) (by omega)
          rw [Nat.add_zero] at this
          rw [this]
          omega
        · have := ofs_q (b := b) (j := k / 4 - 10) (i := 1) (by omega) (by omega)
          rw [this]
          omega
    · have q2' : q < 0 + 0 := q2
      omega
section
variable {P : x_P} {d : Nat} {h : x_H} {b : Nat}
theorem sBT_init {x : Int32} (hb : h.1 b = some (.inr (0, [.null, .int 0, .null, .null, .null, .null, .null, .null, .int 0, .null, .null, .null, .null]))) (hn : h.2.1 = b + 1) : x_K P (d + 5) mBT_init 0 [some (.ref b), some (.int x), none, none] [] h (fun oc h' => oc = .returned none ∧ x_gr h h' 101 960 [b] ∧ ∀ F, isB P b (pF x) (0, 0, F) S0 (b + 102, h'.2.2) h') := by
  refine eBT_init_0 rfl ?_
  refine eBT_init_1 (Nat.le_of_ble_eq_true rfl) ?_
  refine gBT_4 (c := b + 1) hb rfl (by omega) hn (fun h1 g1 n1 b1 f1 => ?_)
  refine gBT_12 (c := b + 2) b1 rfl (by omega) n1 (fun h2 g2 n2 b2 f2 => ?_)
  refine gBT_21 (c := b + 3) b2 rfl (by omega) n2 (fun h3 g3 n3 b3 f3 => ?_)
  refine gBT_30 (c := b + 4) b3 rfl (by omega) n3 (fun h4 g4 n4 b4 f4 f4a f4b => ?_)
  refine gBT_41 (c := b + 7) b4 rfl (by omega) n4 (fun h5 g5 n5 b5 f5 => ?_)
  refine gBT_49 (c := b + 8) b5 rfl (by omega) n5 (fun h6 g6 n6 b6 f6 => ?_)
  refine gBT_57 (c := b + 9) b6 rfl (by omega) n6 (fun h7 g7 n7 b7 f7 => ?_)
  refine gBT_65 (c := b + 10) b7 rfl (by omega) n7 (fun h8 g8 n8 b8 f8 => ?_)
  refine gBT_76 (c := b + 11) b8 rfl (by omega) n8 (fun h9 g9 n9 b9 f9 => ?_)
  refine gBT_83 (c := b + 12) b9 rfl (by omega) n9 (fun h10 g10 n10 b10 f10 => ?_)
  refine gBT_94 (c := b + 14) b10 rfl (by omega) n10 (fun h11 g11 n11 b11 f11 => ?_)
  have G10 := g11
  have G9 := g10.trans G10 (S := [b]) (fun _ z => z) (fun _ z _ => z)
  have G8 := g9.trans G9 (S := [b]) (fun _ z => z) (fun _ z _ => z)
  have G7 := g8.trans G8 (S := [b]) (fun _ z => z) (fun _ z _ => z)
  have G6 := g7.trans G7 (S := [b]) (fun _ z => z) (fun _ z _ => z)
  have G5 := g6.trans G6 (S := [b]) (fun _ z => z) (fun _ z _ => z)
  have G4 := g5.trans G5 (S := [b]) (fun _ z => z) (fun _ z _ => z)
  have G3 := g4.trans G4 (S := [b]) (fun _ z => z) (fun _ z _ => z)
  have G2 := g3.trans G3 (S := [b]) (fun _ z => z) (fun _ z _ => z)
  have G1 := g2.trans G2 (S := [b]) (fun _ z => z) (fun _ z _ => z)
  have G0 := g1.trans G1 (S := [b]) (fun _ z => z) (fun _ z _ => z)
  clear g1 g2 g3 g4 g5 g6 g7 g8 g9 g10 g11 b1 b2 b3 b4 b5 b6 b7 b8 b9 b10
  have b12 : h11.1 b = some (.inr (0, [.ref (b + 1), .int 0, .ref (b + 2), .ref (b + 3), .ref (b + 4), .ref (b + 7), .ref (b + 8), .ref (b + 9), .int 0, .ref (b + 10), .ref (b + 11), .ref (b + 12), .ref (b + 14)])) := b11
  clear b11
  have A11 : bLay P b h11 := by
    refine ⟨(G1.2.2 _ (by omega) (by simp)).trans f1, (G4.2.2 _ (by omega) (by simp)).trans f4, ?_, (G4.2.2 _ (by omega) (by simp)).trans f4b, (G5.2.2 _ (by omega) (by simp)).trans f5, (G6.2.2 _ (by omega) (by simp)).trans f6, (G7.2.2 _ (by omega) (by simp)).trans f7, ?_, (G9.2.2 _ (by omega) (by simp)).trans f9, f10.gr G10 (by omega) (by simp) (by simp <;> omega), f11⟩
    · obtain ⟨mc, e, -⟩ := f4a
      exact ⟨mc, (G4.2.2 _ (by omega) (by simp)).trans e, Or.inl ⟨rfl, rfl, rfl⟩⟩
    · obtain ⟨mc, e, -⟩ := f8
      exact ⟨mc, (G8.2.2 _ (by omega) (by simp)).trans e, Or.inl ⟨rfl, rfl, rfl⟩⟩
  have F2 := (G2.2.2 (b + 2) (by omega) (by simp)).trans f2
  have F3 := (G3.2.2 (b + 3) (by omega) (by simp)).trans f3
  refine eBT_init_105 ?_
  refine eBT_init_106 ?_
  refine lBT_init1 (h0 := h11) b12 rfl n11 ?_ 5 1 h11 none _ rfl (by decide) x_gr.rf F2 (fun q hq => ?_) (fun j hj => absurd hj (by omega))
  · intro h12 v3 f g12 a12 e12 L12
    have n12 : h12.2.1 = b + 86 := by rw [g12.1, n11]
    refine eBT_init_172 ?_
    refine eBT_init_173 ?_
    refine lBT_init2 (h0 := h12) ((g12.2.2 b (by omega) (by simp)).trans b12) rfl n12 ?_ 8 0 h12 _ rfl x_gr.rf ((g12.2.2 _ (by omega) (by simp)).trans F3) (fun q hq => absurd hq (Nat.not_lt_zero _)) (fun q hq => absurd hq (Nat.not_lt_zero _))
    intro h13 f' g13 a13 e13 L13
    have g14 := g12.trans g13 (S := [b + 2, b + 3]) (fun _ z => by simp at z; simp [z]) (fun _ z _ => by simp at z; simp [z])
    have ke : ∀ q, q < b + 16 → q ≠ b + 2 → q ≠ b + 3 → h13.1 q = h11.1 q := fun q z1 z2 z3 => g14.2.2 q (by omega) (by simp [z2, z3])
    have n13 : h13.2.1 = b + 102 := by rw [g13.1, n12]
    refine ⟨rfl, ?_, fun F => ?_⟩
    · obtain ⟨y1, y2, y3⟩ := G0
      obtain ⟨w1, w2, w3⟩ := g14
      refine ⟨by omega, by omega, fun q hq hS => ?_⟩
      rw [w3 q (by omega) (by simp <;> omega)]
      exact y3 q hq hS
    · rw [← n13]
      have := isB_0 (P := P) (F := F) n13 ((ke b (by omega) (by omega) (by omega)).trans b12) ?_ ((g13.2.2 _ (by omega) (by simp)).trans a12) e12 a13 e13 (fun j hj => (L12 j hj).gr g13 (by omega) (fun q hq => by simp at hq; omega)) L13
      · rw [n13]; exact this
      · obtain ⟨a1, a4, a5, a6, a7, a8, a9, a10, a11, a12', a14⟩ := A11
        refine ⟨(ke _ (by omega) (by omega) (by omega)).trans a1, (ke _ (by omega) (by omega) (by omega)).trans a4, ?_, (ke _ (by omega) (by omega) (by omega)).trans a6, (ke _ (by omega) (by omega) (by omega)).trans a7, (ke _ (by omega) (by omega) (by omega)).trans a8, (ke _ (by omega) (by omega) (by omega)).trans a9, ?_, (ke _ (by omega) (by omega) (by omega)).trans a11, a12'.keep2 (ke _ (by omega) (by omega) (by omega)) (ke _ (by omega) (by omega) (by omega)), a14.keep2 (ke _ (by omega) (by omega) (by omega)) (ke _ (by omega) (by omega) (by omega))⟩
        · obtain ⟨mc, e, -⟩ := a5
          exact ⟨mc, (ke _ (by omega) (by omega) (by omega)).trans e, Or.inl ⟨rfl, rfl, rfl⟩⟩
        · obtain ⟨mc, e, -⟩ := a10
          exact ⟨mc, (ke _ (by omega) (by omega) (by omega)).trans e, Or.inl ⟨rfl, rfl, rfl⟩⟩
  · have e : lkP (pF x) 1 q = none := by
      unfold lkP
      rw [if_neg (by omega), if_neg (by omega)]
    rw [e]
    rfl
end

