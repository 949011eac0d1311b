/-! The reference: subscribe -/
section
variable {p : Nat → Nat} {S S' : bS} {F : Nat → sp3} {T H M : Nat → List Nat} {fr fr' : Nat → Nat} {ze ze' : Nat → Int32} {si si' : Nat → Nat → Int32}
theorem slS_s {j : Nat} : b_s (slS p S j) = b_s S := by
  unfold slS slC dpS slB tlS slA
  rw [bg_s_cn, bg_s_Q, bg_s_T, bg_s_cn, bg_s_Q, bg_s_T, bg_s_nd, bg_s_of]
theorem lp_s {f : Nat → bS → bS} (hf : ∀ k S, b_s (f k S) = b_s S) : ∀ (n k : Nat) (S : bS), b_s (lp f n k S) = b_s S := by
  intro n
  induction n with
  | zero => intro k S; rfl
  | succ n ih => intro k S; exact (ih (k + 1) (f k S)).trans (hf k S)
theorem settleF_s {u : Nat} : b_s (settleF p u S) = b_s S := lp_s (fun k S => by
  unfold stF
  split
  · rfl
  · exact slS_s) 6 0 S
theorem sbS_f {q i : Nat} {G : sp3} : (b_n (sbS S q G i) = 0 ∧ b_g (sbS S q G i) = b_g S ∧ b_s (sbS S q G i) = b_s S + 1 ∧ b_K (sbS S q G i) = cadd (b_K S) (q, G) ∧ b_su (sbS S q G i) = ub (b_su S) (b_s S) i ∧ b_wa (sbS S q G i) = ub (b_wa S) (b_s S) (cnum (b_K S) G) ∧ b_en (sbS S q G i) = b_en S ∧ b_N (sbS S q G i) = b_N S) ∧ b_T (sbS S q G i) = b_T S ∧ b_H (sbS S q G i) = b_H S ∧ b_Q (sbS S q G i) = b_Q S ∧ b_cn (sbS S q G i) = b_cn S := by
  unfold sbS
  rw [bg_n_s, bg_n_wa, bg_n_pf, bg_n_K, bg_n_su, bg_n_pf, bg_n, bg_g_s, bg_g_wa, bg_g_pf, bg_g_K, bg_g_su, bg_g_pf, bg_g_n, bg_s, bg_K_s, bg_K_wa, bg_K_pf, bg_K, bg_su_s, bg_su_wa, bg_su_pf, bg_su_K, bg_su, bg_wa_s, bg_wa, bg_en_s, bg_en_wa, bg_en_pf, bg_en_K, bg_en_su, bg_en_pf, bg_en_n, bg_N_s, bg_N_wa, bg_N_pf, bg_N_K, bg_N_su, bg_N_pf, bg_N_n, bg_T_s, bg_T_wa, bg_T_pf, bg_T_K, bg_T_su, bg_T_pf, bg_T_n, bg_H_s, bg_H_wa, bg_H_pf, bg_H_K, bg_H_su, bg_H_pf, bg_H_n, bg_Q_s, bg_Q_wa, bg_Q_pf, bg_Q_K, bg_Q_su, bg_Q_pf, bg_Q_n, bg_cn_s, bg_cn_wa, bg_cn_pf, bg_cn_K, bg_cn_su, bg_cn_pf, bg_cn_n]
  exact ⟨⟨rfl, rfl, rfl, rfl, rfl, rfl, rfl, rfl⟩, rfl, rfl, rfl, rfl⟩
theorem cadd_get {K : List (Nat × sp3)} {q : Nat × sp3} {a : Nat} {r : Nat × sp3} (h : K[a]? = some r) : (cadd K q)[a]? = some r := by
  unfold cadd
  split
  · exact h
  · rw [List.getElem?_append_left (List.getElem?_eq_some_iff.mp h).1]
    exact h
theorem cadd_num {K : List (Nat × sp3)} {q : Nat} {G : sp3} : ∃ r, (cadd K (q, G))[cnum K G]? = some r ∧ fiInc r.2 G = true ∧ fiInc G r.2 = true := by
  by_cases h : K.any (alF G) = true
  · unfold cadd cnum
    rw [if_pos h]
    have h1 : K.findIdx (alF G) < K.length := List.findIdx_lt_length.mpr (List.any_eq_true.mp h)
    refine ⟨K[K.findIdx (alF G)], List.getElem?_eq_getElem h1, ?_⟩
    have h2 : alF G (K[K.findIdx (alF G)]) = true := List.findIdx_getElem
    unfold alF at h2
    rw [Bool.and_eq_true] at h2
    exact h2
  · have hn : ∀ r ∈ K, alF G r = false := fun r hr => by
      rw [← Bool.not_eq_true]
      exact fun z => h (List.any_eq_true.mpr ⟨r, hr, z⟩)
    rw [(cnum_no hn).1]
    unfold cadd
    rw [if_neg h, List.getElem?_append_right (Nat.le_refl _), Nat.sub_self]
    exact ⟨_, rfl, fiInc_refl, fiInc_refl⟩
theorem cadd_len {K : List (Nat × sp3)} {q : Nat × sp3} : (cadd K q).length ≤ K.length + 1 := by
  unfold cadd
  split
  · omega
  · rw [List.length_append]; exact Nat.le_refl _
theorem rlF.sb {q i : Nat} {G : sp3} (k : rlF S F) : rlF (sbS S q G i) (ub F (b_s S) G) := by
  obtain ⟨⟨f1, f2, f3, f4, f5, f6, f7, f8⟩, -⟩ := sbS_f (S := S) (q := q) (i := i) (G := G)
  obtain ⟨k1, k2, k3⟩ := k
  unfold rlF
  rw [f3, f4, f6]
  refine ⟨Nat.le_trans cadd_len (by omega), fun x hx => ?_, ?_⟩
  · by_cases e : x = b_s S
    · subst e
      rw [ub_same, ub_same]
      exact cadd_num
    · rw [ub_ne e, ub_ne e]
      obtain ⟨r, r1, r2⟩ := k2 x (by omega)
      exact ⟨r, cadd_get r1, r2⟩
  · intro a c r t h1 h2 h3 h4
    unfold cadd at h1 h2
    split at h1
    · rename_i hc
      rw [if_pos hc] at h2
      exact k3 a c r t h1 h2 h3 h4
    · rename_i hc
      rw [if_neg hc] at h2
      have hn : ∀ r ∈ b_K S, alF G r = false := fun r hr => by
        rw [← Bool.not_eq_true]
        exact fun z => hc (List.any_eq_true.mpr ⟨r, hr, z⟩)
      have b1 := (List.getElem?_eq_some_iff.mp h1).1
      have b2 := (List.getElem?_eq_some_iff.mp h2).1
      rw [List.length_append, List.length_singleton] at b1 b2
      by_cases c1 : a < (b_K S).length
      · rw [List.getElem?_append_left c1] at h1
        by_cases c2 : c < (b_K S).length
        · rw [List.getElem?_append_left c2] at h2
          exact k3 a c r t h1 h2 h3 h4
        · have e : c = (b_K S).length := by omega
          subst e
          rw [List.getElem?_append_right (Nat.le_refl _), Nat.sub_self] at h2
          have e2 := Option.some.inj h2
          have := hn r (List.mem_of_getElem? h1)
          rw [← e2] at h3 h4
          unfold alF at this
          rw [h3, h4] at this
          cases this
      · have e : a = (b_K S).length := by omega
        subst e
        rw [List.getElem?_append_right (Nat.le_refl _), Nat.sub_self] at h1
        have e2 := Option.some.inj h1
        by_cases c2 : c < (b_K S).length
        · rw [List.getElem?_append_left c2] at h2
          have := hn t (List.mem_of_getElem? h2)
          rw [← e2] at h3 h4
          unfold alF at this
          rw [h3, h4] at this
          cases this
        · omega
theorem rlL.sb {q i : Nat} {G : sp3} {L : Nat → List Nat} (k : rlL S T L) : rlL (sbS S q G i) T L := by
  obtain ⟨⟨f1, f2, f3, f4, f5, f6, f7, f8⟩, -⟩ := sbS_f (S := S) (q := q) (i := i) (G := G)
  intro j hj
  obtain ⟨a1, a2, a3⟩ := k j hj
  rw [f3, f6]
  refine ⟨?_, fun x hx => by have := a2 x hx; omega, a3⟩
  rw [← a1]
  refine List.map_congr_left (fun x hx => ub_ne ?_)
  have := a2 x hx
  omega
theorem rlM.sb {q i : Nat} {G : sp3} {L : Nat → List Nat} (k : rlM S M L) : rlM (sbS S q G i) M L := by
  obtain ⟨⟨f1, f2, f3, f4, f5, f6, f7, f8⟩, -⟩ := sbS_f (S := S) (q := q) (i := i) (G := G)
  intro j hj
  obtain ⟨a1, a2⟩ := k j hj
  rw [f3, f6, f8]
  refine ⟨?_, fun x hx => ⟨(a2 x hx).1, fun z => by have := (a2 x hx).2.1 z; omega, (a2 x hx).2.2⟩⟩
  rw [← a1]
  refine List.map_congr_left (fun x hx => ?_)
  unfold mcv
  split
  · rfl
  · rename_i z
    have := (a2 x hx).2.1 z
    rw [ub_ne (by omega)]
/-- the state when a subscription has come -/
theorem isM.sb {q i : Nat} {G : sp3} (k : isM p S F T H fr M ze si) (hs : b_s S < 16) (hi : i < 8) (hR : isRF si' (b_s S) G) (hz1 : ze' 1 = 0) (hz3 : ze' 3 = nI (b_s S + 1)) (hz : ∀ j, j ≠ 1 → j ≠ 3 → ze' j = ze j)
  (hc : ∀ x, si' 16 x = if x = b_s S then nI i else si 16 x) (hsi : ∀ K, K ≠ 15 → K ≠ 16 → si' K = si K)
  (ho : ∀ f g, f < b_s S + 1 → g < b_s S + 1 → si' 15 (16 * f + g) = b2i (fiInc (ub F (b_s S) G f) (ub F (b_s S) G g))) : isM p (sbS S q G i) (ub F (b_s S) G) T H fr M ze' si' := by
  obtain ⟨⟨f1, f2, f3, f4, f5, f6, f7, f8⟩, f9, f10, f11, f12⟩ := sbS_f (S := S) (q := q) (i := i) (G := G)
  obtain ⟨a1, a2, a3, a4, a5, a6, a7, a8, a9, a10, a11, a12⟩ := k
  refine ⟨?_, ?_, ?_, ?_, ?_, ?_, a7.sb, ?_, ?_, ?_, ?_, ?_⟩
  · rw [f1, f2, hz1, hsi 1 (by decide) (by decide), hz 0 (by decide) (by decide)]
    exact ⟨a1.1, rfl, Nat.zero_le _, a1.2.2.2⟩
  · rw [hsi 2 (by decide) (by decide)]; exact a2
  · rw [f3, f5, f7, hsi 17 (by decide) (by decide)]
    refine ⟨hz3, by omega, fun x hx => ?_, a3.2.2.2⟩
    rw [hc x]
    by_cases e : x = b_s S
    · subst e
      rw [if_pos rfl, ub_same]
      exact ⟨rfl, hi⟩
    · rw [if_neg e, ub_ne e]
      exact a3.2.2.1 x (by omega)
  · rw [f3]
    intro x hx
    by_cases e : x = b_s S
    · subst e
      rw [ub_same]
      exact hR
    · rw [ub_ne e]
      exact (a4 x (by omega)).kA (fun K h1 h2 => hsi K (by omega) (by omega))
  · rw [f3]
    exact ho
  · rw [f8, hz 5 (by decide) (by decide), hsi 27 (by decide) (by decide), hsi 28 (by decide) (by decide), hsi 29 (by decide) (by decide)]
    exact a6
  · rw [f9, hsi 18 (by decide) (by decide), hsi 19 (by decide) (by decide)]; exact ⟨a8.1, a8.2.sb⟩
  · rw [f10, hsi 20 (by decide) (by decide), hsi 21 (by decide) (by decide)]; exact ⟨a9.1, a9.2.sb⟩
  · rw [f11, hsi 22 (by decide) (by decide), hsi 23 (by decide) (by decide), hsi 24 (by decide) (by decide)]; exact ⟨a10.1, a10.2.sb⟩
  · rw [f12, hz 6 (by decide) (by decide), hz 7 (by decide) (by decide), hz 8 (by decide) (by decide), hz 9 (by decide) (by decide)]; exact a11
  · rw [f11, hsi 30 (by decide) (by decide), hsi 31 (by decide) (by decide), hsi 32 (by decide) (by decide)]; exact a12
end
section
variable {P : x_P} {d : Nat} {h0 : x_H} {bm : Nat} {p : Nat → Nat} {S : bS} {F : Nat → sp3} {T H M : Nat → List Nat} {fr : Nat → Nat} {ze : Nat → Int32} {si : Nat → Nat → Int32} {Φ : Outcome → x_H → Prop}
theorem lMO_over {s : Nat} {F : Nat → sp3} {v1 v2 v3 : Option Value} {si0 : Nat → Nat → Int32} (hs : s < 16) (hz : ze 3 = nI (s + 1)) (hR : ∀ f, f < s + 1 → isRF si0 f (F f))
  (kk : ∀ si' v4, (∀ K, K ≠ 15 → si' K = si0 K) → (∀ f g, f < s + 1 → g < s + 1 → si' 15 (16 * f + g) = b2i (fiInc (F f) (F g))) → x_K P (d + 5) mMO_subscribe 168 [some (.ref bm), v1, v2, v3, v4] [] (mh h0 bm ze si') Φ) :
  ∀ (n k : Nat) (si : Nat → Nat → Int32), k + n = s + 1 → (∀ K, K ≠ 15 → si K = si0 K) → (∀ f g, f < s → g < s → si 15 (16 * f + g) = b2i (fiInc (F f) (F g))) → (∀ f, f < k → si 15 (16 * f + s) = b2i (fiInc (F f) (F s)) ∧ si 15 (16 * s + f) = b2i (fiInc (F s) (F f))) → x_K P (d + 5) mMO_subscribe 95 [some (.ref bm), v1, v2, v3, some (.int (nI k))] [] (mh h0 bm ze si) Φ := by
  have em : nI (s + 1) - 1 = nI s := nI_pred s
  intro n
  induction n with
  | zero =>
    intro k si hk f e1 e2
    have ek : k = s + 1 := by omega
    subst ek
    refine eMO_subscribe_95 ?_
    refine eMO_subscribe_97 rfl ?_
    refine eMO_subscribe_98 mh_o rfl ?_
    rw [hz]
    refine eMO_subscribe_101 (fun c101 => ?_) (fun c => absurd (nI_le (Nat.le_refl _) (by omega)) c)
    skip
    refine kk si _ f (fun a b ha hb => ?_)
    by_cases c1 : b = s
    · subst c1
      exact (e2 a ha).1
    · by_cases c2 : a = s
      · subst c2
        exact (e2 b hb).2
      · exact e1 a b (by omega) (by omega)
  | succ n ih =>
    intro k si hk f e1 e2
    have r1 : isRF si k (F k) := (hR k (by omega)).kA (fun K h1 h2 => f K (by omega))
    have r2 : isRF si s (F s) := (hR s (by omega)).kA (fun K h1 h2 => f K (by omega))
    have em2 : nI (16 * k + (s + 1)) - 1 = nI (16 * k + s) := nI_pred _
    have r1' : isRF (va_up si 15 (upd (si 15) (16 * k + s) (b2i (fiInc (F k) (F s))))) k (F k) := r1.kA (fun K h1 h2 => if_neg (by omega))
    have r2' : isRF (va_up si 15 (upd (si 15) (16 * k + s) (b2i (fiInc (F k) (F s))))) s (F s) := r2.kA (fun K h1 h2 => if_neg (by omega))
    refine eMO_subscribe_95 ?_
    refine eMO_subscribe_97 rfl ?_
    refine eMO_subscribe_98 mh_o rfl ?_
    rw [hz]
    refine eMO_subscribe_101 (fun c => absurd c (nI_ge (by omega) (by omega))) (fun c101 => ?_)
    refine eMO_subscribe_104 rfl ?_
    refine eMO_subscribe_105 mh_o rfl ?_
    refine eMO_subscribe_108 ?_
    refine eMO_subscribe_110 ?_
    refine eMO_subscribe_112 ?_
    rw [mx16]
    refine eMO_subscribe_113 rfl ?_
    refine eMO_subscribe_114 mh_o rfl ?_
    rw [hz]
    refine eMO_subscribe_117 ?_
    rw [nI_add]
    refine eMO_subscribe_118 ?_
    refine eMO_subscribe_119 ?_
    rw [em2]
    refine eMO_subscribe_120 rfl ?_
    refine eMO_subscribe_121 ?_
    refine eMO_subscribe_123 rfl ?_
    refine eMO_subscribe_124 mh_o rfl ?_
    rw [hz]
    refine eMO_subscribe_127 ?_
    refine eMO_subscribe_128 ?_
    rw [em]
    refine eMO_subscribe_129 mh_o (Nat.le_of_ble_eq_true rfl) (((sMO_coversAll (by omega) (by omega) r1 r2).up (d := d + 2) (by omega))) ?_
    rintro _ _ ⟨rfl, rfl⟩
    refine ⟨_, rfl, ?_⟩
    refine eMO_subscribe_132 mh_a15 (xn_in (by omega) (by decide)) ?_
    rw [mh_p15, nI_clamp (by omega)]
    rw [b2i_nar]
    refine eMO_subscribe_133 rfl ?_
    refine eMO_subscribe_134 mh_o rfl ?_
    refine eMO_subscribe_137 ?_
    refine eMO_subscribe_139 rfl ?_
    refine eMO_subscribe_140 mh_o rfl ?_
    rw [hz]
    refine eMO_subscribe_143 ?_
    refine eMO_subscribe_144 ?_
    rw [em]
    refine eMO_subscribe_145 ?_
    rw [mx16]
    refine eMO_subscribe_146 ?_
    refine eMO_subscribe_148 ?_
    rw [nI_add]
    refine eMO_subscribe_149 rfl ?_
    refine eMO_subscribe_150 rfl ?_
    refine eMO_subscribe_151 mh_o rfl ?_
    rw [hz]
    refine eMO_subscribe_154 ?_
    refine eMO_subscribe_155 ?_
    rw [em]
    refine eMO_subscribe_156 ?_
    refine eMO_subscribe_158 mh_o (Nat.le_of_ble_eq_true rfl) (((sMO_coversAll (by omega) (by omega) r2' r1').up (d := d + 2) (by omega))) ?_
    rintro _ _ ⟨rfl, rfl⟩
    refine ⟨_, rfl, ?_⟩
    refine eMO_subscribe_161 mh_a15 (xn_in (by omega) (by decide)) ?_
    rw [mh_p15, nI_clamp (by omega)]
    rw [b2i_nar]
    refine eMO_subscribe_162 ?_
    rw [nI_1]
    skip
    refine eMO_subscribe_165 ?_
    refine ih (k + 1) _ (by omega) (fun K hK => (if_neg hK).trans ((if_neg hK).trans (f K hK))) (fun a b ha hb => ?_) (fun a ha => ?_)
    · show upd (upd (si 15) (16 * k + s) _) (16 * s + k) _ (16 * a + b) = _
      rw [pk_un (by omega), pk_un (by omega)]
      exact e1 a b ha hb
    · show upd (upd (si 15) (16 * k + s) _) (16 * s + k) _ (16 * a + s) = _ ∧ upd (upd (si 15) (16 * k + s) _) (16 * s + k) _ (16 * s + a) = _
      by_cases c1 : a = k
      · subst c1
        by_cases c2 : a = s
        · subst c2
          rw [pk_us]
          exact ⟨rfl, rfl⟩
        · rw [pk_un (show 16 * a + s ≠ 16 * s + a by omega), pk_us, pk_us]
          exact ⟨rfl, rfl⟩
      · rw [pk_un (show 16 * a + s ≠ 16 * s + k by omega), pk_un (show 16 * a + s ≠ 16 * k + s by omega), pk_un (show 16 * s + a ≠ 16 * s + k by omega), pk_un (show 16 * s + a ≠ 16 * k + s by omega)]
        exact e2 a (by omega)
/-- up to 40: the text is read into a record -/
theorem kMO_sub {c : Int32} (k : isM p S F T H fr M ze si)
  (kk : ∀ si' v2, isM p (bs_n S 0) F T H (ub fr 18 0) M (upd (upd ze 0 0) 1 0) si' → (∀ G, parseF (b_g S) (b_n S) 3 0 fi0 = some G → b_s S < 16 → isRF si' (b_s S) G) → x_K P (d + 5) mMO_subscribe 40 [some (.ref bm), some (.int c), v2, some (.int (b2i (parseF (b_g S) (b_n S) 3 0 fi0).isSome)), none] [] (mh h0 bm (upd (upd ze 0 0) 1 0) si') Φ) :
  x_K P (d + 5) mMO_subscribe 0 [some (.ref bm), some (.int c), none, none, none] [] (mh h0 bm ze si) Φ := by
  have k1 := k.flt 0 (x := 0) rfl
  have e1 : upd ze 0 0 1 = nI (b_n S) := k1.1.2.1
  have e3 : upd ze 0 0 3 = nI (b_s S) := k1.s3
  have hn := k.1.2.2.1
  have hs := k.s16
  have kt : mTx (si 1) (b_g S) := k.1.1
  have tail : ∀ f, b_s S ≤ f → f < 18 → (b_s S < 16 → f = b_s S) → x_K P (d + 5) mMO_subscribe 24 [some (.ref bm), some (.int c), some (.int (nI f)), none, none] [] (mh h0 bm (upd ze 0 0) si) Φ := by
    intro f hf1 hf2 hf3
    refine eMO_subscribe_24 rfl ?_
    refine eMO_subscribe_25 ?_
    refine eMO_subscribe_26 ?_
    refine eMO_subscribe_27 rfl ?_
    refine eMO_subscribe_28 mh_o rfl ?_
    rw [e1]
    skip
    refine eMO_subscribe_31 mh_o (Nat.le_of_ble_eq_true rfl) ((sMO_reads (f := f) (a := 0) (to := b_n S) hn hf2 (Nat.zero_le _) kt).up (d := d + 3) (by omega)) ?_
    rintro _ h9 ⟨si2, rfl, f2, rfl, r2⟩
    refine ⟨_, rfl, ?_⟩
    refine eMO_subscribe_34 ?_
    refine eMO_subscribe_35 rfl ?_
    refine eMO_subscribe_36 ?_
    refine eMO_subscribe_37 mh_o (Nat.le_of_ble_eq_true rfl) ?_
    rw [mh_f1]
    skip
    exact kk si2 _ (k1.fm f2 hf1).n0 (fun G hG h16 => by rw [← hf3 h16]; exact r2 G hG)
  by_cases c1 : b_s S < 16
  · refine eMO_subscribe_0 rfl ?_
    refine eMO_subscribe_1 ?_
    refine eMO_subscribe_2 mh_o (Nat.le_of_ble_eq_true rfl) ?_
    rw [mh_f0]
    refine eMO_subscribe_5 rfl ?_
    refine eMO_subscribe_6 mh_o rfl ?_
    rw [e3]
    refine eMO_subscribe_9 ?_
    refine eMO_subscribe_11 (fun z => absurd z (nI_ge (b := 16) c1 (by decide))) (fun c11 => ?_)
    refine eMO_subscribe_14 rfl ?_
    refine eMO_subscribe_15 mh_o rfl ?_
    rw [e3]
    refine eMO_subscribe_18 ?_
    refine eMO_subscribe_23 ?_
    exact tail (b_s S) (Nat.le_refl _) (by omega) (fun _ => rfl)
  · refine eMO_subscribe_0 rfl ?_
    refine eMO_subscribe_1 ?_
    refine eMO_subscribe_2 mh_o (Nat.le_of_ble_eq_true rfl) ?_
    rw [mh_f0]
    refine eMO_subscribe_5 rfl ?_
    refine eMO_subscribe_6 mh_o rfl ?_
    rw [e3]
    refine eMO_subscribe_9 ?_
    refine eMO_subscribe_11 (fun c11 => ?_) (fun z => absurd (nI_le (a := 16) (by omega) (by omega)) z)
    refine eMO_subscribe_21 ?_
    refine eMO_subscribe_23 ?_
    exact tail 16 (by omega) (by decide) (fun z => absurd z c1)
theorem sMO_subT1 {c : Int32} (k : isM p S F T H fr M ze si) (hbad : ¬ (0 ≤ c ∧ c < 8) ∨ parseF (b_g S) (b_n S) 3 0 fi0 = none) : x_K P (d + 5) mMO_subscribe 0 [some (.ref bm), some (.int c), none, none, none] [] (mh h0 bm ze si) (fun oc h' => oc = .returned (some (.int 0)) ∧ ∃ ze' si', h' = mh h0 bm ze' si' ∧ isM p (bs_n S 0) F T H (ub fr 18 1) M ze' si') := by
  refine kMO_sub k (fun si' v2 k1 _ => ?_)
  have k2 := k1.flt 1 (x := 1) rfl
  rw [ub_ub] at k2
  cases c1 : (decide (0 ≤ c) && decide (c < 8)) with
  | false =>
    refine eMO_subscribe_40 ?_
    refine eMO_subscribe_41 (Nat.le_of_ble_eq_true rfl) (sMO_isClient) ?_
    rintro _ _ ⟨rfl, rfl⟩
    refine ⟨_, rfl, ?_⟩
    rw [c1]
    refine eMO_subscribe_44 (fun c44 => ?_) (fun z => absurd rfl z)
    refine eMO_subscribe_51 rfl ?_
    refine eMO_subscribe_52 ?_
    refine eMO_subscribe_53 mh_o (Nat.le_of_ble_eq_true rfl) sMO_fails ?_
    rintro _ _ ⟨rfl, rfl⟩
    refine ⟨_, rfl, ?_⟩
    exact eMO_subscribe_56 ⟨rfl, _, _, rfl, k2⟩
  | true =>
    have hN : parseF (b_g S) (b_n S) 3 0 fi0 = none := by
      refine hbad.resolve_left (fun z => z ?_)
      rw [Bool.and_eq_true, decide_eq_true_eq, decide_eq_true_eq] at c1
      exact c1
    rw [hN]
    refine eMO_subscribe_40 ?_
    refine eMO_subscribe_41 (Nat.le_of_ble_eq_true rfl) (sMO_isClient) ?_
    rintro _ _ ⟨rfl, rfl⟩
    refine ⟨_, rfl, ?_⟩
    rw [c1]
    refine eMO_subscribe_44 (fun z => absurd z (by decide)) (fun c44 => ?_)
    refine eMO_subscribe_47 ?_
    refine eMO_subscribe_48 (fun z => absurd rfl z) (fun c48 => ?_)
    refine eMO_subscribe_51 rfl ?_
    refine eMO_subscribe_52 ?_
    refine eMO_subscribe_53 mh_o (Nat.le_of_ble_eq_true rfl) sMO_fails ?_
    rintro _ _ ⟨rfl, rfl⟩
    refine ⟨_, rfl, ?_⟩
    exact eMO_subscribe_56 ⟨rfl, _, _, rfl, k2⟩
theorem sMO_subT2 {i : Nat} {G : sp3} (k : isM p S F T H fr M ze si) (hi : i < 8) (hG : parseF (b_g S) (b_n S) 3 0 fi0 = some G) (hs : b_s S = 16) : x_K P (d + 5) mMO_subscribe 0 [some (.ref bm), some (.int (nI i)), none, none, none] [] (mh h0 bm ze si) (fun oc h' => oc = .returned (some (.int 0)) ∧ ∃ ze' si', h' = mh h0 bm ze' si' ∧ isM p (bs_n S 0) F T H (ub fr 18 2) M ze' si') := by
  refine kMO_sub k (fun si' v2 k1 _ => ?_)
  have k2 := k1.flt 2 (x := 2) rfl
  rw [ub_ub] at k2
  have e3 : upd (upd ze 0 0) 1 0 3 = nI 16 := by
    rw [← hs]
    exact k1.s3
  rw [hG]
  refine eMO_subscribe_40 ?_
  refine eMO_subscribe_41 (Nat.le_of_ble_eq_true rfl) (sMO_isClient) ?_
  rintro _ _ ⟨rfl, rfl⟩
  refine ⟨_, rfl, ?_⟩
  rw [isCl hi]
  refine eMO_subscribe_44 (fun z => absurd z (by decide)) (fun c44 => ?_)
  refine eMO_subscribe_47 ?_
  refine eMO_subscribe_48 (fun c48 => ?_) (fun z => absurd z (show ¬ b2i true = 0 by decide))
  refine eMO_subscribe_57 rfl ?_
  refine eMO_subscribe_58 mh_o rfl ?_
  rw [e3]
  refine eMO_subscribe_61 ?_
  refine eMO_subscribe_63 (fun z => absurd rfl z) (fun c63 => ?_)
  refine eMO_subscribe_66 rfl ?_
  refine eMO_subscribe_67 ?_
  refine eMO_subscribe_68 mh_o (Nat.le_of_ble_eq_true rfl) sMO_fails ?_
  rintro _ _ ⟨rfl, rfl⟩
  refine ⟨_, rfl, ?_⟩
  exact eMO_subscribe_71 ⟨rfl, _, _, rfl, k2⟩
theorem sMO_subscribe {i q : Nat} {G : sp3} (k : isM p S F T H fr M ze si) (hi : i < 8) (hG : parseF (b_g S) (b_n S) 3 0 fi0 = some G) (hs : b_s S < 16) (hq : ∀ j, j < 10 → fr j + (b_Q (sbF p S q G i) j).length ≤ 1000) : x_K P (d + 5) mMO_subscribe 0 [some (.ref bm), some (.int (nI i)), none, none, none] [] (mh h0 bm ze si) (fun oc h' => oc = .returned (some (.int (nI (b_s S)))) ∧ ∃ ze' si' T' M', h' = mh h0 bm ze' si' ∧ isM p (sbF p S q G i) (ub F (b_s S) G) T' H (ub fr 18 0) M' ze' si') := by
  refine kMO_sub k (fun si' v2 k1 hR => ?_)
  have hRG := hR G hG hs
  have e3 : upd (upd ze 0 0) 1 0 3 = nI (b_s S) := k1.s3
  rw [hG]
  have e3' : upd (upd (upd ze 0 0) 1 0) 3 (nI (b_s S + 1)) 3 = nI (b_s S + 1) := pk_us
  have erem : nI i - nI i / 6 * 6 = nI (i % 6) := pk_rem (by omega) (by decide) (by decide)
  refine eMO_subscribe_40 ?_
  refine eMO_subscribe_41 (Nat.le_of_ble_eq_true rfl) (sMO_isClient) ?_
  rintro _ _ ⟨rfl, rfl⟩
  refine ⟨_, rfl, ?_⟩
  rw [isCl hi]
  refine eMO_subscribe_44 (fun z => absurd z (by decide)) (fun c44 => ?_)
  refine eMO_subscribe_47 ?_
  refine eMO_subscribe_48 (fun c48 => ?_) (fun z => absurd z (show ¬ b2i true = 0 by decide))
  refine eMO_subscribe_57 rfl ?_
  refine eMO_subscribe_58 mh_o rfl ?_
  rw [e3]
  refine eMO_subscribe_61 ?_
  refine eMO_subscribe_63 (fun c63 => ?_) (fun z => absurd ((nI_eq (b := 16) (by omega) (by decide)).mp z) (by omega))
  refine eMO_subscribe_72 rfl ?_
  refine eMO_subscribe_73 mh_o rfl ?_
  refine eMO_subscribe_76 rfl ?_
  refine eMO_subscribe_77 mh_o rfl ?_
  rw [e3]
  refine eMO_subscribe_80 ?_
  refine eMO_subscribe_81 mh_a16 (xn_in hs (by decide)) ?_
  rw [mh_p16, nI_clamp (by omega)]
  refine eMO_subscribe_82 rfl ?_
  refine eMO_subscribe_83 rfl ?_
  refine eMO_subscribe_84 mh_o rfl ?_
  rw [e3]
  refine eMO_subscribe_87 ?_
  refine eMO_subscribe_88 ?_
  rw [nI_1]
  refine eMO_subscribe_89 mh_o (Nat.le_of_ble_eq_true rfl) ?_
  rw [mh_f3]
  refine eMO_subscribe_92 ?_
  refine eMO_subscribe_93 ?_
  skip
  refine lMO_over (s := b_s S) (F := ub F (b_s S) G) hs e3' (fun f hf => ?_) (fun si2 v4 f2 o2 => ?_) (b_s S + 1) 0 _ (Nat.zero_add _) (fun _ _ => rfl) (fun f g hf hg => ?_) (fun f hf => absurd hf (Nat.not_lt_zero _))
  · by_cases e : f = b_s S
    · subst e
      rw [ub_same]
      exact hRG.kA (fun K h1 h2 => if_neg (by omega))
    · rw [ub_ne e]
      exact (k1.rf (f := f) (by show f < b_s S; omega)).kA (fun K h1 h2 => if_neg (by omega))
  · have k2 := k1.sb (q := q) (i := i) (G := G) (ze' := upd (upd (upd ze 0 0) 1 0) 3 (nI (b_s S + 1))) (si' := si2) hs hi (hRG.kA (fun K h1 h2 => (f2 K (by omega)).trans (if_neg (by omega)))) ((pk_un (by decide)).trans pk_us) pk_us (fun j h1 h3 => pk_un h3) (fun x => by
      rw [f2 16 (by decide)]
      rfl) (fun K h15 h16 => (f2 K h15).trans (if_neg h16)) o2
    have eS : sbS (bs_n S 0) q G i = sbS S q G i := rfl
    rw [eS] at k2
    refine eMO_subscribe_168 rfl ?_
    refine eMO_subscribe_169 ?_
    refine eMO_subscribe_170 ?_
    refine eMO_subscribe_172 (by decide) ?_
    rw [erem]
    refine eMO_subscribe_173 mh_o (Nat.le_of_ble_eq_true rfl) (sMO_settle k2 (by omega) (fun j hj => by rw [ub18 (by omega)]; exact hq j hj)) ?_
    rintro _ _ ⟨rfl, ze', si3, T', M', rfl, k'⟩
    refine ⟨_, rfl, ?_⟩
    refine eMO_subscribe_176 rfl ?_
    skip
    have es : b_s (settleF p (i % 6) (sbS S q G i)) = b_s S + 1 := settleF_s.trans sbS_f.1.2.2.1
    have e9 : ze' 3 = nI (b_s S + 1) := by rw [← es]; exact k'.s3
    refine eMO_subscribe_177 mh_o rfl ?_
    rw [e9]
    refine eMO_subscribe_180 ?_
    refine eMO_subscribe_181 ?_
    rw [nI_pred]
    exact eMO_subscribe_182 ⟨rfl, ze', si3, T', M', rfl, k'⟩
  · rw [ub_ne (by omega), ub_ne (by omega)]
    exact k1.ov (f := f) (g := g) hf hg
end

