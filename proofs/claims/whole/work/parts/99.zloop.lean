/-! The law's loop, and the law -/
theorem lw_lt {L i : Nat} (hL : L ≤ 2049) (hi : i ≤ 2049) (h : ¬ Int32.ofNat L - 4 < nI i) : i + 4 ≤ L := by
  have e1 : (Int32.ofNat L).toInt = (L : Int) := Int32.toInt_ofNat_of_lt (by omega)
  have e2 : (nI i).toInt = (i : Int) := Int32.toInt_ofNat_of_lt (by omega)
  have e3 : (4 : Int32).toInt = 4 := by decide
  rw [Int32.lt_iff_toInt_lt, Int32.toInt_sub, e1, e2, e3] at h
  rw [Int.bmod_eq_of_le (by omega) (by omega)] at h
  omega
section
variable {P : x_P} {b bm t : Nat} {p : Nat → Nat} {Y : Nat × Nat} {h : x_H}
theorem isL.up (L : isL P b bm p t Y h) : isL P b bm p (t + 1) Y h := by
  obtain ⟨S, F, T, H, fr, M, ze, si, z, f, kB, hpf, hm, ha, kM, hI, hz1, hz2⟩ := L
  exact ⟨S, F, T, H, fr, M, ze, si, z, f, kB, hpf, hm, ha, kM, hI.up (Nat.le_succ t), by omega, by omega⟩
theorem isL.bnd (L : isL P b bm p t Y h) : h.2.1 ≤ Y.1 + 15 * t + 46000 ∧ h.2.2 ≤ Y.2 + 54 * t + 46000 := by
  obtain ⟨S, F, T, H, fr, M, ze, si, z, f, kB, hpf, hm, ha, kM, hI, hz1, hz2⟩ := L
  have := kB.bnd
  omega
theorem lLW_law (hp : isP p) (hE : P.2.2.2.2.2.2.2.1 < b) (hl : ∀ e : Env, P.1.admits e → e.platform.stackTraces = false) (hL : P.2.2.2.2.2.1 ≤ 2049) : ∀ (n t : Nat) (h : x_H) (v5 v6 : Option Value), t + n = 512 → isL P b bm p t Y h → x_KG x_EL P 12 mLW_law 33 [some (.ref P.2.2.2.2.1), some (.ref b), some (.ref bm), some (.ref (bm + 33)), some (.int (nI (1 + 4 * t))), v5, v6] [] h (fun oc h' => oc = .returned (some (.int 1)) ∧ ∃ t, t ≤ 512 ∧ isL P b bm p t Y h') := by
  intro n
  induction n with
  | zero =>
    intro t h v5 v6 htn L
    refine eLW_law_33 ?_
    refine eLW_law_35 rfl ?_
    refine eLW_law_36s ?_
    refine eLW_law_37 ?_
    refine eLW_law_38 ?_
    refine eLW_law_39 (fun _ => ?_) (fun c => ?_)
    · refine eLW_law_628 ?_
      exact eLW_law_629 rfl ⟨rfl, t, by omega, L⟩
    · have := lw_lt hL (by omega) c
      omega
  | succ n ih =>
    intro t h v5 v6 htn L
    refine eLW_law_33 ?_
    refine eLW_law_35 rfl ?_
    refine eLW_law_36s ?_
    refine eLW_law_37 ?_
    refine eLW_law_38 ?_
    refine eLW_law_39 (fun _ => ?_) (fun c => ?_)
    · refine eLW_law_628 ?_
      exact eLW_law_629 rfl ⟨rfl, t, by omega, L⟩
    · have hlen := lw_lt hL (by omega) c
      have g0 : vp_in (nI (1 + 4 * t)) P.2.2.2.2.2.1 := xn_in (by omega) (by omega)
      have g1 : vp_in (nI (1 + 4 * t) + 1) P.2.2.2.2.2.1 := by rw [nI_1]; exact xn_in (by omega) (by omega)
      have g2 : vp_in (nI (1 + 4 * t) + 2) P.2.2.2.2.2.1 := by rw [nI_a2]; exact xn_in (by omega) (by omega)
      have g3 : vp_in (nI (1 + 4 * t) + 3) P.2.2.2.2.2.1 := by rw [nI_a3]; exact xn_in (by omega) (by omega)
      have ht : t < 512 := by omega
      have kk : ∀ h2 v5 v6, isL P b bm p (t + 1) Y h2 → x_KG x_EL P 12 mLW_law 622 [some (.ref P.2.2.2.2.1), some (.ref b), some (.ref bm), some (.ref (bm + 33)), some (.int (nI (1 + 4 * t))), v5, v6] [] h2 (fun oc h' => oc = .returned (some (.int 1)) ∧ ∃ t, t ≤ 512 ∧ isL P b bm p t Y h') := by
        intro h2 v5 v6 L2
        refine eLW_law_622 ?_
        refine eLW_law_625 ?_
        have := ih (t + 1) h2 v5 v6 (by omega) L2
        rw [show 1 + 4 * (t + 1) = 1 + 4 * t + 4 by omega, ← nI_add] at this
        exact this
      refine eLW_law_42 rfl ?_
      refine eLW_law_43 ?_
      refine eLW_law_45s g0 ?_
      refine eLW_law_46 ?_
      refine eLW_law_48 ?_
      refine eLW_law_49 (fun _ => ?_) (fun _ => ?_) (fun _ => ?_) (fun _ => ?_) (fun _ => ?_) (fun _ => ?_) (fun _ => ?_) (fun _ => ?_) (fun _ => ?_) (fun _ => ?_) (fun _ => ?_) (fun _ => ?_)
      · exact cl_write g1 L hp ht hE hl kk
      · exact cl_subscribe g1 L hp ht hE hl kk
      · exact cl_unsubscribe g1 L hp ht hE hl kk
      · exact cl_publish g1 g2 g3 L hp ht hE hl kk
      · exact cl_take g1 g2 L hp ht hE hl kk
      · exact cl_waiting g1 g2 L hp ht hE hl kk
      · exact cl_run L hp ht hE hl kk
      · exact cl_read g1 L hp ht hE hl kk
      · exact cl_filters g1 g2 g3 L hp ht hE hl kk
      · exact cl_covers L hp ht hE hl kk
      · exact cl_count g1 L hp ht hE hl kk
      · exact kk _ _ _ L.up
end
section
variable {P : x_P} {d : Nat} {h : x_H}
theorem sLW_cell : x_K P d mLW_cell 0 [some (.ref P.2.2.2.2.1), some (.int 0)] [] h (fun oc h' => oc = .returned (some (.int (if Int32.ofNat P.2.2.2.2.2.1 ≤ 0 then 0 else P.2.2.2.2.2.2.1 (0 : Int32).toNatClampNeg))) ∧ h' = h) := by
  refine eLW_cell_0 ?_
  refine eLW_cell_1 rfl ?_
  refine eLW_cell_2s ?_
  refine eLW_cell_3 (fun c => ?_) (fun c => ?_)
  · refine eLW_cell_12 ?_
    exact eLW_cell_13 ⟨by rw [if_pos c], rfl⟩
  · refine eLW_cell_6 rfl ?_
    refine eLW_cell_7 ?_
    refine eLW_cell_8s ?_ ?_
    · have hne : P.2.2.2.2.2.1 ≠ 0 := fun e => c (by rw [e]; decide)
      show ¬ ((0 : Int32) < 0 ∨ P.2.2.2.2.2.1 ≤ (0 : Int32).toNatClampNeg)
      rw [show (0 : Int32).toNatClampNeg = 0 by decide]
      intro z
      rcases z with z | z
      · exact absurd z (by decide)
      · omega
    · refine eLW_cell_9 ?_
      exact eLW_cell_13 ⟨by rw [if_neg c], rfl⟩
theorem sLW_law {b : Nat} (hb : h.2.1 = b) (hE : P.2.2.2.2.2.2.2.1 < b) (hl : ∀ e : Env, P.1.admits e → e.platform.stackTraces = false) (hL : P.2.2.2.2.2.1 ≤ 2049) : x_KG x_EL P 12 mLW_law 0 [some (.ref P.2.2.2.2.1), none, none, none, none, none, none] [] h (fun oc h' => oc = .returned (some (.int 1)) ∧ h'.2.1 ≤ b + 601024 ∧ h'.2.2 ≤ h.2.2 + 7293000) := by
  refine eLW_law_0 ?_
  refine eLW_law_3 rfl ?_
  refine eLW_law_4 rfl ?_
  refine eLW_law_5 ?_
  refine eLW_law_6 rfl (Nat.le_of_ble_eq_true rfl) sLW_cell ?_
  rintro _ _ ⟨rfl, rfl⟩
  refine ⟨_, rfl, ?_⟩
  refine eLW_law_9 (Nat.le_of_ble_eq_true rfl) (sBT_init (d := 6) xw_eq rfl) ?_
  rintro _ h2 ⟨rfl, g2, kB⟩
  refine ⟨_, rfl, ?_⟩
  subst hb
  have n2 : h2.2.1 = h.2.1 + 102 := by rw [g2.1]; rfl
  refine eLW_law_12 rfl ?_
  refine eLW_law_13 ?_
  refine eLW_law_16 rfl ?_
  refine eLW_law_17 rfl ?_
  refine eLW_law_18 ?_
  refine eLW_law_19 rfl (Nat.le_of_ble_eq_true rfl) sLW_cell ?_
  rintro _ _ ⟨rfl, rfl⟩
  refine ⟨_, rfl, ?_⟩
  refine eLW_law_22 (Nat.le_of_ble_eq_true rfl) (sMO_init (d := 10) xw_eq rfl) ?_
  rintro _ h4 ⟨rfl, ze, si, e4, kM⟩
  refine ⟨_, rfl, ?_⟩
  refine eLW_law_25 rfl ?_
  refine eLW_law_26 ?_
  refine eLW_law_27 (n := 1) (by decide) (by decide) (by decide) ?_
  refine eLW_law_29 rfl ?_
  refine eLW_law_30 ?_
  refine eLW_law_31 ?_
  have n4 : h4.2.1 = h2.2.1 + 33 := by rw [e4]; rfl
  have s4 : h4.2.2 = h2.2.2 + 42 + 17120 := by rw [e4]; rfl
  have m4 : h4 = mh h4 h2.2.1 ze si := by rw [e4, mh_mh]
  have o4 : ∀ q, q < h2.2.1 → h4.1 q = h2.1 q := fun q hq => by
    rw [e4, mh_out (Or.inl hq)]
    exact if_neg (by omega)
  have kL : isL P h.2.1 h2.2.1 (pF (if Int32.ofNat P.2.2.2.2.2.1 ≤ 0 then 0 else P.2.2.2.2.2.2.1 (0 : Int32).toNatClampNeg)) 0 (h.2.1 + 102 + 34, h2.2.2 + 17163) (x_new h4 (arL (fun _ => 0)) 1) := by
    have kB5 := (kB (fun _ => none)).reg0 (h1 := x_new h4 (arL (fun _ => 0)) 1) (n := 34) (m := 17163) ⟨by show h4.2.1 + 1 = _; omega, by show h4.2.2 + 1 = _; omega, fun q hq _ => (if_neg (by omega)).trans (o4 q hq)⟩ (by decide)
    exact ⟨S0, _, _, _, _, _, ze, si, _, fun _ => 0, kB5, rfl, mh_of m4 (fun q q1 q2 => if_neg (by omega)), if_pos n4.symm, kM, INV_0 pF_P, by show _ ≤ _ + 15 * 0; omega, by show _ ≤ _ + 54 * 0; omega⟩
  have key := lLW_law pF_P hE hl hL 512 0 _ none none (by omega) kL
  rw [n4]
  have s2 : h2.2.2 = h.2.2 + 13 + 960 := g2.2.1
  refine x_KGmono key ?_
  rintro oc h' ⟨e, t, ht, L⟩
  obtain ⟨b1, b2⟩ := L.bnd
  have b1' : h'.2.1 ≤ h.2.1 + 102 + 34 + 15 * t + 46000 := b1
  have b2' : h'.2.2 ≤ h2.2.2 + 17163 + 54 * t + 46000 := b2
  exact ⟨e, by omega, by omega⟩
end

