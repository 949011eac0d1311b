/-! The law's cases -/
section
variable {P : x_P} {b bm t : Nat} {p : Nat → Nat} {S S' : bS} {F : Nat → sp3} {T H M : Nat → List Nat} {fr : Nat → Nat} {ze ze' : Nat → Int32} {si si' : Nat → Nat → Int32} {h h1 : x_H} {z z' : Nat × Nat} {Y : Nat × Nat} {f : Nat → Int64} {u : Option Int64}
/-- behind a wrapper -/
def lwW (P : x_P) (b bm : Nat) (p : Nat → Nat) (S : bS) (z : Nat × Nat) (ze : Nat → Int32) (si : Nat → Nat → Int32) (u : Option Int64) (h : x_H) : Prop := ∃ f, isB P b p (bm, 34, h.1) S z h ∧ h = mh h bm ze si ∧ h.1 (bm + 33) = some (arL f) ∧ ∀ v, u = some v → f 0 = v
theorem lwW.ret {v : Int64} (kB : isB P b p (bm, 34, h.1) S z h1) (hm : h = mh h bm ze si) (ha : h.1 (bm + 33) = some (arL f)) : h1.1 (bm + 33) = some (arL f) ∧ lwW P b bm p S z ze si (some v) (x_put h1 (bm + 33) (arL (vp_updL f (0 : Int32).toNatClampNeg v))) := by
  obtain ⟨k2, m2, a2⟩ := lwB kB hm ha
  obtain ⟨k3, m3, a3⟩ := lwA (f' := vp_updL f (0 : Int32).toNatClampNeg v) k2 m2
  exact ⟨a2, _, k3, m3, a3, fun w hw => by cases hw; exact updL_0⟩
theorem lwW.thr (kB : isB P b p (bm, 34, h.1) S z h1) (hm : h = mh h bm ze si) (ha : h.1 (bm + 33) = some (arL f)) : lwW P b bm p S z ze si none h1 := by
  obtain ⟨k2, m2, a2⟩ := lwB kB hm ha
  exact ⟨f, k2, m2, a2, fun w hw => by cases hw⟩
theorem lwW.cell (k : lwW P b bm p S z ze si u h) : ∃ fm, h.1 bm = some (.inr (8, fm)) := by
  obtain ⟨f, k1, k2, k3, k4⟩ := k
  exact ⟨_, mh_cell k2⟩
theorem lwW.eq (k : lwW P b bm p S z ze si u h) : h = mh h bm ze si := by
  obtain ⟨f, k1, k2, k3, k4⟩ := k
  exact k2
theorem lwW.fin (k : lwW P b bm p S z ze si u h) (kM : isM p S F T H fr M ze' si') (hI : INV p S fr t) (h1 : z.1 ≤ Y.1 + 15 * t) (h2 : z.2 ≤ Y.2 + 54 * t) : (∃ ze2 si2, mh h bm ze' si' = mh (mh h bm ze' si') bm ze2 si2 ∧ ze2 0 = nI (fr 18)) ∧ (∀ w, u = some w → ∃ f, (mh h bm ze' si').1 (bm + 33) = some (arL f) ∧ f 0 = w) ∧ isL P b bm p t Y (mh h bm ze' si') := by
  obtain ⟨f, k1, k2, k3, k4⟩ := k
  exact ⟨⟨ze', si', mh_mh.symm, kM.1.2.2.2⟩, fun w hw => ⟨f, (mh_out (by omega)).trans k3, k4 w hw⟩, isL.mk k1 k3 kM hI h1 h2⟩
theorem sm2_wr {c : Nat} : sm2 S (wrF S c).1 := by
  unfold wrF
  split <;> exact ⟨⟨rfl, rfl, rfl, rfl, rfl, rfl⟩, rfl, rfl, rfl, rfl⟩
theorem sm2_n0 : sm2 S (bs_n S 0) := ⟨⟨rfl, rfl, rfl, rfl, rfl, rfl⟩, rfl, rfl, rfl, rfl⟩
theorem chr_of (x : Int32) : ∃ c : Nat, c < 65536 ∧ (x.toUInt32 % 65536).toInt32 = nI c := ⟨x.toBitVec.toNat % 65536, Nat.mod_lt _ (by decide), by
  apply Int32.toBitVec_inj.mp
  apply BitVec.eq_of_toNat_eq
  show (x.toBitVec % 65536#32).toNat = (BitVec.ofNat 32 (x.toBitVec.toNat % 65536)).toNat
  rw [BitVec.toNat_umod, BitVec.toNat_ofNat]
  show x.toBitVec.toNat % 65536 = _
  have : x.toBitVec.toNat % 65536 < 2 ^ 32 := Nat.lt_trans (Nat.mod_lt _ (by decide)) (by decide)
  exact (Nat.mod_eq_of_lt this).symm⟩
theorem ub_in {fr : Nat → Nat} {k v : Nat} (q : Nat) (hq : q < 18) : ub (ub fr 18 0) k v q = ub fr k v q := by
  by_cases c : q = k
  · subst c; rw [ub_same, ub_same]
  · rw [ub_ne c, ub_ne c, ub_ne (by omega)]
theorem INV.kl (hI : INV p S fr t) : (b_K S).length ≤ b_s S := by
  obtain ⟨C, A, O, C', A', O', G, a, hO, hK, hs0, hN0, hen⟩ := hI
  exact hK
theorem INV.nl (hI : INV p S fr t) : (b_N S).length ≤ t := by
  obtain ⟨C, A, O, C', A', O', G, a, hO, hK, hs0, hN0, hen⟩ := hI
  omega
theorem INV.f18 {v : Nat} (hI : INV p S fr t) : INV p S (ub fr 18 v) t := hI.frc (fun j hj => ub18 hj)
end
section
variable {P : x_P} {b bm t i : Nat} {p : Nat → Nat} {Y : Nat × Nat} {h : x_H} {Φ : Outcome → x_H → Prop} {v5 v6 : Option Value}
theorem cl_write (g1 : vp_in (nI i + 1) P.2.2.2.2.2.1) (L : isL P b bm p t Y h) (hp : isP p) (ht : t < 512) (hE : P.2.2.2.2.2.2.2.1 < b) (hl : ∀ e : Env, P.1.admits e → e.platform.stackTraces = false) (kk : ∀ h2 v5 v6, isL P b bm p (t + 1) Y h2 → x_KG x_EL P 12 mLW_law 622 [some (.ref P.2.2.2.2.1), some (.ref b), some (.ref bm), some (.ref (bm + 33)), some (.int (nI i)), v5, v6] [] h2 Φ) : x_KG x_EL P 12 mLW_law 108 [some (.ref P.2.2.2.2.1), some (.ref b), some (.ref bm), some (.ref (bm + 33)), some (.int (nI i)), v5, v6] [] h Φ := by
  obtain ⟨S, F, T, H, fr, M, ze, si, z, f, kB, hpf, hm, ha, kM, hI, hz1, hz2⟩ := L
  obtain ⟨c, hc, ec⟩ := chr_of (P.2.2.2.2.2.2.1 (nI i + 1).toNatClampNeg)
  refine tl_write (fs := bO b S) g1 kB.obj.1 (Ψ1 := fun h1 => isB P b p (bm, 34, h.1) (wrF S c).1 z h1) (Ψ2 := isL P b bm p (t + 1) Y) (v := b2i (wrF S c).2) ?_ ?_ (fun h2 q2 => kk h2 _ _ q2)
  · rw [ec]
    exact sBT_write kB hc
  · intro h1 k1
    obtain ⟨k2, m2, a2⟩ := lwB k1 hm ha
    refine ⟨⟨_, mh_cell m2⟩, ?_⟩
    rw [ec]
    have ct := sMO_write (P := P) (d := 11) (h0 := h1) (bm := bm) kM hc
    rw [← m2] at ct
    refine x_Kmono ct ?_
    rintro oc h2 ⟨rfl, ze', si', rfl, kM'⟩
    exact ⟨rfl, isL.mk k2 a2 kM' ((hI.txt sm2_wr).f18.up (Nat.le_succ t)) (by omega) (by omega)⟩
theorem cl_count (g1 : vp_in (nI i + 1) P.2.2.2.2.2.1) (L : isL P b bm p t Y h) (hp : isP p) (ht : t < 512) (hE : P.2.2.2.2.2.2.2.1 < b) (hl : ∀ e : Env, P.1.admits e → e.platform.stackTraces = false) (kk : ∀ h2 v5 v6, isL P b bm p (t + 1) Y h2 → x_KG x_EL P 12 mLW_law 622 [some (.ref P.2.2.2.2.1), some (.ref b), some (.ref bm), some (.ref (bm + 33)), some (.int (nI i)), v5, v6] [] h2 Φ) : x_KG x_EL P 12 mLW_law 597 [some (.ref P.2.2.2.2.1), some (.ref b), some (.ref bm), some (.ref (bm + 33)), some (.int (nI i)), v5, v6] [] h Φ := by
  obtain ⟨S, F, T, H, fr, M, ze, si, z, f, kB, hpf, hm, ha, kM, hI, hz1, hz2⟩ := L
  refine tl_count (fs := bO b S) g1 kB.obj.1 (Ψ1 := fun h1 => h1 = h) (Ψ2 := isL P b bm p (t + 1) Y) (sBT_count kB) ?_ (fun h2 q2 => kk h2 _ _ q2)
  intro h1 e1
  subst e1
  refine ⟨⟨_, mh_cell hm⟩, ?_⟩
  have ct := sMO_count (P := P) (d := 11) (h0 := h1) (bm := bm) (x := P.2.2.2.2.2.2.1 (nI i + 1).toNatClampNeg) kM
  rw [← hm] at ct
  refine x_Kmono ct ?_
  rintro oc h2 ⟨rfl, ze', si', rfl, kM'⟩
  exact ⟨rfl, isL.mk kB ha kM' (hI.f18.up (Nat.le_succ t)) (by omega) (by omega)⟩
theorem cl_waiting (g1 : vp_in (nI i + 1) P.2.2.2.2.2.1) (g2 : vp_in (nI i + 2) P.2.2.2.2.2.1) (L : isL P b bm p t Y h) (hp : isP p) (ht : t < 512) (hE : P.2.2.2.2.2.2.2.1 < b) (hl : ∀ e : Env, P.1.admits e → e.platform.stackTraces = false) (kk : ∀ h2 v5 v6, isL P b bm p (t + 1) Y h2 → x_KG x_EL P 12 mLW_law 622 [some (.ref P.2.2.2.2.1), some (.ref b), some (.ref bm), some (.ref (bm + 33)), some (.int (nI i)), v5, v6] [] h2 Φ) : x_KG x_EL P 12 mLW_law 375 [some (.ref P.2.2.2.2.1), some (.ref b), some (.ref bm), some (.ref (bm + 33)), some (.int (nI i)), v5, v6] [] h Φ := by
  obtain ⟨S, F, T, H, fr, M, ze, si, z, f, kB, hpf, hm, ha, kM, hI, hz1, hz2⟩ := L
  refine tl_waiting (fs := bO b S) g1 g2 kB.obj.1 (Ψ1 := fun h1 => h1 = h) (Ψ2 := isL P b bm p (t + 1) Y) (sBT_waiting kB) ?_ (fun h2 q2 => kk h2 _ _ q2)
  intro h1 e1
  subst e1
  refine ⟨⟨_, mh_cell hm⟩, ?_⟩
  have ct := sMO_waiting (P := P) (d := 9) (h0 := h1) (bm := bm) (x := P.2.2.2.2.2.2.1 (nI i + 1).toNatClampNeg) (y := P.2.2.2.2.2.2.1 (nI i + 2).toNatClampNeg) kM
  rw [← hm] at ct
  refine x_Kmono ct ?_
  rintro oc h2 ⟨rfl, ze', si', rfl, kM'⟩
  exact ⟨rfl, isL.mk kB ha kM' (hI.f18.up (Nat.le_succ t)) (by omega) (by omega)⟩
theorem cl_filters (g1 : vp_in (nI i + 1) P.2.2.2.2.2.1) (g2 : vp_in (nI i + 2) P.2.2.2.2.2.1) (g3 : vp_in (nI i + 3) P.2.2.2.2.2.1) (L : isL P b bm p t Y h) (hp : isP p) (ht : t < 512) (hE : P.2.2.2.2.2.2.2.1 < b) (hl : ∀ e : Env, P.1.admits e → e.platform.stackTraces = false) (kk : ∀ h2 v5 v6, isL P b bm p (t + 1) Y h2 → x_KG x_EL P 12 mLW_law 622 [some (.ref P.2.2.2.2.1), some (.ref b), some (.ref bm), some (.ref (bm + 33)), some (.int (nI i)), v5, v6] [] h2 Φ) : x_KG x_EL P 12 mLW_law 481 [some (.ref P.2.2.2.2.1), some (.ref b), some (.ref bm), some (.ref (bm + 33)), some (.int (nI i)), v5, v6] [] h Φ := by
  obtain ⟨S, F, T, H, fr, M, ze, si, z, f, kB, hpf, hm, ha, kM, hI, hz1, hz2⟩ := L
  refine tl_filters (fs := bO b S) (w := decide (¬ P.2.2.2.2.2.2.1 (nI i + 3).toNatClampNeg = 0)) g1 g2 g3 (by rw [decide_eq_true_iff]) kB.obj.1 (Ψ1 := fun h1 => h1 = h) (Ψ2 := isL P b bm p (t + 1) Y) (sBT_filters kB) ?_ (fun h2 q2 => kk h2 _ _ q2)
  intro h1 e1
  subst e1
  refine ⟨⟨_, mh_cell hm⟩, ?_⟩
  have ct := sMO_filters (P := P) (d := 9) (h0 := h1) (bm := bm) (x := P.2.2.2.2.2.2.1 (nI i + 1).toNatClampNeg) (y := P.2.2.2.2.2.2.1 (nI i + 2).toNatClampNeg) (w := decide (¬ P.2.2.2.2.2.2.1 (nI i + 3).toNatClampNeg = 0)) kM
  rw [← hm] at ct
  refine x_Kmono ct ?_
  rintro oc h2 ⟨rfl, ze', si', rfl, kM'⟩
  exact ⟨rfl, isL.mk kB ha kM' (hI.f18.up (Nat.le_succ t)) (by omega) (by omega)⟩
theorem cl_run (L : isL P b bm p t Y h) (hp : isP p) (ht : t < 512) (hE : P.2.2.2.2.2.2.2.1 < b) (hl : ∀ e : Env, P.1.admits e → e.platform.stackTraces = false) (kk : ∀ h2 v5 v6, isL P b bm p (t + 1) Y h2 → x_KG x_EL P 12 mLW_law 622 [some (.ref P.2.2.2.2.1), some (.ref b), some (.ref bm), some (.ref (bm + 33)), some (.int (nI i)), v5, v6] [] h2 Φ) : x_KG x_EL P 12 mLW_law 412 [some (.ref P.2.2.2.2.1), some (.ref b), some (.ref bm), some (.ref (bm + 33)), some (.int (nI i)), v5, v6] [] h Φ := by
  obtain ⟨S, F, T, H, fr, M, ze, si, z, f, kB, hpf, hm, ha, kM, hI, hz1, hz2⟩ := L
  have hstep : ∀ S fr j, INV p S fr (t + 1) → fbF p S 36 0 = some j → INV p (tkF p S j) (ub fr j (fr j + 1)) (t + 1) ∧ ∃ m l, tkOk p S j m l := fun S fr j hS hj => by
    obtain ⟨j1, j2⟩ := fbF_spec 36 0 hj (by omega)
    cases hq : b_Q S j with
    | nil => exact absurd hq j2
    | cons m l => exact ⟨(hS.take hp j1 hq).1, m, l, hS.tk hp j1 (by omega) hq⟩
  have hI' := hI.up (Nat.le_succ t)
  refine tl_run (fs := bO b S) kB.obj.1 (Ψ1 := fun h1 => isB P b p (bm, 34, h.1) (rnF p 200 0 S).1 z h1) (Ψ2 := isL P b bm p (t + 1) Y) (v := nI (rnF p 200 0 S).2) ?_ ?_ (fun h2 q2 => kk h2 _ _ q2)
  · refine sBT_run (d := 4) (I := fun S => ∃ fr, INV p S fr (t + 1)) kB hp (fun S j hS hj => ?_) (fun S hS j hj => ?_) ⟨fr, hI'⟩
    · obtain ⟨fr', hS⟩ := hS
      obtain ⟨a1, a2⟩ := hstep S fr' j hS hj
      exact ⟨a2, _, a1⟩
    · obtain ⟨fr', hS⟩ := hS
      have := (hS.bd hp (by omega)).1 j hj
      omega
  · intro h1 k1
    obtain ⟨k2, m2, a2⟩ := lwB k1 hm ha
    refine ⟨⟨_, mh_cell m2⟩, ?_⟩
    have ct := sMO_run (P := P) (d := 5) (h0 := h1) (bm := bm) (I := fun S fr => INV p S fr (t + 1)) hp (fun S fr j hS hj => by
      obtain ⟨a1, a2⟩ := hstep S fr j hS hj
      obtain ⟨b1, b2⟩ := a1.bd hp (by omega)
      obtain ⟨j1, j2⟩ := fbF_spec 36 0 hj (by omega)
      refine ⟨a1, b1, fun c hc => ?_⟩
      have := b2 c hc
      rw [ub_ne (by omega)] at this
      omega) (fun S fr v hS => hS.f18) hI' kM
    rw [← m2] at ct
    refine x_Kmono ct ?_
    rintro oc h2 ⟨rfl, ze', si', T', H', fr', M', rfl, hS', -, kM'⟩
    exact ⟨rfl, isL.mk k2 a2 kM' hS' (by omega) (by omega)⟩
theorem cl_take (g1 : vp_in (nI i + 1) P.2.2.2.2.2.1) (g2 : vp_in (nI i + 2) P.2.2.2.2.2.1) (L : isL P b bm p t Y h) (hp : isP p) (ht : t < 512) (hE : P.2.2.2.2.2.2.2.1 < b) (hl : ∀ e : Env, P.1.admits e → e.platform.stackTraces = false) (kk : ∀ h2 v5 v6, isL P b bm p (t + 1) Y h2 → x_KG x_EL P 12 mLW_law 622 [some (.ref P.2.2.2.2.1), some (.ref b), some (.ref bm), some (.ref (bm + 33)), some (.int (nI i)), v5, v6] [] h2 Φ) : x_KG x_EL P 12 mLW_law 307 [some (.ref P.2.2.2.2.1), some (.ref b), some (.ref bm), some (.ref (bm + 33)), some (.int (nI i)), v5, v6] [] h Φ := by
  obtain ⟨S, F, T, H, fr, M, ze, si, z, f, kB, hpf, hm, ha, kM, hI, hz1, hz2⟩ := L
  have hb := hI.bd hp (by omega)
  have hq : ∀ j, j < 10 → (b_Q S j).length ≤ 1000 := fun j hj => by have := hb.1 j hj; omega
  by_cases c : ∃ j m l, lkI p (P.2.2.2.2.2.2.1 (nI i + 1).toNatClampNeg) (P.2.2.2.2.2.2.1 (nI i + 2).toNatClampNeg) = some j ∧ b_Q S j = m :: l
  · obtain ⟨j, m, l, hj, hQ⟩ := c
    have hj10 := lkI_lt hj
    have hIt := hI.take hp hj10 hQ
    have hbt := hIt.1.bd hp (by omega)
    refine tl_take (r := 0) (v := nI (m % 3)) (Ψ1 := lwW P b bm p (tkF p S j) z ze si (some (nI (m % 3)).toInt64)) (Ψ2 := isL P b bm p (t + 1) Y) g1 g2 ?_ ?_ kk
    · exact wLW_take kB.obj.1 (sBT_take (d := 3) kB hp hj (hI.tk hp hj10 (by omega) hQ) (hq j hj10)) (by
        rintro oc h1 ⟨rfl, k1⟩
        obtain ⟨r1, r2⟩ := lwW.ret (v := (nI (m % 3)).toInt64) k1 hm ha
        exact Or.inl ⟨_, f, rfl, r1, rfl, r2⟩)
    · intro h1 k1
      refine ⟨k1.cell, ?_⟩
      have ct := sMO_take (P := P) (d := 5) (h0 := h1) (bm := bm) kM hp hj hQ hbt.1 (fun c hc => by
        have := hbt.2 c hc
        rw [ub_ne (by omega)] at this
        omega)
      rw [← k1.eq] at ct
      refine x_Kmono ct ?_
      rintro oc h2 ⟨rfl, ze', si', T', H', M', rfl, kM'⟩
      obtain ⟨e1, e2, e3⟩ := k1.fin (Y := Y) (t := t + 1) kM' ((hIt.1.frc ub_in).up (Nat.le_succ t)) (by show _ ≤ _; omega) (by show _ ≤ _; omega)
      rw [ub_ne (by omega), ub_same] at e1
      exact ⟨rfl, e1, fun _ => e2 _ rfl, e3⟩
  · have hx : ∀ j, lkI p (P.2.2.2.2.2.2.1 (nI i + 1).toNatClampNeg) (P.2.2.2.2.2.2.1 (nI i + 2).toNatClampNeg) = some j → b_Q S j = [] := fun j hj => by
      cases hQ : b_Q S j with
      | nil => rfl
      | cons m l => exact absurd ⟨j, m, l, hj, hQ⟩ c
    refine tl_take (r := 1) (v := 0) (Ψ1 := lwW P b bm p S (z.1 + 1, z.2 + 6) ze si none) (Ψ2 := isL P b bm p (t + 1) Y) g1 g2 ?_ ?_ kk
    · exact wLW_take kB.obj.1 (sBT_takeT (d := 4) kB hl hq hx) (by
        rintro oc h1 ⟨a, rfl, hx, k1⟩
        exact Or.inr ⟨a, rfl, hx, rfl, lwW.thr k1 hm ha⟩)
    · intro h1 k1
      refine ⟨k1.cell, ?_⟩
      have ct := sMO_takeT (P := P) (d := 5) (h0 := h1) (bm := bm) kM hx
      rw [← k1.eq] at ct
      refine x_Kmono ct ?_
      rintro oc h2 ⟨rfl, ze', si', rfl, kM'⟩
      obtain ⟨e1, e2, e3⟩ := k1.fin (Y := Y) (t := t + 1) kM' (hI.f18.up (Nat.le_succ t)) (by show _ ≤ _; omega) (by show _ ≤ _; omega)
      exact ⟨rfl, e1, fun c => absurd c (by decide), e3⟩
theorem cl_read (g1 : vp_in (nI i + 1) P.2.2.2.2.2.1) (L : isL P b bm p t Y h) (hp : isP p) (ht : t < 512) (hE : P.2.2.2.2.2.2.2.1 < b) (hl : ∀ e : Env, P.1.admits e → e.platform.stackTraces = false) (kk : ∀ h2 v5 v6, isL P b bm p (t + 1) Y h2 → x_KG x_EL P 12 mLW_law 622 [some (.ref P.2.2.2.2.1), some (.ref b), some (.ref bm), some (.ref (bm + 33)), some (.int (nI i)), v5, v6] [] h2 Φ) : x_KG x_EL P 12 mLW_law 425 [some (.ref P.2.2.2.2.1), some (.ref b), some (.ref bm), some (.ref (bm + 33)), some (.int (nI i)), v5, v6] [] h Φ := by
  obtain ⟨S, F, T, H, fr, M, ze, si, z, f, kB, hpf, hm, ha, kM, hI, hz1, hz2⟩ := L
  have hb := hI.bd hp (by omega)
  by_cases c : 0 ≤ P.2.2.2.2.2.2.1 (nI i + 1).toNatClampNeg ∧ P.2.2.2.2.2.2.1 (nI i + 1).toNatClampNeg < 8
  · obtain ⟨j, hj, ej⟩ := rng_of (n := 8) (m := 8) (by decide) (by decide) c.1 c.2
    cases hQ : b_Q S (10 + j) with
    | cons m l =>
      have hl2 : l.length < 1000 := by
        have := hb.2 j hj
        rw [hQ] at this
        have e : (m :: l).length = l.length + 1 := rfl
        omega
      refine tl_read (r := 0) (v := nI m) (Ψ1 := lwW P b bm p (bs_Q S (ub (b_Q S) (10 + j) l)) z ze si (some (nI m).toInt64)) (Ψ2 := isL P b bm p (t + 1) Y) g1 ?_ ?_ kk
      · rw [ej]
        exact wLW_read kB.obj.1 (sBT_read (d := 9) kB hj hQ hl2) (by
          rintro oc h1 ⟨rfl, k1⟩
          obtain ⟨r1, r2⟩ := lwW.ret (v := (nI m).toInt64) k1 hm ha
          exact Or.inl ⟨_, f, rfl, r1, rfl, r2⟩)
      · intro h1 k1
        refine ⟨k1.cell, ?_⟩
        have ct := sMO_read (P := P) (d := 10) (h0 := h1) (bm := bm) kM hj hQ
        rw [← ej] at ct
        rw [← k1.eq] at ct
        refine x_Kmono ct ?_
        rintro oc h2 ⟨rfl, ze', si', rfl, kM'⟩
        obtain ⟨e1, e2, e3⟩ := k1.fin (Y := Y) (t := t + 1) kM' (((hI.read hj hQ).frc ub_in).up (Nat.le_succ t)) (by show _ ≤ _; omega) (by show _ ≤ _; omega)
        rw [ub_ne (by omega), ub_same] at e1
        exact ⟨rfl, e1, fun _ => e2 _ rfl, e3⟩
    | nil =>
      refine tl_read (r := 2) (v := 0) (Ψ1 := lwW P b bm p S (z.1 + 1, z.2 + 6) ze si none) (Ψ2 := isL P b bm p (t + 1) Y) g1 ?_ ?_ kk
      · rw [ej]
        exact wLW_read kB.obj.1 (sBT_readT2 (d := 4) kB hl hj hQ) (by
          rintro oc h1 ⟨a, rfl, hx, k1⟩
          exact Or.inr (Or.inr ⟨a, rfl, hx, rfl, lwW.thr k1 hm ha⟩))
      · intro h1 k1
        refine ⟨k1.cell, ?_⟩
        have ct := sMO_readT2 (P := P) (d := 10) (h0 := h1) (bm := bm) kM hj hQ
        rw [← ej] at ct
        rw [← k1.eq] at ct
        refine x_Kmono ct ?_
        rintro oc h2 ⟨rfl, ze', si', rfl, kM'⟩
        obtain ⟨e1, e2, e3⟩ := k1.fin (Y := Y) (t := t + 1) kM' (hI.f18.up (Nat.le_succ t)) (by show _ ≤ _; omega) (by show _ ≤ _; omega)
        exact ⟨rfl, e1, fun c => absurd c (by decide), e3⟩
  · skip
    refine tl_read (r := 1) (v := 0) (Ψ1 := lwW P b bm p S (z.1 + 1, z.2 + 6) ze si none) (Ψ2 := isL P b bm p (t + 1) Y) g1 ?_ ?_ kk
    · exact wLW_read kB.obj.1 (sBT_readT1 (d := 4) kB hl c) (by
        rintro oc h1 ⟨a, rfl, hx, k1⟩
        exact Or.inr (Or.inl ⟨a, rfl, hx, rfl, lwW.thr k1 hm ha⟩))
    · intro h1 k1
      refine ⟨k1.cell, ?_⟩
      have ct := sMO_readT1 (P := P) (d := 10) (h0 := h1) (bm := bm) kM c
      rw [← k1.eq] at ct
      refine x_Kmono ct ?_
      rintro oc h2 ⟨rfl, ze', si', rfl, kM'⟩
      obtain ⟨e1, e2, e3⟩ := k1.fin (Y := Y) (t := t + 1) kM' (hI.f18.up (Nat.le_succ t)) (by show _ ≤ _; omega) (by show _ ≤ _; omega)
      exact ⟨rfl, e1, fun c => absurd c (by decide), e3⟩
theorem cl_unsubscribe (g1 : vp_in (nI i + 1) P.2.2.2.2.2.1) (L : isL P b bm p t Y h) (hp : isP p) (ht : t < 512) (hE : P.2.2.2.2.2.2.2.1 < b) (hl : ∀ e : Env, P.1.admits e → e.platform.stackTraces = false) (kk : ∀ h2 v5 v6, isL P b bm p (t + 1) Y h2 → x_KG x_EL P 12 mLW_law 622 [some (.ref P.2.2.2.2.1), some (.ref b), some (.ref bm), some (.ref (bm + 33)), some (.int (nI i)), v5, v6] [] h2 Φ) : x_KG x_EL P 12 mLW_law 191 [some (.ref P.2.2.2.2.1), some (.ref b), some (.ref bm), some (.ref (bm + 33)), some (.int (nI i)), v5, v6] [] h Φ := by
  obtain ⟨S, F, T, H, fr, M, ze, si, z, f, kB, hpf, hm, ha, kM, hI, hz1, hz2⟩ := L
  by_cases c : ∃ k : Nat, k < b_s S ∧ P.2.2.2.2.2.2.1 (nI i + 1).toNatClampNeg = nI k ∧ b_en S k = false
  · obtain ⟨k, hk, ek, he⟩ := c
    have hI2 := hI.unsub hp hk he
    have hb2 := hI2.bd hp (by omega)
    refine tl_unsubscribe (r := 0)  (Ψ1 := lwW P b bm p (settleF p (b_su S k % 6) (bs_en S (ub (b_en S) k true))) z ze si none) (Ψ2 := isL P b bm p (t + 1) Y) g1 ?_ ?_ kk
    · rw [ek]
      exact wLW_unsubscribe kB.obj.1 (sBT_unsub (d := 5) kB hp hk he (fun j hj => by have := hb2.1 j hj; omega)) (by
        rintro oc h1 ⟨rfl, k1⟩
        exact Or.inl ⟨rfl, rfl, lwW.thr k1 hm ha⟩)
    · intro h1 k1
      refine ⟨k1.cell, ?_⟩
      have ct := sMO_unsub (P := P) (d := 6) (h0 := h1) (bm := bm) kM hk he hb2.1
      rw [← ek] at ct
      rw [← k1.eq] at ct
      refine x_Kmono ct ?_
      rintro oc h2 ⟨rfl, ze', si', T', M', rfl, kM'⟩
      obtain ⟨e1, e2, e3⟩ := k1.fin (Y := Y) (t := t + 1) kM' hI2.f18 (by show _ ≤ _; omega) (by show _ ≤ _; omega)
      exact ⟨rfl, e1, e3⟩
  · have hx : ∀ k : Nat, k < b_s S → P.2.2.2.2.2.2.1 (nI i + 1).toNatClampNeg = nI k → b_en S k = true := fun k hk ek => by
      cases he : b_en S k with
      | true => rfl
      | false => exact absurd ⟨k, hk, ek, he⟩ c
    refine tl_unsubscribe (r := 1)  (Ψ1 := lwW P b bm p S (z.1 + 1, z.2 + 6) ze si none) (Ψ2 := isL P b bm p (t + 1) Y) g1 ?_ ?_ kk
    · exact wLW_unsubscribe kB.obj.1 (sBT_unsubT (d := 4) kB hl hx) (by
        rintro oc h1 ⟨a, rfl, hx, k1⟩
        exact Or.inr ⟨a, rfl, hx, rfl, lwW.thr k1 hm ha⟩)
    · intro h1 k1
      refine ⟨k1.cell, ?_⟩
      have ct := sMO_unsubT (P := P) (d := 6) (h0 := h1) (bm := bm) kM hx
      rw [← k1.eq] at ct
      refine x_Kmono ct ?_
      rintro oc h2 ⟨rfl, ze', si', rfl, kM'⟩
      obtain ⟨e1, e2, e3⟩ := k1.fin (Y := Y) (t := t + 1) kM' (hI.f18.up (Nat.le_succ t)) (by show _ ≤ _; omega) (by show _ ≤ _; omega)
      exact ⟨rfl, e1, e3⟩
theorem cl_subscribe (g1 : vp_in (nI i + 1) P.2.2.2.2.2.1) (L : isL P b bm p t Y h) (hp : isP p) (ht : t < 512) (hE : P.2.2.2.2.2.2.2.1 < b) (hl : ∀ e : Env, P.1.admits e → e.platform.stackTraces = false) (kk : ∀ h2 v5 v6, isL P b bm p (t + 1) Y h2 → x_KG x_EL P 12 mLW_law 622 [some (.ref P.2.2.2.2.1), some (.ref b), some (.ref bm), some (.ref (bm + 33)), some (.int (nI i)), v5, v6] [] h2 Φ) : x_KG x_EL P 12 mLW_law 135 [some (.ref P.2.2.2.2.1), some (.ref b), some (.ref bm), some (.ref (bm + 33)), some (.int (nI i)), v5, v6] [] h Φ := by
  obtain ⟨S, F, T, H, fr, M, ze, si, z, f, kB, hpf, hm, ha, kM, hI, hz1, hz2⟩ := L
  by_cases c : ¬ (0 ≤ P.2.2.2.2.2.2.1 (nI i + 1).toNatClampNeg ∧ P.2.2.2.2.2.2.1 (nI i + 1).toNatClampNeg < 8) ∨ parseF (b_g S) (b_n S) 3 0 fi0 = none
  · skip
    refine tl_subscribe (r := 1) (v := 0) (Ψ1 := lwW P b bm p (bs_n S 0) (z.1 + 8, z.2 + 30) ze si none) (Ψ2 := isL P b bm p (t + 1) Y) g1 ?_ ?_ kk
    · exact wLW_subscribe kB.obj.1 (sBT_subT1 (d := 1) kB hpf hl c) (by
        rintro oc h1 ⟨a, rfl, hx, k1⟩
        exact Or.inr (Or.inl ⟨a, rfl, hx, rfl, lwW.thr k1 hm ha⟩))
    · intro h1 k1
      refine ⟨k1.cell, ?_⟩
      have ct := sMO_subT1 (P := P) (d := 6) (h0 := h1) (bm := bm) kM c
      rw [← k1.eq] at ct
      refine x_Kmono ct ?_
      rintro oc h2 ⟨rfl, ze', si', rfl, kM'⟩
      obtain ⟨e1, e2, e3⟩ := k1.fin (Y := Y) (t := t + 1) kM' ((hI.txt sm2_n0).f18.up (Nat.le_succ t)) (by show _ ≤ _; omega) (by show _ ≤ _; omega)
      exact ⟨rfl, e1, fun c => absurd c (by decide), e3⟩
  · have c1 : 0 ≤ P.2.2.2.2.2.2.1 (nI i + 1).toNatClampNeg ∧ P.2.2.2.2.2.2.1 (nI i + 1).toNatClampNeg < 8 := Classical.byContradiction fun e => c (Or.inl e)
    obtain ⟨j, hj, ej⟩ := rng_of (n := 8) (m := 8) (by decide) (by decide) c1.1 c1.2
    cases hF : parseF (b_g S) (b_n S) 3 0 fi0 with
    | none => exact absurd (Or.inr hF) c
    | some A =>
      by_cases hs : b_s S < 16
      · have hrl : rlF S F := kM.2.2.2.2.2.2.1
        have hI2 : ∀ q, INV p (sbF p S q A j) fr (t + 1) := fun q => hI.sub hp hrl hj hs
        have hkl := hI.kl
        refine tl_subscribe (r := 0) (v := nI (b_s S)) (Ψ1 := fun h1 => ∃ q, lwW P b bm p (sbF p S q A j) (z.1 + 7, z.2 + 24) ze si (some (nI (b_s S)).toInt64) h1) (Ψ2 := isL P b bm p (t + 1) Y) g1 ?_ ?_ kk
        · rw [ej]
          exact wLW_subscribe kB.obj.1 (sBT_sub (d := 1) kB hpf hE hp hj hF hs (fun _ => by omega) (fun q k hk => by have := ((hI2 q).bd hp (by omega)).1 k hk; omega)) (by
            rintro oc h1 ⟨rfl, q, k1⟩
            obtain ⟨r1, r2⟩ := lwW.ret (v := (nI (b_s S)).toInt64) k1 hm ha
            exact Or.inl ⟨_, f, rfl, r1, rfl, q, r2⟩)
        · rintro h1 ⟨q, k1⟩
          refine ⟨k1.cell, ?_⟩
          have ct := sMO_subscribe (P := P) (d := 6) (h0 := h1) (bm := bm) (q := q) kM hj hF hs ((hI2 q).bd hp (by omega)).1
          rw [← k1.eq, ← ej] at ct
          refine x_Kmono ct ?_
          rintro oc h2 ⟨rfl, ze', si', T', M', rfl, kM'⟩
          obtain ⟨e1, e2, e3⟩ := k1.fin (Y := Y) (t := t + 1) kM' (hI2 q).f18 (by show _ ≤ _; omega) (by show _ ≤ _; omega)
          exact ⟨rfl, e1, fun _ => e2 _ rfl, e3⟩
      · have hs16 : b_s S = 16 := by have := kM.s16; omega
        refine tl_subscribe (r := 2) (v := 0) (Ψ1 := lwW P b bm p (bs_n S 0) (z.1 + 8, z.2 + 30) ze si none) (Ψ2 := isL P b bm p (t + 1) Y) g1 ?_ ?_ kk
        · rw [ej]
          exact wLW_subscribe kB.obj.1 (sBT_subT2 (d := 1) kB hpf hl hj hF hs16) (by
            rintro oc h1 ⟨a, rfl, hx, k1⟩
            exact Or.inr (Or.inr ⟨a, rfl, hx, rfl, lwW.thr k1 hm ha⟩))
        · intro h1 k1
          refine ⟨k1.cell, ?_⟩
          have ct := sMO_subT2 (P := P) (d := 6) (h0 := h1) (bm := bm) kM hj hF hs16
          rw [← ej] at ct
          rw [← k1.eq] at ct
          refine x_Kmono ct ?_
          rintro oc h2 ⟨rfl, ze', si', rfl, kM'⟩
          obtain ⟨e1, e2, e3⟩ := k1.fin (Y := Y) (t := t + 1) kM' ((hI.txt sm2_n0).f18.up (Nat.le_succ t)) (by show _ ≤ _; omega) (by show _ ≤ _; omega)
          exact ⟨rfl, e1, fun c => absurd c (by decide), e3⟩
theorem cl_publish (g1 : vp_in (nI i + 1) P.2.2.2.2.2.1) (g2 : vp_in (nI i + 2) P.2.2.2.2.2.1) (g3 : vp_in (nI i + 3) P.2.2.2.2.2.1) (L : isL P b bm p t Y h) (hp : isP p) (ht : t < 512) (hE : P.2.2.2.2.2.2.2.1 < b) (hl : ∀ e : Env, P.1.admits e → e.platform.stackTraces = false) (kk : ∀ h2 v5 v6, isL P b bm p (t + 1) Y h2 → x_KG x_EL P 12 mLW_law 622 [some (.ref P.2.2.2.2.1), some (.ref b), some (.ref bm), some (.ref (bm + 33)), some (.int (nI i)), v5, v6] [] h2 Φ) : x_KG x_EL P 12 mLW_law 227 [some (.ref P.2.2.2.2.1), some (.ref b), some (.ref bm), some (.ref (bm + 33)), some (.int (nI i)), v5, v6] [] h Φ := by
  obtain ⟨S, F, T, H, fr, M, ze, si, z, f, kB, hpf, hm, ha, kM, hI, hz1, hz2⟩ := L
  by_cases c : ¬ ((0 ≤ P.2.2.2.2.2.2.1 (nI i + 1).toNatClampNeg ∧ P.2.2.2.2.2.2.1 (nI i + 1).toNatClampNeg < 8) ∧ (-999 ≤ P.2.2.2.2.2.2.1 (nI i + 2).toNatClampNeg ∧ P.2.2.2.2.2.2.1 (nI i + 2).toNatClampNeg ≤ 1000) ∧ (-999 ≤ P.2.2.2.2.2.2.1 (nI i + 3).toNatClampNeg ∧ P.2.2.2.2.2.2.1 (nI i + 3).toNatClampNeg ≤ 1000)) ∨ pwV (b_g S) (b_n S) = none
  · skip
    refine tl_publish (r := 1) (v := 0) (Ψ1 := lwW P b bm p (bs_n S 0) (z.1 + 1, z.2 + 6) ze si none) (Ψ2 := isL P b bm p (t + 1) Y) g1 g2 g3 ?_ ?_ kk
    · exact wLW_publish kB.obj.1 (sBT_publT (d := 4) kB hl c) (by
        rintro oc h1 ⟨a, rfl, hx, k1⟩
        exact Or.inr ⟨a, rfl, hx, rfl, lwW.thr k1 hm ha⟩)
    · intro h1 k1
      refine ⟨k1.cell, ?_⟩
      have ct := sMO_publT (P := P) (d := 8) (h0 := h1) (bm := bm) kM c
      rw [← k1.eq] at ct
      refine x_Kmono ct ?_
      rintro oc h2 ⟨rfl, ze', si', rfl, kM'⟩
      obtain ⟨e1, e2, e3⟩ := k1.fin (Y := Y) (t := t + 1) kM' ((hI.txt sm2_n0).f18.up (Nat.le_succ t)) (by show _ ≤ _; omega) (by show _ ≤ _; omega)
      exact ⟨rfl, e1, fun c => absurd c (by decide), e3⟩
  · have c1 : (0 ≤ P.2.2.2.2.2.2.1 (nI i + 1).toNatClampNeg ∧ P.2.2.2.2.2.2.1 (nI i + 1).toNatClampNeg < 8) ∧ (-999 ≤ P.2.2.2.2.2.2.1 (nI i + 2).toNatClampNeg ∧ P.2.2.2.2.2.2.1 (nI i + 2).toNatClampNeg ≤ 1000) ∧ (-999 ≤ P.2.2.2.2.2.2.1 (nI i + 3).toNatClampNeg ∧ P.2.2.2.2.2.2.1 (nI i + 3).toNatClampNeg ≤ 1000) := Classical.byContradiction fun e => c (Or.inl e)
    obtain ⟨j, hj, ej⟩ := rng_of (n := 8) (m := 8) (by decide) (by decide) c1.1.1 c1.1.2
    cases hw : pwV (b_g S) (b_n S) with
    | none => exact absurd (Or.inr hw) c
    | some A =>
      have hN := hI.nl
      have hI2 : ∀ q, INV p (handleF p (j % 6) (b_N S).length (-1) (P.2.2.2.2.2.2.1 (nI i + 2).toNatClampNeg, P.2.2.2.2.2.2.1 (nI i + 3).toNatClampNeg, nI A) (pbS S (q, P.2.2.2.2.2.2.1 (nI i + 2).toNatClampNeg, P.2.2.2.2.2.2.1 (nI i + 3).toNatClampNeg, nI A))) fr (t + 1) := fun q => hI.pub hp (Nat.mod_lt _ (by decide))
      refine tl_publish (r := 0) (v := nI (b_N S).length) (Ψ1 := fun h1 => ∃ q, lwW P b bm p (handleF p (j % 6) (b_N S).length (-1) (P.2.2.2.2.2.2.1 (nI i + 2).toNatClampNeg, P.2.2.2.2.2.2.1 (nI i + 3).toNatClampNeg, nI A) (pbS S (q, P.2.2.2.2.2.2.1 (nI i + 2).toNatClampNeg, P.2.2.2.2.2.2.1 (nI i + 3).toNatClampNeg, nI A))) (z.1 + 1, z.2 + 3) ze si (some (nI (b_N S).length).toInt64) h1) (Ψ2 := isL P b bm p (t + 1) Y) g1 g2 g3 ?_ ?_ kk
      · rw [ej]
        exact wLW_publish kB.obj.1 (sBT_publish (d := 2) kB hE hj c1.2.1 c1.2.2 hw (by omega) (fun q k hk => by
          obtain ⟨b1, b2⟩ := (hI2 q).bd hp (by omega)
          by_cases c9 : k < 10
          · have := b1 k c9; omega
          · have := b2 (k - 10) (by omega)
            rw [show 10 + (k - 10) = k by omega] at this
            omega)) (by
          rintro oc h1 ⟨rfl, q, k1⟩
          obtain ⟨r1, r2⟩ := lwW.ret (v := (nI (b_N S).length).toInt64) k1 hm ha
          exact Or.inl ⟨_, f, rfl, r1, rfl, q, r2⟩)
      · rintro h1 ⟨q, k1⟩
        refine ⟨k1.cell, ?_⟩
        have hb := (hI2 q).bd hp (by omega)
        have ct := sMO_publish (P := P) (d := 8) (h0 := h1) (bm := bm) (q := q) kM hj c1.2.1 c1.2.2 hw (by omega) hb.1 (fun k hk => by have := hb.2 k hk; omega)
        rw [← k1.eq, ← ej] at ct
        refine x_Kmono ct ?_
        rintro oc h2 ⟨rfl, ze', si', M', rfl, kM'⟩
        obtain ⟨e1, e2, e3⟩ := k1.fin (Y := Y) (t := t + 1) kM' (hI2 q).f18 (by show _ ≤ _; omega) (by show _ ≤ _; omega)
        exact ⟨rfl, e1, fun _ => e2 _ rfl, e3⟩
theorem cl_covers (L : isL P b bm p t Y h) (hp : isP p) (ht : t < 512) (hE : P.2.2.2.2.2.2.2.1 < b) (hl : ∀ e : Env, P.1.admits e → e.platform.stackTraces = false) (kk : ∀ h2 v5 v6, isL P b bm p (t + 1) Y h2 → x_KG x_EL P 12 mLW_law 622 [some (.ref P.2.2.2.2.1), some (.ref b), some (.ref bm), some (.ref (bm + 33)), some (.int (nI i)), v5, v6] [] h2 Φ) : x_KG x_EL P 12 mLW_law 546 [some (.ref P.2.2.2.2.1), some (.ref b), some (.ref bm), some (.ref (bm + 33)), some (.int (nI i)), v5, v6] [] h Φ := by
  obtain ⟨S, F, T, H, fr, M, ze, si, z, f, kB, hpf, hm, ha, kM, hI, hz1, hz2⟩ := L
  have fin0 : ∀ (r : Nat) (v : Bool), INV p (bs_n S 0) (ub fr 18 r) (t + 1) := fun r v => (hI.txt sm2_n0).f18.up (Nat.le_succ t)
  by_cases c : (cvF (b_g S) (b_n S)).1 = none ∨ (cvF (b_g S) (b_n S)).2 = none
  · have e0 : cvB (cvF (b_g S) (b_n S)) = false := by
      unfold cvB
      rcases c with c | c <;> rw [c] <;> simp
    refine tl_covers (r := 1) (v := false) (Ψ1 := lwW P b bm p (bs_n S 0) (z.1 + 15, z.2 + 54) ze si none) (Ψ2 := isL P b bm p (t + 1) Y)  ?_ ?_ kk
    · exact wLW_covers kB.obj.1 (sBT_coversT (d := 4) kB hpf hl c) (by
        rintro oc h1 ⟨a, rfl, hx, k1⟩
        exact Or.inr ⟨a, rfl, hx, rfl, lwW.thr k1 hm ha⟩)
    · intro h1 k1
      refine ⟨k1.cell, ?_⟩
      have ct := sMO_covers (P := P) (d := 7) (h0 := h1) (bm := bm) kM
      rw [e0] at ct
      rw [← k1.eq] at ct
      refine x_Kmono ct ?_
      rintro oc h2 ⟨rfl, ze', si', rfl, kM'⟩
      obtain ⟨e1, e2, e3⟩ := k1.fin (Y := Y) (t := t + 1) kM' (fin0 1 true) (by show _ ≤ _; omega) (by show _ ≤ _; omega)
      exact ⟨rfl, e1, fun c => absurd c (by decide), e3⟩
  · cases h1 : (cvF (b_g S) (b_n S)).1 with
    | none => exact absurd (Or.inl h1) c
    | some A =>
      cases h2 : (cvF (b_g S) (b_n S)).2 with
      | none => exact absurd (Or.inr h2) c
      | some B =>
        have e0 : cvB (cvF (b_g S) (b_n S)) = true := by
          unfold cvB
          rw [h1, h2]
          rfl
        have e1 : cvX (cvF (b_g S) (b_n S)) = fiInc A B := by
          have : cvF (b_g S) (b_n S) = (some A, some B) := Prod.ext h1 h2
          rw [this]
          rfl
        refine tl_covers (r := 0) (v := fiInc A B) (Ψ1 := lwW P b bm p (bs_n S 0) (z.1 + 14, z.2 + 48) ze si (some (if fiInc A B then 1 else 0))) (Ψ2 := isL P b bm p (t + 1) Y)  ?_ ?_ kk
        · exact wLW_covers kB.obj.1 (sBT_covers (d := 4) kB hpf h1 h2) (by
            rintro oc h1 ⟨rfl, k1⟩
            obtain ⟨r1, r2⟩ := lwW.ret (v := if fiInc A B then 1 else 0) k1 hm ha
            exact Or.inl ⟨_, f, rfl, r1, rfl, r2⟩)
        · intro h1 k1
          refine ⟨k1.cell, ?_⟩
          have ct := sMO_covers (P := P) (d := 7) (h0 := h1) (bm := bm) kM
          rw [e0, e1] at ct
          rw [← k1.eq] at ct
          refine x_Kmono ct ?_
          rintro oc h2 ⟨rfl, ze', si', rfl, kM'⟩
          obtain ⟨e1, e2, e3⟩ := k1.fin (Y := Y) (t := t + 1) kM' (fin0 0 true) (by show _ ≤ _; omega) (by show _ ≤ _; omega)
          exact ⟨rfl, e1, fun _ => e2 _ rfl, e3⟩
end

