/-! publish, covers -/
section
variable {P : x_P} {b : Nat} {p : Nat → Nat} {Z : Nat × Nat × (Nat → Option x_E)} {S : bS} {h : x_H} {z : Nat × Nat} {d : Nat}
theorem isB.parse {a e : Nat} (kB : isB P b p Z S z h) (he : e ≤ 30) (ha : a ≤ e + 1) : x_K P (d + 4) mFI_parse 0 [some (.ref (b + 1)), some (.int (nI a)), some (.int (nI e)), none, none, none, none] [] h (fun oc h' => oc = .returned (some (va_rf ((parseF (b_g S) e 3 a fi0).map (fun _ => h.2.1)))) ∧ isB P b p Z (bs_pf S (b_pf S ++ (parseF (b_g S) e 3 a fi0).toList.map (fun F => (h.2.1, F)))) (z.1 + 7, z.2 + 24) h') := by
  obtain ⟨kt, htl⟩ := kB.txt
  refine x_Kmono (sFI_parse kt he (by decide) ha htl) ?_
  rintro oc h1 ⟨hm, g⟩
  cases hF : parseF (b_g S) e 3 a fi0 with
  | none =>
    rw [hF] at hm
    refine ⟨hm, ?_⟩
    rw [Option.toList_none, List.map_nil, List.append_nil, bsi_pf]
    exact kB.gr g
  | some F =>
    rw [hF] at hm
    exact ⟨hm.1, kB.pend g (Nat.le_refl 7) hm.2⟩
theorem sBT_coversK {Φ : Outcome → x_H → Prop} (kB : isB P b p Z S z h) (hpf : b_pf S = [])
  (kk : ∀ h1 a1 a2, isB P b p Z (bs_n (bs_pf S ((cvF (b_g S) (b_n S)).1.toList.map (fun F => (a1, F)) ++ (cvF (b_g S) (b_n S)).2.toList.map (fun F => (a2, F)))) 0) (z.1 + 14, z.2 + 48) h1 → x_K P (d + 6) mBT_covers 45 [some (.ref b), some (.int (nI (fnd (b_g S) 32 (b_n S) 0))), some (va_rf ((cvF (b_g S) (b_n S)).1.map (fun _ => a1))), some (va_rf ((cvF (b_g S) (b_n S)).2.map (fun _ => a2)))] [] h1 Φ) :
  x_K P (d + 6) mBT_covers 0 [some (.ref b), none, none, none] [] h Φ := by
  have hn := kB.obj.2.1
  have hf := fnd_le (b_g S) 32 (b_n S) 0
  refine eBT_covers_0 ?_
  refine eBT_covers_2 rfl ?_
  refine eBT_covers_3 kB.obj.1 rfl ?_
  refine eBT_covers_6 ?_
  refine eBT_covers_7 rfl ?_
  refine eBT_covers_8 kB.obj.1 rfl ?_
  refine eBT_covers_11 rfl (Nat.le_of_ble_eq_true rfl) (sTX_find (c := 32) (a := 0) (b := b_n S) kB.txt.1 (by decide) hn (Nat.zero_le _)) ?_
  rintro _ h1 ⟨rfl, rfl⟩
  refine ⟨_, rfl, ?_⟩
  rw [Nat.sub_zero]
  refine eBT_covers_14 ?_
  refine eBT_covers_15 rfl ?_
  refine eBT_covers_16 kB.obj.1 rfl ?_
  refine eBT_covers_19 ?_
  refine eBT_covers_20 ?_
  refine eBT_covers_21 rfl (Nat.le_of_ble_eq_true rfl) ((kB.parse (a := 0) (e := fnd (b_g S) 32 (b_n S) 0) (by omega) (by omega)).up (d := d + 4) (by omega)) ?_
  rintro _ h2 ⟨rfl, k2⟩
  refine ⟨_, rfl, ?_⟩
  refine eBT_covers_24 (x_isr _) ?_
  refine eBT_covers_25 rfl ?_
  refine eBT_covers_26 k2.obj.1 rfl ?_
  refine eBT_covers_29 ?_
  refine eBT_covers_30 ?_
  refine eBT_covers_31 ?_
  refine eBT_covers_32 rfl ?_
  refine eBT_covers_33 k2.obj.1 rfl ?_
  rw [nI_1, bg_n_pf]
  refine eBT_covers_36 rfl (Nat.le_of_ble_eq_true rfl) ((k2.parse (a := fnd (b_g S) 32 (b_n S) 0 + 1) (e := b_n S) hn (by omega)).up (d := d + 4) (by omega)) ?_
  rintro _ h3 ⟨rfl, k3⟩
  refine ⟨_, rfl, ?_⟩
  rw [bg_g_pf, bg_pf, hpf, List.nil_append, bss_pf] at k3
  rw [bg_g_pf]
  refine eBT_covers_39 (x_isr _) ?_
  refine eBT_covers_40 rfl ?_
  refine eBT_covers_41 ?_
  refine eBT_covers_42 k3.obj.1 (Nat.le_of_ble_eq_true rfl) ?_
  exact kk _ h1.2.1 h2.2.1 (k3.mN (v := 0) (by omega))
theorem pf_nil (hpf : b_pf S = []) : bs_n S 0 = bs_pf (bs_n S 0) [] := by
  rw [show ([] : List (Nat × sp3)) = b_pf (bs_n S 0) by rw [bg_pf_n, hpf], bsi_pf]
theorem sBT_coversT (kB : isB P b p Z S z h) (hpf : b_pf S = []) (hl : ∀ e : Env, P.1.admits e → e.platform.stackTraces = false) (hbad : (cvF (b_g S) (b_n S)).1 = none ∨ (cvF (b_g S) (b_n S)).2 = none) : x_K P (d + 6) mBT_covers 0 [some (.ref b), none, none, none] [] h (isThr P b p Z (bs_n S 0) (z.1 + 15, z.2 + 54) 10) := by
  refine sBT_coversK kB hpf (fun h1 a1 a2 k1 => ?_)
  have k2 : isB P b p Z (bs_n S 0) (z.1 + 14, z.2 + 48) h1 := by
    have k2 := k1.unpend
    rw [bsc_n_pf, bss_pf] at k2
    rw [pf_nil hpf]
    exact k2
  have thr : ∀ (u v : Option Value), x_K P (d + 6) mBT_covers 53 [some (.ref b), some (.int (nI (fnd (b_g S) 32 (b_n S) 0))), u, v] [] h1 (isThr P b p Z (bs_n S 0) (z.1 + 15, z.2 + 54) 10) := fun u v => eBT_covers_53 hl (Nat.le_of_ble_eq_true rfl) k2.thr
  refine eBT_covers_45 (x_isr _) ?_
  refine eBT_covers_46 (fun _ => thr _ _) (fun a e => ?_)
  refine eBT_covers_49 (x_isr _) ?_
  refine eBT_covers_50 (fun _ => thr _ _) (fun a' e' => ?_)
  rcases hbad with h9 | h9
  · rw [h9] at e; cases e
  · rw [h9] at e'; cases e'
theorem sBT_covers {F G : sp3} (kB : isB P b p Z S z h) (hpf : b_pf S = []) (h1 : (cvF (b_g S) (b_n S)).1 = some F) (h2 : (cvF (b_g S) (b_n S)).2 = some G) : x_K P (d + 6) mBT_covers 0 [some (.ref b), none, none, none] [] h (fun oc h' => oc = .returned (some (.int (b2i (fiInc F G)))) ∧ isB P b p Z (bs_n S 0) (z.1 + 14, z.2 + 48) h') := by
  refine sBT_coversK kB hpf (fun h3 a1 a2 k1 => ?_)
  rw [h1, h2] at k1 ⊢
  have k2 : isB P b p Z (bs_n S 0) (z.1 + 14, z.2 + 48) h3 := by
    have k2 := k1.unpend
    rw [bsc_n_pf, bss_pf] at k2
    rw [pf_nil hpf]
    exact k2
  have kf1 := k1.pf (q := (a1, F)) (by rw [bg_pf_n, bg_pf]; simp)
  have kf2 := k1.pf (q := (a2, G)) (by rw [bg_pf_n, bg_pf]; simp)
  show x_K P (d + 6) mBT_covers 45 [some (.ref b), some (.int (nI (fnd (b_g S) 32 (b_n S) 0))), some (.ref a1), some (.ref a2)] [] h3 _
  refine eBT_covers_45 rfl ?_
  refine eBT_covers_46 (r := some a1) (fun e => by cases e) (fun _ _ => ?_)
  refine eBT_covers_49 rfl ?_
  refine eBT_covers_50 (r := some a2) (fun e => by cases e) (fun _ _ => ?_)
  refine eBT_covers_61 rfl ?_
  refine eBT_covers_62 rfl ?_
  refine eBT_covers_63 kf1.1 rfl (Nat.le_of_ble_eq_true rfl) ((sFI_includes kf1 kf2).up (d := d + 3) (by omega)) ?_
  rintro _ h4 ⟨rfl, rfl⟩
  exact ⟨_, rfl, eBT_covers_66 (b2i_n _) ⟨rfl, k2⟩⟩
end

