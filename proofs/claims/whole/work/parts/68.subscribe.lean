/-! subscribe, publish, covers: what they answer -/
def sbS (S : bS) (q : Nat) (F : sp3) (i : Nat) : bS := bs_s (bs_wa (bs_pf (bs_K (bs_su (bs_pf (bs_n S 0) [(q, F)]) (ub (b_su S) (b_s S) i)) (cadd (b_K S) (q, F))) []) (ub (b_wa S) (b_s S) (cnum (b_K S) F))) (b_s S + 1)
def sbF (p : Nat → Nat) (S : bS) (q : Nat) (F : sp3) (i : Nat) : bS := settleF p (i % 6) (sbS S q F i)
section
variable {P : x_P} {b : Nat} {p : Nat → Nat} {Z : Nat × Nat × (Nat → Option x_E)} {S : bS} {h : x_H} {z : Nat × Nat} {d : Nat}
theorem cnum_lt {K : List (Nat × sp3)} {F : sp3} (h16 : K.length ≤ 16) (hK2 : (∀ r ∈ K, alF F r = false) → K.length < 16) : cnum K F < 16 := by
  by_cases h : ∀ r ∈ K, alF F r = false
  · rw [(cnum_no h).1]
    exact hK2 h
  · have h1 : K.findIdx (alF F) < K.length := by
      refine List.findIdx_lt_length.mpr ?_
      refine Classical.byContradiction fun hn => h fun r hr => ?_
      cases h9 : alF F r with
      | false => rfl
      | true => exact absurd ⟨r, hr, h9⟩ hn
    show K.findIdx (alF F) < 16
    omega
theorem sBT_subT2 {i : Nat} {F : sp3} (kB : isB P b p Z S z h) (hpf : b_pf S = []) (hl : ∀ e : Env, P.1.admits e → e.platform.stackTraces = false) (hi : i < 8) (hF : parseF (b_g S) (b_n S) 3 0 fi0 = some F) (hs : b_s S = 16) : x_K P (d + 9) mBT_subscribe 0 [some (.ref b), some (.int (nI i)), none, none] [] h (isThr P b p Z (bs_n S 0) (z.1 + 8, z.2 + 30) 11) := by
  refine sBT_subParse kB hpf (fun h1 hN _ => by rw [hF] at hN; cases hN) (fun h1 q F' _ k1 => ?_)
  have k2 : isB P b p Z (bs_n S 0) (z.1 + 7, z.2 + 24) h1 := by
    have k2 := k1.unpend
    rw [bss_pf] at k2
    rw [show bs_n S 0 = bs_pf (bs_n S 0) [] by rw [show ([] : List (Nat × sp3)) = b_pf (bs_n S 0) by rw [bg_pf_n, hpf], bsi_pf]]
    exact k2
  refine eBT_subscribe_18 ?_
  refine eBT_subscribe_19 (Nat.le_of_ble_eq_true rfl) sBT_isClient ?_
  rintro _ h2 ⟨rfl, rfl⟩
  refine ⟨_, rfl, ?_⟩
  rw [isCl hi]
  refine eBT_subscribe_22 (fun q => absurd q (by decide)) (fun _ => ?_)
  refine eBT_subscribe_25 rfl ?_
  refine eBT_subscribe_26 (r := some q) (fun e => by cases e) (fun _ _ => ?_)
  refine eBT_subscribe_37 rfl ?_
  refine eBT_subscribe_38 k2.obj.1 rfl ?_
  refine eBT_subscribe_41 ?_
  refine eBT_subscribe_43 (fun c => ?_) (fun _ => ?_)
  · rw [bg_s_n, hs] at c
    exact absurd c (by decide)
  · exact eBT_subscribe_46 (d := d + 3) hl (Nat.le_of_ble_eq_true rfl) k2.thr
theorem sBT_sub {i : Nat} {F : sp3} (kB : isB P b p Z S z h) (hpf : b_pf S = []) (hE : P.2.2.2.2.2.2.2.1 < b) (hp : isP p) (hi : i < 8) (hF : parseF (b_g S) (b_n S) 3 0 fi0 = some F) (hs : b_s S < 16) (hK2 : (∀ r ∈ b_K S, alF F r = false) → (b_K S).length < 16) (hq : ∀ q j, j < 10 → (b_Q (sbF p S q F i) j).length ≤ 1000) : x_K P (d + 9) mBT_subscribe 0 [some (.ref b), some (.int (nI i)), none, none] [] h (fun oc h' => oc = .returned (some (.int (nI (b_s S)))) ∧ ∃ q, isB P b p Z (sbF p S q F i) (z.1 + 7, z.2 + 24) h') := by
  refine sBT_subParse kB hpf (fun h1 hN _ => by rw [hF] at hN; cases hN) (fun h1 q F' hF' k1 => ?_)
  have eF : F' = F := Option.some.inj (hF'.symm.trans hF)
  subst eF
  have hc16 := kB.cat.2.2.2
  refine eBT_subscribe_18 ?_
  refine eBT_subscribe_19 (Nat.le_of_ble_eq_true rfl) sBT_isClient ?_
  rintro _ h2 ⟨rfl, rfl⟩
  refine ⟨_, rfl, ?_⟩
  rw [isCl hi]
  refine eBT_subscribe_22 (fun q => absurd q (by decide)) (fun _ => ?_)
  refine eBT_subscribe_25 rfl ?_
  refine eBT_subscribe_26 (r := some q) (fun e => by cases e) (fun _ _ => ?_)
  refine eBT_subscribe_37 rfl ?_
  refine eBT_subscribe_38 k1.obj.1 rfl ?_
  refine eBT_subscribe_41 ?_
  rw [bg_s_pf, bg_s_n]
  refine eBT_subscribe_43 (fun _ => ?_) (fun c => absurd (nI_lt (b := 16) hs (by decide)) c)
  obtain ⟨fs, hsu, hsv⟩ := k1.su
  refine eBT_subscribe_54 rfl ?_
  refine eBT_subscribe_55 k1.obj.1 rfl ?_
  refine eBT_subscribe_58 ?_
  refine eBT_subscribe_59 rfl ?_
  refine eBT_subscribe_60 k1.obj.1 rfl ?_
  refine eBT_subscribe_63 ?_
  refine eBT_subscribe_64 ?_
  refine eBT_subscribe_65 hsu (xn_in hs (by decide)) ?_
  rw [bg_s_pf, bg_s_n, nI_clamp (by omega)]
  have k2 : isB P b p Z (bs_su (bs_pf (bs_n S 0) [(q, F')]) (ub (b_su S) (b_s S) i)) (z.1 + 7, z.2 + 24) (x_put h2 (b + 7) (.inl (0, 16, .inl (upd fs (b_s S) (nI i))))) := by
    refine k1.mSu (fun k hk => ?_) rfl
    unfold upd ub
    split
    · exact ⟨rfl, hi⟩
    · have := hsv k hk
      rw [bg_su_pf, bg_su_n] at this
      exact this
  generalize x_put h2 (b + 7) (.inl (0, 16, .inl (upd fs (b_s S) (nI i)))) = h3 at k2 ⊢
  refine eBT_subscribe_66 rfl ?_
  refine eBT_subscribe_67 k2.obj.1 rfl ?_
  refine eBT_subscribe_70 ?_
  refine eBT_subscribe_71 rfl ?_
  refine eBT_subscribe_72 k2.obj.1 rfl ?_
  refine eBT_subscribe_75 rfl ?_
  refine eBT_subscribe_76 k2.cat.1 rfl (Nat.le_of_ble_eq_true rfl) (isB.number (q := q) (F := F') k2 hE (by rw [bg_pf_su, bg_pf]) (by rw [bg_K_su, bg_K_pf, bg_K_n]; exact hK2)) ?_
  rintro _ h4 ⟨rfl, k4⟩
  refine ⟨_, rfl, ?_⟩
  rw [bg_K_su, bg_K_pf, bg_K_n] at k4 ⊢
  obtain ⟨fw, hwa, hwv⟩ := k4.wa
  refine eBT_subscribe_79 hwa (xn_in hs (by decide)) ?_
  rw [nI_clamp (by omega)]
  have k5 := k4.mWa (v := ub (b_wa S) (b_s S) (cnum (b_K S) F')) (f := upd fw (b_s S) (nI (cnum (b_K S) F'))) (fun k hk => by
    unfold upd ub
    split
    · exact ⟨rfl, cnum_lt hc16 hK2⟩
    · have := hwv k hk
      rw [bg_wa_pf, bg_wa_K, bg_wa_su, bg_wa_pf, bg_wa_n] at this
      exact this) rfl
  generalize x_put h4 (b + 8) (.inl (0, 16, .inl (upd fw (b_s S) (nI (cnum (b_K S) F'))))) = h5 at k5 ⊢
  refine eBT_subscribe_80 rfl ?_
  refine eBT_subscribe_81 rfl ?_
  refine eBT_subscribe_82 k5.obj.1 rfl ?_
  refine eBT_subscribe_85 ?_
  refine eBT_subscribe_86 ?_
  refine eBT_subscribe_87 k5.obj.1 (Nat.le_of_ble_eq_true rfl) ?_
  rw [bg_s_wa, bg_s_pf, bg_s_K, bg_s_su, bg_s_pf, bg_s_n, nI_1]
  have k6 : isB P b p Z (sbS S q F' i) (z.1 + 7, z.2 + 24) (x_put h5 b (.inr (0, bO b (sbS S q F' i)))) := k5.mS (v := b_s S + 1) (by omega)
  show x_K P (d + 9) mBT_subscribe 90 [some (.ref b), some (.int (nI i)), some (.ref q), some (.int (nI (b_s S)))] [] (x_put h5 b (.inr (0, bO b (sbS S q F' i)))) _
  generalize x_put h5 b (.inr (0, bO b (sbS S q F' i))) = h6 at k6 ⊢
  refine eBT_subscribe_90 rfl ?_
  refine eBT_subscribe_91 ?_
  refine eBT_subscribe_92 (Nat.le_of_ble_eq_true rfl) (sBT_brokerOf hi) ?_
  rintro _ h7 ⟨rfl, rfl⟩
  refine ⟨_, rfl, ?_⟩
  refine eBT_subscribe_95 k6.obj.1 (Nat.le_of_ble_eq_true rfl) ((sBT_settle k6 hp (by omega) (hq q)).up (d := d + 4) (by omega)) ?_
  rintro _ h8 ⟨rfl, k8⟩
  refine ⟨_, rfl, ?_⟩
  refine eBT_subscribe_98 ?_
  exact eBT_subscribe_99 ⟨rfl, q, k8⟩
end

