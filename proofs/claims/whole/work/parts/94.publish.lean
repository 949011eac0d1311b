/-! publish, covers -/
section
variable {P : x_P} {b : Nat} {p : Nat → Nat} {Z : Nat × Nat × (Nat → Option x_E)} {S : bS} {h : x_H} {z : Nat × Nat} {d : Nat}
theorem isB.parse {a e : Nat} (kB : isB P b p Z S z h) (he : e ≤ 30) (ha : a ≤ e + 1) : x_K P (d + 4) mFI_parse 0 [some (.ref (b + 1)), some (.int (nI a)), some (.int (nI e)), none, none, none, none] [] h (fun oc h' => oc = .returned (some (va_rf ((parseF (b_g S) e 3 a fi0).map (fun _ => h.2.1)))) ∧ isB P b p Z (bs_pf S (b_pf S ++ (parseF (b_g S) e 3 a fi0).toList.map (fun F => (h.2.1, F)))) (z.1 + 7, z.2 + 24) h') := by
  obtain ⟨kt, htl⟩ := kB.txt
  refine x_Kmono (sFI_parse kt he (by decide) ha htl) ?_
  rintro oc h1 ⟨hm, g⟩
  cases hF : parseF (b_g S) e 3 a fi0 with
  | none =>
    rw [hF] at hm
    refine ⟨hm, ?_⟩
    rw [Option.toList_none, List.map_nil, List.append_nil, bsi_pf]
    exact kB.gr g
  | some F =>
    rw [hF] at hm
    exact ⟨hm.1, kB.pend g (Nat.le_refl 7) hm.2⟩
theorem sBT_coversK {Φ : Outcome → x_H → Prop} (kB : isB P b p Z S z h) (hpf : b_pf S = [])
  (kk : ∀ h1 a1 a2, isB P b p Z (bs_n (bs_pf S ((cvF (b_g S) (b_n S)).1.toList.map (fun F => (a1, F)) ++ (cvF (b_g S) (b_n S)).2.toList.map (fun F => (a2, F)))) 0) (z.1 + 14, z.2 + 48) h1 → x_K P (d + 6) mBT_covers 45 [some (.ref b), some (.int (nI (fnd (b_g S) 32 (b_n S) 0))), some (va_rf ((cvF (b_g S) (b_n S)).1.map (fun _ => a1))), some (va_rf ((cvF (b_g S) (b_n S)).2.map (fun _ => a2)))] [] h1 Φ) :
  x_K P (d + 6) mBT_covers 0 [some (.ref b), none, none, none] [] h Φ := by
  have hn := kB.obj.2.1
  have hf := fnd_le (b_g S) 32 (b_n S) 0
  refine eBT_covers_0 ?_
  refine eBT_covers_2 rfl ?_
  refine eBT_covers_3 kB.obj.1 rfl ?_
  refine eBT_covers_6 ?_
  refine eBT_covers_7 rfl ?_
  refine eBT_covers_8 kB.obj.1 rfl ?_
  refine eBT_covers_11 rfl (Nat.le_of_ble_eq_true rfl) (sTX_find (c := 32) (a := 0) (b := b_n S) kB.txt.1 (by decide) hn (Nat.zero_le _)) ?_
  rintro _ h1 ⟨rfl, rfl⟩
  refine ⟨_, rfl, ?_⟩
  rw [Nat.sub_zero]
  refine eBT_covers_14 ?_
  refine eBT_covers_15 rfl ?_
  refine eBT_covers_16 kB.obj.1 rfl ?_
  refine eBT_covers_19 ?_
  refine eBT_covers_20 ?_
  refine eBT_covers_21 rfl (Nat.le_of_ble_eq_true rfl) ((kB.parse (a := 0) (e := fnd (b_g S) 32 (b_n S) 0) (by omega) (by omega)).up (d := d + 4) (by omega)) ?_
  rintro _ h2 ⟨rfl, k2⟩
  refine ⟨_, rfl, ?_⟩
  refine eBT_covers_24 (x_isr _) ?_
  refine eBT_covers_25 rfl ?_
  refine eBT_covers_26 k2.obj.1 rfl ?_
  refine eBT_covers_29 ?_
  refine eBT_covers_30 ?_
  refine eBT_covers_31 ?_
  refine eBT_covers_32 rfl ?_
  refine eBT_covers_33 k2.obj.1 rfl ?_
  rw [nI_1, bg_n_pf]
  refine eBT_covers_36 rfl (Nat.le_of_ble_eq_true rfl) ((k2.parse (a := fnd (b_g S) 32 (b_n S) 0 + 1) (e := b_n S) hn (by omega)).up (d := d + 4) (by omega)) ?_
  rintro _ h3 ⟨rfl, k3⟩
  refine ⟨_, rfl, ?_⟩
  rw [bg_g_pf, bg_pf, hpf, List.nil_append, bss_pf] at k3
  rw [bg_g_pf]
  refine eBT_covers_39 (x_isr _) ?_
  refine eBT_covers_40 rfl ?_
  refine eBT_covers_41 ?_
  refine eBT_covers_42 k3.obj.1 (Nat.le_of_ble_eq_true rfl) ?_
  exact kk _ h1.2.1 h2.2.1 (k3.mN (v := 0) (by omega))
theorem pf_nil (hpf : b_pf S = []) : bs_n S 0 = bs_pf (bs_n S 0) [] := by
  rw [show ([] : List (Nat × sp3)) = b_pf (bs_n S 0) by rw [bg_pf_n, hpf], bsi_pf]
theorem sBT_coversT (kB : isB P b p Z S z h) (hpf : b_pf S = []) (hl : ∀ e : Env, P.1.admits e → e.platform.stackTraces = false) (hbad : (cvF (b_g S) (b_n S)).1 = none ∨ (cvF (b_g S) (b_n S)).2 = none) : x_K P (d + 6) mBT_covers 0 [some (.ref b), none, none, none] [] h (isThr P b p Z (bs_n S 0) (z.1 + 15, z.2 + 54) 10) := by
  refine sBT_coversK kB hpf (fun h1 a1 a2 k1 => ?_)
  have k2 : isB P b p Z (bs_n S 0) (z.1 + 14, z.2 + 48) h1 := by
    have k2 := k1.unpend
    rw [bsc_n_pf, bss_pf] at k2
    rw [pf_nil hpf]
    exact k2
  have thr : ∀ (u v : Option Value), x_K P (d + 6) mBT_covers 53 [some (.ref b), some (.int (nI (fnd (b_g S) 32 (b_n S) 0))), u, v] [] h1 (isThr P b p Z (bs_n S 0) (z.1 + 15, z.2 + 54) 10) := fun u v => eBT_covers_53 hl (Nat.le_of_ble_eq_true rfl) k2.thr
  refine eBT_covers_45 (x_isr _) ?_
  refine eBT_covers_46 (fun _ => thr _ _) (fun a e => ?_)
  refine eBT_covers_49 (x_isr _) ?_
  refine eBT_covers_50 (fun _ => thr _ _) (fun a' e' => ?_)
  rcases hbad with h9 | h9
  · rw [h9] at e; cases e
  · rw [h9] at e'; cases e'
theorem sBT_covers {F G : sp3} (kB : isB P b p Z S z h) (hpf : b_pf S = []) (h1 : (cvF (b_g S) (b_n S)).1 = some F) (h2 : (cvF (b_g S) (b_n S)).2 = some G) : x_K P (d + 6) mBT_covers 0 [some (.ref b), none, none, none] [] h (fun oc h' => oc = .returned (some (.int (b2i (fiInc F G)))) ∧ isB P b p Z (bs_n S 0) (z.1 + 14, z.2 + 48) h') := by
  refine sBT_coversK kB hpf (fun h3 a1 a2 k1 => ?_)
  rw [h1, h2] at k1 ⊢
  have k2 : isB P b p Z (bs_n S 0) (z.1 + 14, z.2 + 48) h3 := by
    have k2 := k1.unpend
    rw [bsc_n_pf, bss_pf] at k2
    rw [pf_nil hpf]
    exact k2
  have kf1 := k1.pf (q := (a1, F)) (by rw [bg_pf_n, bg_pf]; simp)
  have kf2 := k1.pf (q := (a2, G)) (by rw [bg_pf_n, bg_pf]; simp)
  show x_K P (d + 6) mBT_covers 45 [some (.ref b), some (.int (nI (fnd (b_g S) 32 (b_n S) 0))), some (.ref a1), some (.ref a2)] [] h3 _
  refine eBT_covers_45 rfl ?_
  refine eBT_covers_46 (r := some a1) (fun e => by cases e) (fun _ _ => ?_)
  refine eBT_covers_49 rfl ?_
  refine eBT_covers_50 (r := some a2) (fun e => by cases e) (fun _ _ => ?_)
  refine eBT_covers_61 rfl ?_
  refine eBT_covers_62 rfl ?_
  refine eBT_covers_63 kf1.1 rfl (Nat.le_of_ble_eq_true rfl) ((sFI_includes kf1 kf2).up (d := d + 3) (by omega)) ?_
  rintro _ h4 ⟨rfl, rfl⟩
  exact ⟨_, rfl, eBT_covers_66 (b2i_n _) ⟨rfl, k2⟩⟩
theorem isB.addNote {h2 : x_H} {m : Nat} {x y w : Int32} (kB : isB P b p Z S z h) (hE : P.2.2.2.2.2.2.2.1 < b) (g : x_gr h h2 1 m []) (kn : isNo h2 h.2.1 x y w) (hl : (b_N S).length < 512) : x_K P (d + 7) mAL_add 0 [some (.ref (b + 10)), some (.ref h.2.1)] [] h2 (fun oc h3 => oc = .returned (some (.int 1)) ∧ isB P b p Z (bs_N S (b_N S ++ [(h.2.1, x, y, w)])) (z.1 + 1, z.2 + m) h3) := by
  obtain ⟨o, E, nk, nn, kB, s1, s2⟩ := kB
  have kB2 := pcs.fresh 15 kB g
  obtain ⟨w10, ed, ka, n2, n5, hed⟩ := kB2 10
  have k15 : ∀ q ∈ b_N S, own (fun q => if q < h.2.1 then o q else 15) h2 15 q.1 ∧ isNo h2 q.1 q.2.1 q.2.2.1 q.2.2.2 := kB2 15
  have hv : own (fun q => if q < h.2.1 then o q else 15) h2 15 h.2.1 := ⟨if_neg (Nat.lt_irrefl _), by rw [g.1]; omega⟩
  have eN : b_N (bs_N S (b_N S ++ [(h.2.1, x, y, w)])) = b_N S ++ [(h.2.1, x, y, w)] := bg_N
  have hsz : nn = 0 ∨ 10 ≤ nn := by
    obtain ⟨mc, -, z9⟩ := ka
    rcases z9 with z9 | ⟨f, -, -, z9, -⟩
    · exact Or.inl z9.2.1
    · exact Or.inr z9
  have hg1 := g.1
  have hg2 := g.2.1
  refine x_Kmono (sAL_add ka (by omega) (fun q hq e he => ?_) (fun q hq => ?_) (x_obN kn)) ?_
  · simp only [List.mem_cons] at hq
    rcases hq with h9 | h9 | h9 | h9
    · rw [h9]; exact w10.2
    · rw [h9]
      rcases hed with ⟨e1, -, -⟩ | h8
      · have := w10.2; omega
      · exact h8.2
    · rw [h9]; exact hv.2
    · obtain ⟨r, r1, r2⟩ := List.mem_map.mp h9
      rw [← r2]
      exact (k15 r r1).1.2
  · obtain ⟨r, r1, r2⟩ := List.mem_map.mp hq
    rw [← r2]
    exact x_obN (k15 r r1).2
  rintro oc h3 ⟨rfl, hz⟩
  refine ⟨rfl, ?_⟩
  rw [List.length_map] at hz
  have mp : (b_N S ++ [(h.2.1, x, y, w)]).map (fun q => q.1) = (b_N S).map (fun q => q.1) ++ [h.2.1] := by rw [List.map_append]; rfl
  have hnot10 : ∀ r : Nat × Int32 × Int32 × Int32, own (fun q => if q < h.2.1 then o q else 15) h2 15 r.1 → r.1 ≠ b + 10 := fun r hr e => by
    have := hr.1
    rw [e, w10.1] at this
    exact absurd this (by decide)
  rcases hz with ⟨z1, z2, z3⟩ | ⟨z1, z2, z3⟩
  · have hown : own (fun q => if q < h.2.1 then o q else 15) h2 10 ed := by
      rcases hed with ⟨-, e2, -⟩ | h9
      · omega
      · exact h9
    have keepN : ∀ r : Nat × Int32 × Int32 × Int32, own (fun q => if q < h.2.1 then o q else 15) h2 15 r.1 → h3.1 r.1 = h2.1 r.1 := fun r hr => z3.2 r.1 (by
      simp only [List.mem_cons, List.not_mem_nil, or_false]
      rintro (e | e)
      · exact hnot10 r hr e
      · have := hr.1
        rw [e, hown.1] at this
        exact absurd this (by decide))
    refine ⟨_, E, nk, nn, pcs.mut (cs := [10, 15]) kB2 (fr_only z3 ?_) (by rw [z3.1]; exact Nat.le_refl _) (by simp) (fun k hk _ z => match k, hk, z with | 0, _, z => z | 1, _, z => z | 2, _, z => z | 3, _, z => z | 4, _, z => z | 5, _, z => z | 6, _, z => z | 7, _, z => z | 8, _, z => z | 9, _, z => z | 10, hk, _ => absurd (by simp) hk | 11, _, z => z | 12, _, z => z | 13, _, z => z | 14, _, z => z | 15, hk, _ => absurd (by simp) hk | _ + 16, _, z => z) (fun k hk => ?_), ?_, ?_⟩
    · intro a ha
      simp only [List.mem_cons, List.not_mem_nil, or_false] at ha
      rcases ha with rfl | rfl
      · rw [show (if b + 10 < h.2.1 then o (b + 10) else 15) = 10 from w10.1]; simp
      · rw [show (if a < h.2.1 then o a else 15) = 10 from hown.1]; simp
    · simp only [List.mem_cons, List.not_mem_nil, or_false] at hk
      rcases hk with rfl | rfl
      · refine ⟨own_o w10 z3.1, ed, ?_, n2, ?_, Or.inr (own_o hown z3.1)⟩
        · rw [eN, mp]; exact z2
        · rw [eN, List.length_append]; exact hl
      · show ∀ q ∈ b_N (bs_N S (b_N S ++ [(h.2.1, x, y, w)])), _
        rw [eN]
        intro r hr
        rcases List.mem_append.mp hr with h9 | h9
        · exact ⟨own_o (k15 r h9).1 z3.1, (keepN r (k15 r h9).1).trans (k15 r h9).2⟩
        · rw [List.mem_singleton.mp h9]
          exact ⟨own_o hv z3.1, (keepN (h.2.1, x, y, w) hv).trans kn⟩
    · rw [z3.1]
      show h2.2.1 ≤ z.1 + 1 + mB E nk nn
      omega
    · rw [z3.1]
      show h2.2.2 ≤ z.2 + m + mB E nk nn
      omega
  · have hgg : 4 * nn + alG nn + 4 ≤ 4 * alG nn ∧ alG nn ≤ 2000 := by
      unfold alG
      split <;> omega
    have m1 := z3.1
    have m2 := z3.2.1
    have up : ∀ {c a : Nat}, own (fun q => if q < h.2.1 then o q else 15) h2 c a → own (fun a => if a < h2.2.1 then (fun q => if q < h.2.1 then o q else 15) a else 10) h3 c a := fun k => ⟨(if_pos k.2).trans k.1, by have := k.2; omega⟩
    have keepN : ∀ r : Nat × Int32 × Int32 × Int32, own (fun q => if q < h.2.1 then o q else 15) h2 15 r.1 → h3.1 r.1 = h2.1 r.1 := fun r hr => z3.2.2 r.1 hr.2 (by
      simp only [List.mem_cons, List.not_mem_nil, or_false]
      exact hnot10 r hr)
    refine ⟨fun a => if a < h2.2.1 then (fun q => if q < h.2.1 then o q else 15) a else 10, E, nk, alG nn, pcs.mut (cs := [10, 15]) kB2 (fun a h1 h2' h3' => ⟨if_pos h1, z3.2.2 a h1 (fun ha => h3' ?_)⟩) (by omega) (by simp) (fun k hk _ z => match k, hk, z with | 0, _, z => z | 1, _, z => z | 2, _, z => z | 3, _, z => z | 4, _, z => z | 5, _, z => z | 6, _, z => z | 7, _, z => z | 8, _, z => z | 9, _, z => z | 10, hk, _ => absurd (by simp) hk | 11, _, z => z | 12, _, z => z | 13, _, z => z | 14, _, z => z | 15, hk, _ => absurd (by simp) hk | _ + 16, _, z => z) (fun k hk => ?_), ?_, ?_⟩
    · rw [List.mem_singleton.mp ha, show (if b + 10 < h.2.1 then o (b + 10) else 15) = 10 from w10.1]; simp
    · simp only [List.mem_cons, List.not_mem_nil, or_false] at hk
      rcases hk with rfl | rfl
      · refine ⟨up w10, h2.2.1, ?_, hgg.2, ?_, Or.inr ⟨if_neg (Nat.lt_irrefl _), by omega⟩⟩
        · rw [eN, mp]; exact z2
        · rw [eN, List.length_append]; exact hl
      · show ∀ q ∈ b_N (bs_N S (b_N S ++ [(h.2.1, x, y, w)])), _
        rw [eN]
        intro r hr
        rcases List.mem_append.mp hr with h9 | h9
        · exact ⟨up (k15 r h9).1, (keepN r (k15 r h9).1).trans (k15 r h9).2⟩
        · rw [List.mem_singleton.mp h9]
          exact ⟨up hv, (keepN (h.2.1, x, y, w) hv).trans kn⟩
    · show h3.2.1 ≤ z.1 + 1 + mB E nk (alG nn)
      unfold mB at s1 ⊢
      omega
    · show h3.2.2 ≤ z.2 + m + mB E nk (alG nn)
      unfold mB at s2 ⊢
      omega
/-! publish -/
theorem sBT_publK {c x y : Int32} {Φ : Outcome → x_H → Prop} (kB : isB P b p Z S z h) (kk : ∀ h1, isB P b p Z (bs_n S 0) z h1 → x_K P (d + 1) mBT_publish 30 [some (.ref b), some (.int c), some (.int x), some (.int y), some (.int (((pwV (b_g S) (b_n S)).map nI).getD unread)), none] [] h1 Φ) :
  x_K P (d + 1) mBT_publish 0 [some (.ref b), some (.int c), some (.int x), some (.int y), none, none] [] h Φ := by
  have hn := kB.obj.2.1
  refine eBT_publish_0 rfl ?_
  refine eBT_publish_1 kB.obj.1 rfl ?_
  refine eBT_publish_4 (fun c1 => ?_) (fun c1 => ?_)
  · have h1 : b_n S ≠ 0 := fun z => c1 (by rw [z]; rfl)
    rw [show pwV (b_g S) (b_n S) = wordV (b_g S) 0 (b_n S) from if_neg h1] at kk
    refine eBT_publish_11 rfl ?_
    refine eBT_publish_12 kB.obj.1 rfl ?_
    refine eBT_publish_15 ?_
    refine eBT_publish_16 rfl ?_
    refine eBT_publish_17 kB.obj.1 rfl ?_
    refine eBT_publish_20 rfl (Nat.le_of_ble_eq_true rfl) (sTX_word (a := 0) (b := b_n S) kB.txt.1 hn (Nat.zero_le _)) ?_
    rintro _ h1 ⟨rfl, rfl⟩
    refine ⟨_, rfl, ?_⟩
    refine eBT_publish_23 ?_
    refine eBT_publish_25 rfl ?_
    refine eBT_publish_26 ?_
    refine eBT_publish_27 kB.obj.1 (Nat.le_of_ble_eq_true rfl) ?_
    exact kk _ (kB.mN (v := 0) (by omega))
  · have h1 : b_n S = 0 := (nI_eq (a := b_n S) (b := 0) (by omega) (by decide)).mp c1
    rw [show pwV (b_g S) (b_n S) = some 0 from if_pos h1] at kk
    refine eBT_publish_7 ?_
    refine eBT_publish_8 ?_
    refine eBT_publish_23 ?_
    refine eBT_publish_25 rfl ?_
    refine eBT_publish_26 ?_
    refine eBT_publish_27 kB.obj.1 (Nat.le_of_ble_eq_true rfl) ?_
    exact kk _ (kB.mN (v := 0) (by omega))
theorem pw_ne {g : Nat → Nat} {n w : Nat} (h : pwV g n = some w) : w < 1048576 := by
  unfold pwV at h
  split at h
  · rw [← Option.some.inj h]; decide
  · exact (wordV_lt h).1
theorem sBT_publT {c x y : Int32} (kB : isB P b p Z S z h) (hl : ∀ e : Env, P.1.admits e → e.platform.stackTraces = false) (hbad : ¬ ((0 ≤ c ∧ c < 8) ∧ (-999 ≤ x ∧ x ≤ 1000) ∧ (-999 ≤ y ∧ y ≤ 1000)) ∨ pwV (b_g S) (b_n S) = none) : x_K P (d + 6) mBT_publish 0 [some (.ref b), some (.int c), some (.int x), some (.int y), none, none] [] h (isThr P b p Z (bs_n S 0) (z.1 + 1, z.2 + 6) 10) := by
  refine sBT_publK (d := d + 5) kB (fun h1 k1 => ?_)
  have thr : ∀ v4, x_K P (d + 6) mBT_publish 58 [some (.ref b), some (.int c), some (.int x), some (.int y), v4, none] [] h1 (isThr P b p Z (bs_n S 0) (z.1 + 1, z.2 + 6) 10) := fun v4 => eBT_publish_58 hl (Nat.le_of_ble_eq_true rfl) k1.thr
  refine eBT_publish_30 ?_
  refine eBT_publish_31 (Nat.le_of_ble_eq_true rfl) sBT_isClient ?_
  rintro _ h2 ⟨rfl, rfl⟩
  refine ⟨_, rfl, ?_⟩
  refine eBT_publish_34 (fun _ => thr _) (fun c1 => b2i_it c1 fun c1 => ?_)
  refine eBT_publish_37 ?_
  refine eBT_publish_38 (Nat.le_of_ble_eq_true rfl) sBT_isNum ?_
  rintro _ h2 ⟨rfl, rfl⟩
  refine ⟨_, rfl, ?_⟩
  refine eBT_publish_41 (fun _ => thr _) (fun c2 => b2i_it c2 fun c2 => ?_)
  refine eBT_publish_44 ?_
  refine eBT_publish_45 (Nat.le_of_ble_eq_true rfl) sBT_isNum ?_
  rintro _ h2 ⟨rfl, rfl⟩
  refine ⟨_, rfl, ?_⟩
  refine eBT_publish_48 (fun _ => thr _) (fun c3 => b2i_it c3 fun c3 => ?_)
  rw [Bool.and_eq_true, decide_eq_true_eq, decide_eq_true_eq] at c1 c2 c3
  have hN := hbad.resolve_left (fun z => z ⟨c1, c2, c3⟩)
  rw [hN]
  refine eBT_publish_51 ?_
  refine eBT_publish_53 ?_
  exact eBT_publish_55 (fun c4 => absurd rfl c4) (fun _ => thr _)
theorem sBT_publish {i w : Nat} {x y : Int32} (kB : isB P b p Z S z h) (hE : P.2.2.2.2.2.2.2.1 < b) (hi : i < 8) (hx : -999 ≤ x ∧ x ≤ 1000) (hy : -999 ≤ y ∧ y ≤ 1000) (hw : pwV (b_g S) (b_n S) = some w) (hl : (b_N S).length < 512)
  (hq : ∀ q j, j < 18 → (b_Q (handleF p (i % 6) (b_N S).length (-1) (x, y, nI w) (pbS S (q, x, y, nI w))) j).length ≤ 1000) :
  x_K P (d + 8) mBT_publish 0 [some (.ref b), some (.int (nI i)), some (.int x), some (.int y), none, none] [] h (fun oc h' => oc = .returned (some (.int (nI (b_N S).length))) ∧ ∃ q, isB P b p Z (handleF p (i % 6) (b_N S).length (-1) (x, y, nI w) (pbS S (q, x, y, nI w))) (z.1 + 1, z.2 + 3) h') := by
  refine sBT_publK (d := d + 7) kB (fun h1 k1 => ?_)
  rw [hw]
  have hwb := pw_ne hw
  refine eBT_publish_30 ?_
  refine eBT_publish_31 (Nat.le_of_ble_eq_true rfl) sBT_isClient ?_
  rintro _ h2 ⟨rfl, rfl⟩
  refine ⟨_, rfl, ?_⟩
  rw [isCl hi]
  refine eBT_publish_34 (fun q => absurd q (by decide)) (fun _ => ?_)
  refine eBT_publish_37 ?_
  refine eBT_publish_38 (Nat.le_of_ble_eq_true rfl) sBT_isNum ?_
  rintro _ h2 ⟨rfl, rfl⟩
  refine ⟨_, rfl, ?_⟩
  rw [decide_eq_true hx.1, decide_eq_true hx.2]
  refine eBT_publish_41 (fun q => absurd q (by decide)) (fun _ => ?_)
  refine eBT_publish_44 ?_
  refine eBT_publish_45 (Nat.le_of_ble_eq_true rfl) sBT_isNum ?_
  rintro _ h2 ⟨rfl, rfl⟩
  refine ⟨_, rfl, ?_⟩
  rw [decide_eq_true hy.1, decide_eq_true hy.2]
  refine eBT_publish_48 (fun q => absurd q (by decide)) (fun _ => ?_)
  refine eBT_publish_51 ?_
  refine eBT_publish_53 ?_
  refine eBT_publish_55 (fun _ => ?_) (fun c4 => ?_)
  · obtain ⟨⟨ed, nn, ka⟩, -, -⟩ := k1.nts
    refine eBT_publish_66 rfl ?_
    refine eBT_publish_67 k1.obj.1 rfl ?_
    refine eBT_publish_70 ka.choose_spec.1 (Nat.le_of_ble_eq_true rfl) (sAL_size ka) ?_
    rintro _ h3 ⟨rfl, rfl⟩
    refine ⟨_, rfl, ?_⟩
    rw [List.length_map, bg_N_n]
    refine eBT_publish_73 ?_
    refine eBT_publish_75 ?_
    refine eBT_publish_77 ?_
    refine eBT_publish_80 (fun _ => ?_) (fun c5 => absurd (nI_lt (b := 512) hl (by decide)) c5)
    refine eBT_publish_85 rfl ?_
    refine eBT_publish_86 k1.obj.1 rfl ?_
    refine eBT_publish_89 ?_
    refine eBT_publish_92 rfl ?_
    refine eBT_publish_93 ?_
    refine eBT_publish_94 ?_
    refine eBT_publish_95 ?_
    refine eBT_publish_97 (Nat.le_of_ble_eq_true rfl) (sNO_init (x := x) (y := y) (z := nI w) xw_eq) ?_
    rintro _ h4 ⟨rfl, kn, o4⟩
    refine ⟨_, rfl, ?_⟩
    have g4 : x_gr h3 h4 1 3 [] := (x_gr.new (S := [])).trans (S2 := [h3.2.1]) o4.gr (fun q hq => by cases hq) (fun q hq hlt => by rw [List.mem_singleton.mp hq] at hlt; exact absurd hlt (Nat.lt_irrefl _))
    have hcell : ∃ fs, h4.1 (b + 10) = some (.inr (9, fs)) := by
      have k4 := k1.gr g4
      obtain ⟨⟨ed', nn', ka'⟩, -, -⟩ := k4.nts
      exact ⟨_, ka'.choose_spec.1⟩
    obtain ⟨fs, hcell⟩ := hcell
    refine eBT_publish_100 hcell rfl (Nat.le_of_ble_eq_true rfl) (k1.addNote hE g4 kn (by rw [bg_N_n]; exact hl)) ?_
    rintro _ h5 ⟨rfl, k5⟩
    refine ⟨_, rfl, ?_⟩
    rw [bg_N_n] at k5
    have eP : bs_N (bs_n S 0) (b_N S ++ [(h3.2.1, x, y, nI w)]) = pbS S (h3.2.1, x, y, nI w) := rfl
    rw [eP] at k5
    refine eBT_publish_103 rfl ?_
    refine eBT_publish_104 rfl ?_
    refine eBT_publish_105 ?_
    refine eBT_publish_107 ?_
    refine eBT_publish_108 (Nat.le_of_ble_eq_true rfl) (sBT_brokerOf hi) ?_
    rintro _ h6 ⟨rfl, rfl⟩
    refine ⟨_, rfl, ?_⟩
    refine eBT_publish_111 ?_
    have hm : (b_N (pbS S (h3.2.1, x, y, nI w)))[(b_N S).length]? = some (h3.2.1, (x, y, nI w)) := by
      show (b_N S ++ [(h3.2.1, x, y, nI w)])[(b_N S).length]? = _
      rw [List.getElem?_append_right (Nat.le_refl _), Nat.sub_self]
      rfl
    refine eBT_publish_112 k5.obj.1 (Nat.le_of_ble_eq_true rfl) ((sBT_handle k5 (by omega) hm (hq h3.2.1)).up (d := d + 5) (by omega)) ?_
    rintro _ h7 ⟨rfl, k7⟩
    refine ⟨_, rfl, ?_⟩
    refine eBT_publish_115 ?_
    exact eBT_publish_117 ⟨rfl, _, k7⟩
  · have h9 : (nI w).toInt = unread.toInt := by
      show (nI w).toInt = _
      rw [show nI w = unread from c4]
    rw [nI_toInt (by omega), show unread.toInt = -2147483648 by decide] at h9
    omega
end

