section
variable {P : x_P} {b : Nat} {p : Nat → Nat} {Z : Nat × Nat × (Nat → Option x_E)} {S : bS} {z : Nat × Nat} {d : Nat}
theorem vq0 : vp_in (0 : Int32) 4 := by unfold vp_in; decide
theorem vq1 : vp_in (1 : Int32) 4 := by unfold vp_in; decide
theorem vq2 : vp_in (2 : Int32) 4 := by unfold vp_in; decide
theorem vq3 : vp_in (3 : Int32) 4 := by unfold vp_in; decide
theorem isB.cnt {h : x_H} {i : Nat} {x : Int32} {f : Nat → Int32} (hx : x.toNatClampNeg = i) (kB : isB P b p Z S z h) (hi : i < 4) (hf : h.1 (b + 11) = some (.inl (0, 4, .inl f))) (hv : ∀ k, k < 4 → f k = nI (b_cn S k)) : isB P b p Z (bs_cn S (ub (b_cn S) i (b_cn S i + 1))) z (x_put h (b + 11) (.inl (0, 4, .inl (upd f x.toNatClampNeg (f x.toNatClampNeg + 1))))) := by
  rw [hx]
  refine kB.mCn (fun k hk => ?_) rfl
  unfold upd ub
  split
  · rw [hv i hi, nI_1]
  · exact hv k hk
theorem lBT_tell {j : Nat} {Φ : Outcome → x_H → Prop} (hj : j < 10) (hq : (b_Q S j).length + ((b_nd S).filter (fun x => decide (x ∉ b_T S j))).length ≤ 1000) (hnd : (b_nd S).Nodup) (h16 : ∀ y ∈ b_nd S, y < 16)
  (kk : ∀ h1, isB P b p Z (tlS S j ((b_nd S).filter (fun x => decide (x ∉ b_T S j)))) z h1 → Φ (.returned none) h1) :
  ∀ (i k : Nat) (h : x_H) (v3 : Option Value), k + i = (b_nd S).length → isB P b p Z (tlS S j (((b_nd S).take k).filter (fun x => decide (x ∉ b_T S j)))) z h → x_K P (d + 3) mBT_tellNeeded 2 [some (.ref b), some (.ref (b + 16 + 7 * j)), some (.int (nI k)), v3] [] h Φ := by
  intro i
  induction i with
  | zero =>
    intro k h v3 hk kB
    have e : k = (b_nd S).length := by omega
    subst e
    have hl : (b_nd S).length ≤ 16 := kB.nd.len
    obtain ⟨fr, hr⟩ := kB.nd.cell
    refine eBT_tellNeeded_2 ?_
    refine eBT_tellNeeded_3 rfl ?_
    refine eBT_tellNeeded_4 kB.obj.1 rfl ?_
    refine eBT_tellNeeded_7 hr (Nat.le_of_ble_eq_true rfl) (sRO_size kB.nd) ?_
    rintro _ h1 ⟨rfl, rfl⟩
    refine ⟨_, rfl, ?_⟩
    refine eBT_tellNeeded_10 (fun _ => eBT_tellNeeded_63 (kk h1 (by rw [List.take_length] at kB; exact kB))) (fun c => absurd (nI_le (Nat.le_refl _) (show (b_nd S).length < 2 ^ 31 by omega)) c)
  | succ i ih =>
    intro k h v3 hk kB
    have hl : (b_nd S).length ≤ 16 := kB.nd.len
    have hlt : k < (b_nd S).length := by omega
    have e : (b_nd S)[k]? = some (b_nd S)[k] := List.getElem?_eq_getElem hlt
    have hx := h16 _ (List.getElem_mem hlt)
    obtain ⟨fr, hr⟩ := kB.nd.cell
    obtain ⟨fr2, hr2⟩ := (kB.rT hj).cell
    have nxt : ∀ h' v, isB P b p Z (tlS S j (((b_nd S).take (k + 1)).filter (fun x => decide (x ∉ b_T S j)))) z h' → x_K P (d + 3) mBT_tellNeeded 57 [some (.ref b), some (.ref (b + 16 + 7 * j)), some (.int (nI k)), v] [] h' Φ := by
      intro h' v k1
      refine eBT_tellNeeded_57 ?_
      refine eBT_tellNeeded_60 ?_
      rw [nI_1]
      exact ih (k + 1) h' v (by omega) k1
    have tk : (b_nd S).take (k + 1) = (b_nd S).take k ++ [(b_nd S)[k]] := List.take_succ_eq_append_getElem hlt
    have hni : (b_nd S)[k] ∉ (b_nd S).take k := by
      intro hm
      have hd2 : ((b_nd S).take k ++ [(b_nd S)[k]]).Nodup := by rw [← tk]; exact hnd.sublist (List.take_sublist _ _)
      exact (List.nodup_append.mp hd2).2.2 _ hm _ (by simp) rfl
    have hT : b_T (tlS S j (((b_nd S).take k).filter (fun x => decide (x ∉ b_T S j)))) j = b_T S j ++ ((b_nd S).take k).filter (fun x => decide (x ∉ b_T S j)) := by rw [tlS_T, ub_s]
    have hQ : b_Q (tlS S j (((b_nd S).take k).filter (fun x => decide (x ∉ b_T S j)))) j = b_Q S j ++ (((b_nd S).take k).filter (fun x => decide (x ∉ b_T S j))).map (fun x => x * 3) := by rw [tlS_Q, ub_s]
    have hmem : (b_nd S)[k] ∈ b_T (tlS S j (((b_nd S).take k).filter (fun x => decide (x ∉ b_T S j)))) j ↔ (b_nd S)[k] ∈ b_T S j := by
      rw [hT, List.mem_append]
      constructor
      · rintro (h1 | h1)
        · exact h1
        · exact absurd (List.mem_filter.mp h1).1 hni
      · exact Or.inl
    refine eBT_tellNeeded_2 ?_
    refine eBT_tellNeeded_3 rfl ?_
    refine eBT_tellNeeded_4 kB.obj.1 rfl ?_
    refine eBT_tellNeeded_7 hr (Nat.le_of_ble_eq_true rfl) (sRO_size kB.nd) ?_
    rintro _ h1 ⟨rfl, rfl⟩
    refine ⟨_, rfl, ?_⟩
    refine eBT_tellNeeded_10 (fun c => absurd c (nI_ge hlt (show (b_nd S).length < 2 ^ 31 by omega))) (fun _ => ?_)
    refine eBT_tellNeeded_13 rfl ?_
    refine eBT_tellNeeded_14 kB.obj.1 rfl ?_
    refine eBT_tellNeeded_17 ?_
    refine eBT_tellNeeded_18 hr (Nat.le_of_ble_eq_true rfl) (sRO_get kB.nd e) ?_
    rintro _ h2 ⟨rfl, rfl⟩
    refine ⟨_, rfl, ?_⟩
    refine eBT_tellNeeded_21 ?_
    refine eBT_tellNeeded_22 rfl ?_
    refine eBT_tellNeeded_23 (kB.lk hj) rfl ?_
    refine eBT_tellNeeded_26 ?_
    refine eBT_tellNeeded_27 hr2 (Nat.le_of_ble_eq_true rfl) (sRO_has (kB.rT hj) hx) ?_
    rintro _ h3 ⟨rfl, rfl⟩
    refine ⟨_, rfl, ?_⟩
    refine eBT_tellNeeded_30 (fun c => ?_) (fun c => ?_)
    · have c1 : (b_nd S)[k] ∈ b_T S j := by
        refine Classical.byContradiction fun h9 => c ?_
        rw [if_neg (fun h8 => h9 (hmem.mp h8))]
      refine nxt h3 _ ?_
      rw [tk, List.filter_append, List.filter_cons_of_neg (by simpa using c1), List.filter_nil, List.append_nil]
      exact kB
    · have c1 : (b_nd S)[k] ∉ b_T S j := by
        intro h9
        rw [if_pos (hmem.mpr h9)] at c
        exact absurd c (by decide)
      have tkf : ((b_nd S).take (k + 1)).filter (fun x => decide (x ∉ b_T S j)) = ((b_nd S).take k).filter (fun x => decide (x ∉ b_T S j)) ++ [(b_nd S)[k]] := by
        rw [tk, List.filter_append, List.filter_cons_of_pos (by simpa using c1), List.filter_nil]
      have hlen : (((b_nd S).take k).filter (fun x => decide (x ∉ b_T S j))).length + 1 ≤ ((b_nd S).filter (fun x => decide (x ∉ b_T S j))).length := by
        have h9 := (List.Sublist.filter (fun x => decide (x ∉ b_T S j)) (List.take_sublist (k + 1) (b_nd S))).length_le
        rw [tkf, List.length_append] at h9
        exact h9
      refine eBT_tellNeeded_33 rfl ?_
      refine eBT_tellNeeded_34 (kB.lk hj) rfl ?_
      refine eBT_tellNeeded_37 ?_
      refine eBT_tellNeeded_38 hr2 (Nat.le_of_ble_eq_true rfl) ((sRO_add (kB.rT hj) hx).up (d := d + 1) (by omega)) ?_
      rintro _ h4 ⟨rfl, k4, g4⟩
      refine ⟨_, rfl, ?_⟩
      rw [if_neg (fun h8 => c1 (hmem.mp h8))] at k4
      have kB4 := kB.mT hj k4 g4
      refine eBT_tellNeeded_41 rfl ?_
      refine eBT_tellNeeded_42 ?_
      refine eBT_tellNeeded_43 ?_
      refine eBT_tellNeeded_44 rfl (Nat.le_of_ble_eq_true rfl) (sBT_put (kd := 0) kB4 hj (by show (b_Q (tlS S j _) j).length < 1000; rw [hQ, List.length_append, List.length_map]; omega)) ?_
      rintro _ h5 ⟨rfl, kB5⟩
      refine ⟨_, rfl, ?_⟩
      obtain ⟨fc, hc, hcv⟩ := kB5.cn
      refine eBT_tellNeeded_47 rfl ?_
      refine eBT_tellNeeded_48 kB5.obj.1 rfl ?_
      refine eBT_tellNeeded_51 ?_
      refine eBT_tellNeeded_52 rfl rfl ?_
      refine eBT_tellNeeded_53 hc vq2 ?_
      refine eBT_tellNeeded_54 ?_
      refine eBT_tellNeeded_55 ?_
      refine eBT_tellNeeded_56 hc vq2 ?_
      refine nxt _ _ ?_
      have kB6 := isB.cnt (x := 2) (i := 2) (by decide) kB5 (by decide) hc hcv
      rw [tkf, ← tlS_snoc]
      exact kB6
theorem sBT_tellNeeded {h : x_H} {j : Nat} (kB : isB P b p Z S z h) (hj : j < 10) (hq : (b_Q S j).length + ((b_nd S).filter (fun x => decide (x ∉ b_T S j))).length ≤ 1000) : x_K P (d + 3) mBT_tellNeeded 0 [some (.ref b), some (.ref (b + 16 + 7 * j)), none, none] [] h (fun oc h' => oc = .returned none ∧ isB P b p Z (tlS S j ((b_nd S).filter (fun x => decide (x ∉ b_T S j)))) z h') := by
  refine eBT_tellNeeded_0 ?_
  refine eBT_tellNeeded_1 ?_
  exact lBT_tell hj hq kB.nd.nd kB.nd.b16 (fun h1 k1 => ⟨rfl, k1⟩) (b_nd S).length 0 h none (by omega) (by rw [List.take_zero, List.filter_nil, tlS_nil]; exact kB)
end

