/-! dropNotNeeded -/
section
variable {P : x_P} {b : Nat} {p : Nat → Nat} {Z : Nat × Nat × (Nat → Option x_E)} {S : bS} {z : Nat × Nat} {d : Nat}
theorem rmv_mid {A B : List Nat} {x : Nat} (h : (A ++ x :: B).Nodup) : rmv x (A ++ x :: B) = A ++ B := by
  have h1 := List.nodup_append.mp h
  have h2 := List.nodup_cons.mp h1.2.1
  unfold rmv
  rw [List.filter_append, List.filter_cons_of_neg (by simp)]
  congr 1
  · exact List.filter_eq_self.mpr fun a ha => by
      have := h1.2.2 a ha x (by simp)
      simpa using this
  · exact List.filter_eq_self.mpr fun a ha => by
      have : a ≠ x := fun e => h2.1 (by rw [← e]; exact ha)
      simpa using this
theorem lBT_drop {j : Nat} {Φ : Outcome → x_H → Prop} (hj : j < 10) (hq : (b_Q S j).length + ((b_T S j).filter (fun x => decide (x ∉ b_nd S))).length ≤ 1000) (hnd : (b_T S j).Nodup) (h16 : ∀ y ∈ b_T S j, y < 16) (hlen : (b_T S j).length ≤ 16)
  (kk : ∀ h1, isB P b p Z (dpS S j ((b_T S j).filter (fun x => decide (x ∈ b_nd S))) ((b_T S j).filter (fun x => decide (x ∉ b_nd S)))) z h1 → Φ (.returned none) h1) :
  ∀ (i k : Nat) (h : x_H) (v4 : Option Value), k + i = (b_T S j).length → isB P b p Z (dpS S j (((b_T S j).take k).filter (fun x => decide (x ∈ b_nd S)) ++ (b_T S j).drop k) (((b_T S j).take k).filter (fun x => decide (x ∉ b_nd S)))) z h → x_K P (d + 3) mBT_dropNotNeeded 10 [some (.ref b), some (.ref (b + 16 + 7 * j)), some (.int (nI (((b_T S j).take k).filter (fun x => decide (x ∈ b_nd S))).length)), some (.int (nI i)), v4] [] h Φ := by
  intro i
  induction i with
  | zero =>
    intro k h v4 hk kB
    have e : k = (b_T S j).length := by omega
    subst e
    refine eBT_dropNotNeeded_10 ?_
    refine eBT_dropNotNeeded_11 (fun _ => eBT_dropNotNeeded_74 (kk h ?_)) (fun c => absurd (by decide) c)
    rw [List.take_length, List.drop_length, List.append_nil] at kB
    exact kB
  | succ i ih =>
    intro k h v4 hk kB
    have hlt : k < (b_T S j).length := by omega
    have hx := h16 _ (List.getElem_mem hlt)
    have tk : (b_T S j).take (k + 1) = (b_T S j).take k ++ [(b_T S j)[k]] := List.take_succ_eq_append_getElem hlt
    have dk : (b_T S j).drop k = (b_T S j)[k] :: (b_T S j).drop (k + 1) := List.drop_eq_getElem_cons hlt
    have hfl : (((b_T S j).take k).filter (fun x => decide (x ∈ b_nd S))).length ≤ k := Nat.le_trans (List.length_filter_le _ _) (by rw [List.length_take]; omega)
    have hT : b_T (dpS S j (((b_T S j).take k).filter (fun x => decide (x ∈ b_nd S)) ++ (b_T S j).drop k) (((b_T S j).take k).filter (fun x => decide (x ∉ b_nd S)))) j = ((b_T S j).take k).filter (fun x => decide (x ∈ b_nd S)) ++ (b_T S j).drop k := by rw [dpS_T, ub_s]
    have hQ : b_Q (dpS S j (((b_T S j).take k).filter (fun x => decide (x ∈ b_nd S)) ++ (b_T S j).drop k) (((b_T S j).take k).filter (fun x => decide (x ∉ b_nd S)))) j = b_Q S j ++ (((b_T S j).take k).filter (fun x => decide (x ∉ b_nd S))).map (fun x => x * 3 + 1) := by rw [dpS_Q, ub_s]
    have hr0 := kB.rT hj
    rw [hT] at hr0
    have hn0 := kB.nd
    rw [dpS_nd] at hn0
    obtain ⟨fr, hr⟩ := hr0.cell
    obtain ⟨fr2, hr2⟩ := hn0.cell
    have e : (((b_T S j).take k).filter (fun x => decide (x ∈ b_nd S)) ++ (b_T S j).drop k)[(((b_T S j).take k).filter (fun x => decide (x ∈ b_nd S))).length]? = some (b_T S j)[k] := by
      rw [List.getElem?_append_right (Nat.le_refl _), Nat.sub_self, dk]
      rfl
    have nxt : ∀ h' v (t w : List Nat), ((b_T S j).take (k + 1)).filter (fun x => decide (x ∈ b_nd S)) = t → ((b_T S j).take (k + 1)).filter (fun x => decide (x ∉ b_nd S)) = w → isB P b p Z (dpS S j (t ++ (b_T S j).drop (k + 1)) w) z h' → x_K P (d + 3) mBT_dropNotNeeded 68 [some (.ref b), some (.ref (b + 16 + 7 * j)), some (.int (nI t.length)), some (.int (nI (i + 1))), v] [] h' Φ := by
      intro h' v t w e1 e2 k1
      subst e1
      subst e2
      refine eBT_dropNotNeeded_68 ?_
      refine eBT_dropNotNeeded_71 ?_
      rw [pk_m1]
      exact ih (k + 1) h' v (by omega) k1
    refine eBT_dropNotNeeded_10 ?_
    refine eBT_dropNotNeeded_11 (fun c => absurd c (nI_nle (by omega) (by omega))) (fun _ => ?_)
    refine eBT_dropNotNeeded_14 rfl ?_
    refine eBT_dropNotNeeded_15 (kB.lk hj) rfl ?_
    refine eBT_dropNotNeeded_18 ?_
    refine eBT_dropNotNeeded_19 hr (Nat.le_of_ble_eq_true rfl) (sRO_get hr0 e) ?_
    rintro _ h1 ⟨rfl, rfl⟩
    refine ⟨_, rfl, ?_⟩
    refine eBT_dropNotNeeded_22 ?_
    refine eBT_dropNotNeeded_24 rfl ?_
    refine eBT_dropNotNeeded_25 kB.obj.1 rfl ?_
    refine eBT_dropNotNeeded_28 ?_
    refine eBT_dropNotNeeded_30 hr2 (Nat.le_of_ble_eq_true rfl) (sRO_has hn0 hx) ?_
    rintro _ h2 ⟨rfl, rfl⟩
    refine ⟨_, rfl, ?_⟩
    refine eBT_dropNotNeeded_33 (fun c => ?_) (fun c => ?_)
    · have c1 : (b_T S j)[k] ∉ b_nd S := by
        intro h9
        rw [if_pos h9] at c
        exact absurd c (by decide)
      have t1 : ((b_T S j).take (k + 1)).filter (fun x => decide (x ∈ b_nd S)) = ((b_T S j).take k).filter (fun x => decide (x ∈ b_nd S)) := by
        rw [tk, List.filter_append, List.filter_cons_of_neg (by simpa using c1), List.filter_nil, List.append_nil]
      have t2 : ((b_T S j).take (k + 1)).filter (fun x => decide (x ∉ b_nd S)) = ((b_T S j).take k).filter (fun x => decide (x ∉ b_nd S)) ++ [(b_T S j)[k]] := by
        rw [tk, List.filter_append, List.filter_cons_of_pos (by simpa using c1), List.filter_nil]
      have hlen2 : (((b_T S j).take k).filter (fun x => decide (x ∉ b_nd S))).length + 1 ≤ ((b_T S j).filter (fun x => decide (x ∉ b_nd S))).length := by
        have h9 := (List.Sublist.filter (fun x => decide (x ∉ b_nd S)) (List.take_sublist (k + 1) (b_T S j))).length_le
        rw [t2, List.length_append] at h9
        exact h9
      refine eBT_dropNotNeeded_42 rfl ?_
      refine eBT_dropNotNeeded_43 (kB.lk hj) rfl ?_
      refine eBT_dropNotNeeded_46 ?_
      refine eBT_dropNotNeeded_48 hr (Nat.le_of_ble_eq_true rfl) ((sRO_remove hr0 hx).up (d := d + 1) (by omega)) ?_
      rintro _ h4 ⟨rfl, k4, g4⟩
      refine ⟨_, rfl, ?_⟩
      have hnd3 : (((b_T S j).take k).filter (fun x => decide (x ∈ b_nd S)) ++ (b_T S j)[k] :: (b_T S j).drop (k + 1)).Nodup := by
        rw [← dk]
        refine hnd.sublist ?_
        have h9 := (List.filter_sublist (p := fun x => decide (x ∈ b_nd S)) (l := (b_T S j).take k)).append (List.Sublist.refl ((b_T S j).drop k))
        rw [List.take_append_drop] at h9
        exact h9
      rw [dk, rmv_mid hnd3] at k4
      have kB4 := kB.mT hj k4 g4
      refine eBT_dropNotNeeded_51 rfl ?_
      refine eBT_dropNotNeeded_52 ?_
      refine eBT_dropNotNeeded_53 ?_
      refine eBT_dropNotNeeded_55 rfl (Nat.le_of_ble_eq_true rfl) (sBT_put (kd := 1) kB4 hj (by rw [bg_Q_T, hQ, List.length_append, List.length_map]; omega)) ?_
      rintro _ h5 ⟨rfl, kB5⟩
      refine ⟨_, rfl, ?_⟩
      obtain ⟨fc, hc, hcv⟩ := kB5.cn
      refine eBT_dropNotNeeded_58 rfl ?_
      refine eBT_dropNotNeeded_59 kB5.obj.1 rfl ?_
      refine eBT_dropNotNeeded_62 ?_
      refine eBT_dropNotNeeded_63 rfl rfl ?_
      refine eBT_dropNotNeeded_64 hc vq3 ?_
      refine eBT_dropNotNeeded_65 ?_
      refine eBT_dropNotNeeded_66 ?_
      refine eBT_dropNotNeeded_67 hc vq3 ?_
      refine nxt _ _ _ _ t1 t2 ?_
      have kB6 := isB.cnt (x := 3) (i := 3) (by decide) kB5 (by decide) hc hcv
      rw [← dpS_snoc (t := ((b_T S j).take k).filter (fun x => decide (x ∈ b_nd S)) ++ (b_T S j).drop k)]
      rw [bg_Q_T, bg_cn_Q, bg_cn_T] at kB6
      exact kB6
    · have c1 : (b_T S j)[k] ∈ b_nd S := by
        refine Classical.byContradiction fun h9 => c ?_
        rw [if_neg h9]
      have t1 : ((b_T S j).take (k + 1)).filter (fun x => decide (x ∈ b_nd S)) = ((b_T S j).take k).filter (fun x => decide (x ∈ b_nd S)) ++ [(b_T S j)[k]] := by
        rw [tk, List.filter_append, List.filter_cons_of_pos (by simpa using c1), List.filter_nil]
      have t2 : ((b_T S j).take (k + 1)).filter (fun x => decide (x ∉ b_nd S)) = ((b_T S j).take k).filter (fun x => decide (x ∉ b_nd S)) := by
        rw [tk, List.filter_append, List.filter_cons_of_neg (by simpa using c1), List.filter_nil, List.append_nil]
      refine eBT_dropNotNeeded_36 ?_
      refine eBT_dropNotNeeded_39 ?_
      have k9 := nxt h2 (some (.int (nI (b_T S j)[k]))) _ _ t1 t2 (by rw [List.append_assoc, List.singleton_append, ← dk]; exact kB)
      rw [List.length_append, List.length_singleton] at k9
      rw [nI_1]
      exact k9
theorem sBT_dropNotNeeded {h : x_H} {j : Nat} (kB : isB P b p Z S z h) (hj : j < 10) (hq : (b_Q S j).length + ((b_T S j).filter (fun x => decide (x ∉ b_nd S))).length ≤ 1000) : x_K P (d + 3) mBT_dropNotNeeded 0 [some (.ref b), some (.ref (b + 16 + 7 * j)), none, none, none] [] h (fun oc h' => oc = .returned none ∧ isB P b p Z (dpS S j ((b_T S j).filter (fun x => decide (x ∈ b_nd S))) ((b_T S j).filter (fun x => decide (x ∉ b_nd S)))) z h') := by
  have hr0 := kB.rT hj
  obtain ⟨fr, hr⟩ := hr0.cell
  refine eBT_dropNotNeeded_0 ?_
  refine eBT_dropNotNeeded_1 ?_
  refine eBT_dropNotNeeded_2 rfl ?_
  refine eBT_dropNotNeeded_3 (kB.lk hj) rfl ?_
  refine eBT_dropNotNeeded_6 hr (Nat.le_of_ble_eq_true rfl) (sRO_size hr0) ?_
  rintro _ h1 ⟨rfl, rfl⟩
  refine ⟨_, rfl, ?_⟩
  refine eBT_dropNotNeeded_9 ?_
  exact lBT_drop hj hq hr0.nd hr0.b16 hr0.len (fun h1 k1 => ⟨rfl, k1⟩) (b_T S j).length 0 h1 none (by omega) (by rw [List.take_zero, List.filter_nil, List.filter_nil, List.drop_zero, List.nil_append, dpS_nil]; exact kB)
end

