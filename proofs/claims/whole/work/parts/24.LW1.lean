section
variable {P : x_P} {d : Nat} {st : List Value} {h : x_H} {Φ : Outcome → x_H → Prop}
theorem eLW_law_609 {v0 v1 v2 v3 v5 v6 : Option Value} {x : Int32} (k : x_K P d mLW_law 611 [v0, v1, v2, v3, some (.int x), v5, v6] (.int x :: st) h Φ) : x_K P d mLW_law 609 [v0, v1, v2, v3, some (.int x), v5, v6] st h Φ := x_K1 k (fun _ _ j => xj_iload dLW_law_609 rfl j)
theorem dLW_law_611 : decode cLW_law 611 = .ok (.iconst 1, 1) := by decide +kernel
theorem eLW_law_611 {v0 v1 v2 v3 v4 v5 v6 : Option Value} (k : x_K P d mLW_law 612 [v0, v1, v2, v3, v4, v5, v6] (.int 1 :: st) h Φ) : x_K P d mLW_law 611 [v0, v1, v2, v3, v4, v5, v6] st h Φ := x_K1 k (fun _ _ j => xj_iconst dLW_law_611 (v := 1) (by decide) j)
theorem dLW_law_612 : decode cLW_law 612 = .ok (.iadd, 1) := by decide +kernel
theorem eLW_law_612 {v0 v1 v2 v3 v4 v5 v6 : Option Value} {x y : Int32} (k : x_K P d mLW_law 613 [v0, v1, v2, v3, v4, v5, v6] (.int (x + y) :: st) h Φ) : x_K P d mLW_law 612 [v0, v1, v2, v3, v4, v5, v6] (.int y :: .int x :: st) h Φ := x_K1 k (fun _ _ j => xj_iadd dLW_law_612 j)
theorem dLW_law_613 : decode cLW_law 613 = .ok (.iaload, 1) := by decide +kernel
theorem eLW_law_613 {v0 v1 v2 v3 v4 v5 v6 : Option Value} {a n : Nat} {f : Nat → Int32} {i : Int32} (ha : h.1 a = some (.inl (0, n, .inl f))) (hi : vp_in i n) (k : x_K P d mLW_law 614 [v0, v1, v2, v3, v4, v5, v6] (.int (f i.toNatClampNeg) :: st) h Φ) : x_K P d mLW_law 613 [v0, v1, v2, v3, v4, v5, v6] (.int i :: .ref a :: st) h Φ := x_K1 k (fun _ _ j => xj_iald dLW_law_613 ha hi j)
theorem eLW_law_613s {v0 v1 v2 v3 v4 v5 v6 : Option Value} {i : Int32} (hi : vp_in i P.2.2.2.2.2.1) (k : x_K P d mLW_law 614 [v0, v1, v2, v3, v4, v5, v6] (.int (P.2.2.2.2.2.2 i.toNatClampNeg) :: st) h Φ) : x_K P d mLW_law 613 [v0, v1, v2, v3, v4, v5, v6] (.int i :: .ref P.2.2.2.2.1 :: st) h Φ := x_K1 k (fun _ _ j => xj_sald dLW_law_613 hi j)
theorem dLW_law_614 : decode cLW_law 614 = .ok (.invokevirtual 97, 3) := by decide +kernel
set_option maxRecDepth 100000 in
theorem eLW_law_614 {v0 v1 v2 v3 v4 v5 v6 : Option Value} {x1 : Int32} {a : Nat} {fs : List Value} {Ψ : Outcome → x_H → Prop} (ha : h.1 a = some (.inr (8, fs))) (hst : (st.map fun u => u.category).sum ≤ 8) (kc : x_K P d mMO_count 0 [some (.ref a), some (.int x1)] [] h Ψ) (k : ∀ oc h1, Ψ oc h1 → ∃ v, oc = .returned v ∧ x_K P (d + 1) mLW_law 617 [v0, v1, v2, v3, v4, v5, v6] (v.toList ++ st) h1 Φ) : x_K P (d + 1) mLW_law 614 [v0, v1, v2, v3, v4, v5, v6] (.int x1 :: .ref a :: st) h Φ := x_Kc kc k (fun _ _ _ _ j1 j2 => xj_callV (M2 := mMO_count) (As := [.int x1]) dLW_law_614 xm_985 xm_986 xm_987 ha rfl rfl ok_MO_count rfl (by simp only [List.forall_mem_cons]; exact ⟨rfl, rfl, fun _ h => absurd h List.not_mem_nil⟩) (Nat.le_of_ble_eq_true rfl) hst j1 j2)
theorem dLW_law_617 : decode cLW_law 617 = .ok (.if_icmp .eq 5, 3) := by decide +kernel
theorem eLW_law_617 {v0 v1 v2 v3 v4 v5 v6 : Option Value} {x y : Int32} (kt : x = y → x_K P d mLW_law 622 [v0, v1, v2, v3, v4, v5, v6] st h Φ) (kf : ¬ x = y → x_K P d mLW_law 620 [v0, v1, v2, v3, v4, v5, v6] st h Φ) : x_K P d mLW_law 617 [v0, v1, v2, v3, v4, v5, v6] (.int y :: .int x :: st) h Φ := x_K2 (Classical.em (x = y)) kt kf (fun a _ _ j => xj_icmp_eq dLW_law_617 (tgt := 622) (by decide) (fun _ => j) (fun b => absurd a b)) (fun a _ _ j => xj_icmp_eq dLW_law_617 (tgt := 622) (by decide) (fun b => absurd b a) (fun _ => j))
theorem dLW_law_620 : decode cLW_law 620 = .ok (.iconst 0, 1) := by decide +kernel
theorem eLW_law_620 {v0 v1 v2 v3 v4 v5 v6 : Option Value} (k : x_K P d mLW_law 621 [v0, v1, v2, v3, v4, v5, v6] (.int 0 :: st) h Φ) : x_K P d mLW_law 620 [v0, v1, v2, v3, v4, v5, v6] st h Φ := x_K1 k (fun _ _ j => xj_iconst dLW_law_620 (v := 0) (by decide) j)
theorem dLW_law_621 : decode cLW_law 621 = .ok (.ireturn, 1) := by decide +kernel
theorem eLW_law_621 {v0 v1 v2 v3 v4 v5 v6 : Option Value} {x : Int32} (hn : narrow (.boolean) (.int x) = .int x) (hΦ : Φ (.returned (some (.int x))) h) : x_K P d mLW_law 621 [v0, v1, v2, v3, v4, v5, v6] [.int x] h Φ := x_Kret hΦ (xj_zret dLW_law_621 rfl hn)
theorem dLW_law_622 : decode cLW_law 622 = .ok (.iinc 4 4, 3) := by decide +kernel
theorem eLW_law_622 {v0 v1 v2 v3 v5 v6 : Option Value} {x : Int32} (k : x_K P d mLW_law 625 [v0, v1, v2, v3, some (.int (x + 4)), v5, v6] st h Φ) : x_K P d mLW_law 622 [v0, v1, v2, v3, some (.int x), v5, v6] st h Φ := x_K1 k (fun _ _ j => xj_iinc dLW_law_622 rfl (v := x + 4) (by rfl) j)
theorem dLW_law_625 : decode cLW_law 625 = .ok (.goto (-592), 3) := by decide +kernel
theorem eLW_law_625 {v0 v1 v2 v3 v4 v5 v6 : Option Value} (k : x_K P d mLW_law 33 [v0, v1, v2, v3, v4, v5, v6] st h Φ) : x_K P d mLW_law 625 [v0, v1, v2, v3, v4, v5, v6] st h Φ := x_K1 k (fun _ _ j => xj_goto dLW_law_625 (tgt := 33) (by decide) j)
theorem dLW_law_628 : decode cLW_law 628 = .ok (.iconst 1, 1) := by decide +kernel
theorem eLW_law_628 {v0 v1 v2 v3 v4 v5 v6 : Option Value} (k : x_K P d mLW_law 629 [v0, v1, v2, v3, v4, v5, v6] (.int 1 :: st) h Φ) : x_K P d mLW_law 628 [v0, v1, v2, v3, v4, v5, v6] st h Φ := x_K1 k (fun _ _ j => xj_iconst dLW_law_628 (v := 1) (by decide) j)
theorem dLW_law_629 : decode cLW_law 629 = .ok (.ireturn, 1) := by decide +kernel
theorem eLW_law_629 {v0 v1 v2 v3 v4 v5 v6 : Option Value} {x : Int32} (hn : narrow (.boolean) (.int x) = .int x) (hΦ : Φ (.returned (some (.int x))) h) : x_K P d mLW_law 629 [v0, v1, v2, v3, v4, v5, v6] [.int x] h Φ := x_Kret hΦ (xj_zret dLW_law_629 rfl hn)
end
