section
variable {P : x_P} {d : Nat} {st : List Value} {h : x_H} {Φ : Outcome → x_H → Prop}
theorem eFI_narrowNumber_19 {v0 v1 v2 : Option Value} {x : Int32} (k33 : x = 33 → x_K P d mFI_narrowNumber 84 [v0, v1, v2] st h Φ) (k60 : x = 60 → x_K P d mFI_narrowNumber 91 [v0, v1, v2] st h Φ) (k61 : x = 61 → x_K P d mFI_narrowNumber 76 [v0, v1, v2] st h Φ) (k62 : x = 62 → x_K P d mFI_narrowNumber 103 [v0, v1, v2] st h Φ) (k91 : x = 91 → x_K P d mFI_narrowNumber 115 [v0, v1, v2] st h Φ) (k93 : x = 93 → x_K P d mFI_narrowNumber 125 [v0, v1, v2] st h Φ) (kd : ¬ x = 33 → ¬ x = 60 → ¬ x = 61 → ¬ x = 62 → ¬ x = 91 → ¬ x = 93 → x_K P d mFI_narrowNumber 135 [v0, v1, v2] st h Φ) : x_K P d mFI_narrowNumber 19 [v0, v1, v2] (.int x :: st) h Φ := by
  by_cases c33 : x = 33
  · subst c33
    exact x_K1 (k33 rfl) (fun _ _ j => xj_lookup dFI_narrowNumber_19 (by decide) (off := 65) (by decide) (tgt := 84) (by decide) j)
  by_cases c60 : x = 60
  · subst c60
    exact x_K1 (k60 rfl) (fun _ _ j => xj_lookup dFI_narrowNumber_19 (by decide) (off := 72) (by decide) (tgt := 91) (by decide) j)
  by_cases c61 : x = 61
  · subst c61
    exact x_K1 (k61 rfl) (fun _ _ j => xj_lookup dFI_narrowNumber_19 (by decide) (off := 57) (by decide) (tgt := 76) (by decide) j)
  by_cases c62 : x = 62
  · subst c62
    exact x_K1 (k62 rfl) (fun _ _ j => xj_lookup dFI_narrowNumber_19 (by decide) (off := 84) (by decide) (tgt := 103) (by decide) j)
  by_cases c91 : x = 91
  · subst c91
    exact x_K1 (k91 rfl) (fun _ _ j => xj_lookup dFI_narrowNumber_19 (by decide) (off := 96) (by decide) (tgt := 115) (by decide) j)
  by_cases c93 : x = 93
  · subst c93
    exact x_K1 (k93 rfl) (fun _ _ j => xj_lookup dFI_narrowNumber_19 (by decide) (off := 106) (by decide) (tgt := 125) (by decide) j)
  exact x_K1 (kd c33 c60 c61 c62 c91 c93) (fun _ _ j => xj_lookup dFI_narrowNumber_19 (by decide) (off := 116) (by show Op.lookupswitch.offset [(33, 65), (60, 72), (61, 57), (62, 84), (91, 96), (93, 106)] 116 x.toInt = 116; rw [lv_osw c33 (by decide), lv_osw c60 (by decide), lv_osw c61 (by decide), lv_osw c62 (by decide), lv_osw c91 (by decide), lv_osw c93 (by decide)]; rfl) (tgt := 135) (by decide) j)
theorem eFI_narrowWord_19 {v0 v1 v2 v3 : Option Value} {x : Int32} (k33 : x = 33 → x_K P d mFI_narrowWord 63 [v0, v1, v2, v3] st h Φ) (k61 : x = 61 → x_K P d mFI_narrowWord 52 [v0, v1, v2, v3] st h Φ) (k94 : x = 94 → x_K P d mFI_narrowWord 73 [v0, v1, v2, v3] st h Φ) (kd : ¬ x = 33 → ¬ x = 61 → ¬ x = 94 → x_K P d mFI_narrowWord 89 [v0, v1, v2, v3] st h Φ) : x_K P d mFI_narrowWord 19 [v0, v1, v2, v3] (.int x :: st) h Φ := by
  by_cases c33 : x = 33
  · subst c33
    exact x_K1 (k33 rfl) (fun _ _ j => xj_lookup dFI_narrowWord_19 (by decide) (off := 44) (by decide) (tgt := 63) (by decide) j)
  by_cases c61 : x = 61
  · subst c61
    exact x_K1 (k61 rfl) (fun _ _ j => xj_lookup dFI_narrowWord_19 (by decide) (off := 33) (by decide) (tgt := 52) (by decide) j)
  by_cases c94 : x = 94
  · subst c94
    exact x_K1 (k94 rfl) (fun _ _ j => xj_lookup dFI_narrowWord_19 (by decide) (off := 54) (by decide) (tgt := 73) (by decide) j)
  exact x_K1 (kd c33 c61 c94) (fun _ _ j => xj_lookup dFI_narrowWord_19 (by decide) (off := 70) (by show Op.lookupswitch.offset [(33, 44), (61, 33), (94, 54)] 70 x.toInt = 70; rw [lv_osw c33 (by decide), lv_osw c61 (by decide), lv_osw c94 (by decide)]; rfl) (tgt := 89) (by decide) j)
theorem eLW_law_49 {v0 v1 v2 v3 v4 v5 v6 : Option Value} {x : Int32} (k0 : x = 0 → x_K P d mLW_law 108 [v0, v1, v2, v3, v4, v5, v6] st h Φ) (k1 : x = 1 → x_K P d mLW_law 135 [v0, v1, v2, v3, v4, v5, v6] st h Φ) (k2 : x = 2 → x_K P d mLW_law 191 [v0, v1, v2, v3, v4, v5, v6] st h Φ) (k3 : x = 3 → x_K P d mLW_law 227 [v0, v1, v2, v3, v4, v5, v6] st h Φ) (k4 : x = 4 → x_K P d mLW_law 307 [v0, v1, v2, v3, v4, v5, v6] st h Φ) (k5 : x = 5 → x_K P d mLW_law 375 [v0, v1, v2, v3, v4, v5, v6] st h Φ) (k6 : x = 6 → x_K P d mLW_law 412 [v0, v1, v2, v3, v4, v5, v6] st h Φ) (k7 : x = 7 → x_K P d mLW_law 425 [v0, v1, v2, v3, v4, v5, v6] st h Φ) (k8 : x = 8 → x_K P d mLW_law 481 [v0, v1, v2, v3, v4, v5, v6] st h Φ) (k9 : x = 9 → x_K P d mLW_law 546 [v0, v1, v2, v3, v4, v5, v6] st h Φ) (k10 : x = 10 → x_K P d mLW_law 597 [v0, v1, v2, v3, v4, v5, v6] st h Φ) (kd : (x.toInt < 0 ∨ 10 < x.toInt) → x_K P d mLW_law 622 [v0, v1, v2, v3, v4, v5, v6] st h Φ) : x_K P d mLW_law 49 [v0, v1, v2, v3, v4, v5, v6] (.int x :: st) h Φ := by
  by_cases c0 : x = 0
  · subst c0
    exact x_K1 (k0 rfl) (fun _ _ j => xj_tableIn dLW_law_49 (by decide) (by decide) (off := 59) (by decide) (tgt := 108) (by decide) j)
  by_cases c1 : x = 1
  · subst c1
    exact x_K1 (k1 rfl) (fun _ _ j => xj_tableIn dLW_law_49 (by decide) (by decide) (off := 86) (by decide) (tgt := 135) (by decide) j)
  by_cases c2 : x = 2
  · subst c2
    exact x_K1 (k2 rfl) (fun _ _ j => xj_tableIn dLW_law_49 (by decide) (by decide) (off := 142) (by decide) (tgt := 191) (by decide) j)
  by_cases c3 : x = 3
  · subst c3
    exact x_K1 (k3 rfl) (fun _ _ j => xj_tableIn dLW_law_49 (by decide) (by decide) (off := 178) (by decide) (tgt := 227) (by decide) j)
  by_cases c4 : x = 4
  · subst c4
    exact x_K1 (k4 rfl) (fun _ _ j => xj_tableIn dLW_law_49 (by decide) (by decide) (off := 258) (by decide) (tgt := 307) (by decide) j)
  by_cases c5 : x = 5
  · subst c5
    exact x_K1 (k5 rfl) (fun _ _ j => xj_tableIn dLW_law_49 (by decide) (by decide) (off := 326) (by decide) (tgt := 375) (by decide) j)
  by_cases c6 : x = 6
  · subst c6
    exact x_K1 (k6 rfl) (fun _ _ j => xj_tableIn dLW_law_49 (by decide) (by decide) (off := 363) (by decide) (tgt := 412) (by decide) j)
  by_cases c7 : x = 7
  · subst c7
    exact x_K1 (k7 rfl) (fun _ _ j => xj_tableIn dLW_law_49 (by decide) (by decide) (off := 376) (by decide) (tgt := 425) (by decide) j)
  by_cases c8 : x = 8
  · subst c8
    exact x_K1 (k8 rfl) (fun _ _ j => xj_tableIn dLW_law_49 (by decide) (by decide) (off := 432) (by decide) (tgt := 481) (by decide) j)
  by_cases c9 : x = 9
  · subst c9
    exact x_K1 (k9 rfl) (fun _ _ j => xj_tableIn dLW_law_49 (by decide) (by decide) (off := 497) (by decide) (tgt := 546) (by decide) j)
  by_cases c10 : x = 10
  · subst c10
    exact x_K1 (k10 rfl) (fun _ _ j => xj_tableIn dLW_law_49 (by decide) (by decide) (off := 548) (by decide) (tgt := 597) (by decide) j)
  have hd9 : x.toInt < 0 ∨ 10 < x.toInt := by
    have n0 := lv_neT c0 (a := 0) (by decide)
    have n1 := lv_neT c1 (a := 1) (by decide)
    have n2 := lv_neT c2 (a := 2) (by decide)
    have n3 := lv_neT c3 (a := 3) (by decide)
    have n4 := lv_neT c4 (a := 4) (by decide)
    have n5 := lv_neT c5 (a := 5) (by decide)
    have n6 := lv_neT c6 (a := 6) (by decide)
    have n7 := lv_neT c7 (a := 7) (by decide)
    have n8 := lv_neT c8 (a := 8) (by decide)
    have n9 := lv_neT c9 (a := 9) (by decide)
    have n10 := lv_neT c10 (a := 10) (by decide)
    omega
  exact x_K1 (kd hd9) (fun _ _ j => xj_tableOut dLW_law_49 hd9 (tgt := 622) (by decide) j)
end
