section
variable {P : x_P} {d : Nat} {st : List Value} {h : x_H} {Φ : Outcome → x_H → Prop}
theorem eFI_narrowNumber_19 {v0 v1 v2 : Option Value} {x : Int32} (k33 : x = 33 → x_K P d mFI_narrowNumber 84 [v0, v1, v2] st h Φ) (k60 : x = 60 → x_K P d mFI_narrowNumber 91 [v0, v1, v2] st h Φ) (k61 : x = 61 → x_K P d mFI_narrowNumber 76 [v0, v1, v2] st h Φ) (k62 : x = 62 → x_K P d mFI_narrowNumber 103 [v0, v1, v2] st h Φ) (k91 : x = 91 → x_K P d mFI_narrowNumber 115 [v0, v1, v2] st h Φ) (k93 : x = 93 → x_K P d mFI_narrowNumber 125 [v0, v1, v2] st h Φ) (kd : ¬ x = 33 → ¬ x = 60 → ¬ x = 61 → ¬ x = 62 → ¬ x = 91 → ¬ x = 93 → x_K P d mFI_narrowNumber 135 [v0, v1, v2] st h Φ) : x_K P d mFI_narrowNumber 19 [v0, v1, v2] (.int x :: st) h Φ := by
  by_cases c33 : x = 33
  · subst c33
    exact x_K1 (k33 rfl) (fun _ _ j => xj_lookup dFI_narrowNumber_19 (by decide) (off := 65) (by decide) (tgt := 84) (by decide) j)
  by_cases c60 : x = 60
  · subst c60
    exact x_K1 (k60 rfl) (fun _ _ j => xj_lookup dFI_narrowNumber_19 (by decide) (off := 72) (by decide) (tgt := 91) (by decide) j)
  by_cases c61 : x = 61
  · subst c61
    exact x_K1 (k61 rfl) (fun _ _ j => xj_lookup dFI_narrowNumber_19 (by decide) (off := 57) (by decide) (tgt := 76) (by decide) j)
  by_cases c62 : x = 62
  · subst c62
    exact x_K1 (k62 rfl) (fun _ _ j => xj_lookup dFI_narrowNumber_19 (by decide) (off := 84) (by decide) (tgt := 103) (by decide) j)
  by_cases c91 : x = 91
  · subst c91
    exact x_K1 (k91 rfl) (fun _ _ j => xj_lookup dFI_narrowNumber_19 (by decide) (off := 96) (by decide) (tgt := 115) (by decide) j)
  by_cases c93 : x = 93
  · subst c93
    exact x_K1 (k93 rfl) (fun _ _ j => xj_lookup dFI_narrowNumber_19 (by decide) (off := 106) (by decide) (tgt := 125) (by decide) j)
  exact x_K1 (kd c33 c60 c61 c62 c91 c93) (fun _ _ j => xj_lookup dFI_narrowNumber_19 (by decide) (off := 116) (by show Op.lookupswitch.offset [(33, 65), (60, 72), (61, 57), (62, 84), (91, 96), (93, 106)] 116 x.toInt = 116; rw [lv_osw c33 (by decide), lv_osw c60 (by decide), lv_osw c61 (by decide), lv_osw c62 (by decide), lv_osw c91 (by decide), lv_osw c93 (by decide)]; rfl) (tgt := 135) (by decide) j)
theorem eFI_narrowWord_19 {v0 v1 v2 v3 : Option Value} {x : Int32} (k33 : x = 33 → x_K P d mFI_narrowWord 63 [v0, v1, v2, v3] st h Φ) (k61 : x = 61 → x_K P d mFI_narrowWord 52 [v0, v1, v2, v3] st h Φ) (k94 : x = 94 → x_K P d mFI_narrowWord 73 [v0, v1, v2, v3] st h Φ) (kd : ¬ x = 33 → ¬ x = 61 → ¬ x = 94 → x_K P d mFI_narrowWord 89 [v0, v1, v2, v3] st h Φ) : x_K P d mFI_narrowWord 19 [v0, v1, v2, v3] (.int x :: st) h Φ := by
  by_cases c33 : x = 33
  · subst c33
    exact x_K1 (k33 rfl) (fun _ _ j => xj_lookup dFI_narrowWord_19 (by decide) (off := 44) (by decide) (tgt := 63) (by decide) j)
  by_cases c61 : x = 61
  · subst c61
    exact x_K1 (k61 rfl) (fun _ _ j => xj_lookup dFI_narrowWord_19 (by decide) (off := 33) (by decide) (tgt := 52) (by decide) j)
  by_cases c94 : x = 94
  · subst c94
    exact x_K1 (k94 rfl) (fun _ _ j => xj_lookup dFI_narrowWord_19 (by decide) (off := 54) (by decide) (tgt := 73) (by decide) j)
  exact x_K1 (kd c33 c61 c94) (fun _ _ j => xj_lookup dFI_narrowWord_19 (by decide) (off := 70) (by show Op.lookupswitch.offset [(33, 44), (61, 33), (94, 54)] 70 x.toInt = 70; rw [lv_osw c33 (by decide), lv_osw c61 (by decide), lv_osw c94 (by decide)]; rfl) (tgt := 89) (by decide) j)
end
