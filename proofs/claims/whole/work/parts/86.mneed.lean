/-! The reference: need -/
def lfB (F : Nat → sp3) (x y i j : Nat) : Bool := decide (i ≠ j) && fiInc (F y) (F x) && !(fiInc (F x) (F y) && decide (i < j))
def lfL (F : Nat → sp3) (l : List Nat) (i j : Nat) : Bool := lfB F (l.getD i 0) (l.getD j 0) i j
def kpF (F : Nat → sp3) (l : List Nat) (i : Nat) : Bool := (List.range' 0 l.length).all (fun j => !(lfL F l i j))
theorem getD_of {l : List Nat} {i x : Nat} (h : l[i]? = some x) : l.getD i 0 = x := by
  rw [List.getD_eq_getElem?_getD, h]
  rfl
section
variable {P : x_P} {d : Nat} {h0 : x_H} {bm : Nat} {p : Nat → Nat} {S : bS} {F : Nat → sp3} {T H M : Nat → List Nat} {fr : Nat → Nat} {ze0 : Nat → Int32} {si0 : Nat → Nat → Int32} {Φ : Outcome → x_H → Prop}
theorem lMO_need1 {u : Nat} {v2 v4 v5 : Option Value} (k0 : isM p S F T H fr M ze0 si0) (hu : u < 6)
  (kk : ∀ ze' si' l', frS ze0 si0 ze' si' → mRw ze' si' l' → l'.length ≤ 16 → (∀ x ∈ l', x < b_s S) → (l'.map (b_wa S)).foldl addL [] = lp (offS S u) (b_s S) 0 [] → x_K P (d + 1) mMO_need 35 [some (.ref bm), some (.int (nI u)), v2, some (.int (nI (b_s S))), v4, v5] [] (mh h0 bm ze' si') Φ) :
  ∀ (j q : Nat) (l : List Nat) (ze : Nat → Int32) (si : Nat → Nat → Int32), q + j = b_s S → frS ze0 si0 ze si → mRw ze si l → l.length ≤ q → (∀ x ∈ l, x < b_s S) → lp (offS S u) j q ((l.map (b_wa S)).foldl addL []) = lp (offS S u) (b_s S) 0 [] → x_K P (d + 1) mMO_need 7 [some (.ref bm), some (.int (nI u)), v2, some (.int (nI q)), v4, v5] [] (mh h0 bm ze si) Φ := by
  have hs := k0.s16
  intro j
  induction j with
  | zero =>
    intro q l ze si hq f kr hl hx hL
    have k := k0.sc f
    have eq : q = b_s S := by omega
    subst eq
    refine eMO_need_7 ?_
    refine eMO_need_8 rfl ?_
    refine eMO_need_9 mh_o rfl ?_
    rw [k.s3]
    refine eMO_need_12 (fun c12 => ?_) (fun c => absurd (nI_le (Nat.le_refl _) (by omega)) c)
    exact kk ze si l f kr (by omega) hx hL
  | succ j ih =>
    intro q l ze si hq f kr hl hx hL
    have k := k0.sc f
    by_cases c1 : b_en S q = false ∧ b_su S q % 6 = u
    · refine eMO_need_7 ?_
      refine eMO_need_8 rfl ?_
      refine eMO_need_9 mh_o rfl ?_
      rw [k.s3]
      refine eMO_need_12 (fun c => absurd c (nI_ge (by omega) (by omega))) (fun c12 => ?_)
      refine eMO_need_15 rfl ?_
      refine eMO_need_16 ?_
      refine eMO_need_17 ?_
      refine eMO_need_18 mh_o (Nat.le_of_ble_eq_true rfl) (sMO_isHere k (by omega) hu) ?_
      rintro _ _ ⟨rfl, rfl⟩
      refine ⟨_, rfl, ?_⟩
      rw [decide_eq_true c1]
      refine eMO_need_21 (fun c => absurd c (by decide)) (fun c21 => ?_)
      refine eMO_need_24 rfl ?_
      refine eMO_need_25 ?_
      refine eMO_need_26 mh_o (Nat.le_of_ble_eq_true rfl) (sMO_add kr (by omega)) ?_
      rintro _ h9 ⟨rfl, ze', si', rfl, f', kr'⟩
      refine ⟨_, rfl, ?_⟩
      refine eMO_need_29 ?_
      rw [nI_1]
      skip
      refine eMO_need_32 ?_
      refine ih (q + 1) (l ++ [q]) ze' si' (by omega) (f.trans f') kr' (by rw [List.length_append]; simp; omega) (fun x hx' => ?_) ?_
      · rcases List.mem_append.mp hx' with z | z
        · exact hx x z
        · rw [List.mem_singleton.mp z]; omega
      · rw [← hL]
        show _ = lp (offS S u) j (q + 1) (offS S u q _)
        rw [List.map_append, List.foldl_append]
        unfold offS
        rw [if_pos c1]
        rfl
    · refine eMO_need_7 ?_
      refine eMO_need_8 rfl ?_
      refine eMO_need_9 mh_o rfl ?_
      rw [k.s3]
      refine eMO_need_12 (fun c => absurd c (nI_ge (by omega) (by omega))) (fun c12 => ?_)
      refine eMO_need_15 rfl ?_
      refine eMO_need_16 ?_
      refine eMO_need_17 ?_
      refine eMO_need_18 mh_o (Nat.le_of_ble_eq_true rfl) (sMO_isHere k (by omega) hu) ?_
      rintro _ _ ⟨rfl, rfl⟩
      refine ⟨_, rfl, ?_⟩
      rw [decide_eq_false c1]
      refine eMO_need_21 (fun c21 => ?_) (fun c => absurd rfl c)
      refine eMO_need_29 ?_
      rw [nI_1]
      skip
      refine eMO_need_32 ?_
      refine ih (q + 1) l ze si (by omega) f kr (by omega) hx ?_
      rw [← hL]
      show _ = lp (offS S u) j (q + 1) (offS S u q _)
      unfold offS
      rw [if_neg c1]
/-- the heard filters of one line -/
theorem lMO_need2i {j0 : Nat} {v1 v2 v3 : Option Value} (k0 : isM p S F T H fr M ze0 si0) (hj : j0 < 10) {l0 : List Nat} (hl0 : l0.length ≤ 110)
  (kk : ∀ ze' si', frS ze0 si0 ze' si' → mRw ze' si' (l0 ++ H j0) → x_K P (d + 1) mMO_need 108 [some (.ref bm), v1, v2, v3, some (.int (nI j0)), some (.int (nI (H j0).length))] [] (mh h0 bm ze' si') Φ) :
  ∀ (n i : Nat) (ze : Nat → Int32) (si : Nat → Nat → Int32), i + n = (H j0).length → frS ze0 si0 ze si → mRw ze si (l0 ++ (H j0).take i) → x_K P (d + 1) mMO_need 68 [some (.ref bm), v1, v2, v3, some (.int (nI j0)), some (.int (nI i))] [] (mh h0 bm ze si) Φ := by
  obtain ⟨hm1, hm2⟩ := k0.heard
  obtain ⟨a1, a2, a3⟩ := hm1 j0 hj
  intro n
  induction n with
  | zero =>
    intro i ze si hi f kr
    have e20 : si 20 j0 = nI (H j0).length := by rw [f.2 20 (by decide) (by decide)]; exact a1
    have ei : i = (H j0).length := by omega
    subst ei
    rw [List.take_length] at kr
    refine eMO_need_68 ?_
    refine eMO_need_70 (fun c => absurd c (nI_pos (by omega))) (fun c70 => ?_)
    refine eMO_need_73 ?_
    refine eMO_need_75 rfl ?_
    refine eMO_need_76 mh_o rfl ?_
    refine eMO_need_79 ?_
    refine eMO_need_81 mh_a20 (xn_in hj (by decide)) ?_
    rw [nI_clamp (by omega)]
    rw [e20]
    refine eMO_need_82 (fun c82 => ?_) (fun c => absurd (nI_le (Nat.le_refl _) (by omega)) c)
    exact kk ze si f kr
  | succ n ih =>
    intro i ze si hi f kr
    have e20 : si 20 j0 = nI (H j0).length := by rw [f.2 20 (by decide) (by decide)]; exact a1
    obtain ⟨x, hx⟩ : ∃ x, (H j0)[i]? = some x := ⟨(H j0)[i]'(by omega), List.getElem?_eq_getElem (by omega)⟩
    have e21 : si 21 (16 * j0 + i) = nI x := by rw [f.2 21 (by decide) (by decide)]; exact a3 i x hx
    have hlen : (l0 ++ (H j0).take i).length ≤ 126 := by
      rw [List.length_append, List.length_take]
      omega
    have et : (H j0).take (i + 1) = (H j0).take i ++ [x] := by
      have h1 := List.getElem?_eq_some_iff.mp hx
      rw [List.take_succ, hx]
      rfl
    refine eMO_need_68 ?_
    refine eMO_need_70 (fun c => absurd c (nI_pos (by omega))) (fun c70 => ?_)
    refine eMO_need_73 ?_
    refine eMO_need_75 rfl ?_
    refine eMO_need_76 mh_o rfl ?_
    refine eMO_need_79 ?_
    refine eMO_need_81 mh_a20 (xn_in hj (by decide)) ?_
    rw [nI_clamp (by omega)]
    rw [e20]
    refine eMO_need_82 (fun c => absurd c (nI_ge (by omega) (by omega))) (fun c82 => ?_)
    refine eMO_need_85 rfl ?_
    refine eMO_need_86 rfl ?_
    refine eMO_need_87 mh_o rfl ?_
    refine eMO_need_90 ?_
    refine eMO_need_92 ?_
    refine eMO_need_94 ?_
    rw [mx16]
    refine eMO_need_95 ?_
    refine eMO_need_97 ?_
    rw [nI_add]
    refine eMO_need_98 mh_a21 (xn_in (by omega) (by decide)) ?_
    rw [nI_clamp (by omega)]
    rw [e21]
    refine eMO_need_99 mh_o (Nat.le_of_ble_eq_true rfl) (sMO_add kr (by omega)) ?_
    rintro _ h9 ⟨rfl, ze', si', rfl, f', kr'⟩
    refine ⟨_, rfl, ?_⟩
    refine eMO_need_102 ?_
    rw [nI_1]
    skip
    refine eMO_need_105 ?_
    refine ih (i + 1) ze' si' (by omega) (f.trans f') ?_
    rw [et, ← List.append_assoc]
    exact kr'
theorem lMO_need2 {u t : Nat} (k0 : isM p S F T H fr M ze0 si0) (hu : u < 6) (ht : t < 6)
  (kk : ∀ ze' si' l' v4 v5, frS ze0 si0 ze' si' → mRw ze' si' l' → l'.length ≤ 112 → (∀ x ∈ l', x < b_s S) → (l'.map (b_wa S)).foldl addL [] = offF S p u t → x_K P (d + 1) mMO_need 114 [some (.ref bm), some (.int (nI u)), some (.int (nI t)), some (.int (nI 6)), v4, v5] [] (mh h0 bm ze' si') Φ) :
  ∀ (j m : Nat) (l : List Nat) (ze : Nat → Int32) (si : Nat → Nat → Int32) (v4 v5 : Option Value), m + j = 6 → frS ze0 si0 ze si → mRw ze si l → l.length ≤ 16 + 16 * m → (∀ x ∈ l, x < b_s S) → lp (offH S p u t) j m ((l.map (b_wa S)).foldl addL []) = offF S p u t → x_K P (d + 1) mMO_need 37 [some (.ref bm), some (.int (nI u)), some (.int (nI t)), some (.int (nI m)), v4, v5] [] (mh h0 bm ze si) Φ := by
  intro j
  induction j with
  | zero =>
    intro m l ze si v4 v5 hm f kr hl hx hL
    have em : m = 6 := by omega
    subst em
    refine eMO_need_37 ?_
    refine eMO_need_38 ?_
    refine eMO_need_40 (fun c40 => ?_) (fun c => absurd (by decide) c)
    exact kk ze si l v4 v5 f kr (by omega) hx hL
  | succ j ih =>
    intro m l ze si v4 v5 hm f kr hl hx hL
    have k := k0.sc f
    have e2 := k.2.1 (6 * m + u) (by omega)
    have hL' : lp (offH S p u t) j (m + 1) (offH S p u t m ((l.map (b_wa S)).foldl addL [])) = offF S p u t := hL
    by_cases c1 : m = t
    · have eo : offH S p u t m ((l.map (b_wa S)).foldl addL []) = (l.map (b_wa S)).foldl addL [] := by
        unfold offH
        cases lkF p (6 * m + u) with
        | none => rfl
        | some j => exact if_pos c1
      rw [eo] at hL'
      refine eMO_need_37 ?_
      refine eMO_need_38 ?_
      refine eMO_need_40 (fun c => absurd c (nI_ge (b := 6) (by omega) (by decide))) (fun c40 => ?_)
      refine eMO_need_43 ?_
      refine eMO_need_44 ?_
      refine eMO_need_45 (fun c => absurd (by rw [c1]) c) (fun c45 => ?_)
      refine eMO_need_48 ?_
      refine eMO_need_49 ?_
      refine eMO_need_63 ?_
      refine eMO_need_65 ?_
      refine eMO_need_66 ?_
      refine eMO_need_68 ?_
      refine eMO_need_70 (fun c70 => ?_) (fun c => absurd (by decide) c)
      refine eMO_need_108 ?_
      rw [nI_1]
      skip
      refine eMO_need_111 ?_
      exact ih (m + 1) l ze si _ _ (by omega) f kr (by omega) hx hL'
    · cases hk : lkF p (6 * m + u) with
      | none =>
        rw [hk] at e2
        have eo : offH S p u t m ((l.map (b_wa S)).foldl addL []) = (l.map (b_wa S)).foldl addL [] := by
          unfold offH
          rw [hk]
        rw [eo] at hL'
        refine eMO_need_37 ?_
        refine eMO_need_38 ?_
        refine eMO_need_40 (fun c => absurd c (nI_ge (b := 6) (by omega) (by decide))) (fun c40 => ?_)
        refine eMO_need_43 ?_
        refine eMO_need_44 ?_
        refine eMO_need_45 (fun c45 => ?_) (fun c => absurd ((nI_eq (by omega) (by omega)).mp c) c1)
        refine eMO_need_52 rfl ?_
        refine eMO_need_53 mh_o rfl ?_
        refine eMO_need_56 ?_
        refine eMO_need_58 ?_
        refine eMO_need_59 ?_
        rw [mx6]
        refine eMO_need_60 ?_
        refine eMO_need_61 ?_
        rw [nI_add]
        refine eMO_need_62 mh_a2 (xn_in (by omega) (by decide)) ?_
        rw [nI_clamp (by omega)]
        rw [e2]
        refine eMO_need_63 ?_
        refine eMO_need_65 ?_
        refine eMO_need_66 ?_
        refine eMO_need_68 ?_
        refine eMO_need_70 (fun c70 => ?_) (fun c => absurd (by decide) c)
        refine eMO_need_108 ?_
        rw [nI_1]
        skip
        refine eMO_need_111 ?_
        exact ih (m + 1) l ze si _ _ (by omega) f kr (by omega) hx hL'
      | some j0 =>
        rw [hk] at e2
        have hj0 : j0 < 10 := lkF_lt hk (by omega)
        have hH := (k0.heard.1 j0 hj0).2.1
        have hH2 := k0.heard.2 j0 hj0
        have eo : offH S p u t m ((l.map (b_wa S)).foldl addL []) = ((l ++ H j0).map (b_wa S)).foldl addL [] := by
          unfold offH
          rw [hk]
          show (if m = t then _ else _) = _
          rw [if_neg c1, List.map_append, List.foldl_append, hH2.1]
        rw [eo] at hL'
        refine eMO_need_37 ?_
        refine eMO_need_38 ?_
        refine eMO_need_40 (fun c => absurd c (nI_ge (b := 6) (by omega) (by decide))) (fun c40 => ?_)
        refine eMO_need_43 ?_
        refine eMO_need_44 ?_
        refine eMO_need_45 (fun c45 => ?_) (fun c => absurd ((nI_eq (by omega) (by omega)).mp c) c1)
        refine eMO_need_52 rfl ?_
        refine eMO_need_53 mh_o rfl ?_
        refine eMO_need_56 ?_
        refine eMO_need_58 ?_
        refine eMO_need_59 ?_
        rw [mx6]
        refine eMO_need_60 ?_
        refine eMO_need_61 ?_
        rw [nI_add]
        refine eMO_need_62 mh_a2 (xn_in (by omega) (by decide)) ?_
        rw [nI_clamp (by omega)]
        rw [e2]
        refine eMO_need_63 ?_
        refine eMO_need_65 ?_
        refine eMO_need_66 ?_
        skip
        refine lMO_need2i (l0 := l) k0 hj0 (by omega) (fun ze' si' f' kr' => ?_) (H j0).length 0 ze si (Nat.zero_add _) f (by rw [List.take_zero, List.append_nil]; exact kr)
        refine eMO_need_108 ?_
        rw [nI_1]
        skip
        refine eMO_need_111 ?_
        refine ih (m + 1) (l ++ H j0) ze' si' _ _ (by omega) f' kr' (by rw [List.length_append]; omega) (fun x hx' => ?_) hL'
        rcases List.mem_append.mp hx' with z | z
        · exact hx x z
        · exact hH2.2.1 x z
/-- whether a row is left out because of another one -/
theorem lMO_need3i {l : List Nat} {i x : Nat} {v1 v2 : Option Value} (k0 : isM p S F T H fr M ze0 si0) (hx : ∀ x ∈ l, x < b_s S) (hl : l.length ≤ 112) (hi : l[i]? = some x)
  {si1 : Nat → Nat → Int32} (kk : ∀ si' v5, frS ze0 si0 ze0 si' → si' 25 = si1 25 → (∀ q, q ≠ i → si' 26 q = si1 26 q) → si' 26 i = b2i (kpF F l i) → x_K P (d + 1) mMO_need 233 [some (.ref bm), v1, v2, some (.int (nI i)), some (.int (nI l.length)), v5] [] (mh h0 bm ze0 si') Φ) (kr1 : mRw ze0 si1 l) :
  ∀ (n j : Nat) (acc : Bool) (si : Nat → Nat → Int32) (v5 : Option Value), j + n = l.length → frS ze0 si0 ze0 si → si 25 = si1 25 → (∀ q, q ≠ i → si 26 q = si1 26 q) → si 26 i = b2i acc → (acc && (List.range' j n).all (fun j => !(lfL F l i j))) = kpF F l i → x_K P (d + 1) mMO_need 134 [some (.ref bm), v1, v2, some (.int (nI i)), some (.int (nI j)), v5] [] (mh h0 bm ze0 si) Φ := by
  have hi1 := (List.getElem?_eq_some_iff.mp hi).1
  have hxi : x < b_s S := hx x (List.mem_of_getElem? hi)
  have hs := k0.s16
  intro n
  induction n with
  | zero =>
    intro j acc si v5 hj f e25 eq ei hk
    have ej : j = l.length := by omega
    subst ej
    rw [List.range'_zero, List.all_nil, Bool.and_true] at hk
    rw [hk] at ei
    refine eMO_need_134 ?_
    refine eMO_need_136 rfl ?_
    refine eMO_need_137 mh_o rfl ?_
    rw [kr1.1]
    refine eMO_need_140 (fun c140 => ?_) (fun c => absurd (nI_le (Nat.le_refl _) (by omega)) c)
    exact kk si v5 f e25 eq ei
  | succ n ih =>
    intro j acc si v5 hj f e25 eq ei hk
    have k := k0.sc f
    obtain ⟨y, hy⟩ : ∃ y, l[j]? = some y := ⟨l[j]'(by omega), List.getElem?_eq_getElem (by omega)⟩
    have hyj : y < b_s S := hx y (List.mem_of_getElem? hy)
    have r1 : si 25 i = nI x := by rw [e25]; exact kr1.2 i x hi
    have r2 : si 25 j = nI y := by rw [e25]; exact kr1.2 j y hy
    have elf : lfL F l i j = lfB F x y i j := by
      unfold lfL
      rw [getD_of hi, getD_of hy]
    rw [List.range'_succ, List.all_cons, ← Bool.and_assoc, elf] at hk
    -- from 200 on: lf on the stack
    have t200 : ∀ v5', x_K P (d + 1) mMO_need 200 [some (.ref bm), v1, v2, some (.int (nI i)), some (.int (nI j)), v5'] [.int (b2i (lfB F x y i j))] (mh h0 bm ze0 si) Φ := by
      intro v5'
      have next : ∀ b : Bool, b = (acc && !(lfB F x y i j)) → x_K P (d + 1) mMO_need 134 [some (.ref bm), v1, v2, some (.int (nI i)), some (.int (nI (j + 1))), some (.int (b2i (lfB F x y i j)))] [] (mh h0 bm ze0 (va_up si 26 (upd (si 26) i (b2i b)))) Φ := by
        intro b hb
        refine ih (j + 1) b _ _ (by omega) (f.trans ⟨fun _ _ => rfl, fun K _ h26 => if_neg h26⟩) e25 (fun q hq => ?_) ?_ (by rw [hb]; exact hk)
        · show upd (si 26) i _ q = _
          rw [pk_un hq]
          exact eq q hq
        · show upd (si 26) i _ i = _
          exact pk_us
      cases acc with
      | false =>
        refine eMO_need_200 ?_
        refine eMO_need_202 rfl ?_
        refine eMO_need_203 mh_o rfl ?_
        refine eMO_need_206 ?_
        refine eMO_need_207 rfl ?_
        refine eMO_need_208 mh_o rfl ?_
        refine eMO_need_211 ?_
        refine eMO_need_212 mh_a26 (xn_in (by omega) (by decide)) ?_
        rw [nI_clamp (by omega)]
        rw [ei]
        refine eMO_need_213 (fun c213 => ?_) (fun c => absurd rfl c)
        refine eMO_need_225 ?_
        refine eMO_need_226 mh_a26 (xn_in (by omega) (by decide)) ?_
        rw [mh_p26, nI_clamp (by omega)]
        refine eMO_need_227 ?_
        rw [nI_1]
        refine eMO_need_230 ?_
        exact next false rfl
      | true =>
        cases q : lfB F x y i j with
        | true =>
          rw [q] at next
          refine eMO_need_200 ?_
          refine eMO_need_202 rfl ?_
          refine eMO_need_203 mh_o rfl ?_
          refine eMO_need_206 ?_
          refine eMO_need_207 rfl ?_
          refine eMO_need_208 mh_o rfl ?_
          refine eMO_need_211 ?_
          refine eMO_need_212 mh_a26 (xn_in (by omega) (by decide)) ?_
          rw [nI_clamp (by omega)]
          rw [ei]
          refine eMO_need_213 (fun c => absurd c (by decide)) (fun c213 => ?_)
          refine eMO_need_216 ?_
          refine eMO_need_218 (fun c218 => ?_) (fun c => absurd c (by decide))
          refine eMO_need_225 ?_
          refine eMO_need_226 mh_a26 (xn_in (by omega) (by decide)) ?_
          rw [mh_p26, nI_clamp (by omega)]
          refine eMO_need_227 ?_
          rw [nI_1]
          refine eMO_need_230 ?_
          exact next false rfl
        | false =>
          rw [q] at next
          refine eMO_need_200 ?_
          refine eMO_need_202 rfl ?_
          refine eMO_need_203 mh_o rfl ?_
          refine eMO_need_206 ?_
          refine eMO_need_207 rfl ?_
          refine eMO_need_208 mh_o rfl ?_
          refine eMO_need_211 ?_
          refine eMO_need_212 mh_a26 (xn_in (by omega) (by decide)) ?_
          rw [nI_clamp (by omega)]
          rw [ei]
          refine eMO_need_213 (fun c => absurd c (by decide)) (fun c213 => ?_)
          refine eMO_need_216 ?_
          refine eMO_need_218 (fun c => absurd rfl c) (fun c218 => ?_)
          refine eMO_need_221 ?_
          refine eMO_need_222 ?_
          refine eMO_need_226 mh_a26 (xn_in (by omega) (by decide)) ?_
          rw [mh_p26, nI_clamp (by omega)]
          refine eMO_need_227 ?_
          rw [nI_1]
          refine eMO_need_230 ?_
          exact next true rfl
    by_cases c1 : i = j
    · have q0 : lfB F x y i j = false := by unfold lfB; rw [decide_eq_false (fun z => z c1)]; rfl
      rw [q0] at t200
      refine eMO_need_134 ?_
      refine eMO_need_136 rfl ?_
      refine eMO_need_137 mh_o rfl ?_
      rw [kr1.1]
      refine eMO_need_140 (fun c => absurd c (nI_ge (by omega) (by omega))) (fun c140 => ?_)
      refine eMO_need_143 ?_
      refine eMO_need_144 ?_
      refine eMO_need_146 (fun c146 => ?_) (fun c => absurd (by rw [c1]) c)
      refine eMO_need_199 ?_
      exact t200 _
    · have n1 : ¬ nI i = nI j := fun z => c1 ((nI_eq (by omega) (by omega)).mp z)
      cases c2 : fiInc (F y) (F x) with
      | false =>
        have q0 : lfB F x y i j = false := by unfold lfB; rw [c2]; simp
        rw [q0] at t200
        refine eMO_need_134 ?_
        refine eMO_need_136 rfl ?_
        refine eMO_need_137 mh_o rfl ?_
        rw [kr1.1]
        refine eMO_need_140 (fun c => absurd c (nI_ge (by omega) (by omega))) (fun c140 => ?_)
        refine eMO_need_143 ?_
        refine eMO_need_144 ?_
        refine eMO_need_146 (fun c => absurd c n1) (fun c146 => ?_)
        refine eMO_need_149 rfl ?_
        refine eMO_need_150 rfl ?_
        refine eMO_need_151 mh_o rfl ?_
        refine eMO_need_154 ?_
        refine eMO_need_156 mh_a25 (xn_in (by omega) (by decide)) ?_
        rw [nI_clamp (by omega)]
        rw [r2]
        refine eMO_need_157 rfl ?_
        refine eMO_need_158 mh_o rfl ?_
        refine eMO_need_161 ?_
        refine eMO_need_162 mh_a25 (xn_in (by omega) (by decide)) ?_
        rw [nI_clamp (by omega)]
        rw [r1]
        refine eMO_need_163 mh_o (Nat.le_of_ble_eq_true rfl) (sMO_isOver k hyj hxi) ?_
        rintro _ _ ⟨rfl, rfl⟩
        refine ⟨_, rfl, ?_⟩
        rw [c2]
        refine eMO_need_166 (fun c166 => ?_) (fun c => absurd rfl c)
        refine eMO_need_199 ?_
        exact t200 _
      | true =>
        cases c3 : fiInc (F x) (F y) with
        | false =>
          have q0 : lfB F x y i j = true := by unfold lfB; rw [c2, c3]; simp [c1]
          rw [q0] at t200
          refine eMO_need_134 ?_
          refine eMO_need_136 rfl ?_
          refine eMO_need_137 mh_o rfl ?_
          rw [kr1.1]
          refine eMO_need_140 (fun c => absurd c (nI_ge (by omega) (by omega))) (fun c140 => ?_)
          refine eMO_need_143 ?_
          refine eMO_need_144 ?_
          refine eMO_need_146 (fun c => absurd c n1) (fun c146 => ?_)
          refine eMO_need_149 rfl ?_
          refine eMO_need_150 rfl ?_
          refine eMO_need_151 mh_o rfl ?_
          refine eMO_need_154 ?_
          refine eMO_need_156 mh_a25 (xn_in (by omega) (by decide)) ?_
          rw [nI_clamp (by omega)]
          rw [r2]
          refine eMO_need_157 rfl ?_
          refine eMO_need_158 mh_o rfl ?_
          refine eMO_need_161 ?_
          refine eMO_need_162 mh_a25 (xn_in (by omega) (by decide)) ?_
          rw [nI_clamp (by omega)]
          rw [r1]
          refine eMO_need_163 mh_o (Nat.le_of_ble_eq_true rfl) (sMO_isOver k hyj hxi) ?_
          rintro _ _ ⟨rfl, rfl⟩
          refine ⟨_, rfl, ?_⟩
          rw [c2]
          refine eMO_need_166 (fun c => absurd c (by decide)) (fun c166 => ?_)
          refine eMO_need_169 rfl ?_
          refine eMO_need_170 rfl ?_
          refine eMO_need_171 mh_o rfl ?_
          refine eMO_need_174 ?_
          refine eMO_need_175 mh_a25 (xn_in (by omega) (by decide)) ?_
          rw [nI_clamp (by omega)]
          rw [r1]
          refine eMO_need_176 rfl ?_
          refine eMO_need_177 mh_o rfl ?_
          refine eMO_need_180 ?_
          refine eMO_need_182 mh_a25 (xn_in (by omega) (by decide)) ?_
          rw [nI_clamp (by omega)]
          rw [r2]
          refine eMO_need_183 mh_o (Nat.le_of_ble_eq_true rfl) (sMO_isOver k hxi hyj) ?_
          rintro _ _ ⟨rfl, rfl⟩
          refine ⟨_, rfl, ?_⟩
          rw [c3]
          refine eMO_need_186 (fun c186 => ?_) (fun c => absurd rfl c)
          refine eMO_need_195 ?_
          refine eMO_need_196 ?_
          exact t200 _
        | true =>
          by_cases c4 : i < j
          · have q0 : lfB F x y i j = false := by unfold lfB; rw [c2, c3]; simp [c1, c4]
            rw [q0] at t200
            refine eMO_need_134 ?_
            refine eMO_need_136 rfl ?_
            refine eMO_need_137 mh_o rfl ?_
            rw [kr1.1]
            refine eMO_need_140 (fun c => absurd c (nI_ge (by omega) (by omega))) (fun c140 => ?_)
            refine eMO_need_143 ?_
            refine eMO_need_144 ?_
            refine eMO_need_146 (fun c => absurd c n1) (fun c146 => ?_)
            refine eMO_need_149 rfl ?_
            refine eMO_need_150 rfl ?_
            refine eMO_need_151 mh_o rfl ?_
            refine eMO_need_154 ?_
            refine eMO_need_156 mh_a25 (xn_in (by omega) (by decide)) ?_
            rw [nI_clamp (by omega)]
            rw [r2]
            refine eMO_need_157 rfl ?_
            refine eMO_need_158 mh_o rfl ?_
            refine eMO_need_161 ?_
            refine eMO_need_162 mh_a25 (xn_in (by omega) (by decide)) ?_
            rw [nI_clamp (by omega)]
            rw [r1]
            refine eMO_need_163 mh_o (Nat.le_of_ble_eq_true rfl) (sMO_isOver k hyj hxi) ?_
            rintro _ _ ⟨rfl, rfl⟩
            refine ⟨_, rfl, ?_⟩
            rw [c2]
            refine eMO_need_166 (fun c => absurd c (by decide)) (fun c166 => ?_)
            refine eMO_need_169 rfl ?_
            refine eMO_need_170 rfl ?_
            refine eMO_need_171 mh_o rfl ?_
            refine eMO_need_174 ?_
            refine eMO_need_175 mh_a25 (xn_in (by omega) (by decide)) ?_
            rw [nI_clamp (by omega)]
            rw [r1]
            refine eMO_need_176 rfl ?_
            refine eMO_need_177 mh_o rfl ?_
            refine eMO_need_180 ?_
            refine eMO_need_182 mh_a25 (xn_in (by omega) (by decide)) ?_
            rw [nI_clamp (by omega)]
            rw [r2]
            refine eMO_need_183 mh_o (Nat.le_of_ble_eq_true rfl) (sMO_isOver k hxi hyj) ?_
            rintro _ _ ⟨rfl, rfl⟩
            refine ⟨_, rfl, ?_⟩
            rw [c3]
            refine eMO_need_186 (fun c => absurd c (by decide)) (fun c186 => ?_)
            refine eMO_need_189 ?_
            refine eMO_need_190 ?_
            refine eMO_need_192 (fun c192 => ?_) (fun c => absurd (nI_lt c4 (by omega)) c)
            refine eMO_need_199 ?_
            exact t200 _
          · have q0 : lfB F x y i j = true := by unfold lfB; rw [c2, c3]; simp [c1, c4]
            rw [q0] at t200
            refine eMO_need_134 ?_
            refine eMO_need_136 rfl ?_
            refine eMO_need_137 mh_o rfl ?_
            rw [kr1.1]
            refine eMO_need_140 (fun c => absurd c (nI_ge (by omega) (by omega))) (fun c140 => ?_)
            refine eMO_need_143 ?_
            refine eMO_need_144 ?_
            refine eMO_need_146 (fun c => absurd c n1) (fun c146 => ?_)
            refine eMO_need_149 rfl ?_
            refine eMO_need_150 rfl ?_
            refine eMO_need_151 mh_o rfl ?_
            refine eMO_need_154 ?_
            refine eMO_need_156 mh_a25 (xn_in (by omega) (by decide)) ?_
            rw [nI_clamp (by omega)]
            rw [r2]
            refine eMO_need_157 rfl ?_
            refine eMO_need_158 mh_o rfl ?_
            refine eMO_need_161 ?_
            refine eMO_need_162 mh_a25 (xn_in (by omega) (by decide)) ?_
            rw [nI_clamp (by omega)]
            rw [r1]
            refine eMO_need_163 mh_o (Nat.le_of_ble_eq_true rfl) (sMO_isOver k hyj hxi) ?_
            rintro _ _ ⟨rfl, rfl⟩
            refine ⟨_, rfl, ?_⟩
            rw [c2]
            refine eMO_need_166 (fun c => absurd c (by decide)) (fun c166 => ?_)
            refine eMO_need_169 rfl ?_
            refine eMO_need_170 rfl ?_
            refine eMO_need_171 mh_o rfl ?_
            refine eMO_need_174 ?_
            refine eMO_need_175 mh_a25 (xn_in (by omega) (by decide)) ?_
            rw [nI_clamp (by omega)]
            rw [r1]
            refine eMO_need_176 rfl ?_
            refine eMO_need_177 mh_o rfl ?_
            refine eMO_need_180 ?_
            refine eMO_need_182 mh_a25 (xn_in (by omega) (by decide)) ?_
            rw [nI_clamp (by omega)]
            rw [r2]
            refine eMO_need_183 mh_o (Nat.le_of_ble_eq_true rfl) (sMO_isOver k hxi hyj) ?_
            rintro _ _ ⟨rfl, rfl⟩
            refine ⟨_, rfl, ?_⟩
            rw [c3]
            refine eMO_need_186 (fun c => absurd c (by decide)) (fun c186 => ?_)
            refine eMO_need_189 ?_
            refine eMO_need_190 ?_
            refine eMO_need_192 (fun c => absurd c (nI_nlt (by omega) (by omega))) (fun c192 => ?_)
            refine eMO_need_195 ?_
            refine eMO_need_196 ?_
            exact t200 _
theorem lMO_need3 {l : List Nat} {v1 v2 : Option Value} (k0 : isM p S F T H fr M ze0 si0) (hx : ∀ x ∈ l, x < b_s S) (hl : l.length ≤ 112) (h4 : ze0 4 = nI l.length)
  (kk : ∀ si', frS ze0 si0 ze0 si' → mRw ze0 si' l → (∀ i, i < l.length → si' 26 i = b2i (kpF F l i)) → Φ (.returned none) (mh h0 bm ze0 si')) :
  ∀ (n i : Nat) (si : Nat → Nat → Int32) (v4 v5 : Option Value), i + n = l.length → frS ze0 si0 ze0 si → mRw ze0 si l → (∀ q, q < i → si 26 q = b2i (kpF F l q)) → x_K P (d + 1) mMO_need 116 [some (.ref bm), v1, v2, some (.int (nI i)), v4, v5] [] (mh h0 bm ze0 si) Φ := by
  intro n
  induction n with
  | zero =>
    intro i si v4 v5 hi f kr ek
    have ei : i = l.length := by omega
    subst ei
    refine eMO_need_116 ?_
    refine eMO_need_117 rfl ?_
    refine eMO_need_118 mh_o rfl ?_
    rw [h4]
    refine eMO_need_121 (fun c121 => ?_) (fun c => absurd (nI_le (Nat.le_refl _) (by omega)) c)
    exact eMO_need_239 (kk si f kr ek)
  | succ n ih =>
    intro i si v4 v5 hi f kr ek
    obtain ⟨x, hxi⟩ : ∃ x, l[i]? = some x := ⟨l[i]'(by omega), List.getElem?_eq_getElem (by omega)⟩
    refine eMO_need_116 ?_
    refine eMO_need_117 rfl ?_
    refine eMO_need_118 mh_o rfl ?_
    rw [h4]
    refine eMO_need_121 (fun c => absurd c (nI_ge (by omega) (by omega))) (fun c121 => ?_)
    refine eMO_need_124 rfl ?_
    refine eMO_need_125 mh_o rfl ?_
    refine eMO_need_128 ?_
    refine eMO_need_129 ?_
    refine eMO_need_130 mh_a26 (xn_in (by omega) (by decide)) ?_
    rw [mh_p26, nI_clamp (by omega)]
    refine eMO_need_131 ?_
    refine eMO_need_132 ?_
    skip
    refine lMO_need3i (si1 := si) k0 hx hl hxi (fun si' v5' f' e25 eq ei => ?_) kr l.length 0 true _ _ (Nat.zero_add _) (f.trans ⟨fun _ _ => rfl, fun K _ h26 => if_neg h26⟩) rfl (fun q hq => by show upd (si 26) i _ q = _; exact pk_un hq) (by show upd (si 26) i _ i = _; exact pk_us) (by rw [Bool.true_and]; rfl)
    refine eMO_need_233 ?_
    rw [nI_1]
    skip
    refine eMO_need_236 ?_
    refine ih (i + 1) si' _ _ (by omega) f' ⟨h4, fun a b hab => by rw [e25]; exact kr.2 a b hab⟩ (fun q hq => ?_)
    by_cases c1 : q = i
    · rw [c1]; exact ei
    · rw [eq q c1]; exact ek q (by omega)
theorem sMO_need {u t : Nat} {ze : Nat → Int32} {si : Nat → Nat → Int32} (k : isM p S F T H fr M ze si) (hu : u < 6) (ht : t < 6) : x_K P (d + 1) mMO_need 0 [some (.ref bm), some (.int (nI u)), some (.int (nI t)), none, none, none] [] (mh h0 bm ze si) (fun oc h' => oc = .returned none ∧ ∃ ze' si' l, h' = mh h0 bm ze' si' ∧ frS ze si ze' si' ∧ mRw ze' si' l ∧ l.length ≤ 112 ∧ (∀ x ∈ l, x < b_s S) ∧ (l.map (b_wa S)).foldl addL [] = offF S p u t ∧ ∀ i, i < l.length → si' 26 i = b2i (kpF F l i)) := by
  refine eMO_need_0 rfl ?_
  refine eMO_need_1 ?_
  refine eMO_need_2 mh_o (Nat.le_of_ble_eq_true rfl) ?_
  rw [mh_f4]
  refine eMO_need_5 ?_
  refine eMO_need_6 ?_
  skip
  have f1 : frS ze si (upd ze 4 0) si := ⟨fun j h4 => if_neg h4, fun _ _ _ => rfl⟩
  refine lMO_need1 k hu (fun ze1 si1 l1 g1 r1 b1 x1 e1 => ?_) (b_s S) 0 [] (upd ze 4 0) si (Nat.zero_add _) f1 ⟨pk_us, fun i x hi => by simp at hi⟩ (Nat.le_refl _) (fun x hx => by cases hx) rfl
  refine eMO_need_35 ?_
  refine eMO_need_36 ?_
  skip
  refine lMO_need2 k hu ht (fun ze2 si2 l2 v4 v5 g2 r2 b2 x2 e2 => ?_) 6 0 l1 ze1 si1 _ _ rfl g1 r1 (by omega) x1 (by rw [e1]; rfl)
  refine eMO_need_114 ?_
  refine eMO_need_115 ?_
  skip
  refine lMO_need3 (k.sc g2) x2 b2 r2.1 (fun si3 g3 r3 e3 => ⟨rfl, ze2, si3, l2, rfl, g2.trans g3, r3, b2, x2, e2, e3⟩) l2.length 0 si2 _ _ (Nat.zero_add _) frS.rf r2 (fun q hq => absurd hq (Nat.not_lt_zero _))
end

