/-! gatherOffered and gatherNeed -/
def lp {α : Type} (f : Nat → α → α) : Nat → Nat → α → α
  | 0, _, a => a
  | j + 1, k, a => lp f j (k + 1) (f k a)
def offS (S : bS) (u k : Nat) (l : List Nat) : List Nat := if b_en S k = false ∧ b_su S k % 6 = u then addL l (b_wa S k) else l
def offH (S : bS) (p : Nat → Nat) (u t k : Nat) (l : List Nat) : List Nat := match lkF p (6 * k + u) with
  | none => l
  | some j => if k = t then l else (b_H S j).foldl addL l
def offF (S : bS) (p : Nat → Nat) (u t : Nat) : List Nat := lp (offH S p u t) 6 0 (lp (offS S u) (b_s S) 0 [])
def needF (K : List (Nat × sp3)) (l : List Nat) : List Nat := l.filter (fun x => !(l.any (fun y => covB K y x)))
section
variable {P : x_P} {b : Nat} {p : Nat → Nat} {Z : Nat × Nat × (Nat → Option x_E)} {S : bS} {z : Nat × Nat} {d : Nat}
theorem lBT_off1 {j u t : Nat} {v3 : Option Value} {Φ : Outcome → x_H → Prop} {L : List Nat} (hj : j < 10) (hu : frF p j = u) (hu6 : u < 6)
  (kk : ∀ h1, isB P b p Z (bs_of S L) z h1 → x_K P (d + 3) mBT_gatherOffered 61 [some (.ref b), some (.ref (b + 16 + 7 * j)), some (.int (nI (b_s S))), v3] [] h1 Φ) :
  ∀ (i k : Nat) (l : List Nat) (h : x_H), k + i = b_s S → lp (offS S u) i k l = L → isB P b p Z (bs_of S l) z h → x_K P (d + 3) mBT_gatherOffered 9 [some (.ref b), some (.ref (b + 16 + 7 * j)), some (.int (nI k)), v3] [] h Φ := by
  intro i
  induction i with
  | zero =>
    intro k l h hk hL kB
    have e : k = b_s S := by omega
    subst e
    have hs := kB.obj.2.2
    refine eBT_gatherOffered_9 ?_
    refine eBT_gatherOffered_10 rfl ?_
    refine eBT_gatherOffered_11 kB.obj.1 rfl ?_
    refine eBT_gatherOffered_14 (fun _ => kk h (by rw [← hL]; exact kB)) (fun c => absurd (nI_le (Nat.le_refl _) (show b_s S < 2 ^ 31 by have : b_s S ≤ 16 := hs; omega)) c)
  | succ i ih =>
    intro k l h hk hL kB
    have hs : b_s S ≤ 16 := kB.obj.2.2
    have hlt : k < b_s S := by omega
    obtain ⟨fe, he, hev⟩ := kB.en
    obtain ⟨fs, hsu, hsv⟩ := kB.su
    obtain ⟨fw, hwa, hwv⟩ := kB.wa
    have he9 : fe k = b2i (b_en S k) := hev k (by omega)
    have hs9 : fs k = nI (b_su S k) ∧ b_su S k < 8 := hsv k (by omega)
    have hw9 : fw k = nI (b_wa S k) ∧ b_wa S k < 16 := hwv k (by omega)
    have nxt : ∀ l' h', offS S u k l = l' → isB P b p Z (bs_of S l') z h' → x_K P (d + 3) mBT_gatherOffered 55 [some (.ref b), some (.ref (b + 16 + 7 * j)), some (.int (nI k)), v3] [] h' Φ := by
      intro l' h' e1 k1
      refine eBT_gatherOffered_55 ?_
      refine eBT_gatherOffered_58 ?_
      rw [nI_1]
      exact ih (k + 1) l' h' (by omega) (by rw [← e1]; exact hL) k1
    refine eBT_gatherOffered_9 ?_
    refine eBT_gatherOffered_10 rfl ?_
    refine eBT_gatherOffered_11 kB.obj.1 rfl ?_
    refine eBT_gatherOffered_14 (fun c => absurd c (nI_ge hlt (show b_s S < 2 ^ 31 by omega))) (fun _ => ?_)
    refine eBT_gatherOffered_17 rfl ?_
    refine eBT_gatherOffered_18 kB.obj.1 rfl ?_
    refine eBT_gatherOffered_21 ?_
    refine eBT_gatherOffered_22 he (xn_in (by omega) (by decide)) ?_
    rw [nI_clamp (by omega), he9]
    refine eBT_gatherOffered_23 (fun c => b2i_it c fun c => ?_) (fun c => b2i_if c fun c => ?_)
    · exact nxt l h (if_neg (fun z => by rw [c] at z; exact absurd z.1 (by decide))) kB
    refine eBT_gatherOffered_26 rfl ?_
    refine eBT_gatherOffered_27 kB.obj.1 rfl ?_
    refine eBT_gatherOffered_30 ?_
    refine eBT_gatherOffered_31 hsu (xn_in (by omega) (by decide)) ?_
    rw [nI_clamp (by omega), hs9.1]
    refine eBT_gatherOffered_32 (Nat.le_of_ble_eq_true rfl) (sBT_brokerOf hs9.2) ?_
    rintro _ h1 ⟨rfl, rfl⟩
    refine ⟨_, rfl, ?_⟩
    refine eBT_gatherOffered_35 rfl ?_
    refine eBT_gatherOffered_36 (kB.lk hj) rfl ?_
    rw [hu]
    refine eBT_gatherOffered_39 (fun c2 => ?_) (fun c2 => ?_)
    · exact nxt l h1 (if_neg (fun z => c2 (by rw [z.2]))) kB
    have c3 : b_su S k % 6 = u := (nI_eq (by omega) (by omega)).mp c2
    refine eBT_gatherOffered_42 rfl ?_
    refine eBT_gatherOffered_43 kB.obj.1 rfl ?_
    refine eBT_gatherOffered_46 rfl ?_
    refine eBT_gatherOffered_47 kB.obj.1 rfl ?_
    refine eBT_gatherOffered_50 ?_
    refine eBT_gatherOffered_51 hwa (xn_in (by omega) (by decide)) ?_
    rw [nI_clamp (by omega), hw9.1]
    obtain ⟨fr, hr⟩ := kB.of.cell
    refine eBT_gatherOffered_52 hr (Nat.le_of_ble_eq_true rfl) ((sRO_add kB.of hw9.2).up (d := d + 1) (by omega)) ?_
    rintro _ h2 ⟨rfl, k2, g2⟩
    refine ⟨_, rfl, ?_⟩
    exact nxt _ h2 (if_pos ⟨c, c3⟩) (kB.mOf k2 g2)
theorem lBT_off2 {j u t : Nat} {Φ : Outcome → x_H → Prop} {L : List Nat} (hj : j < 10) (hu : frF p j = u) (hu6 : u < 6) (ht : toF p j = t) (ht6 : t < 6)
  (kk : ∀ h1, isB P b p Z (bs_of S L) z h1 → Φ (.returned none) h1) :
  ∀ (i k : Nat) (l : List Nat) (h : x_H) (v3 : Option Value), k + i = 6 → lp (offH S p u t) i k l = L → isB P b p Z (bs_of S l) z h → x_K P (d + 3) mBT_gatherOffered 63 [some (.ref b), some (.ref (b + 16 + 7 * j)), some (.int (nI k)), v3] [] h Φ := by
  intro i
  induction i with
  | zero =>
    intro k l h v3 hk hL kB
    have e : k = 6 := by omega
    subst e
    refine eBT_gatherOffered_63 ?_
    refine eBT_gatherOffered_64 ?_
    refine eBT_gatherOffered_66 (fun _ => eBT_gatherOffered_108 (kk h (by rw [← hL]; exact kB))) (fun c => absurd (by decide) c)
  | succ i ih =>
    intro k l h v3 hk hL kB
    have hlt : k < 6 := by omega
    have nxt : ∀ l' h' v, offH S p u t k l = l' → isB P b p Z (bs_of S l') z h' → x_K P (d + 3) mBT_gatherOffered 102 [some (.ref b), some (.ref (b + 16 + 7 * j)), some (.int (nI k)), v] [] h' Φ := by
      intro l' h' v e1 k1
      refine eBT_gatherOffered_102 ?_
      refine eBT_gatherOffered_105 ?_
      rw [nI_1]
      exact ih (k + 1) l' h' v (by omega) (by rw [← e1]; exact hL) k1
    refine eBT_gatherOffered_63 ?_
    refine eBT_gatherOffered_64 ?_
    refine eBT_gatherOffered_66 (fun c => absurd c (nI_ge (b := 6) hlt (by decide))) (fun _ => ?_)
    refine eBT_gatherOffered_69 rfl ?_
    refine eBT_gatherOffered_70 ?_
    refine eBT_gatherOffered_71 rfl ?_
    refine eBT_gatherOffered_72 (kB.lk hj) rfl ?_
    rw [hu]
    refine eBT_gatherOffered_75 kB.obj.1 (Nat.le_of_ble_eq_true rfl) (sBT_linkBetween kB hlt hu6) ?_
    rintro _ h1 ⟨rfl, rfl⟩
    refine ⟨_, rfl, ?_⟩
    refine eBT_gatherOffered_78 (x_isr _) ?_
    refine eBT_gatherOffered_79 (x_isr _) ?_
    refine eBT_gatherOffered_80 (fun e => ?_) (fun a e => ?_)
    · have e1 : lkF p (6 * k + u) = none := by
        cases h9 : lkF p (6 * k + u) with
        | none => rfl
        | some j => rw [h9] at e; cases e
      exact nxt l h1 _ (by rw [offH, e1]) kB
    · obtain ⟨j', e1, e2⟩ := Option.map_eq_some_iff.mp e
      subst e2
      have hj' := lkF_lt e1 (by omega)
      rw [e]
      refine eBT_gatherOffered_83 ?_
      refine eBT_gatherOffered_84 rfl ?_
      refine eBT_gatherOffered_85 (kB.lk hj) rfl ?_
      rw [ht]
      refine eBT_gatherOffered_88 (fun c => ?_) (fun c => ?_)
      · exact nxt l h1 _ (by rw [offH, e1]; exact if_pos ((nI_eq (by omega) (by omega)).mp c)) kB
      show x_K P (d + 3) mBT_gatherOffered 91 [some (.ref b), some (.ref (b + 16 + 7 * j)), some (.int (nI k)), some (.ref (b + 16 + 7 * j'))] [] h1 Φ
      refine eBT_gatherOffered_91 rfl ?_
      refine eBT_gatherOffered_92 kB.obj.1 rfl ?_
      refine eBT_gatherOffered_95 rfl ?_
      refine eBT_gatherOffered_96 (kB.lk hj') rfl ?_
      obtain ⟨fr, hr⟩ := kB.of.cell
      refine eBT_gatherOffered_99 hr rfl (Nat.le_of_ble_eq_true rfl) (sRO_addAll kB.of (kB.rH hj') (by simp; omega) (by simp; omega)) ?_
      rintro _ h2 ⟨rfl, k2, g2⟩
      refine ⟨_, rfl, ?_⟩
      exact nxt _ h2 _ (by rw [offH, e1]; exact if_neg (fun z => c (by rw [z]))) (kB.mOf k2 g2)
theorem sBT_gatherOffered {h : x_H} {j : Nat} (kB : isB P b p Z S z h) (hj : j < 10) (hp : isP p) : x_K P (d + 3) mBT_gatherOffered 0 [some (.ref b), some (.ref (b + 16 + 7 * j)), none, none] [] h (fun oc h' => oc = .returned none ∧ isB P b p Z (bs_of S (offF S p (frF p j) (toF p j))) z h') := by
  obtain ⟨h1, h2, -⟩ := lkF_j hp hj
  obtain ⟨fr, hr⟩ := kB.of.cell
  refine eBT_gatherOffered_0 rfl ?_
  refine eBT_gatherOffered_1 kB.obj.1 rfl ?_
  refine eBT_gatherOffered_4 hr (Nat.le_of_ble_eq_true rfl) (sRO_clear kB.of) ?_
  rintro _ h3 ⟨rfl, k3, g3⟩
  refine ⟨_, rfl, ?_⟩
  refine eBT_gatherOffered_7 ?_
  refine eBT_gatherOffered_8 ?_
  refine lBT_off1 (t := toF p j) hj rfl h1 (fun h4 k4 => ?_) (b_s S) 0 [] h3 (by omega) rfl (kB.mOf k3 g3)
  refine eBT_gatherOffered_61 ?_
  refine eBT_gatherOffered_62 ?_
  exact lBT_off2 hj rfl h1 rfl h2 (fun h5 k5 => ⟨rfl, k5⟩) 6 0 _ h4 none (by omega) rfl k4
theorem lBT_need {Φ : Outcome → x_H → Prop} (kk : ∀ h1, isB P b p Z (bs_nd S (needF (b_K S) (b_of S))) z h1 → Φ (.returned none) h1) (hnd : (b_of S).Nodup) (h16 : ∀ y ∈ b_of S, y < 16) :
  ∀ (i k : Nat) (h : x_H) (v2 : Option Value), k + i = (b_of S).length → isB P b p Z (bs_nd S (((b_of S).take k).filter (fun x => !((b_of S).any (fun y => covB (b_K S) y x))))) z h → x_K P (d + 2) mBT_gatherNeed 9 [some (.ref b), some (.int (nI k)), v2] [] h Φ := by
  intro i
  induction i with
  | zero =>
    intro k h v2 hk kB
    have e : k = (b_of S).length := by omega
    subst e
    have hl := kB.of.len
    obtain ⟨fr, hr⟩ := kB.of.cell
    refine eBT_gatherNeed_9 ?_
    refine eBT_gatherNeed_10 rfl ?_
    refine eBT_gatherNeed_11 kB.obj.1 rfl ?_
    refine eBT_gatherNeed_14 hr (Nat.le_of_ble_eq_true rfl) (sRO_size kB.of) ?_
    rintro _ h1 ⟨rfl, rfl⟩
    refine ⟨_, rfl, ?_⟩
    refine eBT_gatherNeed_17 (fun _ => eBT_gatherNeed_58 (kk h1 (by rw [needF]; rw [List.take_length] at kB; exact kB))) (fun c => absurd (nI_le (Nat.le_refl _) (show (b_of S).length < 2 ^ 31 by have : (b_of S).length ≤ 16 := hl; omega)) c)
  | succ i ih =>
    intro k h v2 hk kB
    have hl : (b_of S).length ≤ 16 := kB.of.len
    have hlt : k < (b_of S).length := by omega
    have e : (b_of S)[k]? = some (b_of S)[k] := List.getElem?_eq_getElem hlt
    have hx := h16 _ (List.getElem_mem hlt)
    obtain ⟨fr, hr⟩ := kB.of.cell
    obtain ⟨c1, -, c3, -⟩ := kB.cat
    have nxt : ∀ h' v, isB P b p Z (bs_nd S (((b_of S).take (k + 1)).filter (fun x => !((b_of S).any (fun y => covB (b_K S) y x))))) z h' → x_K P (d + 2) mBT_gatherNeed 52 [some (.ref b), some (.int (nI k)), v] [] h' Φ := by
      intro h' v k1
      refine eBT_gatherNeed_52 ?_
      refine eBT_gatherNeed_55 ?_
      rw [nI_1]
      exact ih (k + 1) h' v (by omega) k1
    have tk : (b_of S).take (k + 1) = (b_of S).take k ++ [(b_of S)[k]] := List.take_succ_eq_append_getElem hlt
    refine eBT_gatherNeed_9 ?_
    refine eBT_gatherNeed_10 rfl ?_
    refine eBT_gatherNeed_11 kB.obj.1 rfl ?_
    refine eBT_gatherNeed_14 hr (Nat.le_of_ble_eq_true rfl) (sRO_size kB.of) ?_
    rintro _ h1 ⟨rfl, rfl⟩
    refine ⟨_, rfl, ?_⟩
    refine eBT_gatherNeed_17 (fun c => absurd c (nI_ge hlt (show (b_of S).length < 2 ^ 31 by omega))) (fun _ => ?_)
    refine eBT_gatherNeed_20 rfl ?_
    refine eBT_gatherNeed_21 kB.obj.1 rfl ?_
    refine eBT_gatherNeed_24 ?_
    refine eBT_gatherNeed_25 hr (Nat.le_of_ble_eq_true rfl) (sRO_get kB.of e) ?_
    rintro _ h2 ⟨rfl, rfl⟩
    refine ⟨_, rfl, ?_⟩
    refine eBT_gatherNeed_28 ?_
    refine eBT_gatherNeed_29 rfl ?_
    refine eBT_gatherNeed_30 kB.obj.1 rfl ?_
    refine eBT_gatherNeed_33 ?_
    refine eBT_gatherNeed_34 rfl ?_
    refine eBT_gatherNeed_35 kB.obj.1 rfl ?_
    refine eBT_gatherNeed_38 c1 rfl (Nat.le_of_ble_eq_true rfl) (sCA_hasCoverer c1 c3 kB.of hx) ?_
    rintro _ h3 ⟨rfl, rfl⟩
    refine ⟨_, rfl, ?_⟩
    refine eBT_gatherNeed_41 (fun c => b2i_it c fun c => ?_) (fun c => b2i_if c fun c => ?_)
    · refine nxt h3 _ ?_
      rw [tk, List.filter_append, List.filter_cons_of_neg (by rw [show (b_of S).any (fun y => covB (b_K S) y (b_of S)[k]) = true from c]; simp), List.filter_nil, List.append_nil]
      exact kB
    · obtain ⟨fr2, hr2⟩ := kB.nd.cell
      refine eBT_gatherNeed_44 rfl ?_
      refine eBT_gatherNeed_45 kB.obj.1 rfl ?_
      refine eBT_gatherNeed_48 ?_
      refine eBT_gatherNeed_49 hr2 (Nat.le_of_ble_eq_true rfl) (sRO_add kB.nd hx) ?_
      rintro _ h4 ⟨rfl, k4, g4⟩
      refine ⟨_, rfl, ?_⟩
      refine nxt h4 _ ?_
      have hni : (b_of S)[k] ∉ ((b_of S).take k).filter (fun x => !((b_of S).any (fun y => covB (b_K S) y x))) := by
        intro hm
        have hm2 := (List.mem_filter.mp hm).1
        have hd2 : ((b_of S).take k ++ [(b_of S)[k]]).Nodup := by rw [← tk]; exact hnd.sublist (List.take_sublist _ _)
        exact (List.nodup_append.mp hd2).2.2 _ hm2 _ (by simp) rfl
      rw [tk, List.filter_append, List.filter_cons_of_pos (by rw [show (b_of S).any (fun y => covB (b_K S) y (b_of S)[k]) = false from c]; rfl), List.filter_nil]
      have k5 := kB.mNd k4 g4
      rw [show b_nd (bs_nd S (((b_of S).take k).filter (fun x => !((b_of S).any (fun y => covB (b_K S) y x))))) = ((b_of S).take k).filter (fun x => !((b_of S).any (fun y => covB (b_K S) y x))) from rfl, if_neg hni] at k5
      exact k5
theorem sBT_gatherNeed {h : x_H} (kB : isB P b p Z S z h) : x_K P (d + 2) mBT_gatherNeed 0 [some (.ref b), none, none] [] h (fun oc h' => oc = .returned none ∧ isB P b p Z (bs_nd S (needF (b_K S) (b_of S))) z h') := by
  obtain ⟨fr, hr⟩ := kB.nd.cell
  refine eBT_gatherNeed_0 rfl ?_
  refine eBT_gatherNeed_1 kB.obj.1 rfl ?_
  refine eBT_gatherNeed_4 hr (Nat.le_of_ble_eq_true rfl) (sRO_clear kB.nd) ?_
  rintro _ h3 ⟨rfl, k3, g3⟩
  refine ⟨_, rfl, ?_⟩
  refine eBT_gatherNeed_7 ?_
  refine eBT_gatherNeed_8 ?_
  exact lBT_need (fun h4 k4 => ⟨rfl, k4⟩) kB.of.nd kB.of.b16 (b_of S).length 0 h3 none (by omega) (kB.mNd k3 g3)
end

