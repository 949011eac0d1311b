/-! wants, handle -/
def wantsF (S : bS) (c : Nat) (w : Int32 × Int32 × Int32) (k : Nat) : Bool := !(b_en S k) && b_su S k == c && kM (b_K S) (b_wa S k) w.1 w.2.1 w.2.2
def wantF (S : bS) (c : Nat) (w : Int32 × Int32 × Int32) : Bool := (List.range' 0 (b_s S)).any (wantsF S c w)
def hdI (u m : Nat) (w : Int32 × Int32 × Int32) (c : Nat) (S : bS) : bS := if c % 6 = u ∧ wantF S c w = true then bs_cn (bs_Q S (ub (b_Q S) (10 + c) (b_Q S (10 + c) ++ [m]))) (ub (b_cn S) 1 (b_cn S 1 + 1)) else S
def hdL (p : Nat → Nat) (u m : Nat) (x : Int32) (w : Int32 × Int32 × Int32) (t : Nat) (S : bS) : bS := match lkF p (6 * u + t), lkF p (6 * t + u) with
  | some j, some j' => if nI t ≠ x ∧ (b_H S j').any (fun y => kM (b_K S) y w.1 w.2.1 w.2.2) = true then bs_cn (bs_Q S (ub (b_Q S) j (b_Q S j ++ [m * 3 + 2]))) (ub (b_cn S) 0 (b_cn S 0 + 1)) else S
  | _, _ => S
def handleF (p : Nat → Nat) (u m : Nat) (x : Int32) (w : Int32 × Int32 × Int32) (S : bS) : bS := lp (hdL p u m x w) 6 0 (lp (hdI u m w) 8 0 S)
theorem hdI_len {u m c i : Nat} {w : Int32 × Int32 × Int32} {S : bS} : (b_Q S i).length ≤ (b_Q (hdI u m w c S) i).length := by
  unfold hdI
  split
  · rw [bg_Q_cn, bg_Q]; exact ub_len
  · exact Nat.le_refl _
theorem hdL_len {p : Nat → Nat} {u m t i : Nat} {x : Int32} {w : Int32 × Int32 × Int32} {S : bS} : (b_Q S i).length ≤ (b_Q (hdL p u m x w t S) i).length := by
  unfold hdL
  split
  · split
    · rw [bg_Q_cn, bg_Q]; exact ub_len
    · exact Nat.le_refl _
  · exact Nat.le_refl _
theorem hdI_N {u m c : Nat} {w : Int32 × Int32 × Int32} {S : bS} : b_N (hdI u m w c S) = b_N S := by
  unfold hdI
  split
  · rw [bg_N_cn, bg_N_Q]
  · rfl
theorem hdL_N {p : Nat → Nat} {u m t : Nat} {x : Int32} {w : Int32 × Int32 × Int32} {S : bS} : b_N (hdL p u m x w t S) = b_N S := by
  unfold hdL
  split
  · split
    · rw [bg_N_cn, bg_N_Q]
    · rfl
  · rfl
section
variable {P : x_P} {b : Nat} {p : Nat → Nat} {Z : Nat × Nat × (Nat → Option x_E)} {z : Nat × Nat} {d : Nat}
theorem lBT_wants {S : bS} {h : x_H} {c n : Nat} {w : Int32 × Int32 × Int32} (kB : isB P b p Z S z h) (kn : isNo h n w.1 w.2.1 w.2.2) (hc : c < 8) :
  ∀ (i k : Nat), k + i = b_s S → x_K P (d + 4) mBT_wants 2 [some (.ref b), some (.int (nI c)), some (.ref n), some (.int (nI k))] [] h (fun oc h' => oc = .returned (some (.int (b2i ((List.range' k i).any (wantsF S c w))))) ∧ h' = h) := by
  have hs : b_s S ≤ 16 := kB.obj.2.2
  obtain ⟨fe, he, hev⟩ := kB.en
  obtain ⟨fs, hsu, hsv⟩ := kB.su
  obtain ⟨fw, hwa, hwv⟩ := kB.wa
  obtain ⟨c1, ⟨ed, nk, c2⟩, c3, c4⟩ := kB.cat
  intro i
  induction i with
  | zero =>
    intro k hk
    have e : k = b_s S := by omega
    subst e
    refine eBT_wants_2 ?_
    refine eBT_wants_3 rfl ?_
    refine eBT_wants_4 kB.obj.1 rfl ?_
    refine eBT_wants_7 (fun _ => ?_) (fun c => absurd (nI_le (Nat.le_refl _) (by omega)) c)
    refine eBT_wants_54 ?_
    exact eBT_wants_55 rfl ⟨rfl, rfl⟩
  | succ i ih =>
    intro k hk
    have hlt : k < b_s S := by omega
    have he9 := hev k (by omega)
    have hs9 := hsv k (by omega)
    have hw9 := hwv k (by omega)
    have nxt : wantsF S c w k = false → x_K P (d + 4) mBT_wants 48 [some (.ref b), some (.int (nI c)), some (.ref n), some (.int (nI k))] [] h (fun oc h' => oc = .returned (some (.int (b2i ((List.range' k (i + 1)).any (wantsF S c w))))) ∧ h' = h) := by
      intro e1
      refine eBT_wants_48 ?_
      refine eBT_wants_51 ?_
      rw [nI_1, List.range'_succ, List.any_cons, e1, Bool.false_or]
      exact ih (k + 1) (by omega)
    refine eBT_wants_2 ?_
    refine eBT_wants_3 rfl ?_
    refine eBT_wants_4 kB.obj.1 rfl ?_
    refine eBT_wants_7 (fun q => absurd q (nI_ge hlt (by omega))) (fun _ => ?_)
    refine eBT_wants_10 rfl ?_
    refine eBT_wants_11 kB.obj.1 rfl ?_
    refine eBT_wants_14 ?_
    refine eBT_wants_15 he (xn_in (by omega) (by decide)) ?_
    rw [nI_clamp (by omega), he9]
    refine eBT_wants_16 (fun q => b2i_it q fun q => ?_) (fun q => b2i_if q fun c5 => ?_)
    · exact nxt (by rw [wantsF, q]; rfl)
    refine eBT_wants_19 rfl ?_
    refine eBT_wants_20 kB.obj.1 rfl ?_
    refine eBT_wants_23 ?_
    refine eBT_wants_24 hsu (xn_in (by omega) (by decide)) ?_
    refine eBT_wants_25 ?_
    rw [nI_clamp (by omega), hs9.1]
    refine eBT_wants_26 (fun c6 => ?_) (fun c6 => ?_)
    · refine nxt ?_
      rw [wantsF, show (b_su S k == c) = false by simpa using fun z => c6 (by rw [z]), Bool.and_false, Bool.false_and]
    have c7 : b_su S k = c := (nI_eq (by omega) (by omega)).mp c6
    refine eBT_wants_29 rfl ?_
    refine eBT_wants_30 kB.obj.1 rfl ?_
    refine eBT_wants_33 rfl ?_
    refine eBT_wants_34 kB.obj.1 rfl ?_
    refine eBT_wants_37 ?_
    refine eBT_wants_38 hwa (xn_in (by omega) (by decide)) ?_
    refine eBT_wants_39 rfl ?_
    rw [nI_clamp (by omega), hw9.1]
    refine eBT_wants_40 c1 rfl (Nat.le_of_ble_eq_true rfl) (sCA_matches c1 c2 kn (by omega) (by omega)) ?_
    rintro _ h1 ⟨rfl, rfl⟩
    refine ⟨_, rfl, ?_⟩
    refine eBT_wants_43 (fun q => b2i_if q fun c8 => ?_) (fun q => b2i_it q fun c8 => ?_)
    · exact nxt (by rw [wantsF, c8, Bool.and_false])
    · refine eBT_wants_46 ?_
      refine eBT_wants_47 rfl ⟨?_, rfl⟩
      rw [List.range'_succ, List.any_cons, show wantsF S c w k = true by rw [wantsF, c5, c8, c7]; simp, Bool.true_or]
      rfl
theorem sBT_wants {S : bS} {h : x_H} {c n : Nat} {w : Int32 × Int32 × Int32} (kB : isB P b p Z S z h) (kn : isNo h n w.1 w.2.1 w.2.2) (hc : c < 8) : x_K P (d + 4) mBT_wants 0 [some (.ref b), some (.int (nI c)), some (.ref n), none] [] h (fun oc h' => oc = .returned (some (.int (b2i (wantF S c w)))) ∧ h' = h) := by
  refine eBT_wants_0 ?_
  refine eBT_wants_1 ?_
  exact lBT_wants kB kn hc (b_s S) 0 (by omega)
theorem lBT_hdI {u m n : Nat} {x : Int32} {w : Int32 × Int32 × Int32} {v6 v7 : Option Value} {Φ : Outcome → x_H → Prop} {Sf : bS} (hu : u < 6) (hn : (n, w) ∈ b_N Sf) (hq : ∀ j, j < 18 → (b_Q Sf j).length ≤ 1000)
  (kk : ∀ h1, isB P b p Z Sf z h1 → x_K P (d + 5) mBT_handle 86 [some (.ref b), some (.int (nI m)), some (.int (nI u)), some (.int x), some (.ref n), some (.int (nI 8)), v6, v7] [] h1 Φ) :
  ∀ (i k : Nat) (S : bS) (h : x_H), k + i = 8 → lp (hdI u m w) i k S = Sf → b_N S = b_N Sf → isB P b p Z S z h → x_K P (d + 5) mBT_handle 32 [some (.ref b), some (.int (nI m)), some (.int (nI u)), some (.int x), some (.ref n), some (.int (nI k)), v6, v7] [] h Φ := by
  intro i
  induction i with
  | zero =>
    intro k S h hk hS hN kB
    have e : k = 8 := by omega
    subst e
    refine eBT_handle_32 ?_
    refine eBT_handle_34 ?_
    refine eBT_handle_36 (fun _ => kk h (by rw [← hS]; exact kB)) (fun c => absurd (by decide) c)
  | succ i ih =>
    intro k S h hk hS hN kB
    have hlt : k < 8 := by omega
    have nxt : ∀ S' h', hdI u m w k S = S' → isB P b p Z S' z h' → x_K P (d + 5) mBT_handle 80 [some (.ref b), some (.int (nI m)), some (.int (nI u)), some (.int x), some (.ref n), some (.int (nI k)), v6, v7] [] h' Φ := by
      intro S' h' e1 k1
      refine eBT_handle_80 ?_
      refine eBT_handle_83 ?_
      rw [nI_1]
      exact ih (k + 1) S' h' (by omega) (by rw [← e1]; exact hS) (by rw [← e1, hdI_N]; exact hN) k1
    have kn := kB.nts.2.2 (n, w) (by rw [hN]; exact hn)
    refine eBT_handle_32 ?_
    refine eBT_handle_34 ?_
    refine eBT_handle_36 (fun c => absurd c (nI_ge (b := 8) hlt (by decide))) (fun _ => ?_)
    refine eBT_handle_39 ?_
    refine eBT_handle_41 (Nat.le_of_ble_eq_true rfl) (sBT_brokerOf hlt) ?_
    rintro _ h1 ⟨rfl, rfl⟩
    refine ⟨_, rfl, ?_⟩
    refine eBT_handle_44 ?_
    refine eBT_handle_45 (fun c => ?_) (fun c => ?_)
    · exact nxt S h1 (if_neg (fun z => c (by rw [z.1]))) kB
    have c1 : k % 6 = u := (nI_eq (by omega) (by omega)).mp c
    refine eBT_handle_48 rfl ?_
    refine eBT_handle_49 ?_
    refine eBT_handle_51 rfl ?_
    refine eBT_handle_53 kB.obj.1 rfl (Nat.le_of_ble_eq_true rfl) (sBT_wants (w := w) kB kn hlt) ?_
    rintro _ h2 ⟨rfl, rfl⟩
    refine ⟨_, rfl, ?_⟩
    refine eBT_handle_56 (fun c => b2i_if c fun c2 => ?_) (fun c => b2i_it c fun c2 => ?_)
    · exact nxt S h2 (if_neg (fun z => by rw [c2] at z; exact absurd z.2 (by decide))) kB
    have eS : hdI u m w k S = bs_cn (bs_Q S (ub (b_Q S) (10 + k) (b_Q S (10 + k) ++ [m]))) (ub (b_cn S) 1 (b_cn S 1 + 1)) := if_pos ⟨c1, c2⟩
    have hlen : (b_Q S (10 + k)).length < 1000 := by
      have h9 := hq (10 + k) (by omega)
      rw [← hS] at h9
      have h8 := lp_len (f := hdI u m w) (fun _ _ _ => hdI_len) i (k + 1) (hdI u m w k S) (10 + k)
      have h7 : (b_Q (hdI u m w k S) (10 + k)).length = (b_Q S (10 + k)).length + 1 := by
        rw [eS, bg_Q_cn, bg_Q, ub_s, List.length_append]
        rfl
      have h6 : (b_Q (lp (hdI u m w) (i + 1) k S) (10 + k)).length = (b_Q (lp (hdI u m w) i (k + 1) (hdI u m w k S)) (10 + k)).length := rfl
      omega
    obtain ⟨fi, hi1, hi2⟩ := kB.inb
    obtain ⟨fq, hq1⟩ := kB.qcell (j := 10 + k) (by omega)
    refine eBT_handle_59 rfl ?_
    refine eBT_handle_60 kB.obj.1 rfl ?_
    refine eBT_handle_63 ?_
    refine eBT_handle_65 hi1 rfl (xn_in (by omega) (by decide)) ?_
    rw [nI_clamp (by omega), hi2 k hlt]
    refine eBT_handle_66 ?_
    refine eBT_handle_67 hq1 (Nat.le_of_ble_eq_true rfl) ((kB.qadd (by omega) hlen).up (d := d + 1) (by omega)) ?_
    rintro _ h3 ⟨rfl, k3⟩
    refine ⟨_, rfl, ?_⟩
    obtain ⟨fc, hc, hcv⟩ := k3.cn
    refine eBT_handle_70 rfl ?_
    refine eBT_handle_71 k3.obj.1 rfl ?_
    refine eBT_handle_74 ?_
    refine eBT_handle_75 rfl rfl ?_
    refine eBT_handle_76 hc vq1 ?_
    refine eBT_handle_77 ?_
    refine eBT_handle_78 ?_
    refine eBT_handle_79 hc vq1 ?_
    refine nxt _ _ eS ?_
    have k4 := isB.cnt (x := 1) (i := 1) (by decide) k3 (by decide) hc hcv
    rw [bg_cn_Q] at k4
    exact k4
theorem lBT_hdL {u m n : Nat} {x : Int32} {w : Int32 × Int32 × Int32} {Φ : Outcome → x_H → Prop} {Sf : bS} (hu : u < 6) (hn : (n, w) ∈ b_N Sf) (hq : ∀ j, j < 18 → (b_Q Sf j).length ≤ 1000)
  (kk : ∀ h1, isB P b p Z Sf z h1 → Φ (.returned none) h1) :
  ∀ (i k : Nat) (S : bS) (h : x_H) (v6 v7 : Option Value), k + i = 6 → lp (hdL p u m x w) i k S = Sf → b_N S = b_N Sf → isB P b p Z S z h → x_K P (d + 5) mBT_handle 89 [some (.ref b), some (.int (nI m)), some (.int (nI u)), some (.int x), some (.ref n), some (.int (nI k)), v6, v7] [] h Φ := by
  intro i
  induction i with
  | zero =>
    intro k S h v6 v7 hk hS hN kB
    have e : k = 6 := by omega
    subst e
    refine eBT_handle_89 ?_
    refine eBT_handle_91 ?_
    refine eBT_handle_93 (fun _ => eBT_handle_170 (kk h (by rw [← hS]; exact kB))) (fun c => absurd (by decide) c)
  | succ i ih =>
    intro k S h v6 v7 hk hS hN kB
    have hlt : k < 6 := by omega
    have nxt : ∀ S' h' a b', hdL p u m x w k S = S' → isB P b p Z S' z h' → x_K P (d + 5) mBT_handle 164 [some (.ref b), some (.int (nI m)), some (.int (nI u)), some (.int x), some (.ref n), some (.int (nI k)), a, b'] [] h' Φ := by
      intro S' h' a b' e1 k1
      refine eBT_handle_164 ?_
      refine eBT_handle_167 ?_
      rw [nI_1]
      exact ih (k + 1) S' h' a b' (by omega) (by rw [← e1]; exact hS) (by rw [← e1, hdL_N]; exact hN) k1
    have kn := kB.nts.2.2 (n, w) (by rw [hN]; exact hn)
    refine eBT_handle_89 ?_
    refine eBT_handle_91 ?_
    refine eBT_handle_93 (fun c => absurd c (nI_ge (b := 6) hlt (by decide))) (fun _ => ?_)
    refine eBT_handle_96 rfl ?_
    refine eBT_handle_97 ?_
    refine eBT_handle_98 ?_
    refine eBT_handle_100 kB.obj.1 (Nat.le_of_ble_eq_true rfl) (sBT_linkBetween kB hu hlt) ?_
    rintro _ h1 ⟨rfl, rfl⟩
    refine ⟨_, rfl, ?_⟩
    refine eBT_handle_103 (x_isr _) ?_
    refine eBT_handle_105 rfl ?_
    refine eBT_handle_106 ?_
    refine eBT_handle_108 ?_
    refine eBT_handle_109 kB.obj.1 (Nat.le_of_ble_eq_true rfl) (sBT_linkBetween kB hlt hu) ?_
    rintro _ h2 ⟨rfl, rfl⟩
    refine ⟨_, rfl, ?_⟩
    refine eBT_handle_112 (x_isr _) ?_
    refine eBT_handle_114 (x_isr _) ?_
    have map_none : ∀ {o : Option Nat}, o.map (fun j => b + 16 + 7 * j) = none → o = none := by
      intro o ho
      cases o with
      | none => rfl
      | some j => cases ho
    refine eBT_handle_116 (fun e => ?_) (fun a e => ?_)
    · exact nxt S h2 _ _ (by rw [hdL, map_none e]) kB
    refine eBT_handle_119 (x_isr _) ?_
    refine eBT_handle_121 (fun e2 => ?_) (fun a2 e2 => ?_)
    · exact nxt S h2 _ _ (by rw [hdL, map_none e2]; split <;> simp_all) kB
    obtain ⟨j, e3, e4⟩ := Option.map_eq_some_iff.mp e
    obtain ⟨j', e5, e6⟩ := Option.map_eq_some_iff.mp e2
    subst e4
    subst e6
    have hj := lkF_lt e3 (by omega)
    have hj' := lkF_lt e5 (by omega)
    rw [e, e2]
    have eH : hdL p u m x w k S = if nI k ≠ x ∧ (b_H S j').any (fun y => kM (b_K S) y w.1 w.2.1 w.2.2) = true then bs_cn (bs_Q S (ub (b_Q S) j (b_Q S j ++ [m * 3 + 2]))) (ub (b_cn S) 0 (b_cn S 0 + 1)) else S := by rw [hdL, e3, e5]
    refine eBT_handle_124 ?_
    refine eBT_handle_126 ?_
    refine eBT_handle_127 (fun c => ?_) (fun c => ?_)
    · exact nxt S h2 _ _ (by rw [eH]; exact if_neg (fun z => z.1 c)) kB
    obtain ⟨c1, ⟨ed, nk, c2⟩, c3, c4⟩ := kB.cat
    show x_K P (d + 5) mBT_handle 130 [some (.ref b), some (.int (nI m)), some (.int (nI u)), some (.int x), some (.ref n), some (.int (nI k)), some (.ref (b + 16 + 7 * j)), some (.ref (b + 16 + 7 * j'))] [] h2 Φ
    refine eBT_handle_130 rfl ?_
    refine eBT_handle_131 kB.obj.1 rfl ?_
    refine eBT_handle_134 rfl ?_
    refine eBT_handle_136 (kB.lk hj') rfl ?_
    refine eBT_handle_139 rfl ?_
    refine eBT_handle_141 c1 rfl rfl (Nat.le_of_ble_eq_true rfl) (sCA_anyMatches c1 c2 kn (kB.rH hj') (by omega)) ?_
    rintro _ h3 ⟨rfl, rfl⟩
    refine ⟨_, rfl, ?_⟩
    refine eBT_handle_144 (fun c5 => b2i_if c5 fun c5 => ?_) (fun c5 => b2i_it c5 fun c5 => ?_)
    · exact nxt S h3 _ _ (by rw [eH]; exact if_neg (fun z => by rw [c5] at z; exact absurd z.2 (by decide))) kB
    have eS := eH.trans (if_pos ⟨c, c5⟩)
    have hlen : (b_Q S j).length < 1000 := by
      have h9 := hq j (by omega)
      rw [← hS] at h9
      have h8 := lp_len (f := hdL p u m x w) (fun _ _ _ => hdL_len) i (k + 1) (hdL p u m x w k S) j
      have h7 : (b_Q (hdL p u m x w k S) j).length = (b_Q S j).length + 1 := by
        rw [eS, bg_Q_cn, bg_Q, ub_s, List.length_append]
        rfl
      have h6 : (b_Q (lp (hdL p u m x w) (i + 1) k S) j).length = (b_Q (lp (hdL p u m x w) i (k + 1) (hdL p u m x w k S)) j).length := rfl
      omega
    refine eBT_handle_147 rfl ?_
    refine eBT_handle_149 ?_
    refine eBT_handle_150 ?_
    refine eBT_handle_151 rfl (Nat.le_of_ble_eq_true rfl) ((sBT_put (kd := 2) kB hj hlen).up (d := d + 2) (by omega)) ?_
    rintro _ h4 ⟨rfl, k4⟩
    refine ⟨_, rfl, ?_⟩
    obtain ⟨fc, hc, hcv⟩ := k4.cn
    refine eBT_handle_154 rfl ?_
    refine eBT_handle_155 k4.obj.1 rfl ?_
    refine eBT_handle_158 ?_
    refine eBT_handle_159 rfl rfl ?_
    refine eBT_handle_160 hc vq0 ?_
    refine eBT_handle_161 ?_
    refine eBT_handle_162 ?_
    refine eBT_handle_163 hc vq0 ?_
    refine nxt _ _ _ _ eS ?_
    have k5 := isB.cnt (x := 0) (i := 0) (by decide) k4 (by decide) hc hcv
    rw [bg_cn_Q] at k5
    exact k5
theorem lp_N {f : Nat → bS → bS} (hf : ∀ k S, b_N (f k S) = b_N S) : ∀ (n k : Nat) (S : bS), b_N (lp f n k S) = b_N S := by
  intro n
  induction n with
  | zero => intro k S; rfl
  | succ n ih => intro k S; exact (ih (k + 1) (f k S)).trans (hf k S)
theorem sBT_handle {S : bS} {h : x_H} {u m n : Nat} {x : Int32} {w : Int32 × Int32 × Int32} (kB : isB P b p Z S z h) (hu : u < 6) (hm : (b_N S)[m]? = some (n, w)) (hq : ∀ j, j < 18 → (b_Q (handleF p u m x w S) j).length ≤ 1000) : x_K P (d + 5) mBT_handle 0 [some (.ref b), some (.int (nI m)), some (.int (nI u)), some (.int x), none, none, none, none] [] h (fun oc h' => oc = .returned none ∧ isB P b p Z (handleF p u m x w S) z h') := by
  obtain ⟨⟨ed, nn, k1⟩, k2, k3⟩ := kB.nts
  have hal := k1.choose_spec.1
  have hlt : m < (b_N S).length := (List.getElem?_eq_some_iff.mp hm).1
  have hmem : (n, w) ∈ b_N S := List.mem_of_getElem? hm
  have kn := k3 _ hmem
  refine eBT_handle_0 ?_
  refine eBT_handle_1 (fun c => absurd c (nI_pos (by omega))) (fun _ => ?_)
  refine eBT_handle_4 ?_
  refine eBT_handle_5 rfl ?_
  refine eBT_handle_6 kB.obj.1 rfl ?_
  refine eBT_handle_9 hal (Nat.le_of_ble_eq_true rfl) (sAL_size k1) ?_
  rintro _ h1 ⟨rfl, rfl⟩
  refine ⟨_, rfl, ?_⟩
  rw [List.length_map]
  refine eBT_handle_12 (fun _ => ?_) (fun c => absurd (nI_lt hlt (by omega)) c)
  refine eBT_handle_16 rfl ?_
  refine eBT_handle_17 kB.obj.1 rfl ?_
  refine eBT_handle_20 ?_
  refine eBT_handle_21 hal (Nat.le_of_ble_eq_true rfl) ((sAL_get (y := n) k1 (by rw [List.getElem?_map, hm]; rfl)).up (d := d + 2) (by omega)) ?_
  rintro _ h2 ⟨rfl, rfl⟩
  refine ⟨_, rfl, ?_⟩
  refine eBT_handle_24 kn ?_
  refine eBT_handle_27 rfl ?_
  refine eBT_handle_29 ?_
  refine eBT_handle_30 ?_
  refine lBT_hdI (Sf := lp (hdI u m w) 8 0 S) hu (by rw [lp_N (f := hdI u m w) (fun _ _ => hdI_N)]; exact hmem) (fun j hj => Nat.le_trans (lp_len (f := hdL p u m x w) (fun _ _ _ => hdL_len) 6 0 _ j) (hq j hj)) (fun h3 k4 => ?_) 8 0 S h2 (by omega) rfl (by rw [lp_N (f := hdI u m w) (fun _ _ => hdI_N)]) kB
  refine eBT_handle_86 ?_
  refine eBT_handle_87 ?_
  exact lBT_hdL (Sf := handleF p u m x w S) hu (by rw [handleF, lp_N (f := hdL p u m x w) (fun _ _ => hdL_N), lp_N (f := hdI u m w) (fun _ _ => hdI_N)]; exact hmem) hq (fun h5 k5 => ⟨rfl, k5⟩) 6 0 _ h3 none none (by omega) rfl (by rw [handleF, lp_N (f := hdL p u m x w) (fun _ _ => hdL_N)]) k4
end

