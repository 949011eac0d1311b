/-! Notes and their account -/
section
variable {p : Nat → Nat} {S S' : bS} {u t j n : Nat} {C A O : Nat → sp3 → Nat} {C' A' O' G : Nat → Nat → Nat} {fr : Nat → Nat}
def acc (p : Nat → Nat) (S : bS) (fr : Nat → Nat) (C A O : Nat → sp3 → Nat) (C' A' O' G : Nat → Nat → Nat) : Prop := fF p S C A O ∧ fB S fr C C' G ∧ fN p S C' A' O' G ∧ ∀ j, j < 10 → rs p S j
theorem rs_sm (h : rs p S j) (e : sm S S') (eT : b_T S' = b_T S) (eH : b_H S' = b_H S) : rs p S' j := by
  unfold rs at h ⊢
  rw [e.2.2.2.1, eT, offF_sm e eH]
  exact h
theorem pd_note {K : List (Nat × sp3)} {φ : sp3} {X Q : List Nat} : pd K φ X (Q ++ [n * 3 + 2]) = pd K φ X Q ∧ apQ X (Q ++ [n * 3 + 2]) = apQ X Q := by
  have ea : apl (apQ X Q) (n * 3 + 2) = apQ X Q := by unfold apl; rw [if_pos (by omega)]
  constructor
  · rw [pd_app]
    show pd K φ X Q + ((if lv K φ (apl (apQ X Q) (n * 3 + 2)) = lv K φ (apQ X Q) then 0 else 1) + 0) = _
    rw [ea, if_pos rfl]
    rfl
  · rw [apQ_app]
    exact ea
theorem B1_sum {B : Nat → Nat → Nat} {k N : Nat} (hn : n < N) : sg (fun q => B1 B k n k q) N = sg (fun q => B k q) N + 1 := by
  have h := sg_up (f := fun q => B k q) (m := n) (e := 1) N hn
  rw [← h]
  refine sg_eq N (fun q _ => ?_)
  unfold B1
  by_cases c : q = n
  · rw [if_pos ⟨rfl, c⟩, if_pos c]
  · rw [if_neg (fun z => c z.2), if_neg c]
theorem B1_other {B : Nat → Nat → Nat} {k i q : Nat} (h : i ≠ k) : B1 B k n i q = B i q := if_neg (fun z => h z.1)
/-- a note is put into a line -/
theorem acc_put (h : acc p S fr C A O C' A' O' G) (hj : j < 10) (hn : n < (b_N S).length) (e : sm S S') (eT : b_T S' = b_T S) (eH : b_H S' = b_H S) (eQ : b_Q S' = ub (b_Q S) j (b_Q S j ++ [n * 3 + 2])) (hs : C' j n + 1 ≤ O' (frF p j) n + feed p (fun k => A' k n) j) : acc p S' fr C A O (B1 C' j n) A' O' G := by
  obtain ⟨⟨f1, f2, f3, f4, f5⟩, ⟨b1, b2⟩, ⟨n1, n2, n3, n4, n5, n6⟩, hr⟩ := h
  have eK := e.2.2.2.1
  have eN := e.2.2.2.2.2.2.2
  have hb : B1 C' j n j n = C' j n + 1 := if_pos ⟨rfl, rfl⟩
  refine ⟨⟨fun i hi φ => ?_, fun i hi φ => ?_, fun i hi => ?_, ?_, by rw [eK]; exact f5⟩, ⟨fun i hi => ?_, fun c hc => ?_⟩, ⟨fun i hi q => ?_, fun i hi q => ?_, n3, by rw [eN]; exact n4, n5, fun i hi m hm h2 => ?_⟩, fun i hi => rs_sm (hr i hi) e eT eH⟩
  · rw [eK, eH, eQ]
    by_cases c : i = j
    · subst c
      rw [ub_same, pd_note.1]
      exact f1 i hi φ
    · rw [ub_ne c]
      exact f1 i hi φ
  · rw [eK, eT, offF_sm e eH]
    exact f2 i hi φ
  · rw [eK, eH, eQ, eT]
    obtain ⟨g1, g2, g3, g4, g5, g6⟩ := f3 i hi
    by_cases c : i = j
    · subst c
      rw [ub_same, pd_note.2]
      · refine ⟨g1, g2, g3, g4, g5, fun m hm h2 => ?_⟩
        rcases List.mem_append.mp hm with h3 | h3
        · exact g6 m h3 h2
        · rw [List.mem_singleton.mp h3] at h2
          exact absurd (by omega) h2
      · exact b_K S
      · exact fi0
    · rw [ub_ne c]
      exact ⟨g1, g2, g3, g4, g5, g6⟩
  · rw [e.2.2.1, e.2.2.2.2.2.1, eK]
    exact f4
  · rw [eK, eN, eQ]
    have h1 := b1 i hi
    by_cases c : i = j
    · subst c
      rw [ub_same, List.length_append, List.length_singleton, B1_sum hn]
      omega
    · rw [ub_ne c, sg_eq (f := fun q => B1 C' j n i q) (g := fun q => C' i q) _ (fun q _ => B1_other c)]
      exact h1
  · rw [eN, eQ, ub_ne (by omega)]
    exact b2 c hc
  · rw [eQ]
    have h1 := n1 i hi q
    by_cases c : i = j
    · subst c
      rw [ub_same, List.count_append]
      by_cases c2 : q = n
      · subst c2
        rw [hb, List.count_cons_self, List.count_nil]
        omega
      · rw [List.count_cons_of_ne (by omega), List.count_nil, show B1 C' i n i q = C' i q from if_neg (fun z => c2 z.2)]
        exact h1
    · rw [ub_ne c, B1_other c]
      exact h1
  · have h1 := n2 i hi q
    unfold B1
    split
    · rename_i z
      rw [z.1, z.2]
      exact hs
    · exact h1
  · rw [eN]
    rw [eQ] at hm
    by_cases c : i = j
    · subst c
      rw [ub_same] at hm
      rcases List.mem_append.mp hm with h3 | h3
      · exact n6 i hi m h3 h2
      · rw [List.mem_singleton.mp h3]
        omega
    · rw [ub_ne c] at hm
      exact n6 i hi m hm h2
/-- a note is put into an inbox -/
theorem acc_inb {c : Nat} (h : acc p S fr C A O C' A' O' G) (hc : c < 8) (hn : n < (b_N S).length) (e : sm S S') (eT : b_T S' = b_T S) (eH : b_H S' = b_H S) {m : Nat} (eQ : b_Q S' = ub (b_Q S) (10 + c) (b_Q S (10 + c) ++ [m])) (hs : G c n + 1 ≤ O' (c % 6) n + infl p (fun k => A' k n) (c % 6)) : acc p S' fr C A O C' A' O' (B1 G c n) := by
  obtain ⟨⟨f1, f2, f3, f4, f5⟩, ⟨b1, b2⟩, ⟨n1, n2, n3, n4, n5, n6⟩, hr⟩ := h
  have eK := e.2.2.2.1
  have eN := e.2.2.2.2.2.2.2
  have eL : ∀ i, i < 10 → b_Q S' i = b_Q S i := fun i hi => by rw [eQ, ub_ne (by omega)]
  refine ⟨⟨fun i hi φ => ?_, fun i hi φ => ?_, fun i hi => ?_, ?_, by rw [eK]; exact f5⟩, ⟨fun i hi => ?_, fun c' hc' => ?_⟩, ⟨fun i hi q => ?_, n2, n3, by rw [eN]; exact n4, fun c' hc' q => ?_, fun i hi m hm h2 => ?_⟩, fun i hi => rs_sm (hr i hi) e eT eH⟩
  · rw [eK, eH, eL i hi]
    exact f1 i hi φ
  · rw [eK, eT, offF_sm e eH]
    exact f2 i hi φ
  · rw [eK, eH, eL i hi, eT]
    exact f3 i hi
  · rw [e.2.2.1, e.2.2.2.2.2.1, eK]
    exact f4
  · rw [eK, eN, eL i hi]
    exact b1 i hi
  · rw [eN, eQ]
    have h1 := b2 c' hc'
    by_cases z : c' = c
    · subst z
      rw [ub_same, List.length_append, List.length_singleton, B1_sum hn]
      omega
    · rw [ub_ne (by omega), sg_eq (f := fun q => B1 G c n c' q) (g := fun q => G c' q) _ (fun q _ => B1_other z)]
      exact h1
  · rw [eL i hi]
    exact n1 i hi q
  · have h1 := n5 c' hc' q
    unfold B1
    split
    · rename_i z
      rw [z.1, z.2]
      exact hs
    · exact h1
  · rw [eN]
    rw [eL i hi] at hm
    exact n6 i hi m hm h2
theorem acc_hdI {w : Int32 × Int32 × Int32} : ∀ (r c : Nat) (S : bS) (G : Nat → Nat → Nat), c + r = 8 → acc p S fr C A O C' A' O' G → n < (b_N S).length → (∀ c', c' < 8 → c ≤ c' → c' % 6 = u → G c' n + 1 ≤ O' u n + infl p (fun k => A' k n) u) →
    ∃ G2, acc p (lp (hdI u n w) r c S) fr C A O C' A' O' G2 := by
  intro r
  induction r with
  | zero => intro c S G _ h _ _; exact ⟨G, h⟩
  | succ r ih =>
    intro c S G hc h hn hs
    show ∃ G2, acc p (lp (hdI u n w) r (c + 1) (hdI u n w c S)) fr C A O C' A' O' G2
    by_cases cc : c % 6 = u ∧ wantF S c w = true
    · have e : hdI u n w c S = hdC n c S := by unfold hdI hdC; rw [if_pos cc]
      have eT : b_T (hdC n c S) = b_T S := by unfold hdC; rw [bg_T_cn, bg_T_Q]
      have eH : b_H (hdC n c S) = b_H S := by unfold hdC; rw [bg_H_cn, bg_H_Q]
      have eQ : b_Q (hdC n c S) = ub (b_Q S) (10 + c) (b_Q S (10 + c) ++ [n]) := by unfold hdC; rw [bg_Q_cn, bg_Q]
      rw [e]
      refine ih (c + 1) _ (B1 G c n) (by omega) (acc_inb h (by omega) hn hdC_sm eT eH eQ (by rw [cc.1]; exact hs c (by omega) (Nat.le_refl _) cc.1)) (by rw [hdC_sm.2.2.2.2.2.2.2]; exact hn) (fun c' h1 h2 h3 => ?_)
      rw [B1_other (by omega)]
      exact hs c' h1 (by omega) h3
    · have e : hdI u n w c S = S := by unfold hdI; rw [if_neg cc]
      rw [e]
      exact ih (c + 1) S G (by omega) h hn (fun c' h1 h2 h3 => hs c' h1 (by omega) h3)
theorem acc_hdL {w : Int32 × Int32 × Int32} {x : Int32} (hu : u < 6) : ∀ (r t : Nat) (S : bS) (C' : Nat → Nat → Nat), t + r = 6 → acc p S fr C A O C' A' O' G → n < (b_N S).length → (∀ j, j < 10 → frF p j = u → t ≤ toF p j → nI (toF p j) ≠ x → C' j n + 1 ≤ O' u n + feed p (fun k => A' k n) j) →
    ∃ C2, acc p (lp (hdL p u n x w) r t S) fr C A O C2 A' O' G := by
  intro r
  induction r with
  | zero => intro t S C' _ h _ _; exact ⟨C', h⟩
  | succ r ih =>
    intro t S C' ht h hn hs
    show ∃ C2, acc p (lp (hdL p u n x w) r (t + 1) (hdL p u n x w t S)) fr C A O C2 A' O' G
    have hN : b_N (hdL p u n x w t S) = b_N S := hdL_N
    have same : hdL p u n x w t S = S → ∃ C2, acc p (lp (hdL p u n x w) r (t + 1) (hdL p u n x w t S)) fr C A O C2 A' O' G := fun e => by
      rw [e]
      exact ih (t + 1) S C' (by omega) h hn (fun j h1 h2 h3 h4 => hs j h1 h2 (by omega) h4)
    cases hk : lkF p (6 * u + t) with
    | none =>
      refine same ?_
      unfold hdL
      rw [hk]
    | some j =>
      cases hk2 : lkF p (6 * t + u) with
      | none =>
        refine same ?_
        unfold hdL
        rw [hk, hk2]
      | some j' =>
        have hj := lkF_lt hk (by omega)
        have hkk := lkF_k hk
        rw [show (6 * u + t) / 6 = u by omega, show (6 * u + t) % 6 = t by omega] at hkk
        by_cases cc : nI t ≠ x ∧ (b_H S j').any (fun y => kM (b_K S) y w.1 w.2.1 w.2.2) = true
        · have e : hdL p u n x w t S = bs_cn (bs_Q S (ub (b_Q S) j (b_Q S j ++ [n * 3 + 2]))) (ub (b_cn S) 0 (b_cn S 0 + 1)) := by
            unfold hdL
            rw [hk, hk2]
            show (if _ ∧ _ then _ else _) = _
            rw [if_pos cc]
          have es : sm S (hdL p u n x w t S) := by
            rw [e]
            unfold sm
            rw [bg_n_cn, bg_n_Q, bg_g_cn, bg_g_Q, bg_s_cn, bg_s_Q, bg_K_cn, bg_K_Q, bg_su_cn, bg_su_Q, bg_wa_cn, bg_wa_Q, bg_en_cn, bg_en_Q, bg_N_cn, bg_N_Q]
            exact ⟨rfl, rfl, rfl, rfl, rfl, rfl, rfl, rfl⟩
          have eT : b_T (hdL p u n x w t S) = b_T S := by rw [e, bg_T_cn, bg_T_Q]
          have eH : b_H (hdL p u n x w t S) = b_H S := by rw [e, bg_H_cn, bg_H_Q]
          have eQ : b_Q (hdL p u n x w t S) = ub (b_Q S) j (b_Q S j ++ [n * 3 + 2]) := by rw [e, bg_Q_cn, bg_Q]
          refine ih (t + 1) _ (B1 C' j n) (by omega) (acc_put h hj hn es eT eH eQ (by rw [hkk.1]; exact hs j hj hkk.1 (by omega) (by rw [hkk.2]; exact cc.1))) (by rw [hN]; exact hn) (fun i h1 h2 h3 h4 => ?_)
          have hne : i ≠ j := fun z => by rw [z, hkk.2] at h3; omega
          rw [B1_other hne]
          exact hs i h1 h2 (by omega) h4
        · refine same ?_
          unfold hdL
          rw [hk, hk2]
          show (if _ ∧ _ then _ else _) = _
          rw [if_neg cc]
/-- a note is handled -/
theorem acc_handle {w : Int32 × Int32 × Int32} {x : Int32} (hu : u < 6) (h : acc p S fr C A O C' A' O' G) (hn : n < (b_N S).length) (h1 : ∀ j, j < 10 → frF p j = u → nI (toF p j) ≠ x → C' j n + 1 ≤ O' u n + feed p (fun k => A' k n) j) (h2 : ∀ c, c < 8 → c % 6 = u → G c n + 1 ≤ O' u n + infl p (fun k => A' k n) u) : ∃ C2 G2, acc p (handleF p u n x w S) fr C A O C2 A' O' G2 := by
  obtain ⟨G2, a1⟩ := acc_hdI (w := w) 8 0 S G rfl h hn (fun c a _ b => h2 c a b)
  have eN : b_N (lp (hdI u n w) 8 0 S) = b_N S := lp_N (fun k S => hdI_N) _ _ _
  obtain ⟨C2, a2⟩ := acc_hdL (w := w) (x := x) hu 6 0 _ C' rfl a1 (by rw [eN]; exact hn) (fun j a b _ d => h1 j a b d)
  exact ⟨C2, G2, a2⟩
/-- a note comes -/
theorem acc_pub {q : Nat × Int32 × Int32 × Int32} (hp : isP p) (hu : u < 6) (h : acc p S fr C A O C' A' O' G) : ∃ O2, acc p (pbS S q) fr C A O C' A' O2 G ∧ (∀ j, j < 10 → frF p j = u → C' j (b_N S).length + 1 ≤ O2 u (b_N S).length + feed p (fun k => A' k (b_N S).length) j) ∧ ∀ c, c < 8 → c % 6 = u → G c (b_N S).length + 1 ≤ O2 u (b_N S).length + infl p (fun k => A' k (b_N S).length) u := by
  obtain ⟨⟨f1, f2, f3, f4, f5⟩, ⟨b1, b2⟩, ⟨n1, n2, n3, n4, n5, n6⟩, hr⟩ := h
  have eN : b_N (pbS S q) = b_N S ++ [q] := rfl
  have eO : ∀ v w, offF (pbS S q) p v w = offF S p v w := fun v w => rfl
  have z0 : ∀ n, (b_N S).length ≤ n → sg (fun b => O' b n) 6 = 0 := fun n hn => by
    rw [sg_eq (g := fun _ => 0) 6 (fun b hb => n4 n hn b hb), sg_0]
  have zC : ∀ n, (b_N S).length ≤ n → ∀ j, j < 10 → A' j n = 0 ∧ C' j n = 0 := fun n hn j hj => by
    have hle : ∀ i, i < 10 → A' i n ≤ C' i n := fun i hi => by have := n1 i hi n; omega
    have h1 := tree_le (C := fun i => C' i n) (O := fun b => O' b n) hp (fun i hi => Nat.le_trans (n2 i hi n) (Nat.add_le_add_left (feed_le (A := fun k => A' k n) (A' := fun k => C' k n) hle hp hi) _)) hj
    rw [z0 n hn] at h1
    have := hle j hj
    have h2 : C' j n = 0 := Nat.le_zero.mp h1
    omega
  have zG : ∀ n, (b_N S).length ≤ n → ∀ c, c < 8 → G c n = 0 := fun n hn c hc => by
    have h1 := n5 c hc n
    rw [n4 n hn (c % 6) (by omega)] at h1
    have h2 : infl p (fun k => A' k n) (c % 6) ≤ infl p (fun _ => 0) (c % 6) := infl_le (fun k hk => Nat.le_of_eq (zC n hn k hk).1) (by omega)
    have h3 : infl p (fun _ => 0) (c % 6) = 0 := by
      unfold infl
      rw [sg_eq (g := fun _ => 0) 6 (fun m _ => by split <;> rfl), sg_0]
      split <;> rfl
    omega
  have o1 : B1 O' u (b_N S).length u (b_N S).length = 1 := by
    rw [show B1 O' u (b_N S).length u (b_N S).length = O' u (b_N S).length + 1 from if_pos ⟨rfl, rfl⟩, n4 _ (Nat.le_refl _) u hu]
  refine ⟨B1 O' u (b_N S).length, ⟨⟨f1, f2, f3, f4, f5⟩, ⟨fun j hj => ?_, fun c hc => ?_⟩, ⟨n1, fun j hj n => Nat.le_trans (n2 j hj n) (Nat.add_le_add_right B1_le _), fun n => ?_, fun n hn b hb => ?_, fun c hc n => Nat.le_trans (n5 c hc n) (Nat.add_le_add_right B1_le _), fun j hj m hm h2 => ?_⟩, hr⟩, fun j hj hf => ?_, fun c hc hf => ?_⟩
  · have h1 := b1 j hj
    rw [eN, List.length_append]
    have h2 := sg_n (f := fun n => C' j n) (n := (b_N S).length) (m := [q].length)
    exact Nat.le_trans h1 (Nat.add_le_add_left h2 _)
  · have h1 := b2 c hc
    rw [eN, List.length_append]
    exact Nat.le_trans h1 (sg_n (f := fun n => G c n) (n := (b_N S).length) (m := [q].length))
  · by_cases c : n = (b_N S).length
    · subst c
      have h1 := sg_up (f := fun b => O' b (b_N S).length) (m := u) (e := 1) 6 hu
      rw [z0 _ (Nat.le_refl _)] at h1
      rw [sg_eq (f := fun b => B1 O' u (b_N S).length b (b_N S).length) (g := fun i => if i = u then O' i (b_N S).length + 1 else O' i (b_N S).length) 6 (fun b _ => by
        unfold B1
        by_cases c2 : b = u
        · rw [if_pos ⟨c2, rfl⟩, if_pos c2]
        · rw [if_neg (fun z => c2 z.1), if_neg c2]), h1]
      exact Nat.le_refl _
    · rw [sg_eq (f := fun b => B1 O' u (b_N S).length b n) (g := fun b => O' b n) 6 (fun b _ => if_neg (fun z => c z.2))]
      exact n3 n
  · rw [eN, List.length_append, List.length_singleton] at hn
    rw [show B1 O' u (b_N S).length b n = O' b n from if_neg (fun z => by omega)]
    exact n4 n (by omega) b hb
  · have := n6 j hj m hm h2
    rw [eN, List.length_append]
    show _ < _ + 1
    omega
  · rw [o1, (zC _ (Nat.le_refl _) j hj).2]
    omega
  · rw [o1, zG _ (Nat.le_refl _) c hc]
    omega
end

