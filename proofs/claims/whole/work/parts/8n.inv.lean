/-! The account over all calls, and what it bounds -/
def enN (S : bS) : Nat := sg (fun q => if b_en S q then 1 else 0) (b_s S)
def INV (p : Nat → Nat) (S : bS) (fr : Nat → Nat) (t : Nat) : Prop := ∃ C A O C' A' O' G, acc p S fr C A O C' A' O' G ∧ (∀ φ, sg (fun b => O b φ) 6 ≤ b_s S + enN S) ∧ (b_K S).length ≤ b_s S ∧ b_s S ≤ 16 ∧ b_s S + enN S + (b_N S).length ≤ t ∧ ∀ q, b_s S ≤ q → b_en S q = false
section
variable {p : Nat → Nat} {S S' : bS} {u t j n : Nat} {C A O : Nat → sp3 → Nat} {C' A' O' G : Nat → Nat → Nat} {fr fr' : Nat → Nat}
theorem enN_le : enN S ≤ b_s S := by
  have := sg_mul (f := fun q => if b_en S q then 1 else 0) (c := 1) (b_s S) (fun q _ => by show (if _ then 1 else 0) ≤ 1; split <;> omega)
  unfold enN
  omega
theorem INV.bd (hp : isP p) (h : INV p S fr t) (ht : t ≤ 512) : (∀ j, j < 10 → fr j + (b_Q S j).length ≤ 1000) ∧ ∀ c, c < 8 → fr (10 + c) + (b_Q S (10 + c)).length ≤ 512 := by
  obtain ⟨C, A, O, C', A', O', G, ⟨⟨f1, f2, f3, f4, f5⟩, ⟨b1, b2⟩, ⟨n1, n2, n3, n4, n5, n6⟩, hr⟩, hO, hK, hs, hN, he⟩ := h
  have hen := enN_le (S := S)
  have cl : ∀ j, j < 10 → ∀ φ, C j φ ≤ b_s S + enN S := fun j hj φ => by
    have h1 := tree_le (C := fun i => C i φ) (O := fun b => O b φ) hp (fun i hi => by
      have h2 := f2 i hi φ
      have h3 := feed_le (A := fun k => A k φ) (A' := fun k => C k φ) (fun k hk => by have := f1 k hk φ; show A k φ ≤ C k φ; omega) hp hi
      show C i φ ≤ O (frF p i) φ + feed p (fun k => C k φ) i
      omega) hj
    exact Nat.le_trans h1 (hO φ)
  have hle : ∀ n i, i < 10 → A' i n ≤ C' i n := fun n i hi => by have := n1 i hi n; omega
  have tr : ∀ n i, i < 10 → C' i n ≤ O' (frF p i) n + feed p (fun k => C' k n) i := fun n i hi => Nat.le_trans (n2 i hi n) (Nat.add_le_add_left (feed_le (A := fun k => A' k n) (A' := fun k => C' k n) (hle n) hp hi) _)
  have cn : ∀ j, j < 10 → ∀ n, C' j n ≤ 1 := fun j hj n => Nat.le_trans (tree_le (C := fun i => C' i n) (O := fun b => O' b n) hp (tr n) hj) (n3 n)
  have gn : ∀ c, c < 8 → ∀ n, G c n ≤ 1 := fun c hc n => by
    have h1 := n5 c hc n
    have h2 := infl_le (p := p) (A := fun k => A' k n) (A' := fun k => C' k n) (hle n) (b := c % 6) (by omega)
    have h3 := tree6 (C := fun i => C' i n) (O := fun b => O' b n) hp (tr n) (c % 6) (by omega)
    have h4 := n3 n
    omega
  refine ⟨fun j hj => ?_, fun c hc => ?_⟩
  · have h1 := b1 j hj
    have h2 := sg_mul (f := fun f => C j (kf (b_K S) f)) (c := b_s S + enN S) (b_K S).length (fun f _ => cl j hj _)
    have h3 := sg_mul (f := fun n => C' j n) (c := 1) (b_N S).length (fun n _ => cn j hj n)
    have h4 : (b_K S).length * (b_s S + enN S) ≤ 16 * (b_s S + enN S) := Nat.mul_le_mul_right _ (by omega)
    omega
  · have h1 := b2 c hc
    have h3 := sg_mul (f := fun n => G c n) (c := 1) (b_N S).length (fun n _ => gn c hc n)
    omega
theorem INV.up (h : INV p S fr t) {t' : Nat} (ht : t ≤ t') : INV p S fr t' := by
  obtain ⟨C, A, O, C', A', O', G, a, hO, hK, hs, hN, he⟩ := h
  exact ⟨C, A, O, C', A', O', G, a, hO, hK, hs, by omega, he⟩
theorem INV.frc (h : INV p S fr t) (hf : ∀ j, j < 18 → fr' j = fr j) : INV p S fr' t := by
  obtain ⟨C, A, O, C', A', O', G, ⟨hF, ⟨b1, b2⟩, hN, hr⟩, r⟩ := h
  exact ⟨C, A, O, C', A', O', G, ⟨hF, ⟨fun j hj => by rw [hf j (by omega)]; exact b1 j hj, fun c hc => by rw [hf _ (by omega)]; exact b2 c hc⟩, hN, hr⟩, r⟩
theorem offF_2 (e : sm2 S S') {v w : Nat} : offF S' p v w = offF S p v w := by
  obtain ⟨⟨e1, e2, e3, e4, e5, e6⟩, e7, e8, e9, e10⟩ := e
  have h1 : offS S' v = offS S v := by
    funext k l
    unfold offS
    rw [e5, e3, e4]
  have h2 : offH S' p v w = offH S p v w := by
    funext k l
    unfold offH
    rw [e8]
  unfold offF
  rw [h1, h2, e1]
/-- the text alone changes -/
theorem INV.txt (h : INV p S fr t) (e : sm2 S S') : INV p S' fr t := by
  have eo := fun v w => offF_2 (p := p) (v := v) (w := w) e
  obtain ⟨C, A, O, C', A', O', G, ⟨⟨f1, f2, f3, f4, f5⟩, ⟨b1, b2⟩, ⟨n1, n2, n3, n4, n5, n6⟩, hr⟩, hO, hK, hs, hN, he⟩ := h
  obtain ⟨⟨e1, e2, e3, e4, e5, e6⟩, e7, e8, e9, e10⟩ := e
  refine ⟨C, A, O, C', A', O', G, ⟨⟨?_, ?_, ?_, ?_, ?_⟩, ⟨?_, ?_⟩, ⟨?_, n2, n3, ?_, n5, ?_⟩, ?_⟩, ?_, ?_, ?_, ?_, ?_⟩
  · rw [e2, e8, e9]; exact f1
  · intro j hj φ; rw [e2, e7, eo]; exact f2 j hj φ
  · rw [e2, e7, e8, e9]; exact f3
  · rw [e1, e2, e4]; exact f4
  · rw [e2]; exact f5
  · rw [e2, e6, e9]; exact b1
  · rw [e6, e9]; exact b2
  · rw [e9]; exact n1
  · rw [e6]; exact n4
  · rw [e6, e9]; exact n6
  · intro j hj; unfold rs; rw [e2, e7, eo]; exact hr j hj
  · unfold enN; rw [e1, e5]; exact hO
  · rw [e1, e2]; exact hK
  · rw [e1]; exact hs
  · unfold enN; rw [e1, e5, e6]; exact hN
  · rw [e1, e5]; exact he
theorem acc_settle (hp : isP p) (hu : u < 6) (hF : fF p S C A O) (hB : fB S fr C C' G) (hN : fN p S C' A' O' G) (hr : ∀ j, j < 10 → frF p j ≠ u → rs p S j) : ∃ C2, acc p (settleF p u S) fr C2 A O C' A' O' G := by
  obtain ⟨C2, a, b, c, e⟩ := fl_settle hp hu 6 0 S C rfl hF hB hN (fun j hj hc => hr j hj (by
    rcases hc with hc | hc
    · exact hc
    · exact absurd hc (Nat.not_lt_zero _)))
  exact ⟨C2, a, b, c, e⟩
theorem lp_sm {f : Nat → bS → bS} (hf : ∀ k S, sm S (f k S)) : ∀ (n k : Nat) (S : bS), sm S (lp f n k S) := by
  intro n
  induction n with
  | zero => intro k S; exact sm.rf
  | succ n ih => intro k S; exact (hf k S).trans (ih (k + 1) (f k S))
theorem settle_sm : sm S (settleF p u S) := lp_sm (fun k S => by
  unfold stF
  split
  · exact sm.rf
  · exact slS_f.1) 6 0 S
theorem handle_sm {m : Nat} {x : Int32} {w : Int32 × Int32 × Int32} : sm S (handleF p u m x w S) := by
  refine sm.trans (lp_sm (f := hdI u m w) (fun c S => ?_) 8 0 S) (lp_sm (f := hdL p u m x w) (fun c S => ?_) 6 0 _)
  · unfold hdI
    split
    · exact hdC_sm
    · exact sm.rf
  · unfold hdL
    split
    · split
      · unfold sm
        rw [bg_n_cn, bg_n_Q, bg_g_cn, bg_g_Q, bg_s_cn, bg_s_Q, bg_K_cn, bg_K_Q, bg_su_cn, bg_su_Q, bg_wa_cn, bg_wa_Q, bg_en_cn, bg_en_Q, bg_N_cn, bg_N_Q]
        exact ⟨rfl, rfl, rfl, rfl, rfl, rfl, rfl, rfl⟩
      · exact sm.rf
    · exact sm.rf
/-- what is needed depends on the set alone -/
theorem need_mem {K : List (Nat × sp3)} {X : List Nat} {x : Nat} : x ∈ needF K X ↔ x ∈ X ∧ ∀ y ∈ X, covB K y x = false := by
  unfold needF
  rw [List.mem_filter, Bool.not_eq_true', List.any_eq_false]
  constructor
  · rintro ⟨a, b⟩
    exact ⟨a, fun y hy => by rw [← Bool.not_eq_true]; exact b y hy⟩
  · rintro ⟨a, b⟩
    exact ⟨a, fun y hy => by rw [b y hy]; decide⟩
theorem need_m2 {K L : List (Nat × sp3)} {X Y : List Nat} (h : eqm X Y) (hl : ∀ x ∈ X, x < K.length) : eqm (needF (K ++ L) Y) (needF K X) := fun x => by
  rw [need_mem, need_mem]
  constructor
  · rintro ⟨a, b⟩
    have hx := (h x).mpr a
    exact ⟨hx, fun y hy => by rw [← covB_K (L := L) (hl y hy) (hl x hx)]; exact b y ((h y).mp hy)⟩
  · rintro ⟨a, b⟩
    exact ⟨(h x).mp a, fun y hy => by
      have hy' := (h y).mpr hy
      rw [covB_K (hl y hy') (hl x a)]
      exact b y hy'⟩
theorem rs_off (hp : isP p) (hF : fF p S C A O) (hj : j < 10) {L : List (Nat × sp3)} (h : rs p S j) (eK : b_K S' = b_K S ++ L) (eT : b_T S' = b_T S) (ho : eqm (offF S p (frF p j) (toF p j)) (offF S' p (frF p j) (toF p j))) : rs p S' j := by
  unfold rs at h ⊢
  rw [eK, eT]
  exact h.trans (need_m2 ho (fun x hx => off_lt hp (lkF_j hp hj).1 hF hx)).symm
theorem off_eq (hp : isP p) (hj : j < 10) (how : eqm (ow S (frF p j)) (ow S' (frF p j))) (hH : ∀ k, k < 10 → toF p k = frF p j → b_H S' k = b_H S k) : eqm (offF S p (frF p j) (toF p j)) (offF S' p (frF p j) (toF p j)) := fun x => by
  have hv := (lkF_j hp hj).1
  rw [off_fam hp hv, off_fam hp hv]
  have e : ∀ i, x ∈ fam S p (frF p j) (toF p j) i ↔ x ∈ fam S' p (frF p j) (toF p j) i := fun i => by
    cases i with
    | none => exact how x
    | some k =>
      show x ∈ (if k < 10 ∧ toF p k = frF p j ∧ frF p k ≠ toF p j then b_H S k else []) ↔ x ∈ (if k < 10 ∧ toF p k = frF p j ∧ frF p k ≠ toF p j then b_H S' k else [])
      by_cases c : k < 10 ∧ toF p k = frF p j ∧ frF p k ≠ toF p j
      · rw [if_pos c, if_pos c, hH k c.1 c.2.1]
      · rw [if_neg c, if_neg c]
  constructor
  · rintro ⟨i, hi⟩; exact ⟨i, (e i).mp hi⟩
  · rintro ⟨i, hi⟩; exact ⟨i, (e i).mpr hi⟩
/-- a subscription comes or ends, then its broker settles -/
theorem INV.own (hp : isP p) (hu : u < 6) (h : INV p S fr t) {L : List (Nat × sp3)} (eK : b_K S' = b_K S ++ L) (eT : b_T S' = b_T S) (eH : b_H S' = b_H S) (eQ : b_Q S' = b_Q S) (eN : b_N S' = b_N S) (how : ∀ v, v < 6 → v ≠ u → eqm (ow S' v) (ow S v)) (hwa : ∀ q, q < b_s S' → b_wa S' q < (b_K S').length) (hKK : KK (b_K S')) (hev : b_s S' + enN S' = b_s S + enN S + 1) (hKl : (b_K S').length ≤ b_s S') (hs : b_s S' ≤ 16) (hen : ∀ q, b_s S' ≤ q → b_en S' q = false) : INV p (settleF p u S') fr (t + 1) := by
  obtain ⟨C, A, O, C', A', O', G, ⟨hF, hB, hN, hr⟩, hO, hK, hs0, hN0, he⟩ := h
  obtain ⟨C2, a⟩ := acc_settle (fr := fr) (C' := C') (A' := A') (O' := O') (G := G) hp hu (fl_own hp hu hF hr eK eT eH eQ how hwa hKK) (fB_own hB eK eQ eN) (fN_own hN eQ eN) (fun j hj hc => rs_off hp hF hj (hr j hj) eK eT (off_eq hp hj (how _ (lkF_j hp hj).1 hc).symm (fun k _ _ => by rw [eH])))
  have e := settle_sm (p := p) (u := u) (S := S')
  have een : enN (settleF p u S') = enN S' := by unfold enN; rw [e.2.2.1, e.2.2.2.2.2.2.1]
  refine ⟨C2, A, _, C', A', O', G, a, fun φ => ?_, ?_, ?_, ?_, ?_⟩
  · have h1 := O1_sum (O := O) (u := u) (S := S) (S' := S') (φ := φ)
    have h2 := hO φ
    rw [e.2.2.1, een]
    omega
  · rw [e.2.2.1, e.2.2.2.1]; exact hKl
  · rw [e.2.2.1]; exact hs
  · rw [e.2.2.1, een, e.2.2.2.2.2.2.2, eN]
    omega
  · rw [e.2.2.1, e.2.2.2.2.2.2.1]; exact hen
theorem INV.unsub {k : Nat} (hp : isP p) (h : INV p S fr t) (hk : k < b_s S) (he : b_en S k = false) : INV p (settleF p (b_su S k % 6) (bs_en S (ub (b_en S) k true))) fr (t + 1) := by
  have h0 := h
  obtain ⟨C, A, O, C', A', O', G, ⟨⟨f1, f2, f3, f4, f5⟩, hB, hN, hr⟩, hO, hK, hs0, hN0, hen⟩ := h0
  refine INV.own (u := b_su S k % 6) (L := []) hp (by omega) h (by rw [List.append_nil]; rfl) rfl rfl rfl rfl (fun v hv hne x => ?_) f4 f5 ?_ hK hs0 (fun q hq => ?_)
  · rw [ow_mem, ow_mem]
    constructor
    · rintro ⟨q, a, ⟨b1, b2⟩, c⟩
      have hq : q ≠ k := fun z => hne (by rw [← z]; exact b2.symm)
      refine ⟨q, a, ⟨?_, b2⟩, c⟩
      rw [bg_en, ub_ne hq] at b1
      exact b1
    · rintro ⟨q, a, ⟨b1, b2⟩, c⟩
      have hq : q ≠ k := fun z => hne (by rw [← z]; exact b2.symm)
      refine ⟨q, a, ⟨?_, b2⟩, c⟩
      rw [bg_en, ub_ne hq]
      exact b1
  · have h1 := sg_up (f := fun q => if b_en S q then 1 else 0) (m := k) (e := 1) (b_s S) hk
    have h2 : enN (bs_en S (ub (b_en S) k true)) = enN S + 1 := by
      unfold enN
      rw [← h1]
      show sg (fun q => if b_en (bs_en S (ub (b_en S) k true)) q then 1 else 0) (b_s S) = _
      refine sg_eq _ (fun q _ => ?_)
      rw [bg_en]
      by_cases c : q = k
      · subst c
        rw [ub_same, if_pos rfl, he, if_pos (rfl : q = q)]
        rfl
      · rw [ub_ne c, if_neg c]
    rw [h2]
    show b_s S + (enN S + 1) = _
    omega
  · have hq' : b_s S ≤ q := hq
    rw [bg_en, ub_ne (by omega)]
    exact hen q hq'
theorem INV.sub {q i : Nat} {F : Nat → sp3} {H : sp3} (hp : isP p) (h : INV p S fr t) (hrl : rlF S F) (hi : i < 8) (hs : b_s S < 16) : INV p (sbF p S q H i) fr (t + 1) := by
  have h0 := h
  obtain ⟨C, A, O, C', A', O', G, ⟨⟨f1, f2, f3, f4, f5⟩, hB, hN, hr⟩, hO, hK, hs0, hN0, hen⟩ := h0
  obtain ⟨⟨g1, g2, g3, g4, g5, g6, g7, g8⟩, g9, g10, g11, g12⟩ := sbS_f (S := S) (q := q) (i := i) (G := H)
  have hr2 := hrl.sb (q := q) (i := i) (G := H)
  have eL : ∃ L, b_K (sbS S q H i) = b_K S ++ L := by
    rw [g4]
    unfold cadd
    split
    · exact ⟨[], (List.append_nil _).symm⟩
    · exact ⟨_, rfl⟩
  obtain ⟨L, eL⟩ := eL
  refine INV.own (u := i % 6) (L := L) hp (by omega) h eL g9 g10 g11 g8 (fun v hv hne x => ?_) (fun y hy => ?_) hr2.2.2 ?_ hr2.1 (by rw [g3]; omega) (fun y hy => ?_)
  · rw [ow_mem, ow_mem, g3, g5, g6, g7]
    constructor
    · rintro ⟨y, a, ⟨b1, b2⟩, c⟩
      have hy : y ≠ b_s S := fun z => by
        rw [z, ub_same] at b2
        exact hne b2.symm
      rw [ub_ne hy] at b2 c
      exact ⟨y, by omega, ⟨b1, b2⟩, c⟩
    · rintro ⟨y, a, ⟨b1, b2⟩, c⟩
      have hy : y ≠ b_s S := by omega
      exact ⟨y, by omega, ⟨b1, by rw [ub_ne hy]; exact b2⟩, by rw [ub_ne hy]; exact c⟩
  · obtain ⟨r, r1, -⟩ := hr2.2.1 y hy
    exact (List.getElem?_eq_some_iff.mp r1).1
  · have h1 : enN (sbS S q H i) = enN S := by
      unfold enN
      rw [g3, g7]
      show sg _ (b_s S) + (if b_en S (b_s S) then 1 else 0) = _
      rw [hen _ (Nat.le_refl _)]
      rfl
    rw [g3, h1]
    omega
  · rw [g3] at hy
    rw [g7]
    exact hen y (by omega)
theorem INV.pub {q : Nat × Int32 × Int32 × Int32} {w : Int32 × Int32 × Int32} (hp : isP p) (hu : u < 6) (h : INV p S fr t) : INV p (handleF p u (b_N S).length (-1) w (pbS S q)) fr (t + 1) := by
  obtain ⟨C, A, O, C', A', O', G, a, hO, hK, hs0, hN0, hen⟩ := h
  obtain ⟨O2, a2, h1, h2⟩ := acc_pub (q := q) hp hu a
  obtain ⟨C2, G2, a3⟩ := acc_handle (w := w) (x := -1) (n := (b_N S).length) hu a2 (by show _ < (b_N S ++ [q]).length; rw [List.length_append]; exact Nat.lt_succ_self _) (fun j hj hf _ => h1 j hj hf) h2
  have e := handle_sm (p := p) (u := u) (S := pbS S q) (m := (b_N S).length) (x := -1) (w := w)
  have een : enN (handleF p u (b_N S).length (-1) w (pbS S q)) = enN S := by unfold enN; rw [e.2.2.1, e.2.2.2.2.2.2.1]; rfl
  have es : b_s (handleF p u (b_N S).length (-1) w (pbS S q)) = b_s S := e.2.2.1
  have eK : b_K (handleF p u (b_N S).length (-1) w (pbS S q)) = b_K S := e.2.2.2.1
  have eN : b_N (handleF p u (b_N S).length (-1) w (pbS S q)) = b_N S ++ [q] := e.2.2.2.2.2.2.2
  have eE : b_en (handleF p u (b_N S).length (-1) w (pbS S q)) = b_en S := e.2.2.2.2.2.2.1
  refine ⟨C, A, O, C2, A', O2, G2, a3, ?_, ?_, ?_, ?_, ?_⟩
  · rw [es, een]; exact hO
  · rw [es, eK]; exact hK
  · rw [es]; exact hs0
  · rw [es, een, eN, List.length_append]
    show _ + (_ + 1) ≤ _
    omega
  · rw [es, eE]; exact hen
/-- the first message of a line is taken -/
theorem INV.take {k m : Nat} {l : List Nat} (hp : isP p) (hk : k < 10) (h : INV p S fr t) (hQ : b_Q S k = m :: l) : INV p (tkF p S k) (ub fr k (fr k + 1)) t ∧ (m % 3 = 2 → m / 3 < (b_N S).length) ∧ (m % 3 ≠ 2 → m / 3 < 16) := by
  obtain ⟨C, A, O, C', A', O', G, ⟨hF, hB, hN, hr⟩, hO, hK, hs0, hN0, hen⟩ := h
  have e0 : tkF p S k = tkH p (ppS S k l) k m := by
    unfold tkF
    rw [hQ]
    rfl
  have hu := (lkF_j hp hk).2.1
  have hm3 : m % 3 ≠ 2 → m / 3 < 16 := fun z => by
    have := (hF.2.2.1 k hk).2.2.2.2.2 m (by rw [hQ]; exact List.mem_cons_self) z
    omega
  have hm2 : m % 3 = 2 → m / 3 < (b_N S).length := fun z => hN.2.2.2.2.2 k hk m (by rw [hQ]; exact List.mem_cons_self) z
  refine ⟨?_, hm2, hm3⟩
  by_cases c : m % 3 = 2
  · have hn := hm2 c
    obtain ⟨q, hq⟩ : ∃ q, (b_N S)[m / 3]? = some q := ⟨(b_N S)[m / 3]'hn, List.getElem?_eq_getElem hn⟩
    have em : m = m / 3 * 3 + 2 := by omega
    have e1 : tkF p S k = handleF p (toF p k) (m / 3) (nI (frF p k)) q.2 (ppS S k l) := by
      rw [e0]
      unfold tkH
      rw [if_pos c, ppS_sm.2.2.2.2.2.2.2, hq]
    have eQ : b_Q (ppS S k l) = ub (b_Q S) k l := by unfold ppS; rw [bg_Q]
    have eT : b_T (ppS S k l) = b_T S := by unfold ppS; rw [bg_T_Q]
    have eH : b_H (ppS S k l) = b_H S := by unfold ppS; rw [bg_H_Q]
    obtain ⟨x1, x2, x3⟩ := fN_takeN (S' := ppS S k l) (n := m / 3) (l := l) hp hN hk (by rw [← em]; exact hQ) eQ ppS_sm.2.2.2.2.2.2.2
    obtain ⟨C2, G2, a3⟩ := acc_handle (fr := ub fr k (fr k + 1)) (w := q.2) (x := nI (frF p k)) (n := m / 3) hu ⟨fl_takeN hk hF hQ c, fB_pop hB hk hQ ppS_sm.2.2.2.1 eQ ppS_sm.2.2.2.2.2.2.2, x1, fun j hj => rs_sm (hr j hj) ppS_sm eT eH⟩ (by rw [ppS_sm.2.2.2.2.2.2.2]; exact hn) (fun j hj hf hne => by
      have := x2 j hj hf.symm (fun z => hne (by rw [z]))
      rw [hf] at this
      exact this) (fun c' hc' hf => by
      have := x3 c' hc' hf
      rw [hf] at this
      exact this)
    have e := (ppS_sm (S := S) (j := k) (t := l)).trans (handle_sm (p := p) (u := toF p k) (S := ppS S k l) (m := m / 3) (x := nI (frF p k)) (w := q.2))
    rw [← e1] at a3 e
    refine ⟨C, A, O, C2, _, O', G2, a3, ?_, ?_, ?_, ?_, ?_⟩
    · unfold enN; rw [e.2.2.1, e.2.2.2.2.2.2.1]; exact hO
    · rw [e.2.2.1, e.2.2.2.1]; exact hK
    · rw [e.2.2.1]; exact hs0
    · unfold enN; rw [e.2.2.1, e.2.2.2.2.2.2.1, e.2.2.2.2.2.2.2]; exact hN0
    · rw [e.2.2.1, e.2.2.2.2.2.2.1]; exact hen
  · have eH0 : b_H (ppS S k l) = b_H S := by unfold ppS; rw [bg_H_Q]
    have e1 : tkF p S k = settleF p (toF p k) (hrT (ppS S k l) k (apl (b_H S k) m)) := by
      rw [e0]
      unfold tkH hrT apl
      rw [if_neg c, if_neg c, eH0]
    generalize hS' : hrT (ppS S k l) k (apl (b_H S k) m) = S' at e1
    have es : sm S S' := by rw [← hS']; exact ppS_sm.trans hrT_sm
    have eT : b_T S' = b_T S := by rw [← hS']; unfold hrT ppS; rw [bg_T_H, bg_T_Q]
    have eH : b_H S' = ub (b_H S) k (apl (b_H S k) m) := by rw [← hS']; unfold hrT ppS; rw [bg_H, bg_H_Q]
    have eQ : b_Q S' = ub (b_Q S) k l := by rw [← hS']; unfold hrT ppS; rw [bg_Q_H, bg_Q]
    have hF1 := fl_take hp hk hF hr hQ c
    rw [hS'] at hF1
    obtain ⟨C2, a⟩ := acc_settle (u := toF p k) hp hu hF1 (fB_pop hB hk hQ es.2.2.2.1 eQ es.2.2.2.2.2.2.2) (fN_take hN hk hQ c eQ es.2.2.2.2.2.2.2) (fun j hj hc => rs_off (L := []) hp hF hj (hr j hj) (by rw [List.append_nil]; exact es.2.2.2.1) eT (off_eq hp hj (fun x => by
      rw [ow_mem, ow_mem, es.2.2.1, es.2.2.2.2.2.2.1, es.2.2.2.2.1, es.2.2.2.2.2.1]) (fun k' _ hk' => by rw [eH, ub_ne (fun z => hc (by rw [← z]; exact hk'.symm))])))
    have e := es.trans (settle_sm (p := p) (u := toF p k) (S := S'))
    rw [← e1] at a e
    refine ⟨C2, _, O, C', A', O', G, a, ?_, ?_, ?_, ?_, ?_⟩
    · unfold enN; rw [e.2.2.1, e.2.2.2.2.2.2.1]; exact hO
    · rw [e.2.2.1, e.2.2.2.1]; exact hK
    · rw [e.2.2.1]; exact hs0
    · unfold enN; rw [e.2.2.1, e.2.2.2.2.2.2.1, e.2.2.2.2.2.2.2]; exact hN0
    · rw [e.2.2.1, e.2.2.2.2.2.2.1]; exact hen
theorem INV.read {i m : Nat} {l : List Nat} (h : INV p S fr t) (hi : i < 8) (hQ : b_Q S (10 + i) = m :: l) : INV p (bs_Q S (ub (b_Q S) (10 + i) l)) (ub fr (10 + i) (fr (10 + i) + 1)) t := by
  obtain ⟨C, A, O, C', A', O', G, ⟨⟨f1, f2, f3, f4, f5⟩, ⟨b1, b2⟩, ⟨n1, n2, n3, n4, n5, n6⟩, hr⟩, hO, hK, hs0, hN0, hen⟩ := h
  have eQ : b_Q (bs_Q S (ub (b_Q S) (10 + i) l)) = ub (b_Q S) (10 + i) l := bg_Q
  have eL : ∀ j, j < 10 → b_Q (bs_Q S (ub (b_Q S) (10 + i) l)) j = b_Q S j := fun j hj => by rw [eQ, ub_ne (by omega)]
  refine ⟨C, A, O, C', A', O', G, ⟨⟨fun j hj φ => ?_, f2, fun j hj => ?_, f4, f5⟩, ⟨fun j hj => ?_, fun c hc => ?_⟩, ⟨fun j hj n => ?_, n2, n3, n4, n5, fun j hj m' hm' => ?_⟩, hr⟩, hO, hK, hs0, hN0, hen⟩
  · rw [eL j hj]; exact f1 j hj φ
  · rw [eL j hj]; exact f3 j hj
  · rw [eL j hj, ub_ne (by omega)]; exact b1 j hj
  · rw [eQ]
    have h1 := b2 c hc
    by_cases z : c = i
    · subst z
      rw [ub_same, ub_same]
      rw [hQ, List.length_cons] at h1
      show _ ≤ sg (fun n => G c n) (b_N S).length
      omega
    · rw [ub_ne (by omega), ub_ne (by omega)]
      exact h1
  · rw [eL j hj]; exact n1 j hj n
  · rw [eL j hj] at hm'
    exact n6 j hj m' hm'
theorem INV.tk {k m : Nat} {l : List Nat} (hp : isP p) (hk : k < 10) (h : INV p S fr t) (ht : t ≤ 512) (hQ : b_Q S k = m :: l) : tkOk p S k m l := by
  obtain ⟨h1, h2, h3⟩ := h.take hp hk hQ
  obtain ⟨b1, b2⟩ := h1.bd hp ht
  have hN : (b_N S).length ≤ 512 := by
    obtain ⟨C, A, O, C', A', O', G, a, hO, hK, hs0, hN0, hen⟩ := h
    omega
  refine ⟨hQ, ?_, h2, h3, fun i hi => ?_⟩
  · by_cases c : m % 3 = 2
    · have := h2 c; omega
    · have := h3 c; omega
  · by_cases c : i < 10
    · have := b1 i c; omega
    · have := b2 (i - 10) (by omega)
      rw [show 10 + (i - 10) = i by omega] at this
      omega
end

