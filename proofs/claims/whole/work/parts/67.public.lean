/-! take, read, unsubscribe, subscribe, covers: what they answer, and when they throw -/
/-- an exception of the class number c has been thrown, and the state is S -/
def isThr (P : x_P) (b : Nat) (p : Nat → Nat) (Z : Nat × Nat × (Nat → Option x_E)) (S : bS) (z : Nat × Nat) (c : Nat) (oc : Outcome) (h' : x_H) : Prop := ∃ a, oc = .threw a ∧ h'.1 a = some (.inr (c, [])) ∧ isB P b p Z S z h'
theorem isCl {i : Nat} (hi : i < 8) : (decide (0 ≤ nI i) && decide (nI i < 8)) = true := by
  have h1 : nI i < 8 := nI_lt (b := 8) hi (by decide)
  have h2 : 0 ≤ nI i := nI_pos' (by omega)
  rw [decide_eq_true h1, decide_eq_true h2]
  rfl
section
variable {P : x_P} {b : Nat} {p : Nat → Nat} {Z : Nat × Nat × (Nat → Option x_E)} {S : bS} {h : x_H} {z : Nat × Nat} {d : Nat}
theorem isB.thr {c : Nat} (kB : isB P b p Z S z h) : isThr P b p Z S (z.1 + 1, z.2 + 6) c (.threw h.2.1) (x_new h (.inr (c, [])) 6) := ⟨_, rfl, xw_eq, kB.gr x_gr.new⟩
theorem sBT_takeT {x y : Int32} (kB : isB P b p Z S z h) (hl : ∀ e : Env, P.1.admits e → e.platform.stackTraces = false) (hq : ∀ j, j < 10 → (b_Q S j).length ≤ 1000) (hx : ∀ j, lkI p x y = some j → b_Q S j = []) : x_K P (d + 6) mBT_take 0 [some (.ref b), some (.int x), some (.int y), none] [] h (isThr P b p Z S (z.1 + 1, z.2 + 6) 12) := by
  refine eBT_take_0 rfl ?_
  refine eBT_take_1 ?_
  refine eBT_take_2 ?_
  refine eBT_take_3 kB.obj.1 (Nat.le_of_ble_eq_true rfl) (sBT_link kB) ?_
  rintro _ h1 ⟨rfl, rfl⟩
  refine ⟨_, rfl, ?_⟩
  refine eBT_take_6 (x_isr _) ?_
  refine eBT_take_7 (x_isr _) ?_
  refine eBT_take_8 (fun e => ?_) (fun a e => ?_)
  · exact eBT_take_21 hl (Nat.le_of_ble_eq_true rfl) kB.thr
  · obtain ⟨j, e1, e2⟩ := Option.map_eq_some_iff.mp e
    subst e2
    have hj := lkI_lt e1
    obtain ⟨fq, hq1⟩ := kB.qcell (j := j) (by omega)
    rw [e]
    show x_K P (d + 6) mBT_take 11 [some (.ref b), some (.int x), some (.int y), some (.ref (b + 16 + 7 * j))] [] h1 _
    refine eBT_take_11 rfl ?_
    refine eBT_take_12 (kB.lk hj) rfl ?_
    refine eBT_take_15 hq1 (Nat.le_of_ble_eq_true rfl) (kB.qsize (by omega)) ?_
    rintro _ h2 ⟨rfl, rfl⟩
    refine ⟨_, rfl, ?_⟩
    rw [hx j e1]
    refine eBT_take_18 (fun c => absurd (by decide) c) (fun _ => ?_)
    exact eBT_take_21 hl (Nat.le_of_ble_eq_true rfl) kB.thr
theorem sBT_take {x y : Int32} {j m : Nat} {l : List Nat} (kB : isB P b p Z S z h) (hp : isP p) (hx : lkI p x y = some j) (hk : tkOk p S j m l) (hq : (b_Q S j).length ≤ 1000) : x_K P (d + 7) mBT_take 0 [some (.ref b), some (.int x), some (.int y), none] [] h (fun oc h' => oc = .returned (some (.int (nI (m % 3)))) ∧ isB P b p Z (tkF p S j) z h') := by
  have hj := lkI_lt hx
  obtain ⟨fq, hq1⟩ := kB.qcell (j := j) (by omega)
  refine eBT_take_0 rfl ?_
  refine eBT_take_1 ?_
  refine eBT_take_2 ?_
  refine eBT_take_3 kB.obj.1 (Nat.le_of_ble_eq_true rfl) (sBT_link kB) ?_
  rintro _ h1 ⟨rfl, rfl⟩
  refine ⟨_, rfl, ?_⟩
  rw [hx]
  show x_K P (d + 7) mBT_take 6 [some (.ref b), some (.int x), some (.int y), none] [va_rf (some (b + 16 + 7 * j))] h1 _
  refine eBT_take_6 rfl ?_
  refine eBT_take_7 rfl ?_
  refine eBT_take_8 (r := some (b + 16 + 7 * j)) (fun e => by cases e) (fun a e => ?_)
  refine eBT_take_11 rfl ?_
  refine eBT_take_12 (kB.lk hj) rfl ?_
  refine eBT_take_15 hq1 (Nat.le_of_ble_eq_true rfl) (kB.qsize (by omega)) ?_
  rintro _ h2 ⟨rfl, rfl⟩
  refine ⟨_, rfl, ?_⟩
  have hlen : (b_Q S j).length ≠ 0 := by rw [hk.1]; simp
  refine eBT_take_18 (fun _ => ?_) (fun c => absurd c (nI_ne0 (by omega) (by omega)))
  refine eBT_take_29 rfl ?_
  refine eBT_take_30 rfl ?_
  refine eBT_take_31 kB.obj.1 rfl (Nat.le_of_ble_eq_true rfl) (sBT_takeFirst kB hp hj hk) ?_
  rintro _ h3 ⟨rfl, k3⟩
  exact ⟨_, rfl, eBT_take_34 ⟨rfl, k3⟩⟩
theorem sBT_readT1 {c : Int32} (kB : isB P b p Z S z h) (hl : ∀ e : Env, P.1.admits e → e.platform.stackTraces = false) (hc : ¬ (0 ≤ c ∧ c < 8)) : x_K P (d + 6) mBT_read 0 [some (.ref b), some (.int c), none] [] h (isThr P b p Z S (z.1 + 1, z.2 + 6) 10) := by
  refine eBT_read_0 ?_
  refine eBT_read_1 (Nat.le_of_ble_eq_true rfl) sBT_isClient ?_
  rintro _ h1 ⟨rfl, rfl⟩
  refine ⟨_, rfl, ?_⟩
  rw [show (decide (0 ≤ c) && decide (c < 8)) = false by rw [← Bool.decide_and]; exact decide_eq_false hc]
  refine eBT_read_4 (fun q => absurd rfl q) (fun _ => ?_)
  exact eBT_read_7 hl (Nat.le_of_ble_eq_true rfl) kB.thr
theorem sBT_readT2 {i : Nat} (kB : isB P b p Z S z h) (hl : ∀ e : Env, P.1.admits e → e.platform.stackTraces = false) (hi : i < 8) (hx : b_Q S (10 + i) = []) : x_K P (d + 6) mBT_read 0 [some (.ref b), some (.int (nI i)), none] [] h (isThr P b p Z S (z.1 + 1, z.2 + 6) 12) := by
  obtain ⟨f, hf, hv⟩ := kB.inb
  obtain ⟨fq, hq1⟩ := kB.qcell (j := 10 + i) (by omega)
  refine eBT_read_0 ?_
  refine eBT_read_1 (Nat.le_of_ble_eq_true rfl) sBT_isClient ?_
  rintro _ h1 ⟨rfl, rfl⟩
  refine ⟨_, rfl, ?_⟩
  rw [isCl hi]
  refine eBT_read_4 (fun _ => ?_) (fun q => absurd q (by decide))
  refine eBT_read_15 rfl ?_
  refine eBT_read_16 kB.obj.1 rfl ?_
  refine eBT_read_19 ?_
  refine eBT_read_20 hf rfl (xn_in hi (by decide)) ?_
  rw [nI_clamp (by omega), hv i hi]
  refine eBT_read_21 rfl ?_
  refine eBT_read_22 rfl ?_
  refine eBT_read_23 hq1 (Nat.le_of_ble_eq_true rfl) (kB.qsize (by omega)) ?_
  rintro _ h2 ⟨rfl, rfl⟩
  refine ⟨_, rfl, ?_⟩
  rw [hx]
  refine eBT_read_26 (fun c => absurd (by decide) c) (fun _ => ?_)
  exact eBT_read_29 hl (Nat.le_of_ble_eq_true rfl) kB.thr
theorem sBT_read {i m : Nat} {l : List Nat} (kB : isB P b p Z S z h) (hi : i < 8) (hx : b_Q S (10 + i) = m :: l) (hlen : l.length < 1000) : x_K P (d + 1) mBT_read 0 [some (.ref b), some (.int (nI i)), none] [] h (fun oc h' => oc = .returned (some (.int (nI m))) ∧ isB P b p Z (bs_Q S (ub (b_Q S) (10 + i) l)) z h') := by
  obtain ⟨f, hf, hv⟩ := kB.inb
  obtain ⟨fq, hq1⟩ := kB.qcell (j := 10 + i) (by omega)
  refine eBT_read_0 ?_
  refine eBT_read_1 (Nat.le_of_ble_eq_true rfl) sBT_isClient ?_
  rintro _ h1 ⟨rfl, rfl⟩
  refine ⟨_, rfl, ?_⟩
  rw [isCl hi]
  refine eBT_read_4 (fun _ => ?_) (fun q => absurd q (by decide))
  refine eBT_read_15 rfl ?_
  refine eBT_read_16 kB.obj.1 rfl ?_
  refine eBT_read_19 ?_
  refine eBT_read_20 hf rfl (xn_in hi (by decide)) ?_
  rw [nI_clamp (by omega), hv i hi]
  refine eBT_read_21 rfl ?_
  refine eBT_read_22 rfl ?_
  refine eBT_read_23 hq1 (Nat.le_of_ble_eq_true rfl) (kB.qsize (by omega)) ?_
  rintro _ h2 ⟨rfl, rfl⟩
  refine ⟨_, rfl, ?_⟩
  refine eBT_read_26 (fun _ => ?_) (fun c => absurd c (by rw [hx]; exact nI_ne0 (by simp) (by simp; omega)))
  refine eBT_read_37 rfl ?_
  refine eBT_read_38 hq1 (Nat.le_of_ble_eq_true rfl) (kB.qrem (by omega) hx) ?_
  rintro _ h3 ⟨rfl, k3⟩
  exact ⟨_, rfl, eBT_read_41 ⟨rfl, k3⟩⟩
theorem sBT_unsubT {x : Int32} (kB : isB P b p Z S z h) (hl : ∀ e : Env, P.1.admits e → e.platform.stackTraces = false) (hx : ∀ k : Nat, k < b_s S → x = nI k → b_en S k = true) : x_K P (d + 6) mBT_unsubscribe 0 [some (.ref b), some (.int x)] [] h (isThr P b p Z S (z.1 + 1, z.2 + 6) 12) := by
  have hs := kB.obj.2.2
  obtain ⟨fe, he, hev⟩ := kB.en
  have thr : x_K P (d + 6) mBT_unsubscribe 21 [some (.ref b), some (.int x)] [] h (isThr P b p Z S (z.1 + 1, z.2 + 6) 12) := eBT_unsubscribe_21 hl (Nat.le_of_ble_eq_true rfl) kB.thr
  refine eBT_unsubscribe_0 ?_
  refine eBT_unsubscribe_1 (fun _ => thr) (fun c => ?_)
  obtain ⟨k, hk, rfl⟩ := nI_of c
  refine eBT_unsubscribe_4 ?_
  refine eBT_unsubscribe_5 rfl ?_
  refine eBT_unsubscribe_6 kB.obj.1 rfl ?_
  refine eBT_unsubscribe_9 (fun _ => thr) (fun c2 => ?_)
  have hlt : k < b_s S := Nat.not_le.mp fun z => c2 (nI_le z hk)
  refine eBT_unsubscribe_12 rfl ?_
  refine eBT_unsubscribe_13 kB.obj.1 rfl ?_
  refine eBT_unsubscribe_16 ?_
  refine eBT_unsubscribe_17 he (xn_in (by omega) (by decide)) ?_
  rw [nI_clamp hk, hev k (by omega), hx k hlt rfl]
  exact eBT_unsubscribe_18 (fun c => absurd c (by decide)) (fun _ => thr)
theorem sBT_unsub {k : Nat} (kB : isB P b p Z S z h) (hp : isP p) (hk : k < b_s S) (hx : b_en S k = false) (hq : ∀ j, j < 10 → (b_Q (settleF p (b_su S k % 6) (bs_en S (ub (b_en S) k true))) j).length ≤ 1000) : x_K P (d + 5) mBT_unsubscribe 0 [some (.ref b), some (.int (nI k))] [] h (fun oc h' => oc = .returned none ∧ isB P b p Z (settleF p (b_su S k % 6) (bs_en S (ub (b_en S) k true))) z h') := by
  have hs := kB.obj.2.2
  obtain ⟨fe, he, hev⟩ := kB.en
  obtain ⟨fs, hsu, hsv⟩ := kB.su
  have hs9 := hsv k (by omega)
  refine eBT_unsubscribe_0 ?_
  refine eBT_unsubscribe_1 (fun c => absurd c (nI_pos (by omega))) (fun _ => ?_)
  refine eBT_unsubscribe_4 ?_
  refine eBT_unsubscribe_5 rfl ?_
  refine eBT_unsubscribe_6 kB.obj.1 rfl ?_
  refine eBT_unsubscribe_9 (fun c => absurd c (nI_ge hk (by omega))) (fun _ => ?_)
  refine eBT_unsubscribe_12 rfl ?_
  refine eBT_unsubscribe_13 kB.obj.1 rfl ?_
  refine eBT_unsubscribe_16 ?_
  refine eBT_unsubscribe_17 he (xn_in (by omega) (by decide)) ?_
  rw [nI_clamp (by omega), hev k (by omega), hx]
  refine eBT_unsubscribe_18 (fun _ => ?_) (fun c => absurd rfl c)
  refine eBT_unsubscribe_29 rfl ?_
  refine eBT_unsubscribe_30 kB.obj.1 rfl ?_
  refine eBT_unsubscribe_33 ?_
  refine eBT_unsubscribe_34 ?_
  refine eBT_unsubscribe_35 he (xn_in (by omega) (by decide)) ?_
  rw [nI_clamp (by omega)]
  have k1 : isB P b p Z (bs_en S (ub (b_en S) k true)) z (x_put h (b + 9) (.inl (1, 16, .inl (upd fe k (vp_nar .boolean 1))))) := by
    refine kB.mEn (fun i hi => ?_) rfl
    unfold upd ub
    split
    · rfl
    · exact hev i hi
  have hsu1 : (x_put h (b + 9) (.inl (1, 16, .inl (upd fe k (vp_nar .boolean 1))))).1 (b + 7) = some (.inl (0, 16, .inl fs)) := xq_ne (by omega) hsu
  generalize x_put h (b + 9) (.inl (1, 16, .inl (upd fe k (vp_nar .boolean 1)))) = h1 at k1 hsu1 ⊢
  refine eBT_unsubscribe_36 rfl ?_
  refine eBT_unsubscribe_37 rfl ?_
  refine eBT_unsubscribe_38 k1.obj.1 rfl ?_
  refine eBT_unsubscribe_41 ?_
  refine eBT_unsubscribe_42 hsu1 (xn_in (by omega) (by decide)) ?_
  rw [nI_clamp (by omega), hs9.1]
  refine eBT_unsubscribe_43 (Nat.le_of_ble_eq_true rfl) (sBT_brokerOf hs9.2) ?_
  rintro _ h2 ⟨rfl, rfl⟩
  refine ⟨_, rfl, ?_⟩
  refine eBT_unsubscribe_46 k1.obj.1 (Nat.le_of_ble_eq_true rfl) (sBT_settle k1 hp (by omega) hq) ?_
  rintro _ h3 ⟨rfl, k3⟩
  exact ⟨_, rfl, eBT_unsubscribe_49 ⟨rfl, k3⟩⟩
/-- the text is read, and is empty again -/
theorem sBT_subParse {c : Int32} {Φ : Outcome → x_H → Prop} (kB : isB P b p Z S z h) (hpf : b_pf S = [])
  (k0 : ∀ h1, parseF (b_g S) (b_n S) 3 0 fi0 = none → isB P b p Z (bs_n S 0) (z.1 + 7, z.2 + 24) h1 → x_K P (d + 9) mBT_subscribe 18 [some (.ref b), some (.int c), some .null, none] [] h1 Φ)
  (k1 : ∀ h1 q F, parseF (b_g S) (b_n S) 3 0 fi0 = some F → isB P b p Z (bs_pf (bs_n S 0) [(q, F)]) (z.1 + 7, z.2 + 24) h1 → x_K P (d + 9) mBT_subscribe 18 [some (.ref b), some (.int c), some (.ref q), none] [] h1 Φ) :
  x_K P (d + 9) mBT_subscribe 0 [some (.ref b), some (.int c), none, none] [] h Φ := by
  have hn := kB.obj.2.1
  obtain ⟨kt, htl⟩ := kB.txt
  refine eBT_subscribe_0 rfl ?_
  refine eBT_subscribe_1 kB.obj.1 rfl ?_
  refine eBT_subscribe_4 ?_
  refine eBT_subscribe_5 rfl ?_
  refine eBT_subscribe_6 kB.obj.1 rfl ?_
  refine eBT_subscribe_9 rfl (Nat.le_of_ble_eq_true rfl) ((sFI_parse (a := 0) kt hn (by decide) (by omega) htl).up (d := d + 4) (by omega)) ?_
  rintro oc h1 ⟨hm, g⟩
  cases hF : parseF (b_g S) (b_n S) 3 0 fi0 with
  | none =>
    rw [hF] at hm
    subst hm
    refine ⟨_, rfl, ?_⟩
    have kB1 := kB.gr g
    refine eBT_subscribe_12 rfl ?_
    refine eBT_subscribe_13 rfl ?_
    refine eBT_subscribe_14 ?_
    refine eBT_subscribe_15 kB1.obj.1 (Nat.le_of_ble_eq_true rfl) ?_
    exact k0 _ hF (kB1.mN (v := 0) (by omega))
  | some F =>
    rw [hF] at hm
    obtain ⟨rfl, kf⟩ := hm
    refine ⟨_, rfl, ?_⟩
    have kB1 := kB.pend g (Nat.le_refl 7) kf
    rw [hpf, List.nil_append] at kB1
    refine eBT_subscribe_12 rfl ?_
    refine eBT_subscribe_13 rfl ?_
    refine eBT_subscribe_14 ?_
    refine eBT_subscribe_15 kB1.obj.1 (Nat.le_of_ble_eq_true rfl) ?_
    refine k1 _ h.2.1 F hF ?_
    have kB2 := kB1.mN (v := 0) (by omega)
    rw [bsc_n_pf] at kB2
    exact kB2
theorem sBT_subT1 {c : Int32} (kB : isB P b p Z S z h) (hpf : b_pf S = []) (hl : ∀ e : Env, P.1.admits e → e.platform.stackTraces = false) (hbad : ¬ (0 ≤ c ∧ c < 8) ∨ parseF (b_g S) (b_n S) 3 0 fi0 = none) : x_K P (d + 9) mBT_subscribe 0 [some (.ref b), some (.int c), none, none] [] h (isThr P b p Z (bs_n S 0) (z.1 + 8, z.2 + 30) 10) := by
  have go : ∀ (h1 : x_H) (r : Option Nat) (S1 : bS), isB P b p Z S1 (z.1 + 7, z.2 + 24) h1 → isB P b p Z (bs_n S 0) (z.1 + 7, z.2 + 24) h1 → (¬ (0 ≤ c ∧ c < 8) ∨ r = none) → x_K P (d + 9) mBT_subscribe 18 [some (.ref b), some (.int c), some (va_rf r), none] [] h1 (isThr P b p Z (bs_n S 0) (z.1 + 8, z.2 + 30) 10) := by
    intro h1 r S1 _ k1 hb
    have thr : x_K P (d + 9) mBT_subscribe 29 [some (.ref b), some (.int c), some (va_rf r), none] [] h1 (isThr P b p Z (bs_n S 0) (z.1 + 8, z.2 + 30) 10) := eBT_subscribe_29 (d := d + 3) hl (Nat.le_of_ble_eq_true rfl) k1.thr
    refine eBT_subscribe_18 ?_
    refine eBT_subscribe_19 (Nat.le_of_ble_eq_true rfl) sBT_isClient ?_
    rintro _ h2 ⟨rfl, rfl⟩
    refine ⟨_, rfl, ?_⟩
    refine eBT_subscribe_22 (fun _ => thr) (fun q => b2i_it q fun q => ?_)
    refine eBT_subscribe_25 (x_isr _) ?_
    refine eBT_subscribe_26 (fun _ => thr) (fun a e => ?_)
    rcases hb with hb | hb
    · rw [← Bool.decide_and] at q
      exact absurd (of_decide_eq_true q) hb
    · rw [hb] at e
      cases e
  refine sBT_subParse kB hpf (fun h1 _ k1 => go h1 none _ k1 k1 (Or.inr rfl)) (fun h1 q F hF k1 => go h1 (some q) _ k1 ?_ (Or.inl ?_))
  · have k2 := k1.unpend
    rw [bss_pf] at k2
    rw [show bs_n S 0 = bs_pf (bs_n S 0) [] by rw [show ([] : List (Nat × sp3)) = b_pf (bs_n S 0) by rw [bg_pf_n, hpf], bsi_pf]]
    exact k2
  · rcases hbad with h9 | h9
    · exact h9
    · rw [h9] at hF
      cases hF
end

