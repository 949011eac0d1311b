/-! Constructors of the small ones -/
section
variable {P : x_P} {d : Nat} {h : x_H}
theorem sRO_init {r : Nat} (hs : h.1 r = some (.inr (6, [.null, .int 0, .int 0]))) (hn : h.2.1 = r + 1) : x_K P (d + 1) mRO_init 0 [some (.ref r)] [] h (fun oc h' => oc = .returned none ∧ isRow h' r [] ∧ x_gr h h' 1 16 [r]) := by
  refine eRO_init_0 rfl ?_
  refine eRO_init_1 (Nat.le_of_ble_eq_true rfl) ?_
  refine eRO_init_4 rfl ?_
  refine eRO_init_5 ?_
  refine eRO_init_7 (n := 16) (by decide) (by decide) (by decide) ?_
  refine eRO_init_9 (xw_ne (by omega) hs) (Nat.le_of_ble_eq_true rfl) ?_
  refine eRO_init_12 ⟨rfl, ⟨fun _ => 0, 0, ?_, ?_, by decide, fun i _ => by simp, fun i x hi => by simp at hi, List.nodup_nil, fun x hx => by cases hx⟩, x_gr.new.put (by simp)⟩
  · rw [xq_eq, hn]
    rfl
  · refine xq_ne (by omega) ?_
    rw [← hn]
    exact xw_eq
theorem sQU_init {q : Nat} (hs : h.1 q = some (.inr (5, [.null, .int 0, .int 0]))) (hn : h.2.1 = q + 1) : x_K P (d + 1) mQU_init 0 [some (.ref q)] [] h (fun oc h' => oc = .returned none ∧ isQ h' q (q + 1) 4 0 [] ∧ x_gr h h' 1 16 [q]) := by
  refine eQU_init_0 rfl ?_
  refine eQU_init_1 (Nat.le_of_ble_eq_true rfl) ?_
  refine eQU_init_4 rfl ?_
  refine eQU_init_5 ?_
  refine eQU_init_7 (n := 16) (by decide) (by decide) (by decide) ?_
  refine eQU_init_9 (xw_ne (by omega) hs) (Nat.le_of_ble_eq_true rfl) ?_
  refine eQU_init_12 ⟨rfl, ⟨fun _ => 0, ?_, ?_, by decide, by decide, by decide, by decide, fun i x hi => by simp at hi⟩, x_gr.new.put (by simp)⟩
  · rw [xq_eq, hn]
    rfl
  · refine xq_ne (by omega) ?_
    rw [← hn]
    exact xw_eq
theorem sNO_init {a : Nat} {x y z : Int32} (hs : h.1 a = some (.inr (4, [.int 0, .int 0, .int 0]))) : x_K P (d + 1) mNO_init 0 [some (.ref a), some (.int x), some (.int y), some (.int z)] [] h (fun oc h' => oc = .returned none ∧ isNo h' a x y z ∧ x_only h h' [a]) := by
  refine eNO_init_0 rfl ?_
  refine eNO_init_1 (Nat.le_of_ble_eq_true rfl) ?_
  refine eNO_init_4 rfl ?_
  refine eNO_init_5 ?_
  refine eNO_init_6 hs (Nat.le_of_ble_eq_true rfl) ?_
  refine eNO_init_9 rfl ?_
  refine eNO_init_10 ?_
  refine eNO_init_11 xq_eq (Nat.le_of_ble_eq_true rfl) ?_
  refine eNO_init_14 rfl ?_
  refine eNO_init_15 ?_
  refine eNO_init_16 xq_eq (Nat.le_of_ble_eq_true rfl) ?_
  refine eNO_init_19 ⟨rfl, ?_, ((x_only.rf.put (by simp)).put (by simp)).put (by simp)⟩
  unfold isNo
  rw [xq_eq]
  rfl
/-- a link at a, its rows and its queue behind it -/
def isLk (h : x_H) (a : Nat) (u v : Int32) (T H : List Nat) (L : List Int32) : Prop := h.1 a = some (.inr (3, [.int u, .int v, .ref (a + 1), .ref (a + 3), .ref (a + 5)])) ∧ isRow h (a + 1) T ∧ isRow h (a + 3) H ∧ isQ h (a + 5) (a + 6) 4 0 L
theorem isRow.gr {h h' : x_H} {r n m : Nat} {l S : List Nat} (k : isRow h r l) (o : x_gr h h' n m S) (hl : r + 1 < h.2.1) (h1 : r ∉ S) (h2 : r + 1 ∉ S) : isRow h' r l := by
  obtain ⟨f, m, hr, ha, z⟩ := k
  exact ⟨f, m, (o.2.2 r (by omega) h1).trans hr, (o.2.2 _ hl h2).trans ha, z⟩
theorem isQ.gr {h h' : x_H} {q w e first n m : Nat} {l : List Int32} {S : List Nat} (k : isQ h q w e first l) (o : x_gr h h' n m S) (hl : q < h.2.1) (hl2 : w < h.2.1) (h1 : q ∉ S) (h2 : w ∉ S) : isQ h' q w e first l := by
  obtain ⟨f, hr, ha, z⟩ := k
  exact ⟨f, (o.2.2 q hl h1).trans hr, (o.2.2 _ hl2 h2).trans ha, z⟩
theorem sLI_init {a : Nat} {u v : Int32} (hs : h.1 a = some (.inr (3, [.int 0, .int 0, .null, .null, .null]))) (hn : h.2.1 = a + 1) : x_K P (d + 2) mLI_init 0 [some (.ref a), some (.int u), some (.int v)] [] h (fun oc h' => oc = .returned none ∧ isLk h' a u v [] [] [] ∧ x_gr h h' 6 57 [a]) := by
  refine eLI_init_0 rfl ?_
  refine eLI_init_1 (Nat.le_of_ble_eq_true rfl) ?_
  refine eLI_init_4 rfl ?_
  refine eLI_init_5 ?_
  refine eLI_init_8 rfl ?_
  refine eLI_init_9 (Nat.le_of_ble_eq_true rfl) (sRO_init xw_eq rfl) ?_
  rintro _ h1 ⟨rfl, r1, g1⟩
  refine ⟨_, rfl, ?_⟩
  have g1' := (x_gr.new (h := h) (e := .inr (6, [.null, .int 0, .int 0])) (n := 3) (S := [])).trans g1 (S := []) (fun _ z => z) (fun q hq hlt => by simp at hq; omega)
  have n1 : h1.2.1 = a + 3 := by rw [g1'.1, hn]
  rw [hn] at r1
  have c1 := (g1'.2.2 a (by omega) (by simp)).trans hs
  refine eLI_init_12 c1 (Nat.le_of_ble_eq_true rfl) ?_
  refine eLI_init_15 rfl ?_
  refine eLI_init_16 ?_
  refine eLI_init_19 rfl ?_
  refine eLI_init_20 (Nat.le_of_ble_eq_true rfl) (sRO_init xw_eq rfl) ?_
  rintro _ h2 ⟨rfl, r2, g2⟩
  refine ⟨_, rfl, ?_⟩
  have p1 : x_gr h1 (x_put h1 a (.inr (3, [.int 0, .int 0, .ref h.2.1, .null, .null]))) 0 0 [a] := x_gr.rf.put (by simp)
  have g2' := (p1.trans (x_gr.new (S := [a])) (S := [a]) (fun _ z => z) (fun _ z _ => z)).trans g2 (S := [a]) (fun _ z => z) (fun q hq hlt => by
    have : q = h1.2.1 := List.mem_singleton.mp hq
    omega)
  have n2 : h2.2.1 = a + 5 := by rw [g2'.1, n1]
  have e2 : (x_put h1 a (.inr (3, [.int 0, .int 0, .ref h.2.1, .null, .null]))).2.1 = a + 3 := n1
  have r2' : isRow h2 (a + 3) [] := by rw [← e2]; exact r2
  have c2 : h2.1 a = some (.inr (3, [.int 0, .int 0, .ref h.2.1, .null, .null])) := (g2.2.2 a (show a < h1.2.1 + 1 by omega) (by simp only [List.mem_singleton]; show ¬ a = h1.2.1; omega)).trans (xw_ne (show a ≠ h1.2.1 by omega) xq_eq)
  refine eLI_init_23 c2 (Nat.le_of_ble_eq_true rfl) ?_
  refine eLI_init_26 rfl ?_
  refine eLI_init_27 ?_
  refine eLI_init_30 rfl ?_
  refine eLI_init_31 (Nat.le_of_ble_eq_true rfl) (sQU_init xw_eq rfl) ?_
  rintro _ h3 ⟨rfl, r3, g3⟩
  refine ⟨_, rfl, ?_⟩
  have p2 : x_gr h2 (x_put h2 a (.inr (3, [.int 0, .int 0, .ref h.2.1, .ref h1.2.1, .null]))) 0 0 [a] := x_gr.rf.put (by simp)
  have g3' := (p2.trans (x_gr.new (S := [a])) (S := [a]) (fun _ z => z) (fun _ z _ => z)).trans g3 (S := [a]) (fun _ z => z) (fun q hq hlt => by
    have : q = h2.2.1 := List.mem_singleton.mp hq
    omega)
  have n3 : h3.2.1 = a + 7 := by rw [g3'.1, n2]
  have e3 : (x_put h2 a (.inr (3, [.int 0, .int 0, .ref h.2.1, .ref h1.2.1, .null]))).2.1 = a + 5 := n2
  have r3' : isQ h3 (a + 5) (a + 6) 4 0 [] := by rw [show a + 6 = a + 5 + 1 by omega, ← e3]; exact r3
  have c3 : h3.1 a = some (.inr (3, [.int 0, .int 0, .ref h.2.1, .ref h1.2.1, .null])) := (g3.2.2 a (show a < h2.2.1 + 1 by omega) (by simp only [List.mem_singleton]; show ¬ a = h2.2.1; omega)).trans (xw_ne (show a ≠ h2.2.1 by omega) xq_eq)
  refine eLI_init_34 c3 (Nat.le_of_ble_eq_true rfl) ?_
  refine eLI_init_37 rfl ?_
  refine eLI_init_38 ?_
  refine eLI_init_39 xq_eq (Nat.le_of_ble_eq_true rfl) ?_
  refine eLI_init_42 rfl ?_
  refine eLI_init_43 ?_
  refine eLI_init_44 xq_eq (Nat.le_of_ble_eq_true rfl) ?_
  have r1a := (r1.gr g2' (by omega) (by simp <;> omega) (by simp <;> omega)).gr g3' (by omega) (by simp <;> omega) (by simp <;> omega)
  have r2a := r2'.gr g3' (by omega) (by simp <;> omega) (by simp <;> omega)
  have t3 : x_gr h h3 6 57 [a] := (g1'.trans g2' (S := [a]) (fun _ z => by cases z) (fun _ z _ => z)).trans g3' (S := [a]) (fun _ z => z) (fun _ z _ => z)
  refine eLI_init_47 ⟨rfl, ⟨?_, ?_, ?_, ?_⟩, ((t3.put (by simp)).put (by simp)).put (by simp)⟩
  · rw [xq_eq, hn, n1]
    show some (Sum.inr (3, [Value.int u, Value.int v, Value.ref (a + 1), Value.ref (a + 3), Value.ref h2.2.1])) = _
    rw [n2]
  · exact r1a.keep ((((x_only.rf (S := [a])).put (by simp)).put (by simp)).put (by simp)) (by simp <;> omega) (by simp <;> omega)
  · exact r2a.keep ((((x_only.rf (S := [a])).put (by simp)).put (by simp)).put (by simp)) (by simp <;> omega) (by simp <;> omega)
  · exact r3'.keep ((((x_only.rf (S := [a])).put (by simp)).put (by simp)).put (by simp)) (by simp) (by simp)
end

