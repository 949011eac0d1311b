/-! The reference: one object at bm, its arrays behind it; ze holds its ints, si its arrays -/
def moF (bm : Nat) (ze : Nat → Int32) : List Value := [.int (ze 0), .ref (bm + 1), .int (ze 1), .ref (bm + 2), .int (ze 2), .ref (bm + 3), .ref (bm + 4), .ref (bm + 5), .ref (bm + 6), .ref (bm + 7), .ref (bm + 8), .ref (bm + 9), .ref (bm + 10), .ref (bm + 11), .ref (bm + 12), .ref (bm + 13), .ref (bm + 14), .ref (bm + 15), .int (ze 3), .ref (bm + 16), .ref (bm + 17), .ref (bm + 18), .ref (bm + 19), .ref (bm + 20), .ref (bm + 21), .ref (bm + 22), .ref (bm + 23), .ref (bm + 24), .ref (bm + 25), .int (ze 4), .ref (bm + 26), .int (ze 5), .int (ze 6), .int (ze 7), .int (ze 8), .int (ze 9), .ref (bm + 27), .ref (bm + 28), .ref (bm + 29), .ref (bm + 30), .ref (bm + 31), .ref (bm + 32)]
def moT : Nat → Nat
  | 1 => 2
  | 11 => 1
  | 12 => 1
  | 13 => 1
  | 14 => 1
  | 15 => 1
  | 17 => 1
  | 26 => 1
  | _ => 0
def moN : Nat → Nat
  | 1 => 30
  | 2 => 36
  | 3 => 36
  | 4 => 36
  | 5 => 36
  | 6 => 108
  | 7 => 18
  | 8 => 18
  | 9 => 18
  | 10 => 54
  | 11 => 36
  | 12 => 18
  | 13 => 18
  | 14 => 18
  | 15 => 256
  | 16 => 16
  | 17 => 16
  | 18 => 10
  | 19 => 160
  | 20 => 10
  | 21 => 160
  | 22 => 10
  | 23 => 10
  | 24 => 10000
  | 25 => 128
  | 26 => 128
  | 27 => 520
  | 28 => 520
  | 29 => 520
  | 30 => 8
  | 31 => 8
  | 32 => 4160
  | _ => 0
def mh (h0 : x_H) (bm : Nat) (ze : Nat → Int32) (si : Nat → Nat → Int32) : x_H := (fun q => if q = bm then some (.inr (8, moF bm ze)) else if bm < q ∧ q ≤ bm + 32 then some (.inl (moT (q - bm), moN (q - bm), .inl (si (q - bm)))) else h0.1 q, h0.2)
section
variable {h0 : x_H} {bm : Nat} {ze : Nat → Int32} {si : Nat → Nat → Int32}
theorem mh_o : (mh h0 bm ze si).1 bm = some (.inr (8, moF bm ze)) := by simp [mh]
theorem mh_a (K : Nat) (h1 : 1 ≤ K) (h2 : K ≤ 32) : (mh h0 bm ze si).1 (bm + K) = some (.inl (moT K, moN K, .inl (si K))) := by
  simp only [mh]
  rw [if_neg (by omega), if_pos (by omega), Nat.add_sub_cancel_left]
theorem mh_p (K : Nat) (h1 : 1 ≤ K) (h2 : K ≤ 32) (f : Nat → Int32) : x_put (mh h0 bm ze si) (bm + K) (.inl (moT K, moN K, .inl f)) = mh h0 bm ze (va_up si K f) := by
  unfold x_put mh
  refine Prod.ext ?_ rfl
  funext q
  show (if q = bm + K then _ else if q = bm then _ else if bm < q ∧ q ≤ bm + 32 then _ else _) = (if q = bm then _ else if bm < q ∧ q ≤ bm + 32 then _ else _)
  by_cases hq : q = bm + K
  · subst hq
    rw [if_pos rfl, if_neg (by omega), if_pos (by omega), Nat.add_sub_cancel_left]
    simp [va_up]
  · rw [if_neg hq]
    by_cases hb : q = bm
    · rw [if_pos hb, if_pos hb]
    · rw [if_neg hb, if_neg hb]
      by_cases hr : bm < q ∧ q ≤ bm + 32
      · rw [if_pos hr, if_pos hr]
        simp only [va_up]
        rw [if_neg (by omega)]
      · rw [if_neg hr, if_neg hr]
theorem mh_pf (f : List Value) (ze' : Nat → Int32) (hf : f = moF bm ze') : x_put (mh h0 bm ze si) bm (.inr (8, f)) = mh h0 bm ze' si := by
  subst hf
  unfold x_put mh
  refine Prod.ext ?_ rfl
  funext q
  show (if q = bm then _ else if q = bm then _ else if bm < q ∧ q ≤ bm + 32 then _ else _) = (if q = bm then _ else if bm < q ∧ q ≤ bm + 32 then _ else _)
  by_cases hq : q = bm
  · rw [if_pos hq, if_pos hq]
  · rw [if_neg hq, if_neg hq, if_neg hq]
theorem mh_a1 : (mh h0 bm ze si).1 (bm + 1) = some (.inl (2, 30, .inl (si 1))) := mh_a 1 (by decide) (by decide)
theorem mh_p1 {f : Nat → Int32} : x_put (mh h0 bm ze si) (bm + 1) (.inl (2, 30, .inl f)) = mh h0 bm ze (va_up si 1 f) := mh_p 1 (by decide) (by decide) f
theorem mh_a2 : (mh h0 bm ze si).1 (bm + 2) = some (.inl (0, 36, .inl (si 2))) := mh_a 2 (by decide) (by decide)
theorem mh_p2 {f : Nat → Int32} : x_put (mh h0 bm ze si) (bm + 2) (.inl (0, 36, .inl f)) = mh h0 bm ze (va_up si 2 f) := mh_p 2 (by decide) (by decide) f
theorem mh_a3 : (mh h0 bm ze si).1 (bm + 3) = some (.inl (0, 36, .inl (si 3))) := mh_a 3 (by decide) (by decide)
theorem mh_p3 {f : Nat → Int32} : x_put (mh h0 bm ze si) (bm + 3) (.inl (0, 36, .inl f)) = mh h0 bm ze (va_up si 3 f) := mh_p 3 (by decide) (by decide) f
theorem mh_a4 : (mh h0 bm ze si).1 (bm + 4) = some (.inl (0, 36, .inl (si 4))) := mh_a 4 (by decide) (by decide)
theorem mh_p4 {f : Nat → Int32} : x_put (mh h0 bm ze si) (bm + 4) (.inl (0, 36, .inl f)) = mh h0 bm ze (va_up si 4 f) := mh_p 4 (by decide) (by decide) f
theorem mh_a5 : (mh h0 bm ze si).1 (bm + 5) = some (.inl (0, 36, .inl (si 5))) := mh_a 5 (by decide) (by decide)
theorem mh_p5 {f : Nat → Int32} : x_put (mh h0 bm ze si) (bm + 5) (.inl (0, 36, .inl f)) = mh h0 bm ze (va_up si 5 f) := mh_p 5 (by decide) (by decide) f
theorem mh_a6 : (mh h0 bm ze si).1 (bm + 6) = some (.inl (0, 108, .inl (si 6))) := mh_a 6 (by decide) (by decide)
theorem mh_p6 {f : Nat → Int32} : x_put (mh h0 bm ze si) (bm + 6) (.inl (0, 108, .inl f)) = mh h0 bm ze (va_up si 6 f) := mh_p 6 (by decide) (by decide) f
theorem mh_a7 : (mh h0 bm ze si).1 (bm + 7) = some (.inl (0, 18, .inl (si 7))) := mh_a 7 (by decide) (by decide)
theorem mh_p7 {f : Nat → Int32} : x_put (mh h0 bm ze si) (bm + 7) (.inl (0, 18, .inl f)) = mh h0 bm ze (va_up si 7 f) := mh_p 7 (by decide) (by decide) f
theorem mh_a8 : (mh h0 bm ze si).1 (bm + 8) = some (.inl (0, 18, .inl (si 8))) := mh_a 8 (by decide) (by decide)
theorem mh_p8 {f : Nat → Int32} : x_put (mh h0 bm ze si) (bm + 8) (.inl (0, 18, .inl f)) = mh h0 bm ze (va_up si 8 f) := mh_p 8 (by decide) (by decide) f
theorem mh_a9 : (mh h0 bm ze si).1 (bm + 9) = some (.inl (0, 18, .inl (si 9))) := mh_a 9 (by decide) (by decide)
theorem mh_p9 {f : Nat → Int32} : x_put (mh h0 bm ze si) (bm + 9) (.inl (0, 18, .inl f)) = mh h0 bm ze (va_up si 9 f) := mh_p 9 (by decide) (by decide) f
theorem mh_a10 : (mh h0 bm ze si).1 (bm + 10) = some (.inl (0, 54, .inl (si 10))) := mh_a 10 (by decide) (by decide)
theorem mh_p10 {f : Nat → Int32} : x_put (mh h0 bm ze si) (bm + 10) (.inl (0, 54, .inl f)) = mh h0 bm ze (va_up si 10 f) := mh_p 10 (by decide) (by decide) f
theorem mh_a11 : (mh h0 bm ze si).1 (bm + 11) = some (.inl (1, 36, .inl (si 11))) := mh_a 11 (by decide) (by decide)
theorem mh_p11 {f : Nat → Int32} : x_put (mh h0 bm ze si) (bm + 11) (.inl (1, 36, .inl f)) = mh h0 bm ze (va_up si 11 f) := mh_p 11 (by decide) (by decide) f
theorem mh_a12 : (mh h0 bm ze si).1 (bm + 12) = some (.inl (1, 18, .inl (si 12))) := mh_a 12 (by decide) (by decide)
theorem mh_p12 {f : Nat → Int32} : x_put (mh h0 bm ze si) (bm + 12) (.inl (1, 18, .inl f)) = mh h0 bm ze (va_up si 12 f) := mh_p 12 (by decide) (by decide) f
theorem mh_a13 : (mh h0 bm ze si).1 (bm + 13) = some (.inl (1, 18, .inl (si 13))) := mh_a 13 (by decide) (by decide)
theorem mh_p13 {f : Nat → Int32} : x_put (mh h0 bm ze si) (bm + 13) (.inl (1, 18, .inl f)) = mh h0 bm ze (va_up si 13 f) := mh_p 13 (by decide) (by decide) f
theorem mh_a14 : (mh h0 bm ze si).1 (bm + 14) = some (.inl (1, 18, .inl (si 14))) := mh_a 14 (by decide) (by decide)
theorem mh_p14 {f : Nat → Int32} : x_put (mh h0 bm ze si) (bm + 14) (.inl (1, 18, .inl f)) = mh h0 bm ze (va_up si 14 f) := mh_p 14 (by decide) (by decide) f
theorem mh_a15 : (mh h0 bm ze si).1 (bm + 15) = some (.inl (1, 256, .inl (si 15))) := mh_a 15 (by decide) (by decide)
theorem mh_p15 {f : Nat → Int32} : x_put (mh h0 bm ze si) (bm + 15) (.inl (1, 256, .inl f)) = mh h0 bm ze (va_up si 15 f) := mh_p 15 (by decide) (by decide) f
theorem mh_a16 : (mh h0 bm ze si).1 (bm + 16) = some (.inl (0, 16, .inl (si 16))) := mh_a 16 (by decide) (by decide)
theorem mh_p16 {f : Nat → Int32} : x_put (mh h0 bm ze si) (bm + 16) (.inl (0, 16, .inl f)) = mh h0 bm ze (va_up si 16 f) := mh_p 16 (by decide) (by decide) f
theorem mh_a17 : (mh h0 bm ze si).1 (bm + 17) = some (.inl (1, 16, .inl (si 17))) := mh_a 17 (by decide) (by decide)
theorem mh_p17 {f : Nat → Int32} : x_put (mh h0 bm ze si) (bm + 17) (.inl (1, 16, .inl f)) = mh h0 bm ze (va_up si 17 f) := mh_p 17 (by decide) (by decide) f
theorem mh_a18 : (mh h0 bm ze si).1 (bm + 18) = some (.inl (0, 10, .inl (si 18))) := mh_a 18 (by decide) (by decide)
theorem mh_p18 {f : Nat → Int32} : x_put (mh h0 bm ze si) (bm + 18) (.inl (0, 10, .inl f)) = mh h0 bm ze (va_up si 18 f) := mh_p 18 (by decide) (by decide) f
theorem mh_a19 : (mh h0 bm ze si).1 (bm + 19) = some (.inl (0, 160, .inl (si 19))) := mh_a 19 (by decide) (by decide)
theorem mh_p19 {f : Nat → Int32} : x_put (mh h0 bm ze si) (bm + 19) (.inl (0, 160, .inl f)) = mh h0 bm ze (va_up si 19 f) := mh_p 19 (by decide) (by decide) f
theorem mh_a20 : (mh h0 bm ze si).1 (bm + 20) = some (.inl (0, 10, .inl (si 20))) := mh_a 20 (by decide) (by decide)
theorem mh_p20 {f : Nat → Int32} : x_put (mh h0 bm ze si) (bm + 20) (.inl (0, 10, .inl f)) = mh h0 bm ze (va_up si 20 f) := mh_p 20 (by decide) (by decide) f
theorem mh_a21 : (mh h0 bm ze si).1 (bm + 21) = some (.inl (0, 160, .inl (si 21))) := mh_a 21 (by decide) (by decide)
theorem mh_p21 {f : Nat → Int32} : x_put (mh h0 bm ze si) (bm + 21) (.inl (0, 160, .inl f)) = mh h0 bm ze (va_up si 21 f) := mh_p 21 (by decide) (by decide) f
theorem mh_a22 : (mh h0 bm ze si).1 (bm + 22) = some (.inl (0, 10, .inl (si 22))) := mh_a 22 (by decide) (by decide)
theorem mh_p22 {f : Nat → Int32} : x_put (mh h0 bm ze si) (bm + 22) (.inl (0, 10, .inl f)) = mh h0 bm ze (va_up si 22 f) := mh_p 22 (by decide) (by decide) f
theorem mh_a23 : (mh h0 bm ze si).1 (bm + 23) = some (.inl (0, 10, .inl (si 23))) := mh_a 23 (by decide) (by decide)
theorem mh_p23 {f : Nat → Int32} : x_put (mh h0 bm ze si) (bm + 23) (.inl (0, 10, .inl f)) = mh h0 bm ze (va_up si 23 f) := mh_p 23 (by decide) (by decide) f
theorem mh_a24 : (mh h0 bm ze si).1 (bm + 24) = some (.inl (0, 10000, .inl (si 24))) := mh_a 24 (by decide) (by decide)
theorem mh_p24 {f : Nat → Int32} : x_put (mh h0 bm ze si) (bm + 24) (.inl (0, 10000, .inl f)) = mh h0 bm ze (va_up si 24 f) := mh_p 24 (by decide) (by decide) f
theorem mh_a25 : (mh h0 bm ze si).1 (bm + 25) = some (.inl (0, 128, .inl (si 25))) := mh_a 25 (by decide) (by decide)
theorem mh_p25 {f : Nat → Int32} : x_put (mh h0 bm ze si) (bm + 25) (.inl (0, 128, .inl f)) = mh h0 bm ze (va_up si 25 f) := mh_p 25 (by decide) (by decide) f
theorem mh_a26 : (mh h0 bm ze si).1 (bm + 26) = some (.inl (1, 128, .inl (si 26))) := mh_a 26 (by decide) (by decide)
theorem mh_p26 {f : Nat → Int32} : x_put (mh h0 bm ze si) (bm + 26) (.inl (1, 128, .inl f)) = mh h0 bm ze (va_up si 26 f) := mh_p 26 (by decide) (by decide) f
theorem mh_a27 : (mh h0 bm ze si).1 (bm + 27) = some (.inl (0, 520, .inl (si 27))) := mh_a 27 (by decide) (by decide)
theorem mh_p27 {f : Nat → Int32} : x_put (mh h0 bm ze si) (bm + 27) (.inl (0, 520, .inl f)) = mh h0 bm ze (va_up si 27 f) := mh_p 27 (by decide) (by decide) f
theorem mh_a28 : (mh h0 bm ze si).1 (bm + 28) = some (.inl (0, 520, .inl (si 28))) := mh_a 28 (by decide) (by decide)
theorem mh_p28 {f : Nat → Int32} : x_put (mh h0 bm ze si) (bm + 28) (.inl (0, 520, .inl f)) = mh h0 bm ze (va_up si 28 f) := mh_p 28 (by decide) (by decide) f
theorem mh_a29 : (mh h0 bm ze si).1 (bm + 29) = some (.inl (0, 520, .inl (si 29))) := mh_a 29 (by decide) (by decide)
theorem mh_p29 {f : Nat → Int32} : x_put (mh h0 bm ze si) (bm + 29) (.inl (0, 520, .inl f)) = mh h0 bm ze (va_up si 29 f) := mh_p 29 (by decide) (by decide) f
theorem mh_a30 : (mh h0 bm ze si).1 (bm + 30) = some (.inl (0, 8, .inl (si 30))) := mh_a 30 (by decide) (by decide)
theorem mh_p30 {f : Nat → Int32} : x_put (mh h0 bm ze si) (bm + 30) (.inl (0, 8, .inl f)) = mh h0 bm ze (va_up si 30 f) := mh_p 30 (by decide) (by decide) f
theorem mh_a31 : (mh h0 bm ze si).1 (bm + 31) = some (.inl (0, 8, .inl (si 31))) := mh_a 31 (by decide) (by decide)
theorem mh_p31 {f : Nat → Int32} : x_put (mh h0 bm ze si) (bm + 31) (.inl (0, 8, .inl f)) = mh h0 bm ze (va_up si 31 f) := mh_p 31 (by decide) (by decide) f
theorem mh_a32 : (mh h0 bm ze si).1 (bm + 32) = some (.inl (0, 4160, .inl (si 32))) := mh_a 32 (by decide) (by decide)
theorem mh_p32 {f : Nat → Int32} : x_put (mh h0 bm ze si) (bm + 32) (.inl (0, 4160, .inl f)) = mh h0 bm ze (va_up si 32 f) := mh_p 32 (by decide) (by decide) f
theorem mh_f0 {z : Int32} : x_put (mh h0 bm ze si) bm (.inr (8, (moF bm ze).set 0 (.int z))) = mh h0 bm (upd ze 0 z) si := mh_pf _ _ rfl
theorem mh_f1 {z : Int32} : x_put (mh h0 bm ze si) bm (.inr (8, (moF bm ze).set 2 (.int z))) = mh h0 bm (upd ze 1 z) si := mh_pf _ _ rfl
theorem mh_f2 {z : Int32} : x_put (mh h0 bm ze si) bm (.inr (8, (moF bm ze).set 4 (.int z))) = mh h0 bm (upd ze 2 z) si := mh_pf _ _ rfl
theorem mh_f3 {z : Int32} : x_put (mh h0 bm ze si) bm (.inr (8, (moF bm ze).set 18 (.int z))) = mh h0 bm (upd ze 3 z) si := mh_pf _ _ rfl
theorem mh_f4 {z : Int32} : x_put (mh h0 bm ze si) bm (.inr (8, (moF bm ze).set 29 (.int z))) = mh h0 bm (upd ze 4 z) si := mh_pf _ _ rfl
theorem mh_f5 {z : Int32} : x_put (mh h0 bm ze si) bm (.inr (8, (moF bm ze).set 31 (.int z))) = mh h0 bm (upd ze 5 z) si := mh_pf _ _ rfl
theorem mh_f6 {z : Int32} : x_put (mh h0 bm ze si) bm (.inr (8, (moF bm ze).set 32 (.int z))) = mh h0 bm (upd ze 6 z) si := mh_pf _ _ rfl
theorem mh_f7 {z : Int32} : x_put (mh h0 bm ze si) bm (.inr (8, (moF bm ze).set 33 (.int z))) = mh h0 bm (upd ze 7 z) si := mh_pf _ _ rfl
theorem mh_f8 {z : Int32} : x_put (mh h0 bm ze si) bm (.inr (8, (moF bm ze).set 34 (.int z))) = mh h0 bm (upd ze 8 z) si := mh_pf _ _ rfl
theorem mh_f9 {z : Int32} : x_put (mh h0 bm ze si) bm (.inr (8, (moF bm ze).set 35 (.int z))) = mh h0 bm (upd ze 9 z) si := mh_pf _ _ rfl
end
