/-! 79: points of the class (X4): sums, sides, breakers. -/
def zQp (Q : zSt) (X : zV) : Prop := (zgl Q 1).toInt = X.2.2.2 ∧ ∀ i, i < 3 → (zgb Q 0 i).toInt = zco X i
def zBd (X : zV) : Prop := (∀ i, i < 3 → zab (zco X i) 23619600) ∧ 0 < X.2.2.2 ∧ X.2.2.2 ≤ 23619600
theorem zPt_qp {Q : zSt} {n : Nat} {X : zV} (h : zPt Q n X) : zQp Q X := h.2
theorem eX4_topOf {Q : zSt} {i : Nat} (h : i < 3) : fX4_topOf Q (zI i) = some (zgb Q 0 i) := by
  simp (disch := omega) only [fX4_topOf, fX4_topOf_22, fX4_topOf_23, zn0, zn3, zI_lt_f, zI_le_f, zin_zI, zI_nat, if_false, if_true]
theorem zdot {s t : Int64} {c : Int32} {A B C : Nat} (hs : zab s.toInt A) (hc : zab c.toInt C) (ht : zab t.toInt B) (h : A + C * B < 9223372036854775808) (h2 : C * B < 9223372036854775808) : (s + c.toInt64 * t).toInt = s.toInt + c.toInt * t.toInt ∧ zab (s + c.toInt64 * t).toInt (A + C * B) := by
  have hc2 : zab c.toInt64.toInt C := by rw [z32_64]; exact hc
  have m := z64mul hc2 ht h2
  have hm : zab (c.toInt64 * t).toInt (C * B) := by rw [m]; exact zab_mul hc2 ht
  have a := z64add hs hm h
  refine ⟨by rw [a, m, z32_64], ?_⟩
  rw [a]
  exact zab_add hs hm
/-- a row's sum less its number; an aim's sum -/
def zrc (P : zSt) (r : Nat) : zV := ((zga P 2 (r * 3)).toInt, (zga P 2 (r * 3 + 1)).toInt, (zga P 2 (r * 3 + 2)).toInt, -(zga P 4 r).toInt)
def zac (P : zSt) (a : Nat) : zV := ((zga P 6 (a * 3)).toInt, (zga P 6 (a * 3 + 1)).toInt, (zga P 6 (a * 3 + 2)).toInt, 0)
theorem z64zab0 : zab (0 : Int64).toInt 0 := by rw [z64_0]; exact Nat.le_refl 0
theorem zaimSum_f {n m q a f : Nat} {P Q : zSt} {X : zV} (hP : zPw n m q P) (ha : a < q) (hQ : zQp Q X) (hX : zBd X) : ∃ v, fX5_aimSum_5 P Q (f + 4) (zI a) (0 : Int64) (zI 0) = some v ∧ v.toInt = zev (zac P a) X ∧ zab v.toInt 700000000 := by
  have hq := hP.2.2.1
  have hc := (hP.2.2.2.2.2.2.2.2.2.2.1 a ha).1
  have hb : ∀ i, i < 3 → zab (zgb Q 0 i).toInt 23619600 := fun i hi => by rw [hQ.2 i hi]; exact hX.1 i hi
  have d0 := zdot z64zab0 (hc 0 (by omega)).1 (hb 0 (by omega)) (by omega) (by omega)
  have d1 := zdot d0.2 (hc 1 (by omega)).1 (hb 1 (by omega)) (by omega) (by omega)
  have d2 := zdot d1.2 (hc 2 (by omega)).1 (hb 2 (by omega)) (by omega) (by omega)
  refine ⟨_, ?_, ?_, zab_le d2.2 (by omega)⟩
  · rw [fX5_aimSum_5, if_neg (by rw [zn3, zI_le (by omega) (by omega)]; omega), eX5_aimCoefficient (by omega), zbq, eX4_topOf (by omega), zbq, zlq, zlq, zn1, zI_add]
    rw [fX5_aimSum_5, if_neg (by rw [zn3, zI_le (by omega) (by omega)]; omega), eX5_aimCoefficient (by omega), zbq, eX4_topOf (by omega), zbq, zlq, zlq, zn1, zI_add]
    rw [fX5_aimSum_5, if_neg (by rw [zn3, zI_le (by omega) (by omega)]; omega), eX5_aimCoefficient (by omega), zbq, eX4_topOf (by omega), zbq, zlq, zlq, zn1, zI_add]
    rw [fX5_aimSum_5, if_pos (by rw [zn3, zI_le (by omega) (by omega)]; omega)]
  · rw [d2.1, d1.1, d0.1, z64_0, hQ.2 0 (by omega), hQ.2 1 (by omega), hQ.2 2 (by omega)]
    simp only [zev, zac, zco, Nat.add_zero]
    omega
theorem eX5_aimSum {n m q a : Nat} {P Q : zSt} {X : zV} (hP : zPw n m q P) (ha : a < q) (hQ : zQp Q X) (hX : zBd X) : ∃ v, fX5_aimSum P Q (zI a) = some v ∧ v.toInt = zev (zac P a) X ∧ zab v.toInt 700000000 := by
  unfold fX5_aimSum
  rw [zn0]
  exact zaimSum_f (f := 5996) hP ha hQ hX
def zsgn (v : Int) : Int32 := if v = 0 then 0 else if 0 < v then 1 else -1
theorem eJ13_compare (a b : Int64) : fJ13_compare_74951 a b = some (zsgn (a.toInt - b.toInt)) := by
  unfold fJ13_compare_74951 fJ13_compare_74951_21 zsgn
  by_cases c : b.toInt ≤ a.toInt
  · rw [if_pos (by rw [z64le]; exact c)]
    by_cases d : a.toInt = b.toInt
    · rw [if_pos (by rw [z64eq]; exact d), if_pos (by omega)]
    · rw [if_neg (by rw [z64eq]; exact d), if_neg (by omega), if_pos (by omega)]
  · rw [if_neg (by rw [z64le]; exact c), if_neg (by omega), if_neg (by omega)]
theorem zsideOf_f {n m q r f : Nat} {P Q : zSt} {X : zV} (hP : zPw n m q P) (hr : r < m) (hQ : zQp Q X) (hX : zBd X) : fX5_sideOf_5 P Q (f + 4) (zI r) (0 : Int64) (zI 0) = some (zsgn (zev (zrc P r) X)) := by
  have hm := hP.2.1
  have hc := (hP.2.2.2.2.2.2.2.2.2.1 r hr).1
  have hn := (hP.2.2.2.2.2.2.2.2.2.1 r hr).2.2
  have hb : ∀ i, i < 3 → zab (zgb Q 0 i).toInt 23619600 := fun i hi => by rw [hQ.2 i hi]; exact hX.1 i hi
  have hw : zab (zgl Q 1).toInt 23619600 := by
    rw [hQ.1]
    exact zab_of (by have := hX.2.1; omega) (by have := hX.2.2; omega)
  have d0 := zdot z64zab0 (hc 0 (by omega)).1 (hb 0 (by omega)) (by omega) (by omega)
  have d1 := zdot d0.2 (hc 1 (by omega)).1 (hb 1 (by omega)) (by omega) (by omega)
  have d2 := zdot d1.2 (hc 2 (by omega)).1 (hb 2 (by omega)) (by omega) (by omega)
  have hc2 : zab (zga P 4 r).toInt64.toInt 99 := by rw [z32_64]; exact hn
  have mm := z64mul hc2 hw (by omega)
  rw [fX5_sideOf_5, if_neg (by rw [zn3, zI_le (by omega) (by omega)]; omega), eX5_rowCoefficient (by omega), zbq, eX4_topOf (by omega), zbq, zlq, zlq, zn1, zI_add]
  rw [fX5_sideOf_5, if_neg (by rw [zn3, zI_le (by omega) (by omega)]; omega), eX5_rowCoefficient (by omega), zbq, eX4_topOf (by omega), zbq, zlq, zlq, zn1, zI_add]
  rw [fX5_sideOf_5, if_neg (by rw [zn3, zI_le (by omega) (by omega)]; omega), eX5_rowCoefficient (by omega), zbq, eX4_topOf (by omega), zbq, zlq, zlq, zn1, zI_add]
  rw [fX5_sideOf_5, if_pos (by rw [zn3, zI_le (by omega) (by omega)]; omega), eX5_numberOf (by omega), zbq, eJ13_compare, zbq]
  congr 2
  rw [d2.1, d1.1, d0.1, mm, z32_64, z64_0, hQ.1, hQ.2 0 (by omega), hQ.2 1 (by omega), hQ.2 2 (by omega)]
  simp only [zev, zrc, zco, Nat.add_zero, Int.neg_mul]
  omega
theorem eX5_sideOf {n m q r : Nat} {P Q : zSt} {X : zV} (hP : zPw n m q P) (hr : r < m) (hQ : zQp Q X) (hX : zBd X) : fX5_sideOf P Q (zI r) = some (zsgn (zev (zrc P r) X)) := by
  unfold fX5_sideOf
  rw [zn0]
  exact zsideOf_f (f := 5996) hP hr hQ hX
theorem zsgn_0 {v : Int} : zsgn v = 0 ↔ v = 0 := by
  unfold zsgn
  by_cases c : v = 0
  · rw [if_pos c]; exact ⟨fun _ => c, fun _ => rfl⟩
  · rw [if_neg c]
    constructor
    · intro h
      split at h <;> exact absurd h (by decide)
    · intro h; exact absurd h c
/-- whether a relation (60, 61, 62) lets a sum less its number be so -/
def zalw (k : Int32) (v : Int) : Prop := v = 0 ∨ (v < 0 ∧ k = 60) ∨ (0 < v ∧ k = 62)
theorem eX5_allows (k : Int32) (v : Int) [Decidable (zalw k v)] : fX5_allows k (zsgn v) = some (if zalw k v then 1 else 0) := by
  unfold fX5_allows fX5_allows_14 fX5_allows_24 fX5_allows_28 fX5_allows_29
  rw [if_pos znb1, if_pos znb0]
  rcases Int.lt_trichotomy v 0 with c | c | c
  · have e : zsgn v = -1 := by unfold zsgn; rw [if_neg (by omega), if_neg (by omega)]
    rw [e, if_neg (by decide), if_neg (by decide)]
    by_cases d : k = 60
    · rw [if_pos d, if_pos (show zalw k v from Or.inr (Or.inl ⟨c, d⟩))]
    · rw [if_neg d, if_pos (by decide), if_neg]
      rintro (h | ⟨_, h⟩ | ⟨h, _⟩)
      · omega
      · exact d h
      · omega
  · have e : zsgn v = 0 := zsgn_0.mpr c
    rw [e, if_pos rfl, if_pos (show zalw k v from Or.inl c)]
  · have e : zsgn v = 1 := by unfold zsgn; rw [if_neg (by omega), if_pos c]
    rw [e, if_neg (by decide), if_pos (by decide), if_neg (by decide)]
    by_cases d : k = 62
    · rw [if_pos d, if_pos (show zalw k v from Or.inr (Or.inr ⟨c, d⟩))]
    · rw [if_neg d, if_neg]
      rintro (h | ⟨h, _⟩ | ⟨_, h⟩)
      · omega
      · omega
      · exact d h
