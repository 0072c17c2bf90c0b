/-! 94: whole points compared by the reference. -/
def zWX (Y : zV) : Prop := Y.2.2.2 = 1 ∧ ∀ i, i < 3 → zab (zco Y i) 200
theorem zWX_bd {Y : zV} (h : zWX Y) : zBd Y := ⟨fun i hi => zab_le (h.2 i hi) (by omega), by rw [h.1]; omega, by rw [h.1]; omega⟩
theorem z64_32 {x : Int64} {v : Int} (hx : x.toInt = v) (hv : zab v 200) : x.toInt32.toInt = v := by
  have h1 := zab_lo hv
  have h2 := zab_hi hv
  rw [Int64.toInt_toInt32, hx]
  exact Int.bmod_eq_of_le (by omega) (by omega)
theorem zdot32 {s c t : Int32} {A : Nat} (hs : zab s.toInt A) (hc : zab c.toInt 9) (ht : zab t.toInt 200) (hA : A < 100000) : (s + c * t).toInt = s.toInt + c.toInt * t.toInt ∧ zab (s + c * t).toInt (A + 1800) := by
  have m := z32mul hc ht (by omega)
  have hm : zab (c * t).toInt (9 * 200) := by rw [m]; exact zab_mul hc ht
  have a := z32add hs hm (by omega)
  refine ⟨by rw [a, m], ?_⟩
  rw [a]
  exact zab_le (zab_add hs hm) (by omega)
section ZWTOP
variable {n m q : Nat} {P O : zSt}
theorem eX12_wholeTop {a : Nat} {x y z : Int32} {Y : zV} (hP : zPw n m q P) (h : zRl n m q P O) (ha : a < q) (hY : zWX Y) (hx : x.toInt = zco Y 0) (hy : y.toInt = zco Y 1) (hz : z.toInt = zco Y 2) : ∃ v, fX12_wholeTop O (zI a) x y z = some v ∧ v.toInt = (zga P 7 a).toInt * zev (zac P a) Y := by
  have hq := hP.2.2.1
  have hc := (hP.2.2.2.2.2.2.2.2.2.2.1 a ha).1
  have h6 := h.2.2.2.2.2.1 a ha
  have e0 : zga O 5 (3 * a) = zga P 6 (a * 3 + 0) := h6.1 0 (by omega)
  have e1 := h6.1 1 (by omega)
  have e2 := h6.1 2 (by omega)
  have c0 : zab (zga O 5 (3 * a)).toInt 9 := by rw [e0]; exact (hc 0 (by omega)).1
  have c1 : zab (zga O 5 (3 * a + 1)).toInt 9 := by rw [e1]; exact (hc 1 (by omega)).1
  have c2 : zab (zga O 5 (3 * a + 2)).toInt 9 := by rw [e2]; exact (hc 2 (by omega)).1
  have hx2 : zab x.toInt 200 := by rw [hx]; exact hY.2 0 (by omega)
  have hy2 : zab y.toInt 200 := by rw [hy]; exact hY.2 1 (by omega)
  have hz2 : zab z.toInt 200 := by rw [hz]; exact hY.2 2 (by omega)
  have m0 := z32mul c0 hx2 (by omega)
  have b0 : zab (zga O 5 (3 * a) * x).toInt 1800 := by rw [m0]; exact zab_mul c0 hx2
  have d1 := zdot32 b0 c1 hy2 (by omega)
  have d2 := zdot32 d1.2 c2 hz2 (by omega)
  have tot : (zga O 5 (3 * a) * x + zga O 5 (3 * a + 1) * y + zga O 5 (3 * a + 2) * z).toInt64.toInt = zev (zac P a) Y := by
    rw [z32_64, d2.1, d1.1, m0, e0, e1, e2, hx, hy, hz]
    unfold zev zac
    simp only [zco, Nat.add_zero, Int.zero_mul, Int.add_zero]
  have totb : zab (zga O 5 (3 * a) * x + zga O 5 (3 * a + 1) * y + zga O 5 (3 * a + 2) * z).toInt64.toInt 10000 := by
    rw [z32_64]
    exact zab_le d2.2 (by omega)
  have ng := z64neg totb (by omega)
  unfold fX12_wholeTop fX12_wholeTop_57
  simp only [zn1, zn2, zn3, zI_mul, zI_add]
  rw [if_pos (zin_zI (by omega) (by omega)), if_pos (zin_zI (by omega) (by omega)), if_pos (zin_zI (by omega) (by omega)), zlq, if_pos (zin_zI (by omega) (by omega)), zI_nat (by omega), zI_nat (by omega), zI_nat (by omega), zI_nat (by omega)]
  rcases h6.2 with ⟨k, k2⟩ | ⟨k, k2⟩
  · rw [if_neg k2]
    refine ⟨_, rfl, ?_⟩
    rw [tot, k, show (1 : Int32).toInt = 1 by decide, Int.one_mul]
  · rw [if_pos k2]
    refine ⟨_, rfl, ?_⟩
    rw [ng, tot, k, show (-1 : Int32).toInt = -1 by decide]
    omega
theorem zwbet {x y z : Int32} {Z Y : zV} (hP : zPw n m q P) (h : zRl n m q P O) (hZ : zWX Z) (hY : zWX Y) (hx : x.toInt = zco Z 0) (hy : y.toInt = zco Z 1) (hz : z.toInt = zco Z 2) (h30 : ∀ i, i < 3 → (zgb O 30 i).toInt = zco Y i) : ∀ (d a f : Nat), a + d = q → d < f → (∀ b, b < a → zev (zac P b) Z * Y.2.2.2 = zev (zac P b) Y * Z.2.2.2) → ∃ c, fX12_isWholeBetter_3 O f x y z (zI a) = some c ∧ ((c = 0 ∧ ¬ zcmpb P q Z Y) ∨ (c = 1 ∧ zcmpb P q Z Y))
  | 0, a, f + 1, ha, hf, he => by
    have e : a = q := by omega
    subst e
    rw [fX12_isWholeBetter_3, h.2.2.1, if_pos (Int32.le_refl _)]
    refine ⟨0, rfl, Or.inl ⟨rfl, fun ⟨b, h1, h2, h3⟩ => ?_⟩⟩
    rw [he b h1, Int.sub_self, Int.mul_zero] at h3
    omega
  | d + 1, a, f + 1, ha, hf, he => by
    have hq := hP.2.2.1
    obtain ⟨u, u1, u2⟩ := eX12_wholeTop (a := a) hP h (by omega) hZ hx hy hz
    obtain ⟨v, v1, v2⟩ := eX12_wholeTop (a := a) hP h (by omega) hY (z64_32 (h30 0 (by omega)) (hY.2 0 (by omega))) (z64_32 (h30 1 (by omega)) (hY.2 1 (by omega))) (z64_32 (h30 2 (by omega)) (hY.2 2 (by omega)))
    have hdir : (zga P 7 a).toInt = 1 ∨ (zga P 7 a).toInt = -1 := by
      rcases (hP.2.2.2.2.2.2.2.2.2.2.1 a (by omega)).2 with k | k
      · rw [k]; exact Or.inl (by decide)
      · rw [k]; exact Or.inr (by decide)
    rw [fX12_isWholeBetter_3, h.2.2.1, if_neg (by rw [zI_le (by omega) (by omega)]; omega), u1, zbq, if_pos (by decide), if_pos (by decide), if_pos (by decide)]
    rw [show (zgb O 30 ((0 : Int32)).toNatClampNeg) = zgb O 30 0 from rfl, show (zgb O 30 ((1 : Int32)).toNatClampNeg) = zgb O 30 1 from rfl, show (zgb O 30 ((2 : Int32)).toNatClampNeg) = zgb O 30 2 from rfl, v1, zbq]
    have w1 := hZ.1
    have w2 := hY.1
    by_cases c : u = v
    · have ce : zev (zac P a) Z = zev (zac P a) Y := by
        have := congrArg Int64.toInt c
        rw [u2, v2] at this
        rcases hdir with k | k <;> rw [k] at this <;> omega
      rw [if_pos c, zlq, zI_succ]
      refine zwbet hP h hZ hY hx hy hz h30 d (a + 1) f (by omega) (by omega) (fun b hb => ?_)
      by_cases e : b = a
      · rw [e, w1, w2, ce]
      · exact he b (by omega)
    · rw [if_neg c]
      have ne : (zga P 7 a).toInt * zev (zac P a) Z ≠ (zga P 7 a).toInt * zev (zac P a) Y := by
        rw [← u2, ← v2]
        exact fun e => c (Int64.toInt_inj.mp e)
      have ne2 : zev (zac P a) Z * Y.2.2.2 ≠ zev (zac P a) Y * Z.2.2.2 := by
        rw [w1, w2, Int.mul_one, Int.mul_one]
        exact fun e => ne (by rw [e])
      have only : zcmpb P q Z Y → 0 < (zga P 7 a).toInt * (zev (zac P a) Z * Y.2.2.2 - zev (zac P a) Y * Z.2.2.2) := by
        rintro ⟨b, hb, h1, h2⟩
        rcases Nat.lt_trichotomy b a with k | k | k
        · rw [he b k, Int.sub_self, Int.mul_zero] at h2; omega
        · rw [k] at h2; exact h2
        · exact absurd (h1 a k) ne2
      rw [w1, w2, Int.mul_one, Int.mul_one, Int.mul_sub] at only
      unfold fX12_isWholeBetter_73
      rw [if_pos znb0, if_pos znb1]
      by_cases g : u ≤ v
      · rw [if_pos g]
        rw [z64le, u2, v2] at g
        refine ⟨0, rfl, Or.inl ⟨rfl, fun k => ?_⟩⟩
        have := only k
        omega
      · rw [if_neg g]
        rw [z64le, u2, v2] at g
        refine ⟨1, rfl, Or.inr ⟨rfl, a, by omega, he, ?_⟩⟩
        rw [w1, w2, Int.mul_one, Int.mul_one, Int.mul_sub]
        omega
theorem eX12_isWholeBetter {x y z : Int32} {Z Y : zV} (hP : zPw n m q P) (h : zRl n m q P O) (hZ : zWX Z) (hY : zWX Y) (hx : x.toInt = zco Z 0) (hy : y.toInt = zco Z 1) (hz : z.toInt = zco Z 2) (h30 : ∀ i, i < 3 → (zgb O 30 i).toInt = zco Y i) : ∃ c, fX12_isWholeBetter O x y z = some c ∧ ((c = 0 ∧ ¬ zcmpb P q Z Y) ∨ (c = 1 ∧ zcmpb P q Z Y)) := by
  unfold fX12_isWholeBetter
  rw [zn0]
  exact zwbet hP h hZ hY hx hy hz h30 q 0 6000 (by omega) (by have := hP.2.2.1; omega) (fun b hb => by omega)
end ZWTOP
