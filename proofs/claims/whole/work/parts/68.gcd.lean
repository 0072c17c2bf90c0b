/-! 68: Euclid's way, of the class and of the reference; gains and tops of the reference. -/
theorem zgcd_step {x y : Nat} (hy : 0 < y) : Nat.gcd y (x % y) = Nat.gcd x y := by
  rw [Nat.gcd_comm y (x % y), ← Nat.gcd_rec y x, Nat.gcd_comm]
theorem zhalf {x y : Nat} (hx : 0 < x) (hxy : x < y) : 2 * (y % x) < y := by
  have h1 := Nat.mod_lt y hx
  have h2 := Nat.div_add_mod y x
  have h3 : 1 ≤ y / x := (Nat.le_div_iff_mul_le hx).mpr (by omega)
  have h4 : x ≤ x * (y / x) := Nat.le_mul_of_pos_right x h3
  omega
theorem z64mod {a b : Int64} {x y : Nat} (ha : a.toInt = (x : Int)) (hb : b.toInt = (y : Int)) (hy : 0 < y) (hx : x < 9223372036854775808) : (a - a / b * b).toInt = ((x % y : Nat) : Int) := by
  have d : (a / b).toInt = ((x / y : Nat) : Int) := by
    rw [z64div (A := x) (by rw [ha]; unfold zab; omega) hx, ha, hb]
    rw [Int.ofNat_tdiv]
  have hle : x / y * y ≤ x := Nat.div_mul_le_self x y
  have p : (a / b * b).toInt = ((x / y * y : Nat) : Int) := by
    rw [Int64.toInt_mul, d, hb, ← Int.natCast_mul]
    exact Int.bmod_eq_of_le (by omega) (by omega)
  rw [Int64.toInt_sub, p, ha]
  have e := Nat.div_add_mod x y
  rw [Nat.mul_comm] at e
  rw [Int.bmod_eq_of_le (by omega) (by omega)]
  omega
theorem zdiv_17 : ∀ (n x y f : Nat) (a b : Int64), y < 2 ^ n → 2 * n + 1 < f → a.toInt = (x : Int) → b.toInt = (y : Int) → x < 9223372036854775808 → ∃ g, fX12_divisor_17 f a b = some g ∧ g.toInt = ((Nat.gcd x y : Nat) : Int)
  | 0, x, y, f + 1, a, b, hy, hf, ha, hb, hx => by
    have y0 : y = 0 := by
      have : (2 : Nat) ^ 0 = 1 := rfl
      omega
    subst y0
    rw [fX12_divisor_17, if_pos (by rw [z64le, hb, z64_0]; omega)]
    exact ⟨a, rfl, by rw [ha, Nat.gcd_zero_right]⟩
  | n + 1, x, y, f + 2, a, b, hy, hf, ha, hb, hx => by
    by_cases y0 : y = 0
    · subst y0
      rw [fX12_divisor_17, if_pos (by rw [z64le, hb, z64_0]; omega)]
      exact ⟨a, rfl, by rw [ha, Nat.gcd_zero_right]⟩
    · have hm := z64mod ha hb (by omega) hx
      have hlt := Nat.mod_lt x (show 0 < y by omega)
      have hb64 : y < 9223372036854775808 := by
        have := Int64.toInt_lt b
        rw [hb] at this
        omega
      rw [fX12_divisor_17, if_neg (by rw [z64le, hb, z64_0]; omega), if_neg (by rw [z64eq, hb, z64_0]; omega), zlq]
      by_cases r0 : x % y = 0
      · rw [fX12_divisor_17, if_pos (by rw [z64le, hm, r0, z64_0]; omega)]
        refine ⟨b, rfl, ?_⟩
        rw [hb, ← zgcd_step (show 0 < y by omega), r0, Nat.gcd_zero_right]
      · have hm2 := z64mod hb hm (by omega) hb64
        rw [fX12_divisor_17, if_neg (by rw [z64le, hm, z64_0]; omega), if_neg (by rw [z64eq, hm, z64_0]; omega), zlq]
        have hh := zhalf (show 0 < x % y by omega) hlt
        have hp : (2 : Nat) ^ (n + 1) = 2 * 2 ^ n := by rw [Nat.pow_succ, Nat.mul_comm]
        obtain ⟨g, g1, g2⟩ := zdiv_17 n (x % y) (y % (x % y)) f _ _ (by omega) (by omega) hm hm2 (by omega)
        refine ⟨g, g1, ?_⟩
        rw [g2, zgcd_step (show 0 < x % y by omega), zgcd_step (show 0 < y by omega)]
theorem zabs64 {a : Int64} {A : Nat} (h : zab a.toInt A) (hA : A < 9223372036854775808) : (0 ≤ a.toInt → a.toInt = (a.toInt.natAbs : Int)) ∧ (a.toInt < 0 → (-a).toInt = (a.toInt.natAbs : Int)) := by
  refine ⟨fun h1 => by omega, fun h1 => ?_⟩
  rw [z64neg h hA]
  omega
theorem eX12_divisor {a b : Int64} {A : Nat} (ha : zab a.toInt A) (hA : A < 9223372036854775808) {y : Nat} (hb : b.toInt = (y : Int)) : ∃ g, fX12_divisor a b = some g ∧ g.toInt = ((Nat.gcd a.toInt.natAbs y : Nat) : Int) := by
  have hb64 : y < 2 ^ 63 := by
    have := Int64.toInt_lt b
    rw [hb] at this
    omega
  have hn : a.toInt.natAbs < 9223372036854775808 := by
    unfold zab at ha
    omega
  unfold fX12_divisor fX12_divisor_12
  by_cases c : (0 : Int64) ≤ a
  · rw [if_pos c]
    rw [z64le, z64_0] at c
    exact zdiv_17 63 _ y 6000 a b hb64 (by omega) ((zabs64 ha hA).1 c) hb hn
  · rw [if_neg c]
    rw [z64le, z64_0] at c
    exact zdiv_17 63 _ y 6000 (-a) b hb64 (by omega) ((zabs64 ha hA).2 (by omega)) hb hn
theorem zcd_9 : ∀ (n x y k f : Nat) (a b : Int64), y < 2 ^ n → 2 * n + 1 < f → k + 2 * n + 1 < 200 → a.toInt = (x : Int) → b.toInt = (y : Int) → x < 9223372036854775808 → ∃ g, fX2_commonDivisor_9 f a b (zI k) = some g ∧ g.toInt = ((Nat.gcd x y : Nat) : Int)
  | 0, x, y, k, f + 1, a, b, hy, hf, hk, ha, hb, hx => by
    have y0 : y = 0 := by
      have : (2 : Nat) ^ 0 = 1 := rfl
      omega
    subst y0
    have h200 : ¬ ((200 : Int32) ≤ zI k) := by rw [show (200 : Int32) = zI 200 from rfl, zI_le (by omega) (by omega)]; omega
    rw [fX2_commonDivisor_9, if_neg h200, if_pos (by rw [z64eq, hb, z64_0]; omega)]
    exact ⟨a, rfl, by rw [ha, Nat.gcd_zero_right]⟩
  | n + 1, x, y, k, f + 2, a, b, hy, hf, hk, ha, hb, hx => by
    have h200 : ¬ ((200 : Int32) ≤ zI k) := by rw [show (200 : Int32) = zI 200 from rfl, zI_le (by omega) (by omega)]; omega
    have h201 : ¬ ((200 : Int32) ≤ zI (k + 1)) := by rw [show (200 : Int32) = zI 200 from rfl, zI_le (by omega) (by omega)]; omega
    by_cases y0 : y = 0
    · subst y0
      rw [fX2_commonDivisor_9, if_neg h200, if_pos (by rw [z64eq, hb, z64_0]; omega)]
      exact ⟨a, rfl, by rw [ha, Nat.gcd_zero_right]⟩
    · have hm := z64mod ha hb (by omega) hx
      have hlt := Nat.mod_lt x (show 0 < y by omega)
      have hb64 : y < 9223372036854775808 := by
        have := Int64.toInt_lt b
        rw [hb] at this
        omega
      have hne : ¬ b = 0 := by rw [z64eq, hb, z64_0]; omega
      rw [fX2_commonDivisor_9, if_neg h200, if_neg hne, if_neg hne, zlq, zlq, zn1, zI_add]
      by_cases r0 : x % y = 0
      · rw [fX2_commonDivisor_9, if_neg h201, if_pos (by rw [z64eq, hm, r0, z64_0]; omega)]
        refine ⟨b, rfl, ?_⟩
        rw [hb, ← zgcd_step (show 0 < y by omega), r0, Nat.gcd_zero_right]
      · have hm2 := z64mod hb hm (by omega) hb64
        have hne2 : ¬ (a - a / b * b) = 0 := by rw [z64eq, hm, z64_0]; omega
        rw [fX2_commonDivisor_9, if_neg h201, if_neg hne2, if_neg hne2, zlq, zlq, zn1, zI_add]
        have hh := zhalf (show 0 < x % y by omega) hlt
        have hp : (2 : Nat) ^ (n + 1) = 2 * 2 ^ n := by rw [Nat.pow_succ, Nat.mul_comm]
        obtain ⟨g, g1, g2⟩ := zcd_9 n (x % y) (y % (x % y)) (k + 1 + 1) f _ _ (by omega) (by omega) (by omega) hm hm2 (by omega)
        refine ⟨g, g1, ?_⟩
        rw [g2, zgcd_step (show 0 < x % y by omega), zgcd_step (show 0 < y by omega)]
theorem eX2_cd {a b : Int64} {x y : Nat} (ha : a.toInt = (x : Int)) (hb : b.toInt = (y : Int)) : ∃ g, fX2_commonDivisor a b = some g ∧ g.toInt = ((Nat.gcd x y : Nat) : Int) := by
  have hb64 : y < 2 ^ 63 := by
    have := Int64.toInt_lt b
    rw [hb] at this
    omega
  have hx : x < 9223372036854775808 := by
    have := Int64.toInt_lt a
    rw [ha] at this
    omega
  unfold fX2_commonDivisor
  rw [zn0]
  exact zcd_9 63 x y 0 6000 a b hb64 (by omega) (by omega) ha hb hx
/-- lowest terms: numerator and denominator -/
def zlow (t : Int) (b : Nat) : Int × Int := (t / (Nat.gcd t.natAbs b : Nat), ((b / Nat.gcd t.natAbs b : Nat) : Int))
theorem zlow_eq {t1 t2 : Int} {b1 b2 : Nat} (h1 : 0 < b1) (h2 : 0 < b2) (h : t1 * b2 = t2 * b1) : zlow t1 b1 = zlow t2 b2 := by
  have e : mkRat t1 b1 = mkRat t2 b2 := (Rat.mkRat_eq_iff (by omega) (by omega)).mpr h
  have n1 : ∀ (t : Int) (b : Nat), 0 < b → (mkRat t b).num = t / (Nat.gcd t.natAbs b : Nat) := by
    intro t b hb
    rw [Rat.num_mkRat, if_neg (by omega), Nat.gcd_comm]
  have n2 : ∀ (t : Int) (b : Nat), 0 < b → (mkRat t b).den = b / Nat.gcd t.natAbs b := by
    intro t b hb
    rw [Rat.den_mkRat, if_neg (by omega), Nat.gcd_comm]
  unfold zlow
  rw [← n1 t1 b1 h1, ← n1 t2 b2 h2, ← n2 t1 b1 h1, ← n2 t2 b2 h2, e]
