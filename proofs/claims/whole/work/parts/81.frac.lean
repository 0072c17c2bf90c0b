/-! 81: points copied and compared, fractions. -/
theorem zcopy_f {Q A : zSt} {X : zV} {f : Nat} (hQ : zQp Q X) : ∃ A2, fX4_copy_2 Q (f + 4) A (zI 0) = some A2 ∧ zQp A2 X ∧ zgi A2 2 = zgi Q 2 := by
  rw [fX4_copy_2, if_neg (by rw [zn3, zI_le (by omega) (by omega)]; omega), eX4_topOf (by omega), zbq, if_pos (zin_zI (by omega) (by omega)), zlq, zlq, zn1, zI_add, zI_nat (by omega)]
  rw [fX4_copy_2, if_neg (by rw [zn3, zI_le (by omega) (by omega)]; omega), eX4_topOf (by omega), zbq, if_pos (zin_zI (by omega) (by omega)), zlq, zlq, zn1, zI_add, zI_nat (by omega)]
  rw [fX4_copy_2, if_neg (by rw [zn3, zI_le (by omega) (by omega)]; omega), eX4_topOf (by omega), zbq, if_pos (zin_zI (by omega) (by omega)), zlq, zlq, zn1, zI_add, zI_nat (by omega)]
  rw [fX4_copy_2, if_pos (by rw [zn3, zI_le (by omega) (by omega)]; omega), zlq, zlq]
  refine ⟨_, rfl, ⟨?_, fun i hi => ?_⟩, ?_⟩
  · rw [gl_si, gl_sl]; exact hQ.1
  · rw [gb_si, gb_sl, gb_sb]
    rcases zlt3 hi with rfl | rfl | rfl
    · rw [updL_n (by omega), gb_sb, updL_n (by omega), gb_sb, updL_s rfl]; exact hQ.2 0 (by omega)
    · rw [updL_n (by omega), gb_sb, updL_s rfl]; exact hQ.2 1 (by omega)
    · rw [updL_s rfl]; exact hQ.2 2 (by omega)
  · rw [gi_si]
theorem eX4_copy {Q A : zSt} {X : zV} (hQ : zQp Q X) : ∃ A2, fX4_copy A Q = some A2 ∧ zQp A2 X ∧ zgi A2 2 = zgi Q 2 := by
  unfold fX4_copy
  rw [zn0]
  exact zcopy_f (f := 5996) hQ
theorem zcross {a b : Int64} (ha : zab a.toInt 23619600) (hb : zab b.toInt 23619600) : (a * b).toInt = a.toInt * b.toInt := z64mul ha hb (by omega)
theorem zBd_w {X : zV} (h : zBd X) : zab X.2.2.2 23619600 := zab_of (by have := h.2.1; omega) (by have := h.2.2; omega)
theorem zsame_step {A Q : zSt} {X Y : zV} {i f : Nat} (hA : zQp A X) (hQ : zQp Q Y) (hX : zBd X) (hY : zBd Y) (hi : i < 3) : fX4_isSame_2 A Q (f + 1) (zI i) = if zco X i * Y.2.2.2 = zco Y i * X.2.2.2 then fX4_isSame_2 A Q f (zI (i + 1)) else some 0 := by
  have m1 := zcross (a := zgb A 0 i) (b := zgl Q 1) (by rw [hA.2 i hi]; exact hX.1 i hi) (by rw [hQ.1]; exact zBd_w hY)
  have m2 := zcross (a := zgb Q 0 i) (b := zgl A 1) (by rw [hQ.2 i hi]; exact hY.1 i hi) (by rw [hA.1]; exact zBd_w hX)
  rw [hA.2 i hi, hQ.1] at m1
  rw [hQ.2 i hi, hA.1] at m2
  rw [fX4_isSame_2, if_neg (by rw [zn3, zI_le (by omega) (by omega)]; omega), if_pos (zin_zI (by omega) (by omega)), eX4_topOf hi, zbq, zI_nat (by omega)]
  by_cases c : zco X i * Y.2.2.2 = zco Y i * X.2.2.2
  · rw [if_pos c, if_pos (by rw [z64eq, m1, m2]; exact c), zlq, zn1, zI_add]
  · rw [if_neg c, if_neg (by rw [z64eq, m1, m2]; exact c)]
theorem zsame_f {A Q : zSt} {X Y : zV} {f : Nat} (hA : zQp A X) (hQ : zQp Q Y) (hX : zBd X) (hY : zBd Y) : ∃ b, fX4_isSame_2 A Q (f + 4) (zI 0) = some b ∧ (b ≠ 0 ↔ (zSame X Y ∧ zgi A 2 = zgi Q 2)) := by
  rw [zsame_step hA hQ hX hY (by omega)]
  by_cases c0 : zco X 0 * Y.2.2.2 = zco Y 0 * X.2.2.2
  · rw [if_pos c0, zsame_step hA hQ hX hY (by omega)]
    by_cases c1 : zco X (0 + 1) * Y.2.2.2 = zco Y (0 + 1) * X.2.2.2
    · rw [if_pos c1, zsame_step hA hQ hX hY (by omega)]
      by_cases c2 : zco X (0 + 1 + 1) * Y.2.2.2 = zco Y (0 + 1 + 1) * X.2.2.2
      · rw [if_pos c2, fX4_isSame_2, if_pos (by rw [zn3, zI_le (by omega) (by omega)]; omega)]
        unfold fX4_isSame_60
        rw [if_pos znb1, if_pos znb0]
        have hs : zSame X Y := fun i hi => by
          rcases zlt3 hi with rfl | rfl | rfl
          · exact c0
          · exact c1
          · exact c2
        by_cases d : zgi A 2 = zgi Q 2
        · rw [if_pos d]
          exact ⟨1, rfl, fun _ => ⟨hs, d⟩, fun _ => by decide⟩
        · rw [if_neg d]
          exact ⟨0, rfl, fun h => absurd rfl h, fun h => absurd h.2 d⟩
      · rw [if_neg c2]
        exact ⟨0, rfl, fun h => absurd rfl h, fun h => absurd (h.1 2 (by omega)) c2⟩
    · rw [if_neg c1]
      exact ⟨0, rfl, fun h => absurd rfl h, fun h => absurd (h.1 1 (by omega)) c1⟩
  · rw [if_neg c0]
    exact ⟨0, rfl, fun h => absurd rfl h, fun h => absurd (h.1 0 (by omega)) c0⟩
theorem eX4_isSame {A Q : zSt} {X Y : zV} (hA : zQp A X) (hQ : zQp Q Y) (hX : zBd X) (hY : zBd Y) : ∃ b, fX4_isSame A Q = some b ∧ (b ≠ 0 ↔ (zSame X Y ∧ zgi A 2 = zgi Q 2)) := by
  unfold fX4_isSame
  rw [zn0]
  exact zsame_f (f := 5996) hA hQ hX hY
/-- the fraction t / b in lowest terms -/
theorem eX2_put {R : zSt} {t b : Int64} {A y : Nat} (ht : zab t.toInt A) (hA : A < 9223372036854775808) (hb : b.toInt = (y : Int)) (hy : 0 < y) : ∃ R2, fX2_put R t b = some R2 ∧ (zgl R2 0).toInt = (zlow t.toInt y).1 ∧ (zgl R2 1).toInt = (zlow t.toInt y).2 := by
  obtain ⟨a1, a2⟩ := zabs64 ht hA
  have main : ∀ z : Int64, z.toInt = (t.toInt.natAbs : Int) → ∃ R2, fX2_put_12 R t b z = some R2 ∧ (zgl R2 0).toInt = (zlow t.toInt y).1 ∧ (zgl R2 1).toInt = (zlow t.toInt y).2 := by
    intro z hz
    obtain ⟨g, g1, g2⟩ := eX2_cd hz hb
    have hg : 0 < Nat.gcd t.toInt.natAbs y := Nat.gcd_pos_of_pos_right _ hy
    have hyb : zab b.toInt y := by rw [hb]; exact Nat.le_refl _
    have hy2 : y < 9223372036854775808 := by
      have := Int64.toInt_lt b
      omega
    have hdt : ((Nat.gcd t.toInt.natAbs y : Nat) : Int) ∣ t.toInt := Int.ofNat_dvd_left.mpr (Nat.gcd_dvd_left _ _)
    unfold fX2_put_12
    rw [g1, zbq]
    by_cases c : g.toInt ≤ 1
    · have e1 : Nat.gcd t.toInt.natAbs y = 1 := by omega
      rw [if_pos (by rw [z64le, z64_1]; exact c)]
      unfold fX2_put_34 fX2_put_53
      rw [zlq, if_pos (by rw [z64le, z64_1]; exact c), zlq]
      refine ⟨_, rfl, ?_, ?_⟩
      · rw [gl_sln (by omega), gl_sl]
        unfold zlow
        rw [e1]
        exact (Int.ediv_one _).symm
      · rw [gl_sl]
        unfold zlow
        rw [e1, hb, Nat.div_one]
    · have gne : ¬ g = 0 := by
        rw [z64eq, z64_0]
        omega
      rw [if_neg (by rw [z64le, z64_1]; exact c), if_neg gne]
      unfold fX2_put_34 fX2_put_53
      rw [zlq, if_neg (by rw [z64le, z64_1]; exact c), if_neg gne, zlq]
      refine ⟨_, rfl, ?_, ?_⟩
      · rw [gl_sln (by omega), gl_sl, z64div ht hA, g2]
        unfold zlow
        exact Int.tdiv_eq_ediv_of_dvd hdt
      · rw [gl_sl, z64div hyb hy2, g2, hb]
        unfold zlow
        exact Int.ofNat_tdiv _ _
  unfold fX2_put
  by_cases c : 0 ≤ t.toInt
  · rw [if_pos (by rw [z64le, z64_0]; exact c)]
    exact main t (a1 c)
  · rw [if_neg (by rw [z64le, z64_0]; exact c)]
    exact main (-t) (a2 (by omega))
