/-! 86: the corner of three sides. -/
theorem zmeet_one {K s : zSt} {S : Nat → zV} {cnt i j k c : Nat} {x : Int64} {A : Nat} (hS : zSd s S cnt) (hi : i < cnt) (hj : j < cnt) (hk : k < cnt) (hc : c < 3) (hx : zab x.toInt A) (hA : A < 1000000) : ∀ (g : Int64 → Option (Int32 × zSt)), ∃ x2 : Int64, ((fX7_slopeOf s (zI i) (zI c)).bind (fun o21 => ((fX0_cross K s (zI j) (zI k) (zI c)).bind (fun o29 => g (x + (o21 * o29)))))) = g x2 ∧ x2.toInt = x.toInt + zco (S i) c * zcrs (S j) (S k) c ∧ zab x2.toInt (A + 1458) := by
  intro g
  have h18 := hS.1
  obtain ⟨a1, a2, -⟩ := hS.2.2 i hi
  obtain ⟨v, v1, v2, v3⟩ := eX0_cross (K := K) hS hj hk hc
  have e : (zga s 0 (i * 3 + c)).toInt64.toInt = zco (S i) c := by rw [z32_64, a2 c hc]
  have hb : zab (zga s 0 (i * 3 + c)).toInt64.toInt 9 := by rw [e]; exact zvb_co a1 hc
  have m1 := z64mul hb v3 (by omega)
  have c1 := zab_mul hb v3
  rw [← m1] at c1
  have m2 := z64add hx c1 (by omega)
  refine ⟨x + (zga s 0 (i * 3 + c)).toInt64 * v, by rw [eX7_slopeOf (by omega), zbq, v1, zbq], ?_, ?_⟩
  · rw [m2, m1, e, v2]
  · rw [m2]
    exact zab_le (zab_add hx c1) (by omega)
theorem zmeet_68 {C P s : zSt} {S : Nat → zV} {cnt i j k : Nat} {x4 : Int64} {x6 : Int32} (hS : zSd s S cnt) (hi : i < cnt) (hj : j < cnt) (hk : k < cnt) (h4 : x4.toInt = zd3 (S i) (S j) (S k)) (h6 : x6.toInt = -zsg (ztr (S i) (S j) (S k))) : ∀ (d c f : Nat) (K : zSt), c + d = 3 → d < f → (∀ n, n < c → (zgb K 0 n).toInt = zco (zXb (ztr (S i) (S j) (S k))) n) → ∃ K2, fX0_meet_68 C P s f K (zI i) (zI j) (zI k) x4 x6 (zI c) = some (1, K2) ∧ zQp K2 (zXb (ztr (S i) (S j) (S k))) ∧ zgi K2 2 = zgi P 8
  | 0, c, f + 1, K, hc, hf, hs => by
    have e3 : c = 3 := by omega
    subst e3
    have hb := zd3_b (hS.2.2 i hi).1 (hS.2.2 j hj).1 (hS.2.2 k hk).1
    have h4b : zab x4.toInt 4374 := by rw [h4]; exact hb
    have fin : ∀ y : Int64, y.toInt = zsc (ztr (S i) (S j) (S k)) → ∃ K2, fX0_meet_165 C P s K y = some (1, K2) ∧ zQp K2 (zXb (ztr (S i) (S j) (S k))) ∧ zgi K2 2 = zgi P 8 := by
      intro y hy
      unfold fX0_meet_165
      rw [zlq, zlq]
      refine ⟨_, rfl, ⟨?_, fun n hn => ?_⟩, by rw [gi_si]⟩
      · rw [gl_si, gl_sl]; exact hy
      · rw [gb_si, gb_sl]; exact hs n hn
    have hd : zdtr (ztr (S i) (S j) (S k)) = zd3 (S i) (S j) (S k) := rfl
    rw [fX0_meet_68, if_pos (by rw [zn3]; exact Int32.le_refl _)]
    by_cases g : 0 ≤ x4.toInt
    · rw [if_pos (by rw [z64le, z64_0]; exact g)]
      refine fin x4 ?_
      unfold zsc
      rcases zsg_or (ztr (S i) (S j) (S k)) with ⟨e, e2⟩ | ⟨e, e2⟩
      · rw [hd] at e; omega
      · rw [e2, hd]; omega
    · rw [if_neg (by rw [z64le, z64_0]; exact g)]
      refine fin (-x4) ?_
      rw [z64neg h4b (by omega)]
      unfold zsc
      rcases zsg_or (ztr (S i) (S j) (S k)) with ⟨e, e2⟩ | ⟨e, e2⟩
      · rw [e2, hd]; omega
      · rw [hd] at e; omega
  | d + 1, c, f + 1, K, hc, hf, hs => by
    have h18 := hS.1
    have hc3 : c < 3 := by omega
    obtain ⟨a1, -, a3⟩ := hS.2.2 i hi
    obtain ⟨b1, -, b3⟩ := hS.2.2 j hj
    obtain ⟨c1, -, c3⟩ := hS.2.2 k hk
    obtain ⟨v1, p1, p2, p3⟩ := eX0_cross (K := C) hS hj hk hc3
    obtain ⟨v2, q1, q2, q3⟩ := eX0_cross (K := C) hS hk hi hc3
    obtain ⟨v3, r1, r2, r3⟩ := eX0_cross (K := C) hS hi hj hc3
    have ea : (zga s 1 i).toInt64.toInt = (S i).2.2.2 := by rw [z32_64, a3]
    have eb : (zga s 1 j).toInt64.toInt = (S j).2.2.2 := by rw [z32_64, b3]
    have ec : (zga s 1 k).toInt64.toInt = (S k).2.2.2 := by rw [z32_64, c3]
    have ha : zab (zga s 1 i).toInt64.toInt 1350 := by rw [ea]; exact a1.2.2.2
    have hb : zab (zga s 1 j).toInt64.toInt 1350 := by rw [eb]; exact b1.2.2.2
    have hcc : zab (zga s 1 k).toInt64.toInt 1350 := by rw [ec]; exact c1.2.2.2
    have m1 := z64mul ha p3 (by omega)
    have m2 := z64mul hb q3 (by omega)
    have m3 := z64mul hcc r3 (by omega)
    have z1 := zab_mul ha p3
    have z2 := zab_mul hb q3
    have z3 := zab_mul hcc r3
    rw [← m1] at z1
    rw [← m2] at z2
    rw [← m3] at z3
    have s1 := z64add z1 z2 (by omega)
    have w1 := zab_add z1 z2
    rw [← s1] at w1
    have s2 := z64add w1 z3 (by omega)
    have w2 := zab_add w1 z3
    rw [← s2] at w2
    have h6b : zab x6.toInt64.toInt 1 := by
      rw [z32_64, h6]
      rcases zsg_or (ztr (S i) (S j) (S k)) with ⟨-, e⟩ | ⟨-, e⟩ <;> rw [e] <;> exact zab_of (by omega) (by omega)
    have m4 := z64mul h6b w2 (by omega)
    rw [fX0_meet_68, if_neg (by rw [zn3, zI_le (by omega) (by omega)]; omega), eX7_constantOf (by omega), zbq, p1, zbq, eX7_constantOf (by omega), zbq, q1, zbq, eX7_constantOf (by omega), zbq, r1, zbq, eX4_putTop hc3, zbq, zlq, zn1, zI_add]
    refine zmeet_68 hS hi hj hk h4 h6 d (c + 1) f _ (by omega) (by omega) (fun n hn => ?_)
    rw [gb_sb]
    by_cases e : n = c
    · rw [updL_s e, e, zco_Xb _ hc3, m4, s2, s1, m1, m2, m3, z32_64, h6, ea, eb, ec, p2, q2, r2]
      have hd4 := zd4_crs (S i) (S j) (S k) hc3
      show -zsg (ztr (S i) (S j) (S k)) * _ = zsg (ztr (S i) (S j) (S k)) * zd4 (S i) (S j) (S k) (zE c)
      rw [hd4, Int.neg_mul, Int.mul_neg]
    · rw [updL_n e, hs n (by omega)]
theorem zmeet_f {C P s K : zSt} {S : Nat → zV} {cnt i j k f : Nat} (hS : zSd s S cnt) (hi : i < cnt) (hj : j < cnt) (hk : k < cnt) : ∃ y K2, fX0_meet_6 C P s (f + 4) K (zI i) (zI j) (zI k) 0 (zI 0) = some (y, K2) ∧ ((y = 0 ∧ zd3 (S i) (S j) (S k) = 0) ∨ (y = 1 ∧ zd3 (S i) (S j) (S k) ≠ 0 ∧ zQp K2 (zXb (ztr (S i) (S j) (S k))) ∧ zgi K2 2 = zgi P 8)) := by
  have z0 : zab (0 : Int64).toInt 0 := z64zab0
  rw [fX0_meet_6, if_neg (by rw [zn3, zI_le (by omega) (by omega)]; omega)]
  simp only [zlq]
  obtain ⟨x1, e1, f1, b1⟩ := zmeet_one (K := C) (c := 0) hS hi hj hk (by omega) z0 (by omega) (fun x => fX0_meet_6 C P s (f + 3) K (zI i) (zI j) (zI k) x (zI 0 + 1))
  rw [e1, zn1, zI_add, fX0_meet_6, if_neg (by rw [zn3, zI_le (by omega) (by omega)]; omega)]
  simp only [zlq]
  obtain ⟨x2, e2, f2, b2⟩ := zmeet_one (K := C) (c := 0 + 1) hS hi hj hk (by omega) b1 (by omega) (fun x => fX0_meet_6 C P s (f + 2) K (zI i) (zI j) (zI k) x (zI (0 + 1) + 1))
  rw [e2, zn1, zI_add, fX0_meet_6, if_neg (by rw [zn3, zI_le (by omega) (by omega)]; omega)]
  simp only [zlq]
  obtain ⟨x3, e3, f3, b3⟩ := zmeet_one (K := C) (c := 0 + 1 + 1) hS hi hj hk (by omega) b2 (by omega) (fun x => fX0_meet_6 C P s (f + 1) K (zI i) (zI j) (zI k) x (zI (0 + 1 + 1) + 1))
  rw [e3, zn1, zI_add, fX0_meet_6, if_pos (by rw [zn3, zI_le (by omega) (by omega)]; omega)]
  have hd : x3.toInt = zd3 (S i) (S j) (S k) := by
    rw [f3, f2, f1, z64_0, zd3_crs, Int.zero_add]
  by_cases c : x3.toInt = 0
  · rw [if_pos (by rw [z64eq, z64_0]; exact c)]
    exact ⟨0, K, rfl, Or.inl ⟨rfl, by omega⟩⟩
  · rw [if_neg (by rw [z64eq, z64_0]; exact c)]
    have go : ∀ y : Int32, y.toInt = -zsg (ztr (S i) (S j) (S k)) → ∃ w K2, fX0_meet_63 C P s K (zI i) (zI j) (zI k) x3 y = some (w, K2) ∧ ((w = 0 ∧ zd3 (S i) (S j) (S k) = 0) ∨ (w = 1 ∧ zd3 (S i) (S j) (S k) ≠ 0 ∧ zQp K2 (zXb (ztr (S i) (S j) (S k))) ∧ zgi K2 2 = zgi P 8)) := by
      intro y hy
      obtain ⟨K2, g1, g2, g3⟩ := zmeet_68 (C := C) (P := P) hS hi hj hk hd hy 3 0 6000 K (by omega) (by omega) (fun n hn => by omega)
      unfold fX0_meet_63
      rw [zn0, g1]
      exact ⟨1, K2, rfl, Or.inr ⟨rfl, by omega, g2, g3⟩⟩
    have hdd : zdtr (ztr (S i) (S j) (S k)) = zd3 (S i) (S j) (S k) := rfl
    by_cases g : 0 ≤ x3.toInt
    · rw [if_pos (by rw [z64le, z64_0]; exact g)]
      refine go (-1) ?_
      rcases zsg_or (ztr (S i) (S j) (S k)) with ⟨e, e2⟩ | ⟨e, e2⟩
      · rw [hdd] at e; omega
      · rw [e2]; decide
    · rw [if_neg (by rw [z64le, z64_0]; exact g)]
      refine go 1 ?_
      rcases zsg_or (ztr (S i) (S j) (S k)) with ⟨e, e2⟩ | ⟨e, e2⟩
      · rw [e2]; decide
      · rw [hdd] at e; omega
theorem eX0_meet {C P s K : zSt} {S : Nat → zV} {cnt i j k : Nat} (hS : zSd s S cnt) (hi : i < cnt) (hj : j < cnt) (hk : k < cnt) : ∃ y K2, fX0_meet C P s K (zI i) (zI j) (zI k) = some (y, K2) ∧ ((y = 0 ∧ zd3 (S i) (S j) (S k) = 0) ∨ (y = 1 ∧ zd3 (S i) (S j) (S k) ≠ 0 ∧ zQp K2 (zXb (ztr (S i) (S j) (S k))) ∧ zgi K2 2 = zgi P 8)) := by
  unfold fX0_meet
  rw [zn0]
  exact zmeet_f (f := 5996) hS hi hj hk
