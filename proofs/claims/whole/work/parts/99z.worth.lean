/-! 9z: worthTop, worthBottom. -/
theorem zlow_p {t : Int} {b : Nat} (hb : 0 < b) : 0 < (zlow t b).2 := by
  have hg : 0 < Nat.gcd t.natAbs b := Nat.gcd_pos_of_pos_right _ hb
  have h1 : Nat.gcd t.natAbs b ≤ b := Nat.le_of_dvd hb (Nat.gcd_dvd_right _ _)
  have h2 : 0 < b / Nat.gcd t.natAbs b := Nat.div_pos h1 hg
  unfold zlow
  show (0 : Int) < ((b / Nat.gcd t.natAbs b : Nat) : Int)
  omega
theorem zlow_l {t : Int} {b : Nat} : (zlow t b).2 ≤ (b : Int) := by
  have h2 := Nat.div_le_self b (Nat.gcd t.natAbs b)
  unfold zlow
  show ((b / Nat.gcd t.natAbs b : Nat) : Int) ≤ (b : Int)
  omega
theorem zlow_a {t : Int} {b A : Nat} (h : zab t A) : zab (zlow t b).1 A := by
  unfold zlow zab
  unfold zab at h
  exact Nat.le_trans (Int.natAbs_ediv_le_natAbs _ _) h
theorem zdiv2 {t : Int} {b : Nat} : ∃ g : Int, t = (zlow t b).1 * g ∧ (b : Int) = (zlow t b).2 * g := by
  refine ⟨((Nat.gcd t.natAbs b : Nat) : Int), ?_, ?_⟩
  · have hd : ((Nat.gcd t.natAbs b : Nat) : Int) ∣ t := Int.ofNat_dvd_left.mpr (Nat.gcd_dvd_left _ _)
    unfold zlow
    exact (Int.ediv_mul_cancel hd).symm
  · have h := Nat.div_mul_cancel (Nat.gcd_dvd_right t.natAbs b)
    unfold zlow
    show (b : Int) = ((b / Nat.gcd t.natAbs b : Nat) : Int) * ((Nat.gcd t.natAbs b : Nat) : Int)
    rw [← Int.natCast_mul, h]
theorem zworth {vX vY : Int} {wX wY : Nat} (hX : 0 < wX) (hY : 0 < wY) : zlow (vY * wX - vX * wY) (wX * wY) = zlow ((zlow vY wY).1 * (zlow vX wX).2 - (zlow vX wX).1 * (zlow vY wY).2) ((zlow vX wX).2 * (zlow vY wY).2).toNat := by
  obtain ⟨g, g2, g3⟩ := zdiv2 (t := vX) (b := wX)
  obtain ⟨k, k2, k3⟩ := zdiv2 (t := vY) (b := wY)
  have pX := zlow_p (t := vX) hX
  have pY := zlow_p (t := vY) hY
  have pp := Int.mul_pos pX pY
  apply zlow_eq (Nat.mul_pos hX hY) (by omega)
  rw [Int.toNat_of_nonneg (Int.le_of_lt pp), Int.natCast_mul]
  generalize (zlow vX wX).1 = a at *
  generalize (zlow vX wX).2 = b at *
  generalize (zlow vY wY).1 = c at *
  generalize (zlow vY wY).2 = d at *
  rw [g2, g3, k2, k3]
  grind
theorem zdivp {a b : Int64} {A y : Nat} (ha : zab a.toInt A) (hA : A < 9223372036854775808) (hb : b.toInt = (y : Int)) (hy : 0 < y) : ∃ g, fX12_divisor a b = some g ∧ ¬ g = 0 ∧ (a / g).toInt = (zlow a.toInt y).1 ∧ (b / g).toInt = (zlow a.toInt y).2 := by
  obtain ⟨g, g1, g2⟩ := eX12_divisor ha hA hb
  have hg : 0 < Nat.gcd a.toInt.natAbs y := Nat.gcd_pos_of_pos_right _ hy
  have hdt : ((Nat.gcd a.toInt.natAbs y : Nat) : Int) ∣ a.toInt := Int.ofNat_dvd_left.mpr (Nat.gcd_dvd_left _ _)
  have hyb : zab b.toInt y := by rw [hb]; exact Nat.le_refl _
  have hy2 : y < 9223372036854775808 := by
    have := Int64.toInt_lt b
    omega
  refine ⟨g, g1, ?_, ?_, ?_⟩
  · rw [z64eq, g2, z64_0]; omega
  · rw [z64div ha hA, g2]
    unfold zlow
    exact Int.tdiv_eq_ediv_of_dvd hdt
  · rw [z64div hyb hy2, g2, hb]
    unfold zlow
    exact Int.ofNat_tdiv _ _
section ZWORTH
variable {n m q : Nat} {P C W sS D Q B Z E H O R K : zSt}
theorem zhas0 {X : zV} {O2 : zSt} (h : zAns n q O W Q X O2) (h0 : 0 < q) (hq : q ≤ 3) : ∃ b : Int32, fX9_hasValue W (zI 0) = some b ∧ ((b = 1 ∧ ¬ zgi O2 36 = 105 ∧ ¬ zgi O2 34 = 0 ∧ zBd X ∧ zQp Q X ∧ zVal O 0 X O2) ∨ (b = 0 ∧ (zgi O2 36 = 105 ∨ (¬ zgi O2 36 = 105 ∧ zgi O2 34 = 0)))) := by
  rw [eX9_hasValue]
  rcases h with ⟨hX, hpt, -, -, ⟨h1, h2, h34, hv, -⟩ | ⟨k, hk, h1, h6, h2, h34, hv⟩⟩ | ⟨h1, h2, -⟩
  · rw [if_pos (Or.inl h1)]
    exact ⟨1, rfl, Or.inl ⟨rfl, by rw [h2]; decide, by rw [h34, zn0, zI_eq (by omega) (by omega)]; omega, hX, zPt_qp hpt, hv 0 h0⟩⟩
  · rw [h6, h34]
    by_cases c : 0 < k
    · rw [if_pos (Or.inr ⟨h1, by rw [zI_le (by omega) (by omega)]; omega⟩)]
      exact ⟨1, rfl, Or.inl ⟨rfl, by rw [h2]; decide, by rw [zn0, zI_eq (by omega) (by omega)]; omega, hX, zPt_qp hpt, hv 0 c⟩⟩
    · rw [if_neg (by
        rintro (h | ⟨-, h⟩)
        · rw [h1] at h; exact absurd h (by decide)
        · rw [zI_le (by omega) (by omega)] at h; omega)]
      exact ⟨0, rfl, Or.inr ⟨rfl, Or.inr ⟨by rw [h2]; decide, by rw [show k = 0 by omega]; rfl⟩⟩⟩
  · rw [if_neg (by rintro (h | ⟨h, -⟩) <;> rw [h1] at h <;> exact absurd h (by decide))]
    exact ⟨0, rfl, Or.inr ⟨rfl, Or.inl h2⟩⟩
theorem zfindWorth {V sV dV qV : zSt} (hP : zPw n m q P) (hR : zRl n m q P O) (hJ : zJc n m q K P W sS D Q B Z E H) (x : Int32) : ∃ r W2 s2 D2 Q2 V2 sV2 dV2 qV2 R2 c O2, fX11_findWorth C P W sS D Q V sV dV qV R x = some (r, W2, s2, D2, Q2, V2, sV2, dV2, qV2, R2) ∧ fX12_wrongWorth O x = some (c, O2) ∧ zFJ O O2 ∧ zJc n m q K P W2 s2 D2 Q2 B Z E H ∧ ((r = .inr () ∧ c = 0 ∧ zgl R2 0 = zgb O2 30 0 ∧ zgl R2 1 = zgb O2 30 1) ∨ (r = .inl "java/lang/IndexOutOfBoundsException" ∧ c = 1) ∨ (r = .inl "java/lang/IllegalStateException" ∧ c = 2) ∨ (r = .inl "java/util/NoSuchElementException" ∧ c = 3)) := by
  have hm := hP.2.1
  have hq := hP.2.2.1
  unfold fX11_findWorth fX12_wrongWorth fX12_wrongWorth_28
  rw [eX12_isRow hR.2.1 (by omega), zbq]
  by_cases c : zix m x
  · obtain ⟨r, hr, rfl⟩ := zix_ex (by omega) c
    have hl := (hR.2.2.2.2.1 r hr).2.2.2
    rw [eX11_demandLiveRow hP hr, zbq, if_pos c, if_neg (show ¬ (1 : Int32) = 0 by decide), if_pos (zin_zI (show r < 12 by omega) (by omega)), zI_nat (by omega)]
    by_cases c5 : zga P 5 r = 0
    · rw [if_pos c5, if_neg (fun h => hl.mp h c5)]
      simp only [Sum.elim_inl]
      unfold fX12_wrongWorth_33
      rw [if_neg (show ¬ (2 : Int32) ≤ 0 by decide)]
      exact ⟨_, _, _, _, _, _, _, _, _, _, _, _, rfl, rfl, zFJ.refl O, hJ, Or.inr (Or.inr (Or.inl ⟨rfl, rfl⟩))⟩
    · rw [if_neg c5, if_pos (hl.mpr c5)]
      simp only [Sum.elim_inr]
      rw [hP.2.2.2.2.2.1, hR.2.2.1]
      by_cases q0 : q = 0
      · have e : zI q = 0 := by rw [q0]; rfl
        rw [if_pos e, if_pos e]
        unfold fX12_wrongWorth_33
        rw [if_neg (show ¬ (2 : Int32) ≤ 0 by decide)]
        exact ⟨_, _, _, _, _, _, _, _, _, _, _, _, rfl, rfl, zFJ.refl O, hJ, Or.inr (Or.inr (Or.inl ⟨rfl, rfl⟩))⟩
      · have e : ¬ zI q = 0 := by rw [zn0, zI_eq (by omega) (by omega)]; exact q0
        rw [if_neg e, if_neg e]
        obtain ⟨W2, s2, D2, Q2, o, ins, O2, f1, g1, g2, f2, g3, j, -, hR2⟩ := zsees hP hR hJ
        obtain ⟨X, hXe⟩ : ∃ X, X = zXb (zT (zSo (zGa P 0 (-1) n m)) o) := ⟨_, rfl⟩
        rw [← hXe] at g3
        obtain ⟨b, b1, b2⟩ := zhas0 g3 (by omega) hq
        rw [← zn0] at b1
        rw [f1, zbq, b1, zbq]
        unfold fX12_wrongWorth_33 fX12_wrongWorth_60 fX12_wrongWorth_102 fX11_findWorth_55
        have z03 : zin (0 : Int32) 3 = true := by decide
        have z13 : zin (1 : Int32) 3 = true := by decide
        rw [if_pos (show (0 : Int32) ≤ 0 by decide), g1, zbq]
        rcases b2 with ⟨hb, h36, h34, hX, hQ, hv⟩ | ⟨hb, h36⟩
        · obtain ⟨hs, h6⟩ := zSm_all hP hR2 (zI r)
          obtain ⟨y, V2, sV2, dV2, qV2, O3, k1, k2, k3, k4⟩ := eX9_findsFirstValue (V := V) (s := sV) (D := dV) (Q := qV) hP (by omega) hR2 hs h6
          rw [if_neg (show ¬ b = 0 by rw [hb]; decide), k1, zbq, if_neg h36, if_neg h34, if_pos z03, zlq, if_pos z03, zlq, eX12_allLeft hm hR2.2.1, zbq, k2, zbq]
          rcases k4 with ⟨hy, k5⟩ | ⟨hy, k5, k6, Y, hQY, hY, hvY⟩
          · rw [if_pos hy]
            have fr := zFJ_k (g2.trans k3)
            by_cases d : zgi O3 36 = 105
            · rw [if_pos d]
              exact ⟨_, _, _, _, _, _, _, _, _, _, _, _, rfl, rfl, fr, j, Or.inr (Or.inr (Or.inr ⟨rfl, rfl⟩))⟩
            · rw [if_neg d]
              rcases k5 with k5 | k5
              · exact absurd k5 d
              · rw [if_pos k5]
                exact ⟨_, _, _, _, _, _, _, _, _, _, _, _, rfl, rfl, fr, j, Or.inr (Or.inr (Or.inr ⟨rfl, rfl⟩))⟩
          · rw [if_neg (show ¬ y = 0 by rw [hy]; decide), if_neg k5, if_neg k6]
            obtain ⟨v, v1, v2, v3⟩ := eX5_aimSum hP (show 0 < q by omega) hQ hX
            obtain ⟨u, u1, u2, u3⟩ := eX5_aimSum hP (show 0 < q by omega) hQY hY
            rw [← zn0] at v1 u1
            have hwX := hX.2.1
            have hwY := hY.2.1
            have lX := hX.2.2
            have lY := hY.2.2
            unfold zVal at hv hvY
            rw [zA0_ac hR (show 0 < q by omega)] at hv
            rw [zA0_ac hR2 (show 0 < q by omega)] at hvY
            rw [← v2] at hv
            rw [← u2] at hvY
            -- the class's fraction
            have m1 := z64mul (a := u) (b := zgl Q2 1) u3 (by rw [hQ.1]; exact zBd_w hX) (by omega)
            have m2 := z64mul (a := v) (b := zgl qV2 1) v3 (by rw [hQY.1]; exact zBd_w hY) (by omega)
            have a1 : zab (u * zgl Q2 1).toInt (700000000 * 23619600) := by rw [m1]; exact zab_mul u3 (by rw [hQ.1]; exact zBd_w hX)
            have a2 : zab (v * zgl qV2 1).toInt (700000000 * 23619600) := by rw [m2]; exact zab_mul v3 (by rw [hQY.1]; exact zBd_w hY)
            have m3 := z64sub a1 a2 (by omega)
            have m4 := z64mul (a := zgl Q2 1) (b := zgl qV2 1) (by rw [hQ.1]; exact zBd_w hX) (by rw [hQY.1]; exact zBd_w hY) (by omega)
            have eX : ((X.2.2.2.toNat : Nat) : Int) = X.2.2.2 := Int.toNat_of_nonneg (Int.le_of_lt hwX)
            have eY : ((Y.2.2.2.toNat : Nat) : Int) = Y.2.2.2 := Int.toNat_of_nonneg (Int.le_of_lt hwY)
            have hpos : 0 < X.2.2.2.toNat * Y.2.2.2.toNat := Nat.mul_pos (by omega) (by omega)
            obtain ⟨R2, r1, r2, r3⟩ := eX2_put (R := R) (t := u * zgl Q2 1 - v * zgl qV2 1) (b := zgl Q2 1 * zgl qV2 1) (A := 700000000 * 23619600 + 700000000 * 23619600) (y := X.2.2.2.toNat * Y.2.2.2.toNat) (by rw [m3]; exact zab_sub a1 a2) (by omega) (by rw [m4, hQ.1, hQY.1, Int.natCast_mul, eX, eY]) hpos
            rw [m3, m1, m2, hQ.1, hQY.1] at r2 r3
            have key := zworth (vX := v.toInt) (vY := u.toInt) (wX := X.2.2.2.toNat) (wY := Y.2.2.2.toNat) (by omega) (by omega)
            rw [eX, eY] at key
            rw [key] at r2 r3
            -- the reference's
            have pX := zlow_p (t := v.toInt) (b := X.2.2.2.toNat) (by omega)
            have pY := zlow_p (t := u.toInt) (b := Y.2.2.2.toNat) (by omega)
            have qX := zlow_l (t := v.toInt) (b := X.2.2.2.toNat)
            have qY := zlow_l (t := u.toInt) (b := Y.2.2.2.toNat)
            have b28 : zab (zgb O2 28 0).toInt 700000000 := by rw [hv.1]; exact zlow_a v3
            have b29 : zab (zgb O2 29 0).toInt 23619600 := by rw [hv.2]; exact zab_of (by omega) (by omega)
            have d28 : zab (zgb O3 28 0).toInt 700000000 := by rw [hvY.1]; exact zlow_a u3
            have d29 : zab (zgb O3 29 0).toInt 23619600 := by rw [hvY.2]; exact zab_of (by omega) (by omega)
            have n1 := z64mul d28 b29 (by omega)
            have n2 := z64mul b28 d29 (by omega)
            have c1 : zab (zgb O3 28 0 * zgb O2 29 0).toInt (700000000 * 23619600) := by rw [n1]; exact zab_mul d28 b29
            have c2 : zab (zgb O2 28 0 * zgb O3 29 0).toInt (700000000 * 23619600) := by rw [n2]; exact zab_mul b28 d29
            have n3 := z64sub c1 c2 (by omega)
            have n4 := z64mul b29 d29 (by omega)
            have pp := Int.mul_pos pX pY
            obtain ⟨g, d1, d2, d3, d4⟩ := zdivp (a := zgb O3 28 0 * zgb O2 29 0 - zgb O2 28 0 * zgb O3 29 0) (b := zgb O2 29 0 * zgb O3 29 0) (A := 700000000 * 23619600 + 700000000 * 23619600) (y := ((zlow v.toInt X.2.2.2.toNat).2 * (zlow u.toInt Y.2.2.2.toNat).2).toNat) (by rw [n3]; exact zab_sub c1 c2) (by omega) (by rw [n4, hv.2, hvY.2, Int.toNat_of_nonneg (Int.le_of_lt pp)]) (by omega)
            rw [n3, n1, n2, hv.1, hv.2, hvY.1, hvY.2] at d3 d4
            have hz0 : ((0 : Int32)).toNatClampNeg = 0 := rfl
            have hz1 : ((1 : Int32)).toNatClampNeg = 1 := rfl
            rw [u1, zbq, v1, zbq, r1, zbq, hz0, hz1, if_pos z03, if_pos z03, zlq, if_pos z03, d1, zbq, if_neg d2, if_pos z03, zlq, if_pos z03, if_neg d2, if_pos z13, zlq]
            refine ⟨_, _, _, _, _, _, _, _, _, _, _, _, rfl, rfl, ?_, j, Or.inl ⟨rfl, rfl, ?_, ?_⟩⟩
            · have fr : ∀ (A : zSt) (v : Nat → Int64), zFJ A (zsb A 30 v) := fun A v => ⟨fun _ _ => rfl, fun _ => rfl, fun _ _ => rfl, fun k hk => gb_sbn (by omega)⟩
              exact ((zFJ_k (g2.trans k3)).trans (fr _ _)).trans (fr _ _)
            · rw [gb_sb, updL_n (by omega), gb_sb, updL_s rfl, z64eq, r2, d3]
            · rw [gb_sb, updL_s rfl, gb_sbn (by omega), z64eq, r3, d4]
        · rw [if_pos hb]
          rcases h36 with h | ⟨h, h34⟩
          · rw [if_pos h]
            exact ⟨_, _, _, _, _, _, _, _, _, _, _, _, rfl, rfl, zFJ_k g2, j, Or.inr (Or.inr (Or.inr ⟨rfl, rfl⟩))⟩
          · rw [if_neg h, if_pos h34]
            exact ⟨_, _, _, _, _, _, _, _, _, _, _, _, rfl, rfl, zFJ_k g2, j, Or.inr (Or.inr (Or.inr ⟨rfl, rfl⟩))⟩
  · rw [eX11_demandLiveRow_no hP c, zbq, if_neg c, if_pos rfl]
    simp only [Sum.elim_inl]
    unfold fX12_wrongWorth_33
    rw [if_neg (show ¬ (1 : Int32) ≤ 0 by decide)]
    exact ⟨_, _, _, _, _, _, _, _, _, _, _, _, rfl, rfl, zFJ.refl O, hJ, Or.inr (Or.inl ⟨rfl, rfl⟩)⟩
theorem zcall_worthTop {V sV dV qV : zSt} (hP : zPw n m q P) (hR : zRl n m q P O) (hJ : zJc n m q K P W sS D Q B Z E H) (x : Int32) : ∃ r v W2 s2 D2 Q2 V2 sV2 dV2 qV2 R2 O2, fX11_worthTop C P W sS D Q V sV dV qV R x = some (r, W2, s2, D2, Q2, V2, sV2, dV2, qV2, R2) ∧ fX12_worthTop O x = some (v, O2) ∧ zAg [("java/lang/IndexOutOfBoundsException", 1), ("java/lang/IllegalStateException", 2), ("java/util/NoSuchElementException", 3)] r v (zgi O2 9) ∧ zFc O O2 ∧ zJc n m q K P W2 s2 D2 Q2 B Z E H := by
  obtain ⟨r, W2, s2, D2, Q2, V2, sV2, dV2, qV2, R2, c, O2, e1, e2, e3, j, e4⟩ := zfindWorth (C := C) (R := R) (V := V) (sV := sV) (dV := dV) (qV := qV) hP hR hJ x
  unfold fX11_worthTop fX12_worthTop fX12_worthTop_26
  rw [e1, e2, zbq, zbq, zlq, gi_si]
  have fr : ∀ c : Int32, zFc O (zsi O2 9 c) := fun c => (zFc_J e3).trans zFc_9
  rcases e4 with ⟨rfl, rfl, v0, v1⟩ | ⟨rfl, rfl⟩ | ⟨rfl, rfl⟩ | ⟨rfl, rfl⟩
  · rw [if_pos (show (0 : Int32) ≤ 0 by decide), if_pos (show zin (0 : Int32) 3 = true by decide), show ((0 : Int32)).toNatClampNeg = 0 from rfl, gb_si, ← v0]
    exact ⟨_, _, _, _, _, _, _, _, _, _, _, _, rfl, rfl, Or.inl ⟨rfl, by rw [gi_si]⟩, fr 0, j⟩
  · rw [if_neg (show ¬ (1 : Int32) ≤ 0 by decide)]
    exact ⟨_, _, _, _, _, _, _, _, _, _, _, _, rfl, rfl, Or.inr ⟨_, rfl, by rw [gi_si]; simp⟩, fr 1, j⟩
  · rw [if_neg (show ¬ (2 : Int32) ≤ 0 by decide)]
    exact ⟨_, _, _, _, _, _, _, _, _, _, _, _, rfl, rfl, Or.inr ⟨_, rfl, by rw [gi_si]; simp⟩, fr 2, j⟩
  · rw [if_neg (show ¬ (3 : Int32) ≤ 0 by decide)]
    exact ⟨_, _, _, _, _, _, _, _, _, _, _, _, rfl, rfl, Or.inr ⟨_, rfl, by rw [gi_si]; simp⟩, fr 3, j⟩
theorem zcall_worthBottom {V sV dV qV : zSt} (hP : zPw n m q P) (hR : zRl n m q P O) (hJ : zJc n m q K P W sS D Q B Z E H) (x : Int32) : ∃ r v W2 s2 D2 Q2 V2 sV2 dV2 qV2 R2 O2, fX11_worthBottom C P W sS D Q V sV dV qV R x = some (r, W2, s2, D2, Q2, V2, sV2, dV2, qV2, R2) ∧ fX12_worthBottom O x = some (v, O2) ∧ zAg [("java/lang/IndexOutOfBoundsException", 1), ("java/lang/IllegalStateException", 2), ("java/util/NoSuchElementException", 3)] r v (zgi O2 9) ∧ zFc O O2 ∧ zJc n m q K P W2 s2 D2 Q2 B Z E H := by
  obtain ⟨r, W2, s2, D2, Q2, V2, sV2, dV2, qV2, R2, c, O2, e1, e2, e3, j, e4⟩ := zfindWorth (C := C) (R := R) (V := V) (sV := sV) (dV := dV) (qV := qV) hP hR hJ x
  unfold fX11_worthBottom fX12_worthBottom fX12_worthBottom_26
  rw [e1, e2, zbq, zbq, zlq, gi_si]
  have fr : ∀ c : Int32, zFc O (zsi O2 9 c) := fun c => (zFc_J e3).trans zFc_9
  rcases e4 with ⟨rfl, rfl, v0, v1⟩ | ⟨rfl, rfl⟩ | ⟨rfl, rfl⟩ | ⟨rfl, rfl⟩
  · rw [if_pos (show (0 : Int32) ≤ 0 by decide), if_pos (show zin (1 : Int32) 3 = true by decide), show ((1 : Int32)).toNatClampNeg = 1 from rfl, gb_si, ← v1]
    exact ⟨_, _, _, _, _, _, _, _, _, _, _, _, rfl, rfl, Or.inl ⟨rfl, by rw [gi_si]⟩, fr 0, j⟩
  · rw [if_neg (show ¬ (1 : Int32) ≤ 0 by decide)]
    exact ⟨_, _, _, _, _, _, _, _, _, _, _, _, rfl, rfl, Or.inr ⟨_, rfl, by rw [gi_si]; simp⟩, fr 1, j⟩
  · rw [if_neg (show ¬ (2 : Int32) ≤ 0 by decide)]
    exact ⟨_, _, _, _, _, _, _, _, _, _, _, _, rfl, rfl, Or.inr ⟨_, rfl, by rw [gi_si]; simp⟩, fr 2, j⟩
  · rw [if_neg (show ¬ (3 : Int32) ≤ 0 by decide)]
    exact ⟨_, _, _, _, _, _, _, _, _, _, _, _, rfl, rfl, Or.inr ⟨_, rfl, by rw [gi_si]; simp⟩, fr 3, j⟩
end ZWORTH
