/-! 9x: topByPoints, pointTop, pointBottom, isTight, tight, isProved. -/
section ZPOINTS
variable {n m q : Nat} {P C W sS D Q B Z E H O R K G F : zSt}
theorem zlow_same {X Y : zV} {x y : Int} (hX : 0 < X.2.2.2) (hY : 0 < Y.2.2.2) (h : x * Y.2.2.2 = y * X.2.2.2) : zlow x X.2.2.2.toNat = zlow y Y.2.2.2.toNat := by
  apply zlow_eq (by omega) (by omega)
  rw [show ((Y.2.2.2.toNat : Nat) : Int) = Y.2.2.2 by omega, show ((X.2.2.2.toNat : Nat) : Int) = X.2.2.2 by omega]
  exact h
/-- the best is there -/
def zBest (n q : Nat) (O Q : zSt) (X : zV) (O2 : zSt) : Prop := zBd X ∧ zQp Q X ∧ zgi Q 2 = zI n ∧ (∀ b, b < q → zVal O b X O2) ∧ ∃ fd np, zBp O2 fd np ∧ zSame (zVp O2 fd) X
theorem zdemandBest (hP : zPw n m q P) (hR : zRl n m q P O) (hJ : zJc n m q K P W sS D Q B Z E H) : ∃ W2 s2 D2 Q2 O2 X, fX11_demandBest C P W sS D Q = some ((if zgi W2 5 = 111 then .inr () else .inl "java/util/NoSuchElementException"), W2, s2, D2, Q2) ∧ fX12_looksNow O = some O2 ∧ zFLk O O2 ∧ zJc n m q K P W2 s2 D2 Q2 B Z E H ∧ zgi W2 9 ≠ 0 ∧ zRl n m q P O2 ∧ (∃ o ins, zWk n m q P W2 s2 D2 Q2 o ins ∧ X = zXb (zT (zSo (zGa P 0 (-1) n m)) o)) ∧ ((zgi W2 5 = 111 ∧ zgi O2 36 = 111 ∧ zBest n q O Q2 X O2) ∨ (¬ zgi W2 5 = 111 ∧ ¬ zgi O2 36 = 111)) := by
  obtain ⟨W2, s2, D2, Q2, o, ins, O2, f1, g1, g2, f2, g3, j, h10, hR2⟩ := zsees hP hR hJ
  have h3 := zAns_3 g3
  unfold fX11_demandBest
  rw [f1, zbq]
  refine ⟨W2, s2, D2, Q2, O2, _, ?_, g1, g2, j, h10, hR2, ⟨o, ins, f2, rfl⟩, ?_⟩
  · split <;> rfl
  · rcases g3 with ⟨hX, hpt, -, -, ⟨h1, h2, h34, hv, fd, np, hb⟩ | ⟨k, -, h1, -, h2, -⟩⟩ | ⟨h1, h2, -⟩
    · exact Or.inl ⟨h1, h2, hX, zPt_qp hpt, hpt.1, hv, fd, np, ⟨hb.1, hb.2.1, hb.2.2.1, hb.2.2.2.1⟩, hb.2.2.2.2⟩
    · exact Or.inr ⟨by rw [h1]; decide, by rw [h2]; decide⟩
    · exact Or.inr ⟨by rw [h1]; decide, by rw [h2]; decide⟩
theorem zcall_topByPoints (hP : zPw n m q P) (hR : zRl n m q P O) (hJ : zJc n m q K P W sS D Q B Z E H) (x : Int32) : ∃ r v W2 s2 D2 Q2 K2 B2 G2 R2 O2, fX11_topByPoints C P W sS D Q K B G R x = some (r, W2, s2, D2, Q2, K2, B2, G2, R2) ∧ fX12_topByPoints O x = some (v, O2) ∧ zAg [("java/lang/IndexOutOfBoundsException", 1), ("java/util/NoSuchElementException", 2)] r v (zgi O2 9) ∧ zFc O O2 ∧ zJc n m q K2 P W2 s2 D2 Q2 B2 Z E H := by
  have hq := hP.2.2.1
  obtain ⟨W2, s2, D2, Q2, O2, X, f1, g1, g2, j, h10, hR2, ⟨o, ins, hwk, hXe⟩, hb⟩ := zdemandBest (C := C) hP hR hJ
  unfold fX11_topByPoints fX12_topByPoints fX12_topByPoints_31 fX12_topByPoints_51
  rw [eX11_demandAim hP.2.2.2.2.2.1, zbq, g1, zbq, eX12_isAimIn hR2.2.2.1 (by omega), zbq, zlq, zlq, zlq, gi_si, gi_si, gi_si, if_pos (show (0 : Int32) ≤ 0 by decide), if_neg (show ¬ (1 : Int32) ≤ 0 by decide), if_neg (show ¬ (2 : Int32) ≤ 0 by decide)]
  have fr : ∀ c : Int32, zFc O (zsi O2 9 c) := fun c => (zFc_k g2).trans zFc_9
  by_cases c : zix q x
  · obtain ⟨a, ha, rfl⟩ := zix_ex (by omega) c
    rw [if_pos c, if_pos c, if_neg (show ¬ (1 : Int32) = 0 by decide)]
    simp only [Sum.elim_inr]
    rw [f1, zbq]
    rcases hb with ⟨h5, h36, hX, hQ, -, hv, -⟩ | ⟨h5, h36⟩
    · rw [if_pos h5, if_pos h36, if_pos (zin_zI (by omega) (by omega)), zI_nat (by omega), gb_si]
      simp only [Sum.elim_inr]
      obtain ⟨K2, B2, G2, Y, k1, k2, k3, k4, k5⟩ : ∃ K2 B2 G2 Y, fX0_look K P s2 B G = some (K2, B2, G2) ∧ zQp B2 Y ∧ zBd Y ∧ zeqa P q Y X ∧ zJc n m q K2 P W2 s2 D2 Q2 B2 Z E H := by
        by_cases c11 : zgi K 5 = 0
        · obtain ⟨K2, B2, G2, Y, k1, k2, k3, k4⟩ := eX0_look (C := K) (B := B) (K := G) hP hwk h5 c11
          exact ⟨K2, B2, G2, Y, k1, k2, k3, by rw [hXe]; exact k4, j.1, fun _ => ⟨h10, h5, o, ins, Y, hwk, k2, k3, k4⟩, j.2.2.1, j.2.2.2⟩
        · obtain ⟨-, -, o3, ins3, Y, w3, k2, k3, k4⟩ := j.2.1 c11
          refine ⟨K, B, G, Y, ?_, k2, k3, ?_, j⟩
          · unfold fX0_look
            rw [if_neg c11]
          -- the point X is that of the walk, whatever the basis
          have p1 : zBd (zXb (zT (zSo (zGa P 0 (-1) n m)) o3)) ∧ zQp Q2 (zXb (zT (zSo (zGa P 0 (-1) n m)) o3)) := by
            obtain ⟨O3, -, -, a3⟩ := eX12_looksNow hP hR w3
            rcases a3 with ⟨b1, b2, -⟩ | ⟨b1, -⟩
            · exact ⟨b1, zPt_qp b2⟩
            · rw [h5] at b1; exact absurd b1 (by decide)
          have ex : zXb (zT (zSo (zGa P 0 (-1) n m)) o3) = X := by
            have w : (zXb (zT (zSo (zGa P 0 (-1) n m)) o3)).2.2.2 = X.2.2.2 := p1.2.1.symm.trans hQ.1
            have c : ∀ i, i < 3 → zco (zXb (zT (zSo (zGa P 0 (-1) n m)) o3)) i = zco X i := fun i hi => (p1.2.2 i hi).symm.trans (hQ.2 i hi)
            have c0 := c 0 (by omega)
            have c1 := c 1 (by omega)
            have c2 := c 2 (by omega)
            exact Prod.ext c0 (Prod.ext c1 (Prod.ext c2 w))
          rw [← ex]
          exact k4
      obtain ⟨v, e1, e2, e3⟩ := eX5_aimSum hP ha k2 k3
      have hw := k3.2.1
      obtain ⟨R2, r1, r2, r3⟩ := eX2_put (R := R) (t := v) (b := zgl B2 1) (A := 700000000) (y := Y.2.2.2.toNat) e3 (by omega) (by rw [k2.1]; omega) (by omega)
      rw [k1, zbq, e1, zbq, r1, zbq]
      have e : zgl R2 0 = zgb O2 28 a := by
        rw [z64eq, r2, (hv a ha).1, e2, zA0_ac hR ha, zlow_same hw hX.2.1 (k4 a ha)]
      exact ⟨_, _, _, _, _, _, _, _, _, _, _, rfl, rfl, Or.inl ⟨by rw [e], by rw [gi_si]⟩, fr 0, k5⟩
    · rw [if_neg h5, if_neg h36]
      simp only [Sum.elim_inl]
      exact ⟨_, _, _, _, _, _, _, _, _, _, _, rfl, rfl, Or.inr ⟨_, rfl, by rw [gi_si]; simp⟩, fr 2, j⟩
  · rw [if_neg c, if_neg c, if_pos rfl]
    simp only [Sum.elim_inl]
    exact ⟨_, _, _, _, _, _, _, _, _, _, _, rfl, rfl, Or.inr ⟨_, rfl, by rw [gi_si]; simp⟩, fr 1, hJ⟩
/-- the divisor of two cells of the reference's best point -/
theorem zdivs {fd np i : Nat} (hB : zBp O fd np) (hi : i < 3) : ∃ g, fX12_divisor (zgb O 21 (3 * fd + i)) (zgb O 22 fd) = some g ∧ ¬ g = 0 ∧ (zgb O 21 (3 * fd + i) / g).toInt = (zlow (zco (zVp O fd) i) (zVp O fd).2.2.2.toNat).1 ∧ (zgb O 22 fd / g).toInt = (zlow (zco (zVp O fd) i) (zVp O fd).2.2.2.toNat).2 := by
  have hbd := zBp_bd hB
  have ha : zab (zgb O 21 (3 * fd + i)).toInt 23619600 := by rw [zVp_co O fd hi]; exact hbd.1 i hi
  have hw := hbd.2.1
  have hw2 := hbd.2.2
  have eb : (zgb O 22 fd).toInt = (((zVp O fd).2.2.2.toNat : Nat) : Int) := by
    show (zVp O fd).2.2.2 = _
    omega
  obtain ⟨g, g1, g2⟩ := eX12_divisor ha (by omega) eb
  have hg : 0 < Nat.gcd (zgb O 21 (3 * fd + i)).toInt.natAbs (zVp O fd).2.2.2.toNat := Nat.gcd_pos_of_pos_right _ (by omega)
  have hdt : ((Nat.gcd (zgb O 21 (3 * fd + i)).toInt.natAbs (zVp O fd).2.2.2.toNat : Nat) : Int) ∣ (zgb O 21 (3 * fd + i)).toInt := Int.ofNat_dvd_left.mpr (Nat.gcd_dvd_left _ _)
  have hyb : zab (zgb O 22 fd).toInt 23619600 := by rw [eb]; exact zab_of (by omega) (by omega)
  refine ⟨g, g1, ?_, ?_, ?_⟩
  · rw [z64eq, g2, z64_0]; omega
  · rw [z64div ha (by omega), g2, ← zVp_co O fd hi]
    unfold zlow
    exact Int.tdiv_eq_ediv_of_dvd hdt
  · rw [z64div hyb (by omega), g2, eb, ← zVp_co O fd hi]
    unfold zlow
    exact Int.ofNat_tdiv _ _
theorem zBp_9 {fd np : Nat} {c : Int32} (h : zBp O fd np) : zBp (zsi O 9 c) fd np := ⟨by rw [gi_sin (by omega)]; exact h.1, h.2.1, h.2.2.1, h.2.2.2⟩
theorem zfindCoordinate (hP : zPw n m q P) (hR : zRl n m q P O) (hJ : zJc n m q K P W sS D Q B Z E H) (x : Int32) : ∃ r W2 s2 D2 Q2 R2 c O2, fX11_findCoordinate C P W sS D Q R x = some (r, W2, s2, D2, Q2, R2) ∧ fX12_wrongPoint O x = some (c, O2) ∧ zFLk O O2 ∧ zJc n m q K P W2 s2 D2 Q2 B Z E H ∧ ((r = .inr () ∧ c = 0 ∧ ∃ i fd np g, i < 3 ∧ x = zI i ∧ zBp O2 fd np ∧ fX12_divisor (zgb O2 21 (3 * fd + i)) (zgb O2 22 fd) = some g ∧ ¬ g = 0 ∧ zgl R2 0 = zgb O2 21 (3 * fd + i) / g ∧ zgl R2 1 = zgb O2 22 fd / g) ∨ (r = .inl "java/lang/IndexOutOfBoundsException" ∧ c = 1) ∨ (r = .inl "java/util/NoSuchElementException" ∧ c = 2)) := by
  have hn := hP.1
  obtain ⟨W2, s2, D2, Q2, O2, X, f1, g1, g2, j, h10, hR2, -, hb⟩ := zdemandBest (C := C) hP hR hJ
  unfold fX11_findCoordinate fX12_wrongPoint fX12_wrongPoint_30
  rw [eX11_demandVariable hP.2.2.2.1, zbq, g1, zbq, eX12_isVar hR2.1 (by omega), zbq]
  by_cases c : zix n x
  · obtain ⟨i, hi, rfl⟩ := zix_ex (by omega) c
    rw [if_pos c, if_pos c, if_neg (show ¬ (1 : Int32) = 0 by decide)]
    simp only [Sum.elim_inr]
    rw [f1, zbq]
    rcases hb with ⟨h5, h36, hX, hQ, -, hv, fd, np, hB, hS⟩ | ⟨h5, h36⟩
    · rw [if_pos h5, if_pos h36]
      simp only [Sum.elim_inr]
      have hi3 : i < 3 := by omega
      have hw := hX.2.1
      obtain ⟨R2, r1, r2, r3⟩ := eX2_put (R := R) (t := zgb Q2 0 i) (b := zgl Q2 1) (A := 23619600) (y := X.2.2.2.toNat) (by rw [hQ.2 i hi3]; exact hX.1 i hi3) (by omega) (by rw [hQ.1]; omega) (by omega)
      obtain ⟨g, d1, d2, d3, d4⟩ := zdivs hB hi3
      have e := zlow_same (zBp_bd hB).2.1 hw (hS i hi3)
      rw [eX4_topOf hi3, zbq, r1, zbq]
      refine ⟨_, _, _, _, _, _, _, _, rfl, rfl, g2, j, Or.inl ⟨rfl, rfl, i, fd, np, g, hi3, rfl, hB, d1, d2, ?_, ?_⟩⟩
      · rw [z64eq, r2, d3, e, hQ.2 i hi3]
      · rw [z64eq, r3, d4, e, hQ.2 i hi3]
    · rw [if_neg h5, if_neg h36]
      simp only [Sum.elim_inl]
      exact ⟨_, _, _, _, _, _, _, _, rfl, rfl, g2, j, Or.inr (Or.inr ⟨rfl, rfl⟩)⟩
  · rw [if_neg c, if_neg c, if_pos rfl]
    simp only [Sum.elim_inl]
    exact ⟨_, _, _, _, _, _, _, _, rfl, rfl, g2, hJ, Or.inr (Or.inl ⟨rfl, rfl⟩)⟩
theorem zcall_pointTop (hP : zPw n m q P) (hR : zRl n m q P O) (hJ : zJc n m q K P W sS D Q B Z E H) (x : Int32) : ∃ r v W2 s2 D2 Q2 R2 O2, fX11_pointTop C P W sS D Q R x = some (r, W2, s2, D2, Q2, R2) ∧ fX12_pointTop O x = some (v, O2) ∧ zAg [("java/lang/IndexOutOfBoundsException", 1), ("java/util/NoSuchElementException", 2)] r v (zgi O2 9) ∧ zFc O O2 ∧ zJc n m q K P W2 s2 D2 Q2 B Z E H := by
  obtain ⟨r, W2, s2, D2, Q2, R2, c, O2, e1, e2, e3, j, e4⟩ := zfindCoordinate (C := C) (R := R) hP hR hJ x
  unfold fX11_pointTop fX12_pointTop fX12_pointTop_59
  rw [e1, e2, zbq, zbq, zlq, gi_si]
  have fr : ∀ c : Int32, zFc O (zsi O2 9 c) := fun c => (zFc_k e3).trans zFc_9
  rcases e4 with ⟨rfl, rfl, i, fd, np, g, hi, rfl, hB, d1, d2, d3, d4⟩ | ⟨rfl, rfl⟩ | ⟨rfl, rfl⟩
  · have hfd := hB.2.1
    have hnp := hB.2.2.1
    have c1 : zin (zI (3 * fd + i)) 1800 = true := zin_zI (by omega) (by omega)
    rw [if_pos (show (0 : Int32) ≤ 0 by decide), gi_sin (by omega), hB.1, zn3, zI_mul, zI_add, if_pos c1, if_pos c1, if_pos (zin_zI (by omega) (by omega)), zI_nat (by omega), zI_nat (by omega), gb_si, gb_si, d1, zbq, if_neg d2, ← d3]
    exact ⟨_, _, _, _, _, _, _, _, rfl, rfl, Or.inl ⟨rfl, by rw [gi_si]⟩, fr 0, j⟩
  · rw [if_neg (show ¬ (1 : Int32) ≤ 0 by decide)]
    exact ⟨_, _, _, _, _, _, _, _, rfl, rfl, Or.inr ⟨_, rfl, by rw [gi_si]; simp⟩, fr 1, j⟩
  · rw [if_neg (show ¬ (2 : Int32) ≤ 0 by decide)]
    exact ⟨_, _, _, _, _, _, _, _, rfl, rfl, Or.inr ⟨_, rfl, by rw [gi_si]; simp⟩, fr 2, j⟩
theorem zcall_pointBottom (hP : zPw n m q P) (hR : zRl n m q P O) (hJ : zJc n m q K P W sS D Q B Z E H) (x : Int32) : ∃ r v W2 s2 D2 Q2 R2 O2, fX11_pointBottom C P W sS D Q R x = some (r, W2, s2, D2, Q2, R2) ∧ fX12_pointBottom O x = some (v, O2) ∧ zAg [("java/lang/IndexOutOfBoundsException", 1), ("java/util/NoSuchElementException", 2)] r v (zgi O2 9) ∧ zFc O O2 ∧ zJc n m q K P W2 s2 D2 Q2 B Z E H := by
  obtain ⟨r, W2, s2, D2, Q2, R2, c, O2, e1, e2, e3, j, e4⟩ := zfindCoordinate (C := C) (R := R) hP hR hJ x
  unfold fX11_pointBottom fX12_pointBottom fX12_pointBottom_55
  rw [e1, e2, zbq, zbq, zlq, gi_si]
  have fr : ∀ c : Int32, zFc O (zsi O2 9 c) := fun c => (zFc_k e3).trans zFc_9
  rcases e4 with ⟨rfl, rfl, i, fd, np, g, hi, rfl, hB, d1, d2, d3, d4⟩ | ⟨rfl, rfl⟩ | ⟨rfl, rfl⟩
  · have hfd := hB.2.1
    have hnp := hB.2.2.1
    have c1 : zin (zI (3 * fd + i)) 1800 = true := zin_zI (by omega) (by omega)
    have c2 : zin (zI fd) 600 = true := zin_zI (by omega) (by omega)
    rw [if_pos (show (0 : Int32) ≤ 0 by decide), gi_sin (by omega), hB.1, zn3, zI_mul, zI_add, if_pos c2, if_pos c1, if_pos c2, zI_nat (by omega), zI_nat (by omega), gb_si, gb_si, d1, zbq, if_neg d2, ← d4]
    exact ⟨_, _, _, _, _, _, _, _, rfl, rfl, Or.inl ⟨rfl, by rw [gi_si]⟩, fr 0, j⟩
  · rw [if_neg (show ¬ (1 : Int32) ≤ 0 by decide)]
    exact ⟨_, _, _, _, _, _, _, _, rfl, rfl, Or.inr ⟨_, rfl, by rw [gi_si]; simp⟩, fr 1, j⟩
  · rw [if_neg (show ¬ (2 : Int32) ≤ 0 by decide)]
    exact ⟨_, _, _, _, _, _, _, _, rfl, rfl, Or.inr ⟨_, rfl, by rw [gi_si]; simp⟩, fr 2, j⟩
end ZPOINTS
