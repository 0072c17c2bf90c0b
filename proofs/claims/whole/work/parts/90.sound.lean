/-! 90: the proof is always sound: no point fits; the value is best. -/
theorem znone_58 {W s D F : zSt} (hz : ∀ i, i < 3 → (zgb F 2 i).toInt = 0) : ∀ (d i f : Nat), i + d = 3 → d < f → fX6_provesNone_58 W s D f F (zI i) = some (1, F)
  | 0, i, f + 1, hi, hf => by
    rw [fX6_provesNone_58, if_pos (by rw [zn3, zI_le (by omega) (by omega)]; omega)]
  | d + 1, i, f + 1, hi, hf => by
    rw [fX6_provesNone_58, if_neg (by rw [zn3, zI_le (by omega) (by omega)]; omega), if_pos (zin_zI (by omega) (by omega)), zI_nat (by omega), if_pos (by rw [z64eq, z64_0]; exact hz i (by omega)), zlq, zI_succ]
    exact znone_58 hz d (i + 1) f (by omega) (by omega)
theorem eX6_provesNone {W s D F : zSt} {S G : Nat → zV} {cnt n : Nat} {o ins : Nat → Nat} (hS : zSd s S cnt) (hF : zFit S G cnt n 0 W D o ins) : ∃ F2, fX6_provesNone F W s D = some (1, F2) := by
  obtain ⟨hD, -, -, h | ⟨-, -, b, hb, h8, hc, hneg⟩⟩ := hF
  · exact absurd h.1 (by decide)
  · have h18 := hS.1
    have hsc := zsc_pos hD.2.1.1.1
    have hscb := zWf_s hD.1 o
    have hins := hD.2.1.2.1 b hb
    have erow : zRow S G ins b = S (ins b) := by unfold zRow; rw [if_pos (by omega)]
    have h4b : zab (zgl D 4).toInt 4374 := by rw [hD.2.2.2.2.2.1]; exact hscb
    obtain ⟨F1, f1, f2⟩ := eX6_clear F
    obtain ⟨F2, g1, g2⟩ := eX6_add (W := W) hS hins h4b f2 (by omega)
    obtain ⟨F3, r1, r2⟩ := eX6_addOutsides (W := W) hS hD (r := b) (Or.inl hb) (by rw [erow]; exact hneg) g2 (by omega)
    unfold fX6_provesNone
    rw [f1, zbq, zlq, h8, eX1_insideOf (by omega), zbq, hD.2.2.2.2.1 b hb, g1, zbq, r1, zbq, if_neg (show ¬ (1 : Int32) = 0 by decide)]
    rw [erow, hD.2.2.2.2.2.1] at r2
    have e0 := (r2.1 0 (by omega)).1
    have e1 := (r2.1 1 (by omega)).1
    have e2 := (r2.1 2 (by omega)).1
    have e3 := r2.2.1
    simp only [zco, zadd, Int.zero_add] at e0 e1 e2 e3
    rw [if_pos (show zgl F3 3 < 0 by rw [z64lt, z64_0, e3]; omega), zn0, znone_58 (fun i hi => by
      rcases zlt3 hi with rfl | rfl | rfl
      · rw [e0]; omega
      · rw [e1]; omega
      · rw [e2]; omega) 3 0 6000 (by omega) (by omega)]
    exact ⟨F3, rfl⟩
theorem zbest_40 {n m q : Nat} {P W s D Q F : zSt} {X : zV} {x1 : Int64} {A : Nat} (hP : zPw n m q P) (hq : 0 < q) (hQ : zQp Q X) (hX : zBd X) (hw : X.2.2.2 ≤ 4374) (hx : zab x1.toInt 4374) (hF : ∀ i, i < 3 → (zgb F 2 i).toInt = -(x1.toInt * (zga P 6 (0 * 3 + i)).toInt)) (h3 : zab (zgl F 3).toInt A) (hA : A < 1000000000000) (hc : (zgl F 3).toInt * X.2.2.2 = x1.toInt * zev (zac P 0) X) : ∀ (d i f : Nat), i + d = 3 → d < f → fX6_provesBest_40 P W s D Q f F x1 (zI i) = some (1, F)
  | 0, i, f + 1, hi, hf => by
    obtain ⟨u, u1, u2, u3⟩ := eX5_aimSum (a := 0) hP hq hQ hX
    have wb : zab (zgl Q 1).toInt 4374 := by rw [hQ.1]; exact zab_of (by have := hX.2.1; omega) (by omega)
    have m1 := z64mul h3 wb (by omega)
    have m2 := z64mul hx u3 (by omega)
    rw [fX6_provesBest_40, if_pos (by rw [zn3, zI_le (by omega) (by omega)]; omega), show (0 : Int32) = zI 0 from rfl, u1, zbq, if_pos (by rw [z64eq, m1, m2, hQ.1, u2]; exact hc)]
    unfold fX6_provesBest_121
    rw [if_pos znb1]
  | d + 1, i, f + 1, hi, hf => by
    have hi3 : i < 3 := by omega
    have b := ((hP.2.2.2.2.2.2.2.2.2.2.1 0 hq).1 i hi3).1
    have b2 : zab (zga P 6 (0 * 3 + i)).toInt64.toInt 9 := by rw [z32_64]; exact b
    have n1 := z64neg hx (by omega)
    have n2 : zab (-x1).toInt 4374 := by rw [n1]; exact zab_neg hx
    have m1 := z64mul n2 b2 (by omega)
    have e : zgb F 2 i = -x1 * (zga P 6 (0 * 3 + i)).toInt64 := by
      have : (zgb F 2 i).toInt = (-x1 * (zga P 6 (0 * 3 + i)).toInt64).toInt := by
        rw [hF i hi3, m1, n1, z32_64, Int.neg_mul]
      exact Int64.toInt_inj.mp this
    rw [fX6_provesBest_40, if_neg (by rw [zn3, zI_le (by omega) (by omega)]; omega), if_pos (zin_zI (by omega) (by omega)), show fX5_aimCoefficient P (0 : Int32) (zI i) = some (zga P 6 (0 * 3 + i)) from eX5_aimCoefficient (a := 0) (by omega), zbq, zI_nat (by omega), if_pos e, zlq, zI_succ]
    exact zbest_40 hP hq hQ hX hw hx hF h3 hA hc d (i + 1) f (by omega) (by omega)
theorem eX6_provesBest {n m q : Nat} {P W s D Q F : zSt} {S : Nat → zV} {cnt : Nat} {o ins : Nat → Nat} (hP : zPw n m q P) (hq : 0 < q) (hS : zSd s S cnt) (hD : zDic S (zGo P q) cnt o ins D) (hQ : zPt Q n (zXb (zT S o))) (hpat : zPat S (zGo P q) o W q) : ∃ F2, fX6_provesBest F P W s D Q = some (1, F2) := by
  have hbd := zDic_bd hD
  have hscb := zWf_s hD.1 o
  have hsc := zsc_pos hD.2.1.1.1
  have hdir := (hP.2.2.2.2.2.2.2.2.2.2.1 0 hq).2
  have erow : zRow S (zGo P q) ins 15 = zGaim P 0 := by unfold zRow; rw [if_neg (by omega)]; exact zGo_lt hP.2.2.1 hq
  obtain ⟨F1, f1, f2⟩ := eX6_clear F
  obtain ⟨F3, r1, r2⟩ := eX6_addOutsides (W := W) hS hD (r := 15) (Or.inr ⟨by omega, by omega⟩) (by
    rw [erow, ← zGo_lt hP.2.2.1 hq]
    exact hpat.2 hq) f2 (by omega)
  rw [erow] at r2
  have hd : zab (zga P 7 0).toInt64.toInt 1 ∧ ((zga P 7 0).toInt = 1 ∨ (zga P 7 0).toInt = -1) := by
    rw [z32_64]
    rcases hdir with k | k <;> rw [k]
    · exact ⟨zab_of (by decide) (by decide), Or.inl (by decide)⟩
    · exact ⟨zab_of (by decide) (by decide), Or.inr (by decide)⟩
  have h4b : zab (zgl D 4).toInt 4374 := by rw [hD.2.2.2.2.2.1]; exact hscb
  have mx := z64mul h4b hd.1 (by omega)
  have mxb := zab_mul h4b hd.1
  rw [← mx] at mxb
  rw [hD.2.2.2.2.2.1, z32_64] at mx
  have e3 := r2.2.1
  have evX : zc (zT S o) (zGaim P 0) 3 = zev (zGaim P 0) (zXb (zT S o)) := (zXb_ev _ _).symm
  have hw : (zXb (zT S o)).2.2.2 = zsc (zT S o) := rfl
  unfold fX6_provesBest
  rw [f1, zbq]
  unfold fX1_goalOfAim
  rw [zbq, show (15 : Int32) + 0 = zI 15 from rfl, r1, zbq, if_neg (show ¬ (1 : Int32) = 0 by decide), show fX5_directionOf P (0 : Int32) = some (zga P 7 0) from eX5_directionOf (a := 0) (by omega), zbq, zlq, show (0 : Int32) = zI 0 from rfl, zbest_40 hP hq (zPt_qp hQ) hbd (by rw [hw]; exact zab_hi hscb) (zab_le mxb (by omega)) (fun i hi => by
    rw [(r2.1 i hi).1, mx]
    rcases zlt3 hi with rfl | rfl | rfl
    · show 0 - zsc (zT S o) * ((zga P 7 0).toInt * (zga P 6 (0 * 3 + 0)).toInt) = _
      rw [← Int.mul_assoc]; omega
    · show 0 - zsc (zT S o) * ((zga P 7 0).toInt * (zga P 6 (0 * 3 + 1)).toInt) = _
      rw [← Int.mul_assoc]; omega
    · show 0 - zsc (zT S o) * ((zga P 7 0).toInt * (zga P 6 (0 * 3 + 2)).toInt) = _
      rw [← Int.mul_assoc]; omega) (A := 0 + 17714700) (by rw [e3]; exact r2.2.2) (by omega) (by
    rw [e3, mx, evX, hw]
    have ex : zev (zGaim P 0) (zXb (zT S o)) = (zga P 7 0).toInt * zev (zac P 0) (zXb (zT S o)) + (zGaim P 0).2.2.2 * zsc (zT S o) := by
      unfold zev zGaim zac
      simp only [Nat.add_zero]
      rw [hw]
      generalize (zga P 7 0).toInt = d
      generalize (zga P 6 (0 * 3)).toInt = c0
      generalize (zga P 6 (0 * 3 + 1)).toInt = c1
      generalize (zga P 6 (0 * 3 + 2)).toInt = c2
      grind
    rw [ex]
    show (0 - zsc (zT S o) * (zGaim P 0).2.2.2 + ((zga P 7 0).toInt * zev (zac P 0) (zXb (zT S o)) + (zGaim P 0).2.2.2 * zsc (zT S o))) * zsc (zT S o) = _
    generalize (zGaim P 0).2.2.2 = g
    generalize zsc (zT S o) = w
    generalize zev (zac P 0) (zXb (zT S o)) = v
    generalize (zga P 7 0).toInt = d
    grind) 3 0 6000 (by omega) (by omega)]
  exact ⟨F3, rfl⟩
