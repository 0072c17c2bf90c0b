/-! 59: the dictionary at its beginning: the basis of the least values. -/
theorem zI_sub {a b : Nat} (h : b ≤ a) : zI a - zI b = zI (a - b) := by
  have e : zI a = zI (a - b) + zI b := by rw [zI_add]; congr 1; omega
  rw [e, Int32.add_sub_cancel]
theorem eX7_slopeOf {s : zSt} {k i : Nat} (h : k * 3 + i < 54) : fX7_slopeOf s (zI k) (zI i) = some (zga s 0 (k * 3 + i)).toInt64 := by
  simp (disch := omega) only [fX7_slopeOf, fX7_slopeOf_29, fX7_slopeOf_30, zn0, zn3, zn54, zI_mul, zI_add, zlet, zI_lt_f, zI_le_f, zin_zI, zI_nat, if_false, if_true]
theorem eX7_constantOf {s : zSt} {k : Nat} (h : k < 18) : fX7_constantOf s (zI k) = some (zga s 1 k).toInt64 := by
  simp (disch := omega) only [fX7_constantOf, fX7_constantOf_23, fX7_constantOf_24, zn0, zn18, zI_lt_f, zI_le_f, zin_zI, zI_nat, if_false, if_true]
/-- one row of cells written -/
def zRo (D : zSt) (r : Nat) (v : Nat → Int) (E : zSt) : Prop :=
  (∀ k, zgi E k = zgi D k) ∧ (∀ k, zgl E k = zgl D k) ∧ (∀ k, zga E k = zga D k) ∧ (∀ n, (∀ i, i < 4 → n ≠ r * 4 + i) → zgb E 0 n = zgb D 0 n) ∧ ∀ i, i < 4 → (zgb E 0 (r * 4 + i)).toInt = v i
def zini (P : zSt) (F : zV) : Nat → Int
  | 0 => F.1
  | 1 => F.2.1
  | 2 => F.2.2.1
  | _ => F.2.2.2 + F.1 * (zga P 0 0).toInt + F.2.1 * (zga P 0 1).toInt + F.2.2.1 * (zga P 0 2).toInt
theorem zRo4 {D : zSt} {r : Nat} {a b c e : Int64} {v : Nat → Int} (h0 : a.toInt = v 0) (h1 : b.toInt = v 1) (h2 : c.toInt = v 2) (h3 : e.toInt = v 3) {E1 E2 E3 E4 : zSt} (g1 : E1 = zsb D 0 (vp_updL (zgb D 0) (r * 4 + 0) a)) (g2 : E2 = zsb E1 0 (vp_updL (zgb E1 0) (r * 4 + 1) b)) (g3 : E3 = zsb E2 0 (vp_updL (zgb E2 0) (r * 4 + 2) c)) (g4 : E4 = zsb E3 0 (vp_updL (zgb E3 0) (r * 4 + 3) e)) : zRo D r v E4 := by
  subst g1 g2 g3 g4
  refine ⟨fun _ => rfl, fun _ => rfl, fun _ => rfl, fun n hn => ?_, fun i hi => ?_⟩
  · simp only [gb_sb]
    rw [updL_n (hn 3 (by omega)), updL_n (hn 2 (by omega)), updL_n (hn 1 (by omega)), updL_n (hn 0 (by omega))]
  · simp only [gb_sb]
    rcases zlt4 hi with rfl | rfl | rfl | rfl
    · rw [updL_n (by omega), updL_n (by omega), updL_n (by omega), updL_s rfl, h0]
    · rw [updL_n (by omega), updL_n (by omega), updL_s rfl, h1]
    · rw [updL_n (by omega), updL_s rfl, h2]
    · rw [updL_s rfl, h3]
theorem zs01 : zI 0 + 1 = zI 1 := by decide
theorem zs12 : zI 1 + 1 = zI 2 := by decide
theorem zs23 : zI 2 + 1 = zI 3 := by decide
theorem zs34 : zI 3 + 1 = zI 4 := by decide
theorem eX1_putLine_f {D P s : zSt} {l f : Nat} {F : zV} (hl : l < 15) (hb : ∀ i, i < 3 → zab (zga P 0 i).toInt 50) (hF : zvb F) (h0 : (zga s 0 ((3 + l) * 3 + 0)).toInt = F.1) (h1 : (zga s 0 ((3 + l) * 3 + 1)).toInt = F.2.1) (h2 : (zga s 0 ((3 + l) * 3 + 2)).toInt = F.2.2.1) {x5 : Int64} (h3 : x5.toInt = F.2.2.2) : ∃ E, fX1_putLine_16 P s (f + 4) D (zI l) (zI (3 + l)) x5 (zI 0) = some E ∧ zRo D l (zini P F) E := by
  have m0 : ((zga s 0 ((3 + l) * 3 + 0)).toInt64 * (zga P 0 0).toInt64).toInt = F.1 * (zga P 0 0).toInt := by
    rw [z64mul (A := 9) (B := 50) (by rw [z32_64, h0]; exact hF.1) (by rw [z32_64]; exact hb 0 (by omega)) (by omega), z32_64, z32_64, h0]
  have m1 : ((zga s 0 ((3 + l) * 3 + 1)).toInt64 * (zga P 0 1).toInt64).toInt = F.2.1 * (zga P 0 1).toInt := by
    rw [z64mul (A := 9) (B := 50) (by rw [z32_64, h1]; exact hF.2.1) (by rw [z32_64]; exact hb 1 (by omega)) (by omega), z32_64, z32_64, h1]
  have m2 : ((zga s 0 ((3 + l) * 3 + 2)).toInt64 * (zga P 0 2).toInt64).toInt = F.2.2.1 * (zga P 0 2).toInt := by
    rw [z64mul (A := 9) (B := 50) (by rw [z32_64, h2]; exact hF.2.2.1) (by rw [z32_64]; exact hb 2 (by omega)) (by omega), z32_64, z32_64, h2]
  have b0 : zab ((zga s 0 ((3 + l) * 3 + 0)).toInt64 * (zga P 0 0).toInt64).toInt 450 := by rw [m0]; exact zab_mul hF.1 (hb 0 (by omega))
  have b1 : zab ((zga s 0 ((3 + l) * 3 + 1)).toInt64 * (zga P 0 1).toInt64).toInt 450 := by rw [m1]; exact zab_mul hF.2.1 (hb 1 (by omega))
  have b2 : zab ((zga s 0 ((3 + l) * 3 + 2)).toInt64 * (zga P 0 2).toInt64).toInt 450 := by rw [m2]; exact zab_mul hF.2.2.1 (hb 2 (by omega))
  have b5 : zab x5.toInt 1350 := by rw [h3]; exact hF.2.2.2
  have a0 := z64add b5 b0 (by omega)
  have c0 : zab (x5 + (zga s 0 ((3 + l) * 3 + 0)).toInt64 * (zga P 0 0).toInt64).toInt 1800 := by rw [a0]; exact zab_add b5 b0
  have a1 := z64add c0 b1 (by omega)
  have c1 : zab (x5 + (zga s 0 ((3 + l) * 3 + 0)).toInt64 * (zga P 0 0).toInt64 + (zga s 0 ((3 + l) * 3 + 1)).toInt64 * (zga P 0 1).toInt64).toInt 2250 := by rw [a1]; exact zab_add c0 b1
  have a2 := z64add c1 b2 (by omega)
  rw [a1, a0, m0, m1, m2, h3] at a2
  rw [fX1_putLine_16]
  simp (disch := omega) only [zn3, zI_le_f, if_false, eX7_slopeOf, eX1_putCell, eX5_leastOf, zbs, zlet, zs01]
  rw [fX1_putLine_16]
  simp (disch := omega) only [zn3, zI_le_f, if_false, eX7_slopeOf, eX1_putCell, eX5_leastOf, zbs, zlet, zs12]
  rw [fX1_putLine_16]
  simp (disch := omega) only [zn3, zI_le_f, if_false, eX7_slopeOf, eX1_putCell, eX5_leastOf, zbs, zlet, zs23]
  rw [fX1_putLine_16]
  simp (disch := omega) only [zn3, zI_le_t, if_true, eX1_putCell, zbs]
  exact ⟨_, rfl, zRo4 (v := zini P F) (by rw [z32_64]; exact h0) (by rw [z32_64]; exact h1) (by rw [z32_64]; exact h2) a2 rfl rfl rfl rfl⟩
theorem eX1_putAimGoal_f {D P : zSt} {n m q a f : Nat} (hP : zPw n m q P) (ha : a < 3) : ∃ E, fX1_putAimGoal_2 P (f + 4) D (zI a) (zI 0) = some E ∧ zRo D (15 + a) (fun i => if i < 3 ∧ a < q then (zga P 7 a).toInt * (zga P 6 (a * 3 + i)).toInt else 0) E := by
  have hq := hP.2.2.1
  have e0 : ((15 : Int32) + zI a) = zI (15 + a) := by rw [zn15, zI_add]
  have z0 : (0 : Int64).toInt = 0 := by decide
  by_cases c : a < q
  · have h11 := hP.2.2.2.2.2.2.2.2.2.2.1 a c
    have hd : zab (zga P 7 a).toInt 1 := by
      rcases h11.2 with e | e <;> rw [e]
      · rw [show (1 : Int32).toInt = 1 by decide]; unfold zab; omega
      · rw [show (-1 : Int32).toInt = -1 by decide]; unfold zab; omega
    have hv : ∀ i, i < 3 → ((zga P 7 a * zga P 6 (a * 3 + i)).toInt64).toInt = (zga P 7 a).toInt * (zga P 6 (a * 3 + i)).toInt := by
      intro i hi
      rw [z32_64, z32mul (A := 1) (B := 9) hd (h11.1 i hi).1 (by omega)]
    rw [fX1_putAimGoal_2]
    simp (disch := omega) only [zn3, zI_le_f, if_false, fX1_goalOfAim, zbs, e0, hP.2.2.2.2.2.1, eX5_directionOf, eX5_aimCoefficient, fX1_putAimGoal_38, eX1_putCell, zlet, zs01]
    rw [fX1_putAimGoal_2]
    simp (disch := omega) only [zn3, zI_le_f, if_false, fX1_goalOfAim, zbs, e0, hP.2.2.2.2.2.1, eX5_directionOf, eX5_aimCoefficient, fX1_putAimGoal_38, eX1_putCell, zlet, zs12]
    rw [fX1_putAimGoal_2]
    simp (disch := omega) only [zn3, zI_le_f, if_false, fX1_goalOfAim, zbs, e0, hP.2.2.2.2.2.1, eX5_directionOf, eX5_aimCoefficient, fX1_putAimGoal_38, eX1_putCell, zlet, zs23]
    rw [fX1_putAimGoal_2]
    simp (disch := omega) only [zn3, zI_le_t, if_true, fX1_goalOfAim, zbs, e0, eX1_putCell]
    exact ⟨_, rfl, zRo4 (by rw [hv 0 (by omega), if_pos (by omega)]) (by rw [hv 1 (by omega), if_pos (by omega)]) (by rw [hv 2 (by omega), if_pos (by omega)]) (by rw [z0, if_neg (by omega)]) rfl rfl rfl rfl⟩
  · rw [fX1_putAimGoal_2]
    simp (disch := omega) only [zn3, zI_le_f, zI_le_t, if_false, if_true, fX1_goalOfAim, zbs, e0, hP.2.2.2.2.2.1, fX1_putAimGoal_38, eX1_putCell, zlet, zs01]
    rw [fX1_putAimGoal_2]
    simp (disch := omega) only [zn3, zI_le_f, zI_le_t, if_false, if_true, fX1_goalOfAim, zbs, e0, hP.2.2.2.2.2.1, fX1_putAimGoal_38, eX1_putCell, zlet, zs12]
    rw [fX1_putAimGoal_2]
    simp (disch := omega) only [zn3, zI_le_f, zI_le_t, if_false, if_true, fX1_goalOfAim, zbs, e0, hP.2.2.2.2.2.1, fX1_putAimGoal_38, eX1_putCell, zlet, zs23]
    rw [fX1_putAimGoal_2]
    simp (disch := omega) only [zn3, zI_le_t, if_true, fX1_goalOfAim, zbs, e0, eX1_putCell]
    exact ⟨_, rfl, zRo4 (by rw [z0, if_neg (by omega)]) (by rw [z0, if_neg (by omega)]) (by rw [z0, if_neg (by omega)]) (by rw [z0, if_neg (by omega)]) rfl rfl rfl rfl⟩
theorem eX1_putLeastGoal_f {D : zSt} {a f : Nat} (ha : a < 3) : ∃ E, fX1_putLeastGoal_2 (f + 5) D (zI a) (zI 0) = some E ∧ zRo D (18 + a) (fun i => if i = a then -1 else 0) E := by
  have e0 : ((18 : Int32) + zI a) = zI (18 + a) := by rw [zn18, zI_add]
  have z0 : (0 : Int64).toInt = 0 := by decide
  have z1 : (-1 : Int64).toInt = -1 := by decide
  rcases zlt3 ha with rfl | rfl | rfl
  · rw [fX1_putLeastGoal_2]
    simp (disch := omega) only [zn4, zI_le_f, zI_eq_f, if_false, if_true, fX1_goalOfLeast, zbs, e0, fX1_putLeastGoal_25, eX1_putCell, zlet, zs01]
    rw [fX1_putLeastGoal_2]
    simp (disch := omega) only [zn4, zI_le_f, zI_eq_f, if_false, if_true, fX1_goalOfLeast, zbs, e0, fX1_putLeastGoal_25, eX1_putCell, zlet, zs12]
    rw [fX1_putLeastGoal_2]
    simp (disch := omega) only [zn4, zI_le_f, zI_eq_f, if_false, if_true, fX1_goalOfLeast, zbs, e0, fX1_putLeastGoal_25, eX1_putCell, zlet, zs23]
    rw [fX1_putLeastGoal_2]
    simp (disch := omega) only [zn4, zI_le_f, zI_eq_f, if_false, if_true, fX1_goalOfLeast, zbs, e0, fX1_putLeastGoal_25, eX1_putCell, zlet, zs34]
    rw [fX1_putLeastGoal_2]
    simp (disch := omega) only [zn4, zI_le_t, if_true]
    exact ⟨_, rfl, zRo4 (by rw [z1, if_pos rfl]) (by rw [z0, if_neg (by omega)]) (by rw [z0, if_neg (by omega)]) (by rw [z0, if_neg (by omega)]) rfl rfl rfl rfl⟩
  · rw [fX1_putLeastGoal_2]
    simp (disch := omega) only [zn4, zI_le_f, zI_eq_f, if_false, if_true, fX1_goalOfLeast, zbs, e0, fX1_putLeastGoal_25, eX1_putCell, zlet, zs01]
    rw [fX1_putLeastGoal_2]
    simp (disch := omega) only [zn4, zI_le_f, zI_eq_f, if_false, if_true, fX1_goalOfLeast, zbs, e0, fX1_putLeastGoal_25, eX1_putCell, zlet, zs12]
    rw [fX1_putLeastGoal_2]
    simp (disch := omega) only [zn4, zI_le_f, zI_eq_f, if_false, if_true, fX1_goalOfLeast, zbs, e0, fX1_putLeastGoal_25, eX1_putCell, zlet, zs23]
    rw [fX1_putLeastGoal_2]
    simp (disch := omega) only [zn4, zI_le_f, zI_eq_f, if_false, if_true, fX1_goalOfLeast, zbs, e0, fX1_putLeastGoal_25, eX1_putCell, zlet, zs34]
    rw [fX1_putLeastGoal_2]
    simp (disch := omega) only [zn4, zI_le_t, if_true]
    exact ⟨_, rfl, zRo4 (by rw [z0, if_neg (by omega)]) (by rw [z1, if_pos rfl]) (by rw [z0, if_neg (by omega)]) (by rw [z0, if_neg (by omega)]) rfl rfl rfl rfl⟩
  · rw [fX1_putLeastGoal_2]
    simp (disch := omega) only [zn4, zI_le_f, zI_eq_f, if_false, if_true, fX1_goalOfLeast, zbs, e0, fX1_putLeastGoal_25, eX1_putCell, zlet, zs01]
    rw [fX1_putLeastGoal_2]
    simp (disch := omega) only [zn4, zI_le_f, zI_eq_f, if_false, if_true, fX1_goalOfLeast, zbs, e0, fX1_putLeastGoal_25, eX1_putCell, zlet, zs12]
    rw [fX1_putLeastGoal_2]
    simp (disch := omega) only [zn4, zI_le_f, zI_eq_f, if_false, if_true, fX1_goalOfLeast, zbs, e0, fX1_putLeastGoal_25, eX1_putCell, zlet, zs23]
    rw [fX1_putLeastGoal_2]
    simp (disch := omega) only [zn4, zI_le_f, zI_eq_f, if_false, if_true, fX1_goalOfLeast, zbs, e0, fX1_putLeastGoal_25, eX1_putCell, zlet, zs34]
    rw [fX1_putLeastGoal_2]
    simp (disch := omega) only [zn4, zI_le_t, if_true]
    exact ⟨_, rfl, zRo4 (by rw [z0, if_neg (by omega)]) (by rw [z0, if_neg (by omega)]) (by rw [z1, if_pos rfl]) (by rw [z0, if_neg (by omega)]) rfl rfl rfl rfl⟩
