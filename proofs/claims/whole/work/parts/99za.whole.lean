/-! 9za: wholeAt, wholeValue. -/
section ZWHOLES
variable {n m q : Nat} {P C W sS D Q B Z E H O R K : zSt}
theorem zdemandWhole (hP : zPw n m q P) (hR : zRl n m q P O) (hJ : zJc n m q K P W sS D Q B Z E H) : ∃ r Z2 E2 H2, fX11_demandWhole C P Z E H = some (r, Z2, E2, H2) ∧ zJc n m q K P W sS D Q B Z2 E2 H2 ∧ ((r = .inl "java/lang/UnsupportedOperationException" ∧ fX12_isWholeLooked O = some 0) ∨ (fX12_isWholeLooked O = some 1 ∧ ∃ x1 O2, fX12_findsWhole O = some (x1, O2) ∧ zFJ O O2 ∧ ((r = .inl "java/util/NoSuchElementException" ∧ x1 = 0) ∨ (r = .inr () ∧ x1 = 1 ∧ ∃ Y, zQp E2 Y ∧ zWX Y ∧ ∀ i, i < 3 → (zgb O2 30 i).toInt = zco Y i)))) := by
  unfold fX11_demandWhole
  obtain ⟨y, y1, y2, y3⟩ := eX5_isNarrow hP hR
  rw [y1, zbq]
  rcases y3 with ⟨hy, hN⟩ | ⟨hy, hN⟩
  · rw [hy] at y2
    rw [if_pos hy]
    exact ⟨_, _, _, _, rfl, hJ, Or.inl ⟨rfl, y2⟩⟩
  · rw [hy] at y2
    rw [if_neg (show ¬ y = 0 by rw [hy]; decide)]
    obtain ⟨j1, j2, j3, j4⟩ := hJ
    obtain ⟨Z3, E3, H3, x1, O2, h0, h1, h2, h3, h4⟩ : ∃ Z3 E3 H3 x1 O2, fX10_look Z P E H = some (Z3, E3, H3) ∧ fX12_findsWhole O = some (x1, O2) ∧ zFJ O O2 ∧ zWb Z3 E3 x1 O2 ∧ zJc n m q K P W sS D Q B Z3 E3 H3 := by
      by_cases c12 : zgi Z 4 = 0
      · obtain ⟨Z2, E2, H2, x1, O2, g1, g2, g3, g4, g5⟩ := eX10_look (Z := Z) (E := E) hP hR hN j4 c12
        exact ⟨Z2, E2, H2, x1, O2, g1, g2, g3, g4, j1, j2, fun _ => ⟨Z, E, H, c12, j4, g1⟩, g5⟩
      · obtain ⟨Z0, E0, H0, hz, h0, hl⟩ := j3 c12
        obtain ⟨Z2, E2, H2, x1, O2, g1, g2, g3, g4, g5⟩ := eX10_look (Z := Z0) (E := E0) hP hR hN h0 hz
        rw [hl] at g1
        injection g1 with g1
        injection g1 with e1 g1
        injection g1 with e2 e3
        rw [← e1, ← e2] at g4
        refine ⟨Z, E, H, x1, O2, ?_, g2, g3, g4, j1, j2, j3, j4⟩
        unfold fX10_look
        rw [if_neg c12]
    rw [h0, zbq]
    rcases h3 with ⟨a, b⟩ | ⟨a, b, Y, c⟩
    · rw [if_pos a]
      exact ⟨_, _, _, _, rfl, h4, Or.inr ⟨y2, x1, O2, h1, h2, Or.inl ⟨rfl, b⟩⟩⟩
    · rw [if_neg (show ¬ zgi Z3 3 = 0 by rw [a]; decide)]
      exact ⟨_, _, _, _, rfl, h4, Or.inr ⟨y2, x1, O2, h1, h2, Or.inr ⟨rfl, b, Y, c⟩⟩⟩
theorem zcall_wholeAt (hP : zPw n m q P) (hR : zRl n m q P O) (hJ : zJc n m q K P W sS D Q B Z E H) (x : Int32) : ∃ r v Z2 E2 H2 O2, fX11_wholeAt C P Z E H x = some (r, Z2, E2, H2) ∧ fX12_wholeAt O x = some (v, O2) ∧ zAg [("java/lang/IndexOutOfBoundsException", 1), ("java/lang/UnsupportedOperationException", 2), ("java/util/NoSuchElementException", 3)] r v (zgi O2 9) ∧ zFc O O2 ∧ zJc n m q K P W sS D Q B Z2 E2 H2 := by
  have hn := hP.1
  unfold fX11_wholeAt fX12_wholeAt fX12_wholeAt_36 fX12_wholeAt_57
  rw [eX11_demandVariable hP.2.2.2.1, zbq, eX12_isVar hR.1 (by omega), zbq]
  by_cases c : zix n x
  · obtain ⟨i, hi, rfl⟩ := zix_ex (by omega) c
    have hi3 : i < 3 := by omega
    rw [if_pos c, if_pos c, if_neg (show ¬ (1 : Int32) = 0 by decide)]
    simp only [Sum.elim_inr]
    obtain ⟨r, Z2, E2, H2, f1, j, f2⟩ := zdemandWhole (C := C) hP hR hJ
    rw [f1, zbq]
    rcases f2 with ⟨hr, f2⟩ | ⟨f2, x1, O2, f3, f4, ⟨hr, f5⟩ | ⟨hr, f5, Y, y1, y2, y3⟩⟩
    · rw [f2, zbq, if_pos rfl, zlq, gi_si, if_neg (show ¬ (2 : Int32) ≤ 0 by decide), hr]
      simp only [Sum.elim_inl]
      exact ⟨_, _, _, _, _, _, rfl, rfl, Or.inr ⟨_, rfl, by rw [gi_si]; simp⟩, zFc_9, j⟩
    · rw [f2, zbq, if_neg (show ¬ (1 : Int32) = 0 by decide), f3, zbq, if_pos f5, zlq, gi_si, if_neg (show ¬ (3 : Int32) ≤ 0 by decide), hr]
      simp only [Sum.elim_inl]
      exact ⟨_, _, _, _, _, _, rfl, rfl, Or.inr ⟨_, rfl, by rw [gi_si]; simp⟩, (zFc_J f4).trans zFc_9, j⟩
    · rw [f2, zbq, if_neg (show ¬ (1 : Int32) = 0 by decide), f3, zbq, if_neg (show ¬ x1 = 0 by rw [f5]; decide), zlq, gi_si, if_pos (show (0 : Int32) ≤ 0 by decide), if_pos (zin_zI hi3 (by omega)), zI_nat (by omega), gb_si, hr]
      simp only [Sum.elim_inr]
      rw [eX4_topOf hi3, zbq, show zgb E2 0 i = zgb O2 30 i by rw [z64eq, y1.2 i hi3, y3 i hi3]]
      exact ⟨_, _, _, _, _, _, rfl, rfl, Or.inl ⟨rfl, by rw [gi_si]⟩, (zFc_J f4).trans zFc_9, j⟩
  · rw [if_neg c, if_neg c, if_pos rfl, zlq, gi_si, if_neg (show ¬ (1 : Int32) ≤ 0 by decide)]
    simp only [Sum.elim_inl]
    exact ⟨_, _, _, _, _, _, rfl, rfl, Or.inr ⟨_, rfl, by rw [gi_si]; simp⟩, zFc_9, hJ⟩
theorem zwv_step {f i a : Nat} {y : Int32} (hi : i < 3) (ha : a < 3) : fX12_wholeValue_52 (f + 1) O (zI a) y (zI i) = fX12_wholeValue_52 f O (zI a) (y + zga O 5 (3 * a + i) * (zgb O 30 i).toInt32) (zI (i + 1)) := by
  rw [fX12_wholeValue_52, if_neg (show ¬ (3 : Int32) ≤ zI i by rw [zn3, zI_le (by omega) (by omega)]; omega), show (3 : Int32) * zI a + zI i = zI (3 * a + i) by rw [zn3, zI_mul, zI_add], if_pos (zin_zI (by omega) (by omega)), if_pos (zin_zI hi (by omega)), zlq, zlq, zI_succ, zI_nat (by omega), zI_nat (by omega)]
theorem zwv_52 {f a : Nat} {Y : zV} (hP : zPw n m q P) (hR : zRl n m q P O) (ha : a < q) (hY : zWX Y) (h30 : ∀ i, i < 3 → (zgb O 30 i).toInt = zco Y i) : ∃ v, fX12_wholeValue_52 (f + 4) O (zI a) (0 : Int32) (zI 0) = some (v, O) ∧ v.toInt = zev (zac P a) Y ∧ zab v.toInt 5400 := by
  have hq := hP.2.2.1
  have hc := (hP.2.2.2.2.2.2.2.2.2.2.1 a ha).1
  have ho := (hR.2.2.2.2.2.1 a ha).1
  have ht : ∀ i, i < 3 → ((zgb O 30 i).toInt32).toInt = zco Y i := fun i hi => z64_32 (h30 i hi) (hY.2 i hi)
  rw [zwv_step (by omega) (by omega), zwv_step (by omega) (by omega), zwv_step (by omega) (by omega), fX12_wholeValue_52, if_pos (show (3 : Int32) ≤ zI (0 + 1 + 1 + 1) by rw [zn3, zI_le (by omega) (by omega)]; omega)]
  have hc2 : ∀ i, i < 3 → zab (zga O 5 (3 * a + i)).toInt 9 := fun i hi => by rw [ho i hi]; exact (hc i hi).1
  have ht2 : ∀ i, i < 3 → zab ((zgb O 30 i).toInt32).toInt 200 := fun i hi => by rw [ht i hi]; exact hY.2 i hi
  have z0 : zab (0 : Int32).toInt 0 := zab_of (by decide) (by decide)
  have d0 := zdot32 z0 (hc2 0 (by omega)) (ht2 0 (by omega)) (by omega)
  have d1 := zdot32 d0.2 (hc2 1 (by omega)) (ht2 1 (by omega)) (by omega)
  have d2 := zdot32 d1.2 (hc2 2 (by omega)) (ht2 2 (by omega)) (by omega)
  refine ⟨_, rfl, ?_, zab_le d2.2 (by omega)⟩
  refine d2.1.trans ?_
  rw [d1.1, d0.1, ht 0 (by omega), ht 1 (by omega), ht 2 (by omega), ho 0 (by omega), ho 1 (by omega), ho 2 (by omega), show (0 : Int32).toInt = 0 from rfl]
  unfold zev zac
  show 0 + (zga P 6 (a * 3 + 0)).toInt * Y.1 + (zga P 6 (a * 3 + 1)).toInt * Y.2.1 + (zga P 6 (a * 3 + 2)).toInt * Y.2.2.1 = (zga P 6 (a * 3)).toInt * Y.1 + (zga P 6 (a * 3 + 1)).toInt * Y.2.1 + (zga P 6 (a * 3 + 2)).toInt * Y.2.2.1 + 0 * Y.2.2.2
  rw [Nat.add_zero, Int.zero_mul, Int.zero_add, Int.add_zero]
theorem zcall_wholeValue (hP : zPw n m q P) (hR : zRl n m q P O) (hJ : zJc n m q K P W sS D Q B Z E H) (x : Int32) : ∃ r v Z2 E2 H2 O2, fX11_wholeValue C P Z E H x = some (r, Z2, E2, H2) ∧ fX12_wholeValue O x = some (v, O2) ∧ zAg [("java/lang/IndexOutOfBoundsException", 1), ("java/lang/UnsupportedOperationException", 2), ("java/util/NoSuchElementException", 3)] r v (zgi O2 9) ∧ zFc O O2 ∧ zJc n m q K P W sS D Q B Z2 E2 H2 := by
  have hq := hP.2.2.1
  unfold fX11_wholeValue fX12_wholeValue fX12_wholeValue_36
  rw [eX11_demandAim hP.2.2.2.2.2.1, zbq, eX12_isAimIn hR.2.2.1 (by omega), zbq]
  by_cases c : zix q x
  · obtain ⟨a, ha, rfl⟩ := zix_ex (by omega) c
    rw [if_pos c, if_pos c, if_neg (show ¬ (1 : Int32) = 0 by decide)]
    simp only [Sum.elim_inr]
    obtain ⟨r, Z2, E2, H2, f1, j, f2⟩ := zdemandWhole (C := C) hP hR hJ
    rw [f1, zbq]
    rcases f2 with ⟨hr, f2⟩ | ⟨f2, x1, O2, f3, f4, ⟨hr, f5⟩ | ⟨hr, f5, Y, y1, y2, y3⟩⟩
    · rw [f2, zbq, if_pos rfl, zlq, gi_si, if_neg (show ¬ (2 : Int32) ≤ 0 by decide), hr]
      simp only [Sum.elim_inl]
      exact ⟨_, _, _, _, _, _, rfl, rfl, Or.inr ⟨_, rfl, by rw [gi_si]; simp⟩, zFc_9, j⟩
    · rw [f2, zbq, if_neg (show ¬ (1 : Int32) = 0 by decide), f3, zbq, if_pos f5, zlq, gi_si, if_neg (show ¬ (3 : Int32) ≤ 0 by decide), hr]
      simp only [Sum.elim_inl]
      exact ⟨_, _, _, _, _, _, rfl, rfl, Or.inr ⟨_, rfl, by rw [gi_si]; simp⟩, (zFc_J f4).trans zFc_9, j⟩
    · obtain ⟨v, v1, v2, v3⟩ := eX5_aimSum hP ha y1 (zWX_bd y2)
      have hR3 := zRl_i (k := 9) (v := 0) (zRl_J hR f4) (by omega)
      obtain ⟨u, u1, u2, u3⟩ := zwv_52 (f := 5996) hP hR3 ha y2 (fun i hi => by rw [gb_si]; exact y3 i hi)
      rw [f2, zbq, if_neg (show ¬ (1 : Int32) = 0 by decide), f3, zbq, if_neg (show ¬ x1 = 0 by rw [f5]; decide), zlq, gi_si, if_pos (show (0 : Int32) ≤ 0 by decide), hr]
      simp only [Sum.elim_inr]
      rw [← zn0] at u1
      rw [v1, zbq, u1]
      have e : v.toInt32 = u := by
        rw [u2] at u3
        have h1 := zab_lo u3
        have h2 := zab_hi u3
        rw [z32eq, Int64.toInt_toInt32, v2, u2]
        exact Int.bmod_eq_of_le (by omega) (by omega)
      exact ⟨_, _, _, _, _, _, rfl, rfl, Or.inl ⟨by rw [e], by rw [gi_si]⟩, (zFc_J f4).trans zFc_9, j⟩
  · rw [if_neg c, if_neg c, if_pos rfl, zlq, gi_si, if_neg (show ¬ (1 : Int32) ≤ 0 by decide)]
    simp only [Sum.elim_inl]
    exact ⟨_, _, _, _, _, _, rfl, rfl, Or.inr ⟨_, rfl, by rw [gi_si]; simp⟩, zFc_9, hJ⟩
end ZWHOLES
