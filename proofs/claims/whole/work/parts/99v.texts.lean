/-! 9v: relation, type, erase, fault, faultAt, isAim. -/
section ZTEXTS
variable {n m q len : Nat} {P C X O : zSt}
theorem zcall_relation (hP : zPw n m q P) (hR : zRl n m q P O) (x1 : Int32) : ∃ r v c, fX11_relation C P x1 = some r ∧ fX12_relation O x1 = some (v, zsi O 9 c) ∧ zAg [("java/lang/IndexOutOfBoundsException", 1)] r v c := by
  have hm := hP.2.1
  unfold fX11_relation fX12_relation fX12_relation_48
  rw [eX11_demandRow hP.2.2.2.2.1, zbq, eX12_isRow hR.2.1 (by omega), zbq, eX12_checked, zbq]
  by_cases c : zix m x1
  · rw [if_pos c, if_pos c, if_neg (show ¬ (1 : Int32) = 0 by decide)]
    simp only [Sum.elim_inr]
    obtain ⟨v, hv, rfl⟩ := zix_ex (by omega) c
    have cin : zin (zI v) 12 = true := zin_zI (by omega) (by omega)
    have hr3 := (hP.2.2.2.2.2.2.2.2.2.1 v hv).2.1
    have hb := (hR.2.2.2.2.1 v hv).2.1
    have z60 : znar .char (60 : Int32) = true := by decide
    have z61 : znar .char (61 : Int32) = true := by decide
    have z62 : znar .char (62 : Int32) = true := by decide
    rw [eX5_relationOf (by omega) hr3, zbq, if_pos (znrel hr3), if_pos (show (0 : Int32) ≤ 0 by decide), if_pos cin, if_pos cin, zI_nat (by omega), ga_si, if_pos z60, if_pos z61, if_pos z62]
    rcases hb with ⟨e, e2⟩ | ⟨e, e2⟩ | ⟨e, e2⟩
    · rw [e, e2, if_pos (show zI 0 = 0 from rfl)]
      exact ⟨_, _, 0, rfl, rfl, Or.inl ⟨rfl, rfl⟩⟩
    · rw [e, e2, if_neg (show ¬ zI 1 = 0 by decide), if_pos (show zI 1 = 1 from rfl)]
      exact ⟨_, _, 0, rfl, rfl, Or.inl ⟨rfl, rfl⟩⟩
    · rw [e, e2, if_neg (show ¬ zI 2 = 0 by decide), if_neg (show ¬ zI 2 = 1 by decide)]
      exact ⟨_, _, 0, rfl, rfl, Or.inl ⟨rfl, rfl⟩⟩
  · have z32 : znar .char (32 : Int32) = true := by decide
    rw [if_neg c, if_neg c, if_pos rfl, if_neg (show ¬ (1 : Int32) ≤ 0 by decide), if_pos z32]
    simp only [Sum.elim_inl]
    exact ⟨_, _, 1, rfl, rfl, Or.inr ⟨_, rfl, by simp⟩⟩
/-- the text's calls: the program stays, the reference's too -/
def zTexts (n m q : Nat) (P X2 O O2 : zSt) : Prop := ∃ len2, zRl n m q P O2 ∧ zTy n len2 X2 O2 ∧ zFr O O2
theorem zRl_fr {O2 : zSt} (hR : zRl n m q P O) (h : ∀ k, k = 10 ∨ k = 11 ∨ k = 12 → zgi O2 k = zgi O k) (h2 : ∀ k, k ≠ 8 → zga O2 k = zga O k) : zRl n m q P O2 := by
  obtain ⟨h10, h11, h12, g0, gr, ga, gx⟩ := hR
  refine ⟨(h 10 (by omega)).trans h10, (h 11 (by omega)).trans h11, (h 12 (by omega)).trans h12, ?_, ?_, ?_, ?_⟩
  · rw [h2 0 (by omega), h2 1 (by omega)]; exact g0
  · rw [h2 2 (by omega), h2 3 (by omega), h2 4 (by omega), h2 6 (by omega)]; exact gr
  · rw [h2 5 (by omega), h2 7 (by omega)]; exact ga
  · rw [h2 6 (by omega)]; exact gx
theorem zcall_type (hR : zRl n m q P O) (hT : zTy n len X O) (x1 : Int32) : ∃ r v X2 O2, fX11_type C X x1 = some (r, X2) ∧ fX12_type O x1 = some (v, O2) ∧ zAg [("java/lang/IllegalArgumentException", 1), ("java/lang/IllegalStateException", 2)] r v (zgi O2 9) ∧ zTexts n m q P X2 O O2 := by
  obtain ⟨b, e1, e2⟩ := zcanty O x1
  have no : ∀ c : Int32, c = 1 ∨ c = 2 → fX12_type_45 O x1 c = some (0, zsi O 9 c) := by
    intro c hc
    unfold fX12_type_45
    rw [zlq, gi_si]
    rcases hc with rfl | rfl
    · rw [if_neg (by decide)]
    · rw [if_neg (by decide)]
  have keep : ∀ c : Int32, zTexts n m q P X O (zsi O 9 c) := fun c => ⟨len, zRl_i hR (by omega), zTy_i hT (by omega), zFr_i (by omega)⟩
  unfold fX11_type
  rw [e1, zbq]
  rcases e2 with ⟨hb, e2⟩ | ⟨hb, hc, e2⟩
  · rw [if_pos hb, e2, no 1 (Or.inl rfl)]
    exact ⟨_, _, _, _, rfl, rfl, Or.inr ⟨_, rfl, by rw [gi_si]; simp⟩, keep 1⟩
  · rw [if_neg (show ¬ b = 0 by rw [hb]; decide), e2, hT.2.2.1]
    have hl := hT.2.1
    by_cases c : len < 30
    · obtain ⟨X2, O2, f1, f2, f3, f4, f5, f6, f7, f8, f9⟩ := ztyped hT hc c
      rw [if_pos (show zI len < (30 : Int32) by rw [zn30, zI_lt (by omega) (by omega)]; exact c), f1, zbq, f2]
      exact ⟨_, _, _, _, rfl, rfl, Or.inl ⟨rfl, f3⟩, len + 1, zRl_fr hR (fun k hk => f6 k (by omega) (by omega)) (fun k hk => f7 k hk), f4, ⟨fun k hk => f6 k (by omega) (by omega), f9, fun k hk => f7 k (by omega), f8⟩⟩
    · rw [if_neg (show ¬ zI len < (30 : Int32) by rw [zn30, zI_lt (by omega) (by omega)]; exact c)]
      unfold fX12_type_31
      rw [hT.2.2.2.1, if_pos (show zI len = (30 : Int32) by rw [zn30, zI_eq (by omega) (by omega)]; omega), no 2 (Or.inr rfl)]
      exact ⟨_, _, _, _, rfl, rfl, Or.inr ⟨_, rfl, by rw [gi_si]; simp⟩, keep 2⟩
theorem zcall_erase (hR : zRl n m q P O) (hT : zTy n len X O) : ∃ v X2 O2, fX11_erase C X = some (v, X2) ∧ fX12_erase O = some (v, O2) ∧ zTexts n m q P X2 O O2 := by
  unfold fX11_erase fX12_erase
  simp only [zlq]
  rw [hT.2.2.1, gi_sin (by omega), hT.2.2.2.1]
  refine ⟨_, _, _, rfl, rfl, 0, zRl_i (zRl_i hR (by omega)) (by omega), zTy_0 hT.1 gi_si gi_si ?_, (zFr_i (by omega)).trans (zFr_i (by omega))⟩
  rw [gi_sin (by omega), gi_sin (by omega)]
  exact hR.1
theorem zRead_18 (h : zRead n len X O) : zgi X 5 = zgi O 18 ∧ znar .char (zgi X 5) = true ∧ (zgi X 5 ≠ 45 → zgi X 6 = zgi O 15) := by
  rcases h with ⟨g, -⟩ | g
  · refine ⟨g.1.2.1.trans g.1.2.2.1.symm, by rw [g.1.2.1]; decide, fun h => absurd g.1.2.1 h⟩
  · exact ⟨g.2.2.1, g.2.2.2.2, fun _ => g.2.2.2.1⟩
theorem zcall_fault (hP : zPw n m q P) (hR : zRl n m q P O) (hT : zTy n len X O) : ∃ v X2 O2, fX11_fault C P X = some (v, X2) ∧ fX12_fault O = some (v, O2) ∧ zTexts n m q P X2 O O2 := by
  unfold fX11_fault fX12_fault
  rw [zlq, hP.2.2.2.1]
  obtain ⟨X2, O2, g1, g2, g3, g4⟩ := zread (zTy_i (k := 9) (v := 0) hT (by omega))
  obtain ⟨h1, h2, -⟩ := zRead_18 g4
  rw [g1, g2, zbq, zbq, ← h1, if_pos h2, if_pos h2]
  exact ⟨_, _, _, rfl, rfl, len, zRl_tx (zRl_i hR (by omega)) g3, zRead_ty g4, (zFr_i (by omega)).trans (zFr_x g3)⟩
theorem zcall_faultAt (hP : zPw n m q P) (hR : zRl n m q P O) (hT : zTy n len X O) : ∃ r v X2 O2, fX11_faultAt C P X = some (r, X2) ∧ fX12_faultAt O = some (v, O2) ∧ zAg [("java/util/NoSuchElementException", 1)] r v (zgi O2 9) ∧ zTexts n m q P X2 O O2 := by
  unfold fX11_faultAt fX12_faultAt fX12_faultAt_19 fX12_faultAt_33
  rw [hP.2.2.2.1]
  obtain ⟨X2, O2, g1, g2, g3, g4⟩ := zread hT
  obtain ⟨h1, h2, h3⟩ := zRead_18 g4
  rw [g1, g2, zbq, zbq, zhasF, zbq, ← h1, eX12_checked, eX12_checked, zbq, zbq, if_pos (show (0 : Int32) = 0 from rfl), if_neg (show ¬ (1 : Int32) = 0 by decide), if_neg (show ¬ (1 : Int32) ≤ 0 by decide), if_pos (show (0 : Int32) ≤ 0 by decide)]
  by_cases c : zgi X2 5 = 45
  · rw [if_pos c, if_pos c, if_pos rfl]
    exact ⟨_, _, _, _, rfl, rfl, Or.inr ⟨_, rfl, by rw [gi_si]; simp⟩, len, zRl_i (zRl_tx hR g3) (by omega), zTy_i (zRead_ty g4) (by omega), (zFr_x g3).trans (zFr_i (by omega))⟩
  · rw [if_neg c, if_neg c, if_neg (show ¬ (1 : Int32) = 0 by decide), gi_sin (by omega)]
    exact ⟨_, _, _, _, rfl, rfl, Or.inl ⟨by rw [h3 c], by rw [gi_si]⟩, len, zRl_i (zRl_tx hR g3) (by omega), zTy_i (zRead_ty g4) (by omega), (zFr_x g3).trans (zFr_i (by omega))⟩
theorem zcall_isAim (hT : zTy n len X O) : ∃ v, fX11_isAim C X = some v ∧ fX12_isAim O = some (v, zsi O 9 0) := by
  unfold fX11_isAim fX12_isAim
  obtain ⟨b, b1, b2, b3⟩ := zaimt (zTy_i (k := 9) (v := 0) hT (by omega))
  have nb : znar .boolean b = true := by
    rcases b3 with ⟨e, -⟩ | ⟨e, -⟩ <;> rw [e] <;> decide
  rw [zlq, b1, b2, zbq, zbq, if_pos nb, if_pos nb]
  exact ⟨_, rfl, rfl⟩
end ZTEXTS
