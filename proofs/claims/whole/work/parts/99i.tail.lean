/-! 9i: the text's end and the range of the coefficients, both ways. -/
section ZTAIL
variable {n len p : Nat} {X O : zSt}
theorem zin9 (c : Int32) : fX12_in c (-9 : Int32) (9 : Int32) = some (if -9 ≤ c.toInt ∧ c.toInt ≤ 9 then 1 else 0) := by
  have a : (-9 : Int32).toInt = -9 := by decide
  have b : (9 : Int32).toInt = 9 := by decide
  unfold fX12_in fX12_in_14 fX12_in_15
  rw [if_pos znb0, if_pos znb1]
  by_cases c1 : c.toInt < -9
  · rw [if_pos (by rw [z32lt, a]; exact c1), if_neg (by omega)]
  · rw [if_neg (by rw [z32lt, a]; exact c1)]
    by_cases c2 : 9 < c.toInt
    · rw [if_pos (by rw [z32lt, b]; exact c2), if_neg (by omega)]
    · rw [if_neg (by rw [z32lt, b]; exact c2), if_pos (by omega)]
theorem zrange (hco : ∀ i, i < 3 → zga X 1 i = zga O 14 i) : ∀ (d i f g : Nat), i + d = 3 → d < f → d < g → (∀ j, j < i → zab (zga X 1 j).toInt 9) → ∃ y : Int32, fX8_areCoefficientsInRange_2 X f (zI i) = some y ∧ fX12_isInRange_2 O g (zI i) = some y ∧ ((y = 1 ∧ ∀ j, j < 3 → zab (zga X 1 j).toInt 9) ∨ y = 0)
  | 0, i, f + 1, g + 1, hi, hf, hg, h => by
    rw [fX8_areCoefficientsInRange_2, fX12_isInRange_2, if_pos (by rw [zn3, zI_le (by omega) (by omega)]; omega), if_pos (by rw [zn3, zI_le (by omega) (by omega)]; omega)]
    exact ⟨1, rfl, rfl, Or.inl ⟨rfl, fun j hj => h j (by omega)⟩⟩
  | d + 1, i, f + 1, g + 1, hi, hf, hg, h => by
    have a : (-9 : Int32).toInt = -9 := by decide
    have b : (9 : Int32).toInt = 9 := by decide
    have cin : zin (zI i) 3 = true := zin_zI (by omega) (by omega)
    have c3 : ¬ (3 : Int32) ≤ zI i := by rw [zn3, zI_le (by omega) (by omega)]; omega
    rw [fX8_areCoefficientsInRange_2, fX12_isInRange_2, if_neg c3, if_neg c3, if_pos cin, if_pos cin, if_pos cin, zI_nat (by omega), ← hco i (by omega), zin9, zbq]
    unfold fX8_areCoefficientsInRange_33
    by_cases c1 : (zga X 1 i).toInt < -9
    · rw [if_pos (show zga X 1 i < (-9 : Int32) by rw [z32lt, a]; exact c1), if_neg (show ¬ (-9 ≤ (zga X 1 i).toInt ∧ (zga X 1 i).toInt ≤ 9) by omega), if_pos rfl]
      exact ⟨0, rfl, rfl, Or.inr rfl⟩
    · rw [if_neg (show ¬ zga X 1 i < (-9 : Int32) by rw [z32lt, a]; exact c1)]
      by_cases c2 : (zga X 1 i).toInt ≤ 9
      · rw [if_pos (show zga X 1 i ≤ (9 : Int32) by rw [z32le, b]; exact c2), if_pos (show -9 ≤ (zga X 1 i).toInt ∧ (zga X 1 i).toInt ≤ 9 by omega), if_neg (show ¬ (1 : Int32) = 0 by decide), zlq, zlq, zI_succ]
        refine zrange hco d (i + 1) f g (by omega) (by omega) (by omega) (fun j hj => ?_)
        by_cases e : j = i
        · rw [e]; exact zab_of (by omega) (by omega)
        · exact h j (by omega)
      · rw [if_neg (show ¬ zga X 1 i ≤ (9 : Int32) by rw [z32le, b]; exact c2), if_neg (show ¬ (-9 ≤ (zga X 1 i).toInt ∧ (zga X 1 i).toInt ≤ 9) by omega), if_pos rfl]
        exact ⟨0, rfl, rfl, Or.inr rfl⟩
theorem zbad_68 (h : zgi X 5 ≠ 45) : fX8_read_68 X = some X := by
  unfold fX8_read_68 fX8_read_92 fX8_read_120
  rw [zbad_has h, zbq, if_neg (show ¬ (1 : Int32) = 0 by decide), zbq, if_neg (show ¬ (1 : Int32) = 0 by decide)]
/-- after the last thing read -/
theorem ztail (h : zOk n len X O p) : ∃ X2 b O1 O2, fX8_read_68 X = some X2 ∧ fX12_readsEnd O = some (b, O1) ∧ (b = 0 ∨ b = 1) ∧ fX12_reads_78 O1 b = some O2 ∧ zFtx O O2 ∧ ((X2 = X ∧ O2 = O ∧ p = len ∧ ∀ j, j < 3 → zab (zga X 1 j).toInt 9) ∨ zBad n len X2 O2) := by
  have hl := h.1.2.1
  have hp := h.2.2.2.2.2.1
  have h115 : znar .char (115 : Int32) = true := by decide
  have h114 : znar .char (114 : Int32) = true := by decide
  unfold fX8_read_68 fX12_readsEnd fX12_readsEnd_20 fX12_readsEnd_25
  rw [zhasF, zbq, if_pos h.2.1, if_pos rfl, h.1.2.2.1, h.1.2.2.2.1, h.2.2.2.1, h.2.2.2.2.1]
  by_cases c : p = len
  · rw [if_pos (show zI len ≤ zI p by rw [zI_le (by omega) (by omega)]; omega), if_pos (show zI p = zI len by rw [c]), if_pos znb1]
    obtain ⟨y, y1, y2, y3⟩ := zrange (fun i hi => (h.2.2.2.2.2.2 i hi).1) 3 0 6000 6000 (by omega) (by omega) (by omega) (fun j hj => by omega)
    have r1 : fX8_areCoefficientsInRange X = some y := y1
    have r2 : fX12_isInRange O = some y := y2
    unfold fX8_read_92 fX8_read_120
    rw [zhasF, zbq, if_pos h.2.1, if_pos rfl, r1, zbq]
    rcases y3 with ⟨e, hr⟩ | e
    · rw [if_neg (show ¬ y = 0 by rw [e]; decide)]
      refine ⟨X, 1, O, O, rfl, rfl, Or.inr rfl, ?_, zFtx.refl O, Or.inl ⟨rfl, rfl, c, hr⟩⟩
      unfold fX12_reads_78 fX12_reads_90
      rw [if_neg (show ¬ (1 : Int32) = 0 by decide), r2, zbq, if_neg (show ¬ y = 0 by rw [e]; decide)]
    · rw [if_pos e, zlq, h.1.2.2.1]
      have hk : zOk n len (zsi X 4 (zI len)) (zsi O 15 (zI len)) len := by
        obtain ⟨⟨hn, hl, h2, h13, hch, h3, h10⟩, h5, h18, h4, h15, -, hco⟩ := h
        refine ⟨⟨hn, hl, ?_, ?_, hch, ?_, ?_⟩, ?_, ?_, gi_si, gi_si, by omega, hco⟩ <;> rw [gi_sin (by omega)] <;> assumption
      obtain ⟨X2, O3, b1, b2, b3, b4, b5⟩ := zblame hk h114 (by decide)
      rw [b1, zbq]
      refine ⟨X2, 1, O, zsi (zsi O 18 114) 15 (zI len), rfl, rfl, Or.inr rfl, ?_, (zFtx_i (by omega)).trans (zFtx_i (by omega)), Or.inr ?_⟩
      · unfold fX12_reads_78
        rw [if_neg (show ¬ (1 : Int32) = 0 by decide), r2, zbq, if_pos e, zlq, zlq, gi_sin (show (13 : Nat) ≠ 18 by omega), h.1.2.2.2.1]
      · unfold fX12_fails at b2
        rw [if_pos h114, zlq] at b2
        have eO : zsi (zsi O 15 (zI len)) 18 114 = O3 := congrArg Prod.snd (Option.some.inj b2)
        obtain ⟨⟨hn, hl, h2, h13, hch, h3, h10⟩, g5, g18, g6, gz⟩ := b3
        rw [← eO] at h13 hch h10 g18 g6
        refine ⟨⟨hn, hl, h2, ?_, hch, h3, ?_⟩, g5, ?_, ?_, gz⟩
        · rw [gi_sin (by omega), gi_sin (by omega)] at h13 ⊢; exact h13
        · rw [gi_sin (by omega), gi_sin (by omega)] at h10 ⊢; exact h10
        · rw [gi_si] at g18; rw [gi_sin (by omega), gi_si]; exact g18
        · rw [gi_sin (by omega), gi_si] at g6; rw [gi_si]; exact g6
  · obtain ⟨X2, O3, b1, b2, b3, b4, b5⟩ := zblame h h115 (by decide)
    rw [if_neg (show ¬ zI len ≤ zI p by rw [zI_le (by omega) (by omega)]; omega), if_neg (show ¬ zI p = zI len by rw [zI_eq (by omega) (by omega)]; exact c), b1, b2, zbq, zbq, if_pos (show (0 : Int32) = 0 from rfl), if_pos znb0]
    refine ⟨X2, 0, O3, O3, ?_, rfl, Or.inl rfl, ?_, b4, Or.inr b3⟩
    · unfold fX8_read_92 fX8_read_120
      rw [zbad_has b3.2.1, zbq, if_neg (show ¬ (1 : Int32) = 0 by decide)]
    · unfold fX12_reads_78 fX12_reads_90
      rw [if_pos rfl]
end ZTAIL
