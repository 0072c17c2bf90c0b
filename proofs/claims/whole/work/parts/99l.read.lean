/-! 9l: the whole text is read, both ways. -/
section ZREAD
variable {n len : Nat} {X O : zSt}
/-- the typed text, before it is read -/
def zTy (n len : Nat) (X O : zSt) : Prop := n ≤ 3 ∧ len ≤ 30 ∧ zgi X 2 = zI len ∧ zgi O 13 = zI len ∧ (∀ k, k < len → zga X 0 k = zga O 8 k ∧ zty (zga X 0 k)) ∧ zgi O 10 = zI n
def zAimT (len : Nat) (O : zSt) : Prop := 0 < len ∧ zga O 8 0 = 109
theorem zaimt (h : zTy n len X O) : ∃ b : Int32, fX8_beginsAsAim X = some b ∧ fX12_isAimText O = some b ∧ ((b = 1 ∧ zAimT len O) ∨ (b = 0 ∧ ¬ zAimT len O)) := by
  obtain ⟨hn, hl, h2, h13, hch, h10⟩ := h
  have c0 : zin (0 : Int32) 30 = true := by decide
  unfold fX8_beginsAsAim fX8_beginsAsAim_30 fX8_beginsAsAim_31 fX12_isAimText fX12_isAimText_22 fX12_isAimText_23
  rw [h2, h13, if_pos znb0, if_pos znb1]
  rw [show ((0 : Int32)).toNatClampNeg = 0 from rfl]
  by_cases c : len = 0
  · have e : zI len ≤ 0 := by rw [c]; decide
    rw [if_pos e, if_pos e]
    exact ⟨0, rfl, rfl, Or.inr ⟨rfl, fun h => by have := h.1; omega⟩⟩
  · have e : ¬ zI len ≤ 0 := by rw [zn0, zI_le (by omega) (by omega)]; omega
    rw [if_neg e, if_neg e, if_neg (show ¬ (30 : Int32) ≤ 0 by decide), if_pos c0, if_pos c0, (hch 0 (by omega)).1]
    by_cases c1 : zga O 8 0 = 109
    · rw [if_pos c1]
      exact ⟨1, rfl, rfl, Or.inl ⟨rfl, by omega, c1⟩⟩
    · rw [if_neg c1]
      exact ⟨0, rfl, rfl, Or.inr ⟨rfl, fun h => c1 h.2⟩⟩
/-- what comes of reading -/
def zRead (n len : Nat) (X2 O2 : zSt) : Prop :=
  (zGood n len X2 O2 ∧ ((zAimT len O2 ∧ ((zgi X2 7 = 1 ∧ zga O2 8 1 = 97) ∨ (zgi X2 7 = -1 ∧ zga O2 8 1 = 105))) ∨ (¬ zAimT len O2 ∧ zRel X2 O2 ∧ zgi X2 9 = zgi O2 17 ∧ zab (zgi X2 9).toInt 99 ∧ 0 < len))) ∨ zBad n len X2 O2
theorem zread_28 : ∀ (d i f g : Nat) (X O : zSt), i + d = 3 → d < f → d < g → zTxt n len X O → zgi X 5 = 45 → zgi O 18 = 45 → zgi X 4 = zI 0 → zgi O 15 = zI 0 → (∀ j, j < i → zga X 1 j = zga O 14 j ∧ (n ≤ j → zga X 1 j = 0)) → ∃ X2 O2, fX8_read_28 f X (zI i) = some X2 ∧ fX12_reads_13 g O (zI i) = some O2 ∧ zFtx O O2 ∧ zRead n len X2 O2
  | 0, i, f + 1, g + 1, X, O, hi, hf, hg, hT, h5, h18, h4, h15, hco => by
    have c3 : (3 : Int32) ≤ zI i := by rw [zn3, zI_le (by omega) (by omega)]; omega
    have hk : zOk n len X O 0 := ⟨hT, h5, h18, h4, h15, Nat.zero_le _, fun j hj => hco j (by omega)⟩
    obtain ⟨b, b1, b2, b3⟩ := zaimt (X := X) (O := O) (n := n) (len := len) ⟨hT.1, hT.2.1, hT.2.2.1, hT.2.2.2.1, hT.2.2.2.2.1, hT.2.2.2.2.2.2⟩
    rw [fX8_read_28, fX12_reads_13, if_pos c3, if_pos c3, b1, b2, zbq, zbq]
    rcases b3 with ⟨e, ha⟩ | ⟨e, ha⟩
    · rw [if_neg (show ¬ b = 0 by rw [e]; decide), if_neg (show ¬ b = 0 by rw [e]; decide)]
      obtain ⟨X2, O2, g1, g2, g3, g4⟩ := zaim hk ha.1
      refine ⟨X2, O2, g1, g2, g3, ?_⟩
      have e8 : zga O2 8 = zga O 8 := g3.2.2.1 8 (by omega)
      rcases g4 with ⟨good, k⟩ | bad
      · refine Or.inl ⟨good, Or.inl ⟨?_, ?_⟩⟩
        · unfold zAimT; rw [e8]; exact ha
        · rw [e8]; exact k
      · exact Or.inr bad
    · rw [if_pos e, if_pos e]
      obtain ⟨X2, O2, g1, g2, g3, g4⟩ := zrow hk
      refine ⟨X2, O2, g1, g2, g3, ?_⟩
      have e8 : zga O2 8 = zga O 8 := g3.2.2.1 8 (by omega)
      rcases g4 with ⟨good, k⟩ | bad
      · refine Or.inl ⟨good, Or.inr ⟨?_, k⟩⟩
        unfold zAimT; rw [e8]; exact ha
      · exact Or.inr bad
  | d + 1, i, f + 1, g + 1, X, O, hi, hf, hg, hT, h5, h18, h4, h15, hco => by
    have c3 : ¬ (3 : Int32) ≤ zI i := by rw [zn3, zI_le (by omega) (by omega)]; omega
    have cin : zin (zI i) 3 = true := zin_zI (by omega) (by omega)
    rw [fX8_read_28, fX12_reads_13, if_neg c3, if_neg c3, if_pos cin, if_pos cin]
    simp only [zlq]
    rw [zI_succ, zI_nat (by omega)]
    obtain ⟨X2, O2, g1, g2, g3, g4⟩ := zread_28 d (i + 1) f g (zsa X 1 (upd (zga X 1) i 0)) (zsa O 14 (upd (zga O 14) i 0)) (by omega) (by omega) (by omega) (by
      obtain ⟨hn, hl, h2, h13, hch, h3, h10⟩ := hT
      refine ⟨hn, hl, h2, h13, fun k hk => ?_, h3, h10⟩
      rw [ga_san (by omega), ga_san (by omega)]
      exact hch k hk) h5 h18 h4 h15 (fun j hj => by
      rw [ga_sa, ga_sa]
      by_cases e : j = i
      · rw [upd_s e, upd_s e]; exact ⟨rfl, fun _ => rfl⟩
      · rw [upd_n e, upd_n e]; exact hco j (by omega))
    refine ⟨X2, O2, g1, g2, ?_, g4⟩
    have fr : zFtx O (zsa O 14 (upd (zga O 14) i 0)) := ⟨fun _ _ => rfl, fun _ => rfl, fun k a => ga_san a, fun _ => rfl⟩
    exact fr.trans g3
theorem zread (h : zTy n len X O) : ∃ X2 O2, fX8_read X (zI n) = some X2 ∧ fX12_reads O = some O2 ∧ zFtx O O2 ∧ zRead n len X2 O2 := by
  obtain ⟨hn, hl, h2, h13, hch, h10⟩ := h
  unfold fX8_read fX12_reads
  simp only [zlq]
  rw [zn0]
  obtain ⟨X2, O2, g1, g2, g3, g4⟩ := zread_28 (n := n) (len := len) 3 0 6000 6000 (zsi (zsi (zsi (zsi (zsi X 3 (zI n)) 4 (zI 0)) 5 45) 6 (zI 0)) 9 (zI 0)) (zsi (zsi O 15 (zI 0)) 18 45) (by omega) (by omega) (by omega) (by
    refine ⟨hn, hl, ?_, ?_, hch, ?_, ?_⟩
    · rw [gi_sin (by omega), gi_sin (by omega), gi_sin (by omega), gi_sin (by omega), gi_sin (by omega)]; exact h2
    · rw [gi_sin (by omega), gi_sin (by omega)]; exact h13
    · rw [gi_sin (by omega), gi_sin (by omega), gi_sin (by omega), gi_sin (by omega), gi_si]
    · rw [gi_sin (by omega), gi_sin (by omega)]; exact h10) (by rw [gi_sin (by omega), gi_sin (by omega), gi_si]) gi_si (by rw [gi_sin (by omega), gi_sin (by omega), gi_sin (by omega), gi_si]) (by rw [gi_sin (by omega), gi_si]) (fun j hj => by omega)
  exact ⟨X2, O2, g1, g2, ((zFtx_i (by omega)).trans (zFtx_i (by omega))).trans g3, g4⟩
end ZREAD
