/-! 9k: an aim is read, both ways. -/
section ZAIM
variable {n len p : Nat} {X O : zSt}
theorem zOk_7 (h : zOk n len X O p) (v : Int32) : zOk n len (zsi X 7 v) O p := by
  obtain ⟨⟨hn, hl, h2, h13, hch, h3, h10⟩, h5, h18, h4, h15, hp, hco⟩ := h
  refine ⟨⟨hn, hl, ?_, h13, hch, ?_, h10⟩, ?_, h18, ?_, h15, hp, hco⟩ <;> rw [gi_sin (by omega)] <;> assumption
theorem zaim (h : zOk n len X O 0) (hl : 0 < len) : ∃ X2 O2, ((fX8_readAim X).bind (fun o58 => fX8_read_68 o58)) = some X2 ∧ ((fX12_readsAim O).bind (fun o39 => fX12_reads_78 o39.2 o39.1)) = some O2 ∧ zFtx O O2 ∧ ((zGood n len X2 O2 ∧ ((zgi X2 7 = 1 ∧ zga O 8 1 = 97) ∨ (zgi X2 7 = -1 ∧ zga O 8 1 = 105))) ∨ zBad n len X2 O2) := by
  have h115 : znar .char (115 : Int32) = true := by decide
  have h1 : zOk n len (zsi X 4 (1 : Int32)) (zsi O 15 (1 : Int32)) 1 := zOk_step h hl
  have fr1 : zFtx O (zsi O 15 (1 : Int32)) := zFtx_i (by omega)
  have och : ∀ t : Int32, fX12_next (zsi O 15 (1 : Int32)) = some t → 33 ≤ t.toInt → t ≠ 32 → zga O 8 1 = t := by
    intro t ht t1 t2
    obtain ⟨c, c', e1, e2, hc⟩ := zhere h1
    rw [e2] at ht
    have et := Option.some.inj ht
    rcases hc with ⟨hp, ec, e3, -⟩ | ⟨-, -, ec'⟩
    · have := (h.1.2.2.2.2.1 1 hp).1
      rw [← this, ← et, ec, e3]
      rfl
    · exact absurd (et.symm.trans ec') t2
  obtain ⟨c, c', e1, e2, hc⟩ := zhere h1
  have same : ∀ v : Int32, v ≠ 0 → v ≠ 32 → (c = v ↔ c' = v) := by
    intro v a b
    rcases hc with ⟨-, ec, -, -⟩ | ⟨-, ec, ec'⟩
    · rw [ec]
    · rw [ec, ec']
      exact ⟨fun e => absurd e.symm a, fun e => absurd e.symm b⟩
  -- the second letter, then the third
  have go : ∀ (y v w : Int32), ((y = 1 ∧ v = 97 ∧ w = 120) ∨ (y = -1 ∧ v = 105 ∧ w = 110)) → ∃ X3 b O3, fX8_pass (zsi (zsi X 4 (1 : Int32)) 7 y) v = some X3 ∧ fX12_goes (zsi O 15 (1 : Int32)) v = some (b, O3) ∧ ((b = 1 ∧ zOk n len X3 O3 2) ∨ (b = 0 ∧ zBad n len X3 O3)) ∧ zFtx (zsi O 15 (1 : Int32)) O3 ∧ zgi X3 7 = y := by
    intro y v w hv
    have hv1 : 33 ≤ v.toInt ∧ v.toInt ≤ 126 := by
      rcases hv with ⟨-, e, -⟩ | ⟨-, e, -⟩ <;> rw [e] <;> decide
    obtain ⟨X3, b, O3, g1, g2, g3, g4, g5, -⟩ := zpass (zOk_7 h1 y) hv1.1 hv1.2
    exact ⟨X3, b, O3, g1, g2, g3, g4, by rw [g5 7 (by omega), gi_si]⟩
  have ref29 : ∀ (v w : Int32), ((v = 97 ∧ w = 120) ∨ (v = 105 ∧ w = 110)) → c' = v → ∀ b O3, fX12_goes (zsi O 15 (1 : Int32)) v = some (b, O3) → b = 1 ∧ fX12_readsAim_29 (zsi O 15 (1 : Int32)) c' = fX12_readsAim_53 O3 w := by
    intro v w hv ec b O3 hg
    unfold fX12_goes at hg
    rw [e2, zbq, if_pos ec, zlq] at hg
    have hb := congrArg Prod.fst (Option.some.inj hg)
    have hO : _ = O3 := congrArg Prod.snd (Option.some.inj hg)
    refine ⟨hb.symm, ?_⟩
    unfold fX12_readsAim_29
    rw [zlq, ← hO]
    rcases hv with ⟨a, a2⟩ | ⟨a, a2⟩
    · rw [if_pos (ec.trans a), a2]
    · rw [if_neg (show ¬ c' = 97 by rw [ec, a]; decide), a2]
  have fin : ∀ (y v w : Int32), ((y = 1 ∧ v = 97 ∧ w = 120) ∨ (y = -1 ∧ v = 105 ∧ w = 110)) → c' = v → ∃ X2 O2, ((fX8_readAim_38 (zsi (zsi X 4 (1 : Int32)) 7 y) v).bind (fun o58 => fX8_read_68 o58)) = some X2 ∧ ((fX12_readsAim_29 (zsi O 15 (1 : Int32)) c').bind (fun o39 => fX12_reads_78 o39.2 o39.1)) = some O2 ∧ zFtx O O2 ∧ ((zGood n len X2 O2 ∧ ((zgi X2 7 = 1 ∧ zga O 8 1 = 97) ∨ (zgi X2 7 = -1 ∧ zga O 8 1 = 105))) ∨ zBad n len X2 O2) := by
    intro y v w hv ec
    obtain ⟨X3, b, O3, g1, g2, g3, g4, g5⟩ := go y v w hv
    obtain ⟨b1, r29⟩ := ref29 v w (by
      rcases hv with ⟨-, a, b⟩ | ⟨-, a, b⟩
      · exact Or.inl ⟨a, b⟩
      · exact Or.inr ⟨a, b⟩) ec b O3 g2
    have hw1 : 33 ≤ w.toInt ∧ w.toInt ≤ 126 := by
      rcases hv with ⟨-, -, e⟩ | ⟨-, -, e⟩ <;> rw [e] <;> decide
    have k3 : zOk n len X3 O3 2 := by
      rcases g3 with ⟨-, k⟩ | ⟨k, -⟩
      · exact k
      · rw [b1] at k; exact absurd k (by decide)
    obtain ⟨X4, b4, O4, O5, q1, q2, q3, q4, q5⟩ := zaim_56 k3 hw1.1 hw1.2
    have e38 : fX8_readAim_38 (zsi (zsi X 4 (1 : Int32)) 7 y) v = fX8_readAim_56 X3 w := by
      unfold fX8_readAim_38
      rw [g1, zbq, g5]
      rcases hv with ⟨a, -, c⟩ | ⟨a, -, c⟩
      · rw [if_pos (show (0 : Int32) ≤ y by rw [a]; decide), c]
      · rw [if_neg (show ¬ (0 : Int32) ≤ y by rw [a]; decide), c]
    rw [e38, r29, q1, q2, zbq]
    refine ⟨X4, O5, rfl, q3, (fr1.trans g4).trans q4, ?_⟩
    rcases q5 with ⟨good, e7⟩ | bad
    · refine Or.inl ⟨good, ?_⟩
      rw [e7, g5]
      rcases hv with ⟨a, a2, -⟩ | ⟨a, a2, -⟩
      · exact Or.inl ⟨a, och 97 (by rw [e2, ec, a2]) (by decide) (by decide)⟩
      · exact Or.inr ⟨a, och 105 (by rw [e2, ec, a2]) (by decide) (by decide)⟩
    · exact Or.inr bad
  unfold fX8_readAim fX12_readsAim fX8_readAim_20
  simp only [zlq]
  rw [e1, e2]
  simp only [zbq]
  by_cases c105 : c' = 105
  · have cc : c = 105 := (same 105 (by decide) (by decide)).mpr c105
    rw [if_pos cc, if_neg (show ¬ c' = 97 by rw [c105]; decide), if_pos c105, gi_si, if_neg (show ¬ (0 : Int32) ≤ -1 by decide)]
    exact fin (-1) 105 110 (Or.inr ⟨rfl, rfl, rfl⟩) c105
  · have cc : ¬ c = 105 := fun e => c105 ((same 105 (by decide) (by decide)).mp e)
    rw [if_neg cc, gi_si, if_pos (show (0 : Int32) ≤ 1 by decide)]
    by_cases c97 : c' = 97
    · rw [if_pos c97]
      exact fin 1 97 120 (Or.inl ⟨rfl, rfl, rfl⟩) c97
    · rw [if_neg c97, if_neg c105]
      obtain ⟨X3, b, O3, g1, g2, g3, g4, g5⟩ := go 1 97 120 (Or.inl ⟨rfl, rfl, rfl⟩)
      have hg := g2
      unfold fX12_goes at hg
      rw [e2, zbq, if_neg c97] at hg
      have hg2 : (fX12_fails (zsi O 15 (1 : Int32)) (115 : Int32)).bind (fun o25 => if znar .boolean o25.1 = true then some (o25.1, o25.2) else none) = some (b, O3) := hg
      have hb0 : b = 0 := by
        unfold fX12_fails at hg2
        rw [if_pos h115, zlq, zbq, if_pos znb0] at hg2
        exact (congrArg Prod.fst (Option.some.inj hg2)).symm
      have bad : zBad n len X3 O3 := by
        rcases g3 with ⟨k, -⟩ | ⟨-, k⟩
        · rw [hb0] at k; exact absurd k (by decide)
        · exact k
      have e38 : fX8_readAim_38 (zsi (zsi X 4 (1 : Int32)) 7 1) 97 = some X3 := by
        unfold fX8_readAim_38 fX8_readAim_56
        rw [g1, zbq, g5, if_pos (show (0 : Int32) ≤ 1 by decide), zbad_pass bad.2.1, zbq, zbad_sum bad.2.1, zbq]
      rw [e38, hg2, zbq, zbq, zbad_68 bad.2.1, hb0]
      refine ⟨X3, O3, rfl, ?_, fr1.trans g4, Or.inr bad⟩
      unfold fX12_reads_78 fX12_reads_90
      rw [if_pos rfl]
end ZAIM
