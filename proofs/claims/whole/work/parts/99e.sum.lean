/-! 9e: the typed text is read, both ways: sums, relation, number. -/
section ZSUM
variable {n len p : Nat} {X O : zSt}
/-- a character looked for, by both sides -/
theorem zsee (h : zOk n len X O p) : ∃ c', fX12_next O = some c' ∧ ∀ v : Int32, 33 ≤ v.toInt → v.toInt ≤ 126 → (c' = v → p < len) ∧ fX8_here X = some (if p < len then c' else 0) ∧ (c' ≠ v → (if p < len then c' else 0) ≠ v) ∧ fX8_takes X v = some (if c' = v then (1, zsi X 4 (zI (p + 1))) else (0, X)) := by
  obtain ⟨c, c', e1, e2, hc⟩ := zhere h
  refine ⟨c', e2, fun v v1 v2 => ?_⟩
  have n0 : (0 : Int32) ≠ v := fun e => by rw [← e] at v1; exact absurd v1 (by decide)
  have n32 : (32 : Int32) ≠ v := fun e => by rw [← e] at v1; exact absurd v1 (by decide)
  have k4 : zgi X 4 + (1 : Int32) = zI (p + 1) := by rw [h.2.2.2.1, zI_succ]
  have tk : ∀ x : Int32, fX8_here X = some x → fX8_takes X v = some (if x = v then (1, zsi X 4 (zI (p + 1))) else (0, X)) := by
    intro x hx
    unfold fX8_takes fX8_takes_19 fX8_takes_20 fX8_takes_35
    rw [zhasF, zbq, if_pos h.2.1, if_pos rfl, hx, zbq, if_neg (show ¬ (1 : Int32) = 0 by decide), if_pos (show (0 : Int32) = 0 from rfl), if_pos znb0, zlq, if_pos znb1, k4]
    by_cases c : x = v
    · rw [if_pos c, if_pos c]
    · rw [if_neg c, if_neg c]
  rcases hc with ⟨hp, ec, -, -⟩ | ⟨hp, ec, ec'⟩
  · rw [if_pos hp]
    subst ec
    exact ⟨fun _ => hp, e1, fun h => h, tk c' e1⟩
  · rw [if_neg (by omega)]
    have t := tk c e1
    rw [ec, if_neg n0] at t
    rw [ec'] 
    refine ⟨fun e => absurd e n32, by rw [e1, ec], fun _ => n0, ?_⟩
    rw [if_neg n32, t]
theorem zsum_12 : ∀ (d : Nat) (fo : Nat) (f : Nat) (x1 p : Nat) (X O : zSt), x1 + d = 30 → d < f → d < fo → x1 ≤ p → zOk n len X O p → ∃ X2 b O2, fX8_readSum_12 f X (zI x1) = some X2 ∧ fX12_readsSum_39 fo O = some (b, O2) ∧ ((b = 1 ∧ ∃ p2, zOk n len X2 O2 p2) ∨ (b = 0 ∧ zBad n len X2 O2)) ∧ zFtx O O2
  | d, fo + 1, f + 1, x1, p, X, O, hx, hf, hfo, hp, h => by
    obtain ⟨c', e2, hsee⟩ := zsee h
    obtain ⟨s1, s2, s3, -⟩ := hsee 43 (by decide) (by decide)
    obtain ⟨m1, -, m3, -⟩ := hsee 45 (by decide) (by decide)
    have hl := h.1.2.1
    have hpl := h.2.2.2.2.2.1
    rw [fX8_readSum_12, fX12_readsSum_39, e2, zbq, zbq]
    match d, hx, hf, hfo with
    | 0, hx, hf, hfo =>
      have hend : ¬ p < len := by omega
      rw [if_pos (by rw [zn30, zI_le (by omega) (by omega)]; omega), if_neg (fun e => hend (s1 e)), if_neg (fun e => hend (m1 e))]
      exact ⟨X, 1, O, rfl, rfl, Or.inl ⟨rfl, p, h⟩, zFtx.refl O⟩
    | d + 1, hx, hf, hfo =>
      rw [if_neg (by rw [zn30, zI_le (by omega) (by omega)]; omega), zhasF, zbq, if_pos h.2.1, if_pos rfl, s2, zbq, zbq]
      have step : (p < len) → ∀ (y y2 : Int32), ((y = 0 ∧ y2 = 1) ∨ (y = 1 ∧ y2 = -1)) → ∃ X2 b O2, fX8_readSum_58 (fX8_readSum_12 f) X (zI x1) y = some X2 ∧ fX12_readsSum_71 (fX12_readsSum_39 fo) O y2 = some (b, O2) ∧ ((b = 1 ∧ ∃ p2, zOk n len X2 O2 p2) ∨ (b = 0 ∧ zBad n len X2 O2)) ∧ zFtx O O2 := by
        intro hpl y y2 hy
        have k4 : zgi X 4 + (1 : Int32) = zI (p + 1) := by rw [h.2.2.2.1, zI_succ]
        have k15 : zgi O 15 + (1 : Int32) = zI (p + 1) := by rw [h.2.2.2.2.1, zI_succ]
        obtain ⟨X3, b, O3, g1, g2, g3, g4⟩ := zterm (zOk_step h hpl) y y2 hy
        unfold fX8_readSum_58 fX12_readsSum_71
        rw [zlq, zlq, k4, k15, g1, g2, zbq, zbq, zlq, zI_succ]
        rcases g3 with ⟨b1, p2, hp2, hok⟩ | ⟨b0, hbad⟩
        · rw [if_neg (show ¬ b = 0 by rw [b1]; decide)]
          obtain ⟨X4, b4, O4, r1, r2, r3, r4⟩ := zsum_12 d fo f (x1 + 1) p2 X3 O3 (by omega) (by omega) (by omega) (by omega) hok
          exact ⟨X4, b4, O4, r1, r2, r3, ((zFtx_i (by omega)).trans g4).trans r4⟩
        · rw [if_pos b0]
          -- the class's loop ends at the next turn
          have hne : zgi X3 5 ≠ 45 := hbad.2.1
          refine ⟨X3, 0, O3, ?_, rfl, Or.inr ⟨rfl, hbad⟩, (zFtx_i (by omega)).trans g4⟩
          obtain ⟨f2, rfl⟩ : ∃ f2, f = f2 + 1 := ⟨f - 1, by omega⟩
          rw [fX8_readSum_12]
          by_cases c30 : x1 + 1 = 30
          · rw [if_pos (by rw [zn30, zI_le (by omega) (by omega)]; omega)]
          · rw [if_neg (by rw [zn30, zI_le (by omega) (by omega)]; omega), zhasF, zbq, if_neg hne, if_neg (show ¬ (1 : Int32) = 0 by decide)]
            rfl
      have pick : (p < len) → ∃ X2 b O2, fX8_readSum_44 (fX8_readSum_12 f) X (zI x1) = some X2 ∧ fX12_readsSum_57 (fX12_readsSum_39 fo) O = some (b, O2) ∧ ((b = 1 ∧ ∃ p2, zOk n len X2 O2 p2) ∨ (b = 0 ∧ zBad n len X2 O2)) ∧ zFtx O O2 := by
        intro hpl
        unfold fX8_readSum_44 fX12_readsSum_57
        rw [s2, e2, zbq, zbq, if_pos hpl]
        by_cases c : c' = 45
        · rw [if_pos c, if_pos c]
          exact step hpl 1 (-1) (Or.inr ⟨rfl, rfl⟩)
        · rw [if_neg c, if_neg c]
          exact step hpl 0 1 (Or.inl ⟨rfl, rfl⟩)
      by_cases c43 : c' = 43
      · have hpl := s1 c43
        rw [if_pos hpl, if_pos c43, if_pos c43]
        exact pick hpl
      · rw [if_neg (s3 c43), if_neg c43]
        by_cases c45 : c' = 45
        · have hpl := m1 c45
          rw [if_pos hpl, if_pos c45, if_pos c45]
          exact pick hpl
        · rw [if_neg (m3 c45), if_neg c45]
          unfold fX8_readSum_43
          exact ⟨X, 1, O, rfl, rfl, Or.inl ⟨rfl, p, h⟩, zFtx.refl O⟩
theorem zsum (h : zOk n len X O p) : ∃ X2 b O2, fX8_readSum X = some X2 ∧ fX12_readsSum O = some (b, O2) ∧ ((b = 1 ∧ ∃ p2, zOk n len X2 O2 p2) ∨ (b = 0 ∧ zBad n len X2 O2)) ∧ zFtx O O2 ∧ (b = 1 → 0 < len) := by
  obtain ⟨c', e2, hsee⟩ := zsee h
  obtain ⟨m1, -, -, m4⟩ := hsee 45 (by decide) (by decide)
  unfold fX8_readSum fX12_readsSum
  rw [m4, e2, zbq, zbq]
  have k15 : zgi O 15 + (1 : Int32) = zI (p + 1) := by rw [h.2.2.2.2.1, zI_succ]
  have go : ∀ (X1 O1 : zSt) (p1 : Nat) (y y2 : Int32), zOk n len X1 O1 p1 → zFtx O O1 → ((y = 0 ∧ y2 = 1) ∨ (y = 1 ∧ y2 = -1)) → ∃ X2 b O2, (fX8_readTerm X1 y).bind (fun o7 => fX8_readSum_12 6000 o7 (1 : Int32)) = some X2 ∧ fX12_readsSum_29 O1 y2 = some (b, O2) ∧ ((b = 1 ∧ ∃ p2, zOk n len X2 O2 p2) ∨ (b = 0 ∧ zBad n len X2 O2)) ∧ zFtx O O2 ∧ (b = 1 → 0 < len) := by
    intro X1 O1 p1 y y2 hok hfr hy
    obtain ⟨X3, b, O3, g1, g2, g3, g4⟩ := zterm hok y y2 hy
    unfold fX12_readsSum_29
    rw [g1, g2, zbq, zbq]
    rcases g3 with ⟨b1, p2, hp2, hok2⟩ | ⟨b0, hbad⟩
    · rw [if_neg (show ¬ b = 0 by rw [b1]; decide)]
      obtain ⟨X4, b4, O4, r1, r2, r3, r4⟩ := zsum_12 29 6000 6000 1 p2 X3 O3 (by omega) (by omega) (by omega) (by omega) hok2
      exact ⟨X4, b4, O4, r1, r2, r3, (hfr.trans g4).trans r4, fun _ => by have := hok2.2.2.2.2.2.1; omega⟩
    · rw [if_pos b0]
      refine ⟨X3, 0, O3, ?_, rfl, Or.inr ⟨rfl, hbad⟩, hfr.trans g4, fun h => absurd h (by decide)⟩
      have z : ∀ f, fX8_readSum_12 (f + 1) X3 (1 : Int32) = some X3 := by
        intro f
        rw [fX8_readSum_12, if_neg (by decide), zhasF, zbq, if_neg hbad.2.1, if_neg (show ¬ (1 : Int32) = 0 by decide)]
        rfl
      exact z 5999
  by_cases c : c' = 45
  · rw [if_pos c, if_pos c]
    unfold fX12_readsSum_14
    rw [if_neg (by decide), zlq, k15]
    exact go _ _ (p + 1) 1 (-1) (zOk_step h (m1 c)) (zFtx_i (by omega)) (Or.inr ⟨rfl, rfl⟩)
  · rw [if_neg c, if_neg c]
    unfold fX12_readsSum_14
    rw [if_pos (by decide)]
    exact go X O p 0 1 h (zFtx.refl O) (Or.inl ⟨rfl, rfl⟩)
end ZSUM
