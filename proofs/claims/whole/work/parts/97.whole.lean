/-! 97: the best whole point, both ways. -/
section ZWHOLE
variable {n m q : Nat} {P : zSt}
theorem zwl_b {L : List (zV × Nat)} {a s0 s1 s2 : Nat} (hP : zPw n m q P) (hlen : L.length ≤ 16) (hbb : ∀ (k : Nat) (v : zV × Nat), L[k]? = some v → zvb v.1) (hkd : ∀ (k : Nat) (v : zV × Nat), L[k]? = some v → v.2 < 3) (hfit : ∀ X, zfit L L.length X ↔ (∀ s, s < (zGa P 0 (-1) n m).length → 0 ≤ zev (zSo (zGa P 0 (-1) n m) s) X) ∧ ∀ i, i < 3 → n ≤ i → zco X i = 0) (h0 : zst P 0 s0) (h1 : zst P 1 s1) (h2 : zst P 2 s2) (ha : a ≤ s0) (k21 : zSt → zSt → zSt → Int32 → Option (zSt × zSt × zSt)) (k37 : zSt → Int32 → Int32 → Option (Int32 × zSt)) : ∀ (d b fc fo : Nat) (Z E H O : zSt) (x1 : Int32), b + d = s1 + 1 → d < fc → d < fo → zWI n m q P L O Z E H x1 → ∃ Z2 E2 H2 O2 x1', fX10_look_45 P k21 fc Z E H (zI a) (zI b) = k21 Z2 E2 H2 (zI (a + 1)) ∧ fX12_findsWhole_77 k37 fo O x1 (zga P 0 0 + zI a) (zga P 0 1 + zI b) = k37 O2 x1' (zga P 0 0 + zI (a + 1)) ∧ zFW O O2 ∧ zWI n m q P L O2 Z2 E2 H2 x1'
  | d, b, fc + 1, fo + 1, Z, E, H, O, x1, hb, hfc, hfo, hI => by
    have l0 := h0.1
    have l1 := h1.1
    have l2 := h2.1
    have href : ∀ x, fX12_findsWhole_77 k37 (fo + 1) O x1 (zga P 0 0 + zI a) x = fX12_findsWhole_96 k37 (fX12_findsWhole_77 k37 fo) O x1 (zga P 0 0 + zI a) x x (zga P 1 1) := by
      intro x
      rw [fX12_findsWhole_77]
      exact zhi_ref hP hI.1 (show 1 < 3 by omega) (fun y => fX12_findsWhole_96 k37 (fX12_findsWhole_77 k37 fo) O x1 (zga P 0 0 + zI a) x x y)
    rw [href, fX10_look_45, show (1 : Int32) = zI 1 from rfl, eX10_stepsOf hP (by omega) h1, zbq]
    match d, hb, hfc, hfo with
    | 0, hb, hfc, hfo =>
      rw [if_pos (by rw [zI_lt (by omega) (by omega)]; omega), zlq, zI_add]
      unfold fX12_findsWhole_96
      rw [if_pos ((zst_lt hP (by omega) h1 (by omega)).mpr (by omega)), zlq, zI_ass]
      exact ⟨Z, E, H, O, x1, rfl, rfl, zFW.refl O, hI⟩
    | d + 1, hb, hfc, hfo =>
      rw [if_neg (by rw [zI_lt (by omega) (by omega)]; omega)]
      unfold fX12_findsWhole_96
      rw [if_neg (fun h => by have := (zst_lt hP (by omega) h1 (by omega)).mp h; omega)]
      have hlo := zlo_ref hP hI.1 (show 2 < 3 by omega) (fun y => fX12_findsWhole_117 k37 (fX12_findsWhole_77 k37 fo) O x1 (zga P 0 0 + zI a) (zga P 0 1 + zI b) y)
      obtain ⟨Z2, E2, H2, O2, x2, g1, g2, g3, g4⟩ := zwl_c hP hlen hbb hkd hfit h0 h1 h2 ha (show b ≤ s1 by omega) k21 (fX10_look_45 P k21 fc) k37 (fX12_findsWhole_77 k37 fo) (s2 + 1) 0 6000 6000 Z E H O x1 (by omega) (by omega) (by omega) hI
      have e0 : zga P 0 2 + zI 0 = zga P 0 2 := Int32.add_zero _
      rw [e0] at g2
      obtain ⟨Z3, E3, H3, O3, x3, r1, r2, r3, r4⟩ := zwl_b hP hlen hbb hkd hfit h0 h1 h2 ha k21 k37 d (b + 1) fc fo Z2 E2 H2 O2 x2 (by omega) (by omega) (by omega) g4
      refine ⟨Z3, E3, H3, O3, x3, ?_, ?_, g3.trans r3, r4⟩
      · rw [show (0 : Int32) = zI 0 from rfl, g1]
        exact r1
      · refine hlo.trans ?_
        unfold fX12_findsWhole_117
        rw [g2]
        exact r2
theorem zwl_a {L : List (zV × Nat)} {s0 s1 s2 : Nat} (hP : zPw n m q P) (hlen : L.length ≤ 16) (hbb : ∀ (k : Nat) (v : zV × Nat), L[k]? = some v → zvb v.1) (hkd : ∀ (k : Nat) (v : zV × Nat), L[k]? = some v → v.2 < 3) (hfit : ∀ X, zfit L L.length X ↔ (∀ s, s < (zGa P 0 (-1) n m).length → 0 ≤ zev (zSo (zGa P 0 (-1) n m) s) X) ∧ ∀ i, i < 3 → n ≤ i → zco X i = 0) (h0 : zst P 0 s0) (h1 : zst P 1 s1) (h2 : zst P 2 s2) : ∀ (d a fc fo : Nat) (Z E H O : zSt) (x1 : Int32), a + d = s0 + 1 → d < fc → d < fo → zWI n m q P L O Z E H x1 → ∃ Z2 E2 H2 O2 x1', fX10_look_34 P fc Z E H (zI a) = some (Z2, E2, H2) ∧ fX12_findsWhole_37 fo O x1 (zga P 0 0 + zI a) = some (x1', O2) ∧ zFW O O2 ∧ zWI n m q P L O2 Z2 E2 H2 x1'
  | d, a, fc + 1, fo + 1, Z, E, H, O, x1, hb, hfc, hfo, hI => by
    have l0 := h0.1
    have l1 := h1.1
    have l2 := h2.1
    have href : ∀ x, fX12_findsWhole_37 (fo + 1) O x1 x = fX12_findsWhole_55 (fX12_findsWhole_37 fo) O x1 x x (zga P 1 0) := by
      intro x
      rw [fX12_findsWhole_37]
      exact zhi_ref hP hI.1 (show 0 < 3 by omega) (fun y => fX12_findsWhole_55 (fX12_findsWhole_37 fo) O x1 x x y)
    rw [href, fX10_look_34, show (0 : Int32) = zI 0 from rfl, eX10_stepsOf hP (by omega) h0, zbq]
    match d, hb, hfc, hfo with
    | 0, hb, hfc, hfo =>
      rw [if_pos (by rw [zI_lt (by omega) (by omega)]; omega)]
      unfold fX12_findsWhole_55
      have hz : znar .boolean x1 = true := by
        rcases hI.2.2.2.2 with ⟨-, e⟩ | ⟨-, e, -⟩
        · rw [e]; exact znb0
        · rw [e]; exact znb1
      rw [if_pos ((zst_lt hP (by omega) h0 (by omega)).mpr (by omega)), if_pos hz]
      exact ⟨Z, E, H, O, x1, rfl, rfl, zFW.refl O, hI⟩
    | d + 1, hb, hfc, hfo =>
      rw [if_neg (by rw [zI_lt (by omega) (by omega)]; omega)]
      unfold fX12_findsWhole_55
      rw [if_neg (fun h => by have := (zst_lt hP (by omega) h0 (by omega)).mp h; omega)]
      have hlo := zlo_ref hP hI.1 (show 1 < 3 by omega) (fun y => fX12_findsWhole_76 (fX12_findsWhole_37 fo) O x1 (zga P 0 0 + zI a) y)
      obtain ⟨Z2, E2, H2, O2, x2, g1, g2, g3, g4⟩ := zwl_b hP hlen hbb hkd hfit h0 h1 h2 (show a ≤ s0 by omega) (fX10_look_34 P fc) (fX12_findsWhole_37 fo) (s1 + 1) 0 6000 6000 Z E H O x1 (by omega) (by omega) (by omega) hI
      have e0 : zga P 0 1 + zI 0 = zga P 0 1 := Int32.add_zero _
      rw [e0] at g2
      obtain ⟨Z3, E3, H3, O3, x3, r1, r2, r3, r4⟩ := zwl_a hP hlen hbb hkd hfit h0 h1 h2 d (a + 1) fc fo Z2 E2 H2 O2 x2 (by omega) (by omega) (by omega) g4
      refine ⟨Z3, E3, H3, O3, x3, ?_, ?_, g3.trans r3, r4⟩
      · rw [g1]
        exact r1
      · refine hlo.trans ?_
        unfold fX12_findsWhole_76
        rw [g2]
        exact r2
/-- the class's best whole point Y, or none -/
def zWh (Z E : zSt) (f : Bool) (Y : zV) : Prop := (f = false ∧ zgi Z 3 = 0) ∨ (f = true ∧ zgi Z 3 = 1 ∧ zQp E Y ∧ zWX Y)
end ZWHOLE
