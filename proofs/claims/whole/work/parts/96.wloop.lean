/-! 96: all whole points, both ways. -/
def zst (P : zSt) (i s : Nat) : Prop := s ≤ 6 ∧ (zga P 1 i).toInt = (zga P 0 i).toInt + (s : Int)
section ZWLOOP
variable {n m q : Nat} {P : zSt}
theorem zst_add {i c : Nat} (hP : zPw n m q P) (hi : i < 3) (hc : c ≤ 7) : (zga P 0 i + zI c).toInt = (zga P 0 i).toInt + (c : Int) ∧ zab ((zga P 0 i).toInt + (c : Int)) 200 := by
  have hb := hP.2.2.2.2.2.2.2.1 i hi
  have h1 : zab (zga P 0 i).toInt 50 := zab_of (by omega) (by omega)
  have h2 : zab (zI c).toInt 7 := by rw [zI_toInt (by omega)]; exact zab_of (by omega) (by omega)
  rw [z32add h1 h2 (by omega), zI_toInt (by omega)]
  exact ⟨rfl, zab_of (by omega) (by omega)⟩
theorem zst_lt {i c s : Nat} (hP : zPw n m q P) (hi : i < 3) (hs : zst P i s) (hc : c ≤ 7) : (zga P 1 i < zga P 0 i + zI c) ↔ s < c := by
  rw [z32lt, (zst_add hP hi hc).1, hs.2]
  omega
theorem zI_ass (l : Int32) (c : Nat) : l + zI c + 1 = l + zI (c + 1) := by
  rw [Int32.add_assoc, zI_succ]
theorem eX10_stepsOf {Z : zSt} {i s : Nat} (hP : zPw n m q P) (hi : i < 3) (hs : zst P i s) : fX10_stepsOf Z P (zI i) = some (zI s) := by
  have hn := hP.1
  have h6 := hs.1
  have go : fX10_stepsOf_32 Z P (zI s) = some (zI s) := by
    unfold fX10_stepsOf_32 fX10_stepsOf_45
    by_cases c : s = 6
    · rw [c, if_pos (by decide)]; rfl
    · rw [if_neg (by rw [zn6, zI_le (by omega) (by omega)]; omega)]
  unfold fX10_stepsOf
  rw [hP.2.2.2.1]
  by_cases c : n ≤ i
  · have e := hP.2.2.2.2.2.2.2.2.1 i hi c
    have hs2 := hs.2
    rw [e.1, e.2] at hs2
    have s0 : s = 0 := by omega
    rw [if_pos (by rw [zI_le (by omega) (by omega)]; exact c)]
    rw [s0] at go
    rw [s0, zn0]
    exact go
  · rw [if_neg (by rw [zI_le (by omega) (by omega)]; exact c), eX5_greatestOf hi, zbq, eX5_leastOf hi, zbq]
    have hb := hP.2.2.2.2.2.2.2.1 i hi
    have h1 : zab (zga P 0 i).toInt 100 := zab_of (by omega) (by omega)
    have h2 : zab (zga P 1 i).toInt 100 := zab_of (by omega) (by omega)
    have e : zga P 1 i - zga P 0 i = zI s := by
      apply Int32.toInt_inj.mp
      rw [z32sub h2 h1 (by omega), zI_toInt (by omega), hs.2]
      omega
    rw [e]
    exact go
/-- the point that a, b, c steps lead to -/
def zwp3 (P : zSt) (a b c : Nat) : zV := ((zga P 0 0).toInt + (a : Int), (zga P 0 1).toInt + (b : Int), (zga P 0 2).toInt + (c : Int), 1)
theorem zwp3_W {a b c : Nat} (hP : zPw n m q P) (ha : a ≤ 6) (hb : b ≤ 6) (hc : c ≤ 6) : zWX (zwp3 P a b c) := by
  refine ⟨rfl, fun i hi => ?_⟩
  rcases zlt3 hi with rfl | rfl | rfl
  · exact (zst_add hP (by omega) (show a ≤ 7 by omega)).2
  · exact (zst_add hP (by omega) (show b ≤ 7 by omega)).2
  · exact (zst_add hP (by omega) (show c ≤ 7 by omega)).2
theorem zwp3_z {a b c s0 s1 s2 : Nat} (hP : zPw n m q P) (h0 : zst P 0 s0) (h1 : zst P 1 s1) (h2 : zst P 2 s2) (ha : a ≤ s0) (hb : b ≤ s1) (hc : c ≤ s2) : ∀ i, i < 3 → n ≤ i → zco (zwp3 P a b c) i = 0 := by
  intro i hi hn
  have e := hP.2.2.2.2.2.2.2.2.1 i hi hn
  have z : (0 : Int32).toInt = 0 := by decide
  rcases zlt3 hi with rfl | rfl | rfl
  · have := h0.2
    rw [e.1, e.2, z] at this
    show (zga P 0 0).toInt + (a : Int) = 0
    rw [e.1, z]; omega
  · have := h1.2
    rw [e.1, e.2, z] at this
    show (zga P 0 1).toInt + (b : Int) = 0
    rw [e.1, z]; omega
  · have := h2.2
    rw [e.1, e.2, z] at this
    show (zga P 0 2).toInt + (c : Int) = 0
    rw [e.1, z]; omega
theorem zput3 {H : zSt} {a b c : Nat} (hP : zPw n m q P) (ha : a ≤ 6) (hb : b ≤ 6) (hc : c ≤ 6) (hH : (zgl H 1).toInt = 1) : ∃ H2, (∀ k : zSt → Option (zSt × zSt × zSt), (fX5_leastOf P (0 : Int32)).bind (fun o62 => (fX4_putTop H (0 : Int32) (((o62 + zI a)).toInt64)).bind (fun o68 => (fX5_leastOf P (1 : Int32)).bind (fun o81 => (fX4_putTop o68 (1 : Int32) (((o81 + zI b)).toInt64)).bind (fun o87 => (fX5_leastOf P (2 : Int32)).bind (fun o100 => (fX4_putTop o87 (2 : Int32) (((o100 + zI c)).toInt64)).bind k))))) = k H2) ∧ zQp H2 (zwp3 P a b c) ∧ (zgl H2 1).toInt = 1 := by
  refine ⟨zsb (zsb (zsb H 0 (vp_updL (zgb H 0) 0 (zga P 0 0 + zI a).toInt64)) 0 (vp_updL (zgb (zsb H 0 (vp_updL (zgb H 0) 0 (zga P 0 0 + zI a).toInt64)) 0) 1 (zga P 0 1 + zI b).toInt64)) 0 (vp_updL (zgb (zsb (zsb H 0 (vp_updL (zgb H 0) 0 (zga P 0 0 + zI a).toInt64)) 0 (vp_updL (zgb (zsb H 0 (vp_updL (zgb H 0) 0 (zga P 0 0 + zI a).toInt64)) 0) 1 (zga P 0 1 + zI b).toInt64)) 0) 2 (zga P 0 2 + zI c).toInt64), fun k => ?_, ⟨?_, fun i hi => ?_⟩, hH⟩
  · rw [show (0 : Int32) = zI 0 from rfl, show (1 : Int32) = zI 1 from rfl, show (2 : Int32) = zI 2 from rfl, eX5_leastOf (by omega), zbq, eX4_putTop (by omega), zbq, eX5_leastOf (by omega), zbq, eX4_putTop (by omega), zbq, eX5_leastOf (by omega), zbq, eX4_putTop (by omega), zbq]
  · exact hH
  · rcases zlt3 hi with rfl | rfl | rfl
    · rw [gb_sb, updL_n (by omega), gb_sb, updL_n (by omega), gb_sb, updL_s rfl, z32_64, (zst_add hP (by omega) (by omega)).1]; rfl
    · rw [gb_sb, updL_n (by omega), gb_sb, updL_s rfl, z32_64, (zst_add hP (by omega) (by omega)).1]; rfl
    · rw [gb_sb, updL_s rfl, z32_64, (zst_add hP (by omega) (by omega)).1]; rfl
/-- the greatest of a variable as the reference reads it -/
theorem zhi_ref {O : zSt} {i : Nat} {α : Type} (hP : zPw n m q P) (hR : zRl n m q P O) (hi : i < 3) (g : Int32 → Option α) : (if zgi O 10 ≤ zI i then g 0 else if zin (zI i) 3 = true then g (zga O 1 ((zI i).toNatClampNeg)) else none) = g (zga P 1 i) := by
  have hn := hP.1
  rw [hR.1]
  by_cases c : n ≤ i
  · rw [if_pos (by rw [zI_le (by omega) (by omega)]; exact c), (hP.2.2.2.2.2.2.2.2.1 i hi c).2]
  · rw [if_neg (by rw [zI_le (by omega) (by omega)]; exact c), if_pos (zin_zI hi (by omega)), zI_nat (by omega), (hR.2.2.2.1 i hi).2]
theorem zlo_ref {O : zSt} {i : Nat} {α : Type} (hP : zPw n m q P) (hR : zRl n m q P O) (hi : i < 3) (g : Int32 → Option α) : (if zgi O 10 ≤ zI i then g 0 else if zin (zI i) 3 = true then g (zga O 0 ((zI i).toNatClampNeg)) else none) = g (zga P 0 i) := by
  have hn := hP.1
  rw [hR.1]
  by_cases c : n ≤ i
  · rw [if_pos (by rw [zI_le (by omega) (by omega)]; exact c), (hP.2.2.2.2.2.2.2.2.1 i hi c).1]
  · rw [if_neg (by rw [zI_le (by omega) (by omega)]; exact c), if_pos (zin_zI hi (by omega)), zI_nat (by omega), (hR.2.2.2.1 i hi).1]
/-- what the loops keep -/
def zWI (n m q : Nat) (P : zSt) (L : List (zV × Nat)) (O Z E H : zSt) (x1 : Int32) : Prop := zRl n m q P O ∧ zPl O L ∧ zgb O 27 3 = 1 ∧ (zgl H 1).toInt = 1 ∧ zWb Z E x1 O
theorem zwl_c {L : List (zV × Nat)} {a b s0 s1 s2 : Nat} (hP : zPw n m q P) (hlen : L.length ≤ 16) (hbb : ∀ (k : Nat) (v : zV × Nat), L[k]? = some v → zvb v.1) (hkd : ∀ (k : Nat) (v : zV × Nat), L[k]? = some v → v.2 < 3) (hfit : ∀ X, zfit L L.length X ↔ (∀ s, s < (zGa P 0 (-1) n m).length → 0 ≤ zev (zSo (zGa P 0 (-1) n m) s) X) ∧ ∀ i, i < 3 → n ≤ i → zco X i = 0) (h0 : zst P 0 s0) (h1 : zst P 1 s1) (h2 : zst P 2 s2) (ha : a ≤ s0) (hb : b ≤ s1) (k21 : zSt → zSt → zSt → Int32 → Option (zSt × zSt × zSt)) (k32 : zSt → zSt → zSt → Int32 → Int32 → Option (zSt × zSt × zSt)) (k37 : zSt → Int32 → Int32 → Option (Int32 × zSt)) (k77 : zSt → Int32 → Int32 → Int32 → Option (Int32 × zSt)) : ∀ (d c fc fo : Nat) (Z E H O : zSt) (x1 : Int32), c + d = s2 + 1 → d < fc → d < fo → zWI n m q P L O Z E H x1 → ∃ Z2 E2 H2 O2 x1', fX10_look_56 P k21 k32 fc Z E H (zI a) (zI b) (zI c) = k32 Z2 E2 H2 (zI a) (zI (b + 1)) ∧ fX12_findsWhole_119 k37 k77 fo O x1 (zga P 0 0 + zI a) (zga P 0 1 + zI b) (zga P 0 2 + zI c) = k77 O2 x1' (zga P 0 0 + zI a) (zga P 0 1 + zI (b + 1)) ∧ zFW O O2 ∧ zWI n m q P L O2 Z2 E2 H2 x1'
  | d, c, fc + 1, fo + 1, Z, E, H, O, x1, hc, hfc, hfo, hI => by
    have l0 := h0.1
    have l1 := h1.1
    have l2 := h2.1
    have href : ∀ x, fX12_findsWhole_119 k37 k77 (fo + 1) O x1 (zga P 0 0 + zI a) (zga P 0 1 + zI b) x = fX12_findsWhole_139 k37 k77 (fX12_findsWhole_119 k37 k77 fo) O x1 (zga P 0 0 + zI a) (zga P 0 1 + zI b) x x (zga P 1 2) := by
      intro x
      rw [fX12_findsWhole_119]
      exact zhi_ref hP hI.1 (show 2 < 3 by omega) (fun y => fX12_findsWhole_139 k37 k77 (fX12_findsWhole_119 k37 k77 fo) O x1 (zga P 0 0 + zI a) (zga P 0 1 + zI b) x x y)
    rw [href, fX10_look_56, show (2 : Int32) = zI 2 from rfl, eX10_stepsOf hP (by omega) h2, zbq]
    match d, hc, hfc, hfo with
    | 0, hc, hfc, hfo =>
      rw [if_pos (by rw [zI_lt (by omega) (by omega)]; omega), zlq, zI_succ]
      unfold fX12_findsWhole_139
      rw [if_pos ((zst_lt hP (by omega) h2 (by omega)).mpr (by omega)), zlq, zI_ass]
      exact ⟨Z, E, H, O, x1, rfl, rfl, zFW.refl O, hI⟩
    | d + 1, hc, hfc, hfo =>
      obtain ⟨H2, p1, p2, p3⟩ := zput3 (H := H) hP (show a ≤ 6 by omega) (show b ≤ 6 by omega) (show c ≤ 6 by omega) hI.2.2.2.1
      have e0 := (zst_add (i := 0) hP (by omega) (show a ≤ 7 by omega)).1
      have e1 := (zst_add (i := 1) hP (by omega) (show b ≤ 7 by omega)).1
      have e2 := (zst_add (i := 2) hP (by omega) (show c ≤ 7 by omega)).1
      obtain ⟨Z2, E2, x1', O2, g1, g2, g3, g4⟩ := zwstep (y1 := zga P 1 2) (y0 := zga P 0 2 + zI c) hP hI.1 hI.2.1 hlen hbb hkd hfit p2 (zwp3_W hP (by omega) (by omega) (by omega)) (zwp3_z hP h0 h1 h2 ha hb (show c ≤ s2 by omega)) e0 e1 e2 hI.2.2.1 (fun h => by have := (zst_lt hP (by omega) h2 (by omega)).mp h; omega) hI.2.2.2.2 k37 k77 (fX12_findsWhole_119 k37 k77 fo)
      rw [g2, zI_ass]
      have hI2 : zWI n m q P L O2 Z2 E2 H2 x1' := ⟨zRl_W hI.1 g4, zPl_W hI.2.1 g4, by rw [g4.2.2.2.2]; exact hI.2.2.1, p3, g3⟩
      obtain ⟨Z3, E3, H3, O3, x3, r1, r2, r3, r4⟩ := zwl_c hP hlen hbb hkd hfit h0 h1 h2 ha hb k21 k32 k37 k77 d (c + 1) fc fo Z2 E2 H2 O2 x1' (by omega) (by omega) (by omega) hI2
      refine ⟨Z3, E3, H3, O3, x3, ?_, r2, g4.trans r3, r4⟩
      rw [if_neg (by rw [zI_lt (by omega) (by omega)]; omega)]
      refine (p1 (fun o106 => (fX10_lookAt Z P E o106).bind (fun o110 => zlet (zI c + 1) (fun v113 => fX10_look_56 P k21 k32 fc o110.1 o110.2 o106 (zI a) (zI b) v113)))).trans ?_
      rw [g1, zbq, zlq, zI_succ]
      exact r1
end ZWLOOP
