/-! 9zd: lineLength, lineAt. -/
section ZLINES
variable {n m q r : Nat} {P O C L B : zSt}
theorem zl_159 {len : Nat} (hP : zPw n m q P) (hR : zRl n m q P O) (hr : r < m) (h : zLb len L B) (hl : len < 12) : ∃ L2 B2 len2, ((fX3_put L (61 : Int32)).bind (fun o67 => fX3_write_70 P o67 (zI r))) = some L2 ∧ fX12_line_159 O B (zI r) = some B2 ∧ zLb len2 L2 B2 ∧ len2 ≤ 16 := by
  have hm := hP.2.1
  obtain ⟨L1, B1, a, b, c⟩ := zputb (c := 61) h (by omega) (by omega)
  obtain ⟨L2, B2, k, a2, b2, c2, dd⟩ := znumb (x := zga P 4 r) c (by omega) (hP.2.2.2.2.2.2.2.2.2.1 r hr).2.2
  unfold fX12_line_159 fX3_write_70
  rw [show (61 : Int32) = zI 61 from rfl, a, b, zbq, zbq, if_pos (zin_zI (show r < 12 by omega) (by omega)), zI_nat (by omega), (hR.2.2.2.2.1 r hr).2.2.1, b2, zbq, eX5_numberOf (by omega), zbq, a2, zbq]
  exact ⟨L2, B2, _, rfl, rfl, c2, by omega⟩
theorem zlend {len : Nat} (hP : zPw n m q P) (hR : zRl n m q P O) (hr : r < m) (h : zLb len L B) (hl : len < 11) : ∃ L2 B2 len2, fX3_write_45 P L (zI r) = some L2 ∧ fX12_line_126 O B (zI r) = some B2 ∧ zLb len2 L2 B2 ∧ len2 ≤ 16 := by
  have hm := hP.2.1
  have cr : zin (zI r) 12 = true := zin_zI (by omega) (by omega)
  have hrel := (hP.2.2.2.2.2.2.2.2.2.1 r hr).2.1
  unfold fX3_write_45 fX12_line_126 fX12_line_142
  rw [eX5_relationOf (by omega) hrel, zbq, if_pos cr, if_pos cr, zI_nat (by omega)]
  rcases (hR.2.2.2.2.1 r hr).2.1 with ⟨k1, k2⟩ | ⟨k1, k2⟩ | ⟨k1, k2⟩
  · obtain ⟨L1, B1, a, b, c⟩ := zputb (c := 60) h (by omega) (by omega)
    obtain ⟨L2, B2, len2, a2, b2, c2, dd⟩ := zl_159 hP hR hr c (by omega)
    rw [k1, k2, show (60 : Int32) = zI 60 from rfl, a, zbq, zbq, if_neg (show ¬ zI 60 = 61 by decide), if_pos (show zI 0 = 0 from rfl), b, zbq, if_pos cr, if_neg (show ¬ zI 0 = 1 by decide), a2, b2]
    exact ⟨L2, B2, len2, rfl, rfl, c2, dd⟩
  · obtain ⟨L1, B1, a, b, c⟩ := zputb (c := 62) h (by omega) (by omega)
    obtain ⟨L2, B2, len2, a2, b2, c2, dd⟩ := zl_159 hP hR hr c (by omega)
    rw [k1, k2, show (62 : Int32) = zI 62 from rfl, a, zbq, zbq, if_neg (show ¬ zI 62 = 61 by decide), if_neg (show ¬ zI 1 = 0 by decide), if_pos (show zI 1 = 1 from rfl), b, zbq, a2, b2]
    exact ⟨L2, B2, len2, rfl, rfl, c2, dd⟩
  · obtain ⟨L2, B2, len2, a2, b2, c2, dd⟩ := zl_159 hP hR hr h (by omega)
    obtain ⟨L1, B1, a, b, c⟩ := zputb (c := 61) h (by omega) (by omega)
    rw [show (61 : Int32) = zI 61 from rfl, a, zbq] at a2
    rw [k1, k2, show (61 : Int32) = zI 61 from rfl, a, zbq, zbq, if_pos (show zI 61 = zI 61 from rfl), if_neg (show ¬ zI 2 = 0 by decide), if_neg (show ¬ zI 2 = 1 by decide), a2, b2]
    exact ⟨L2, B2, len2, rfl, rfl, c2, dd⟩
theorem zlfin {len : Nat} (hP : zPw n m q P) (hR : zRl n m q P O) (hr : r < m) (h : zLb len L B) (hl : len < 10) : ∃ L2 B2 len2, (if zgi L 1 = 0 then (fX3_put L (48 : Int32)).bind (fun o42 => fX3_write_45 P o42 (zI r)) else fX3_write_45 P L (zI r)) = some L2 ∧ ((fJ4_length_8abf5 B).bind (fun o113 => if o113 = 0 then (fJ4_append_cf468 B (48 : Int32)).bind (fun o122 => fX12_line_126 O o122 (zI r)) else fX12_line_126 O B (zI r))) = some B2 ∧ zLb len2 L2 B2 ∧ len2 ≤ 16 := by
  unfold fJ4_length_8abf5
  rw [zbq, h.1, h.2.2.1]
  by_cases c : len = 0
  · obtain ⟨L1, B1, a, b, g⟩ := zputb (c := 48) h (by omega) (by omega)
    have e : zI len = 0 := by rw [c]; rfl
    rw [if_pos e, if_pos e, show (48 : Int32) = zI 48 from rfl, a, b, zbq, zbq]
    exact zlend hP hR hr g (by omega)
  · have e : ¬ zI len = 0 := by rw [zn0, zI_eq (by omega) (by omega)]; exact c
    rw [if_neg e, if_neg e]
    exact zlend hP hR hr h (by omega)
theorem zlrest (hP : zPw n m q P) (hR : zRl n m q P O) (hr : r < m) : ∀ (d i f : Nat), i + d = 3 → d < f → n ≤ i → fX12_line_10 O f B (zI r) (zI i) = (fJ4_length_8abf5 B).bind (fun o113 => if o113 = 0 then (fJ4_append_cf468 B (48 : Int32)).bind (fun o122 => fX12_line_126 O o122 (zI r)) else fX12_line_126 O B (zI r))
  | 0, i, f + 1, hi, hf, hn => by
    rw [fX12_line_10, if_pos (by rw [zn3, zI_le (by omega) (by omega)]; omega)]
  | d + 1, i, f + 1, hi, hf, hn => by
    have hm := hP.2.1
    have z : zga P 2 (r * 3 + i) = 0 := ((hP.2.2.2.2.2.2.2.2.2.1 r hr).1 i (by omega)).2 hn
    rw [fX12_line_10, if_neg (by rw [zn3, zI_le (by omega) (by omega)]; omega), show (3 : Int32) * zI r + zI i = zI (3 * r + i) by rw [zn3, zI_mul, zI_add], if_pos (zin_zI (by omega) (by omega)), zlq, zI_nat (by omega), (hR.2.2.2.2.1 r hr).1 i (by omega), if_pos z]
    unfold fX12_line_106
    rw [zlq, zI_succ]
    exact zlrest hP hR hr d (i + 1) f (by omega) (by omega) (by omega)
theorem zlwalk (hP : zPw n m q P) (hR : zRl n m q P O) (hr : r < m) : ∀ (d i e fc fo len : Nat) (L B : zSt), i + d = n → i + e = 3 → d < fc → e < fo → zLb len L B → len ≤ 3 * i → ∃ L2 B2 len2, fX3_write_7 P fc L (zI r) (zI i) = some L2 ∧ fX12_line_10 O fo B (zI r) (zI i) = some B2 ∧ zLb len2 L2 B2 ∧ len2 ≤ 16
  | 0, i, e, fc + 1, fo + 1, len, L, B, hi, he, hc, ho, h, hl => by
    have hn := hP.1
    have e0 : i = n := by omega
    rw [zlrest hP hR hr e i (fo + 1) he (by omega) (by omega), fX3_write_7, hP.2.2.2.1, if_pos (by rw [e0]; exact Int32.le_refl _)]
    exact zlfin hP hR hr h (by omega)
  | d + 1, i, e, fc + 1, fo + 1, len, L, B, hi, he, hc, ho, h, hl => by
    have hn := hP.1
    have hm := hP.2.1
    have hi3 : i < 3 := by omega
    have hx := ((hP.2.2.2.2.2.2.2.2.2.1 r hr).1 i hi3).1
    rw [fX3_write_7, hP.2.2.2.1, if_neg (by rw [zI_le (by omega) (by omega)]; omega), eX5_rowCoefficient (by omega), zbq, fX12_line_10, if_neg (by rw [zn3, zI_le (by omega) (by omega)]; omega), show (3 : Int32) * zI r + zI i = zI (3 * r + i) by rw [zn3, zI_mul, zI_add], if_pos (zin_zI (by omega) (by omega)), zlq, zI_nat (by omega), (hR.2.2.2.2.1 r hr).1 i hi3]
    by_cases c : zga P 2 (r * 3 + i) = 0
    · have e1 : fX3_writeTerm L (zga P 2 (r * 3 + i)) (zI i) = some L := by
        unfold fX3_writeTerm
        rw [if_pos c]
      rw [if_pos c, e1, zbq, zlq, zI_succ]
      unfold fX12_line_106
      rw [zlq, zI_succ]
      exact zlwalk hP hR hr d (i + 1) (e - 1) fc fo len L B (by omega) (by omega) (by omega) (by omega) h (by omega)
    · obtain ⟨L2, B2, k, a, b, g, dd⟩ := ztermb (r := r) (O := O) (k10 := fX12_line_10 O fo) h (by omega) hi3 c hx
      rw [if_neg c, b, a, zbq, zlq, zI_succ]
      unfold fX12_line_106
      rw [zlq, zI_succ]
      exact zlwalk hP hR hr d (i + 1) (e - 1) fc fo (len + k) L2 B2 (by omega) (by omega) (by omega) (by omega) g (by omega)
theorem zline (hP : zPw n m q P) (hR : zRl n m q P O) (hr : r < m) : ∃ L2 B2 len, fX3_write L P (zI r) = some L2 ∧ fX12_line O zst0 (zI r) = some B2 ∧ zLb len L2 B2 ∧ len ≤ 16 := by
  have hn := hP.1
  unfold fX3_write fX12_line
  rw [zlq, zn0]
  exact zlwalk hP hR hr n 0 3 6000 6000 0 (zsi L 1 (zI 0)) zst0 (by omega) (by omega) (by omega) (by omega) ⟨gi_si, rfl, rfl, fun j hj => absurd hj (by omega)⟩ (by omega)
theorem zcall_lineLength (hP : zPw n m q P) (hR : zRl n m q P O) (x : Int32) : ∃ rr v L2 O2, fX11_lineLength C P L x = some (rr, L2) ∧ fX12_lineLength O x = some (v, O2) ∧ zAg [("java/lang/IndexOutOfBoundsException", 1)] rr v (zgi O2 9) ∧ zFc O O2 := by
  have hm := hP.2.1
  unfold fX11_lineLength fX12_lineLength
  rw [eX11_demandRow hP.2.2.2.2.1, zbq, eX12_isRow hR.2.1 (by omega), zbq]
  by_cases c : zix m x
  · obtain ⟨r, hr, rfl⟩ := zix_ex (by omega) c
    obtain ⟨L2, B2, len, a, b, g, -⟩ := zline (L := L) hP (zRl_i (k := 9) (v := 0) hR (by omega)) hr
    rw [if_pos c, if_pos c, eX12_checked, if_neg (show ¬ (1 : Int32) = 0 by decide), zbq, if_pos (show (0 : Int32) ≤ 0 by decide), b, zbq]
    simp only [Sum.elim_inr]
    rw [a, zbq, g.1, g.2.2.1]
    exact ⟨_, _, _, _, rfl, rfl, Or.inl ⟨rfl, by rw [gi_si]⟩, zFc_9⟩
  · rw [if_neg c, if_neg c, eX12_checked, if_pos rfl, zbq, if_neg (show ¬ (1 : Int32) ≤ 0 by decide)]
    simp only [Sum.elim_inl]
    exact ⟨_, _, _, _, rfl, rfl, Or.inr ⟨_, rfl, by rw [gi_si]; simp⟩, zFc_9⟩
theorem zchar_at {len j : Nat} (h : zLb len L B) (hl : len ≤ 16) (hj : j < len) : ∃ c : Int32, fX3_characterAt L (zI j) = some c ∧ fJ4_charAt_5068e B (zI j) = some c ∧ znar .char c = true := by
  obtain ⟨c, hc, a, b⟩ := h.2.2.2 j hj
  have hn : (zI j).toNatClampNeg = j := zI_nat (by omega)
  refine ⟨zI c, ?_, ?_, zld_z c hc⟩
  · unfold fX3_characterAt fX3_characterAt_22 fX3_characterAt_24
    rw [if_neg (by rw [zn0, zI_lt (by omega) (by omega)]; omega), if_neg (by rw [zn30, zI_le (by omega) (by omega)]; omega), if_pos (zin_zI (by omega) (by omega)), hn, a, if_pos (zld_z c hc)]
  · unfold fJ4_charAt_5068e
    rw [h.2.1, h.2.2.1, hn, b, zld_a c hc]
    refine if_pos ⟨rfl, ?_, ?_, ?_, zin_zI (by omega) (by omega), zld_z c hc⟩
    · rw [show (16 : Int32) >>> ((0 : Int32) &&& 31) = zI 16 by decide, zI_lt (by omega) (by omega)]; omega
    · rw [zn0, zI_lt (by omega) (by omega)]; omega
    · rw [zI_lt (by omega) (by omega)]; exact hj
theorem zcall_lineAt (hP : zPw n m q P) (hR : zRl n m q P O) (x y : Int32) : ∃ rr v L2 O2, fX11_lineAt C P L x y = some (rr, L2) ∧ fX12_lineAt O x y = some (v, O2) ∧ zAg [("java/lang/IndexOutOfBoundsException", 1)] rr v (zgi O2 9) ∧ zFc O O2 := by
  have hm := hP.2.1
  unfold fX11_lineAt fX11_lineAt_32 fX12_lineAt fX12_lineAt_30
  rw [eX11_demandRow hP.2.2.2.2.1, zbq, eX12_isRow hR.2.1 (by omega), zbq]
  by_cases c : zix m x
  · obtain ⟨r, hr, rfl⟩ := zix_ex (by omega) c
    obtain ⟨L2, B2, len, a, b, g, hl⟩ := zline (L := L) hP hR hr
    rw [if_pos c, if_pos c, if_neg (show ¬ (1 : Int32) = 0 by decide)]
    simp only [Sum.elim_inr]
    rw [a, zbq]
    by_cases c0 : y < 0
    · rw [if_pos c0, if_pos c0, zlq, gi_si, if_neg (show ¬ (1 : Int32) ≤ 0 by decide)]
      exact ⟨_, _, _, _, rfl, rfl, Or.inr ⟨_, rfl, by rw [gi_si]; simp⟩, zFc_9⟩
    · rw [if_neg c0, if_neg c0, b, zbq, g.1, g.2.2.1]
      by_cases c1 : y < zI len
      · obtain ⟨j, hj, rfl⟩ := zix_ex (n := len) (x := y) (by omega) (zix_iff.mpr ⟨by rw [z32lt] at c0; rw [z32le]; omega, c1⟩)
        obtain ⟨L3, B3, len3, a3, b3, g3, hl3⟩ := zline (L := L) hP (zRl_i (k := 9) (v := 0) hR (by omega)) hr
        have e3 : L3 = L2 := by
          rw [a] at a3
          injection a3 with a3
          exact a3.symm
        rw [e3] at g3
        have el : len3 = len := by
          have e1 := g3.1
          rw [g.1, zI_eq (by omega) (by omega)] at e1
          exact e1.symm
        rw [el] at g3
        obtain ⟨ch, d1, d2, d3⟩ := zchar_at g3 hl hj
        rw [if_pos c1, if_pos c1, zlq, gi_si, if_pos (show (0 : Int32) ≤ 0 by decide), b3, zbq, d1, d2, zbq, zbq, if_pos d3, if_pos d3]
        exact ⟨_, _, _, _, rfl, rfl, Or.inl ⟨rfl, by rw [gi_si]⟩, zFc_9⟩
      · rw [if_neg c1, if_neg c1, zlq, gi_si, if_neg (show ¬ (1 : Int32) ≤ 0 by decide)]
        exact ⟨_, _, _, _, rfl, rfl, Or.inr ⟨_, rfl, by rw [gi_si]; simp⟩, zFc_9⟩
  · rw [if_neg c, if_neg c, if_pos rfl, zlq, gi_si, if_neg (show ¬ (1 : Int32) ≤ 0 by decide)]
    simp only [Sum.elim_inl]
    exact ⟨_, _, _, _, rfl, rfl, Or.inr ⟨_, rfl, by rw [gi_si]; simp⟩, zFc_9⟩
end ZLINES
