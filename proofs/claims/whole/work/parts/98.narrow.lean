/-! 98: whether whole points are looked for; the look as a whole. -/
/-- what the reference's calls may change besides 9 -/
def zFJ (A B : zSt) : Prop := (∀ k, (k < 31 ∨ 36 < k) → zgi B k = zgi A k) ∧ (∀ k, zgl B k = zgl A k) ∧ (∀ k, (k < 24 ∨ 26 < k) → zga B k = zga A k) ∧ ∀ k, (k < 19 ∨ 30 < k) → zgb B k = zgb A k
theorem zFJ.refl (O : zSt) : zFJ O O := ⟨fun _ _ => rfl, fun _ => rfl, fun _ _ => rfl, fun _ _ => rfl⟩
theorem zFJ.trans {A B C : zSt} (h : zFJ A B) (g : zFJ B C) : zFJ A C := ⟨fun k a => (g.1 k a).trans (h.1 k a), fun k => (g.2.1 k).trans (h.2.1 k), fun k a => (g.2.2.1 k a).trans (h.2.2.1 k a), fun k a => (g.2.2.2 k a).trans (h.2.2.2 k a)⟩
theorem zFJ_k {A B : zSt} (h : zFLk A B) : zFJ A B := ⟨h.1, h.2.1, h.2.2.1, fun k hk => h.2.2.2 k (by omega)⟩
theorem zFJ_W {A B : zSt} (h : zFW A B) : zFJ A B := ⟨fun k _ => h.1 k, h.2.1, fun k _ => h.2.2.1 k, fun k hk => h.2.2.2.1 k (by omega) (by omega)⟩
theorem zFJ_p {A B : zSt} (h : zFp A B) : zFJ A B := ⟨fun k hk => h.1 k (by omega), h.2.1, fun k hk => h.2.2.1 k (by omega), fun k hk => h.2.2.2 k (by omega) (by omega)⟩
theorem zRl_J {n m q : Nat} {P O O2 : zSt} (h : zRl n m q P O) (hf : zFJ O O2) : zRl n m q P O2 := by
  unfold zRl at h ⊢
  rw [hf.1 10 (by omega), hf.1 11 (by omega), hf.1 12 (by omega), hf.2.2.1 0 (by omega), hf.2.2.1 1 (by omega), hf.2.2.1 2 (by omega), hf.2.2.1 3 (by omega), hf.2.2.1 4 (by omega), hf.2.2.1 5 (by omega), hf.2.2.1 6 (by omega), hf.2.2.1 7 (by omega)]
  exact h
section ZNARROW
variable {n m q : Nat} {P : zSt}
def zNar (n : Nat) (P : zSt) : Prop := ∀ i, i < n → (zga P 1 i).toInt < 100 ∧ (zga P 1 i).toInt - (zga P 0 i).toInt ≤ 6
theorem znr_both {O : zSt} (hP : zPw n m q P) (hR : zRl n m q P O) : ∀ (d i f g : Nat), i + d = n → d < f → d < g → (∀ j, j < i → (zga P 1 j).toInt < 100 ∧ (zga P 1 j).toInt - (zga P 0 j).toInt ≤ 6) → ∃ y : Int32, fX5_isNarrow_2 P f (zI i) = some y ∧ fX12_isWholeLooked_2 O g (zI i) = some y ∧ ((y = 0 ∧ ¬ zNar n P) ∨ (y = 1 ∧ zNar n P))
  | 0, i, f + 1, g + 1, hi, hf, hg, h => by
    have e : i = n := by omega
    subst e
    rw [fX5_isNarrow_2, fX12_isWholeLooked_2, hP.2.2.2.1, hR.1, if_pos (Int32.le_refl _), if_pos (Int32.le_refl _)]
    exact ⟨1, rfl, rfl, Or.inr ⟨rfl, h⟩⟩
  | d + 1, i, f + 1, g + 1, hi, hf, hg, h => by
    have hn := hP.1
    have hi3 : i < 3 := by omega
    have hb := hP.2.2.2.2.2.2.2.1 i hi3
    have c100 : (100 : Int32).toInt = 100 := by decide
    rw [fX5_isNarrow_2, fX12_isWholeLooked_2, hP.2.2.2.1, hR.1, if_neg (by rw [zI_le (by omega) (by omega)]; omega), if_neg (by rw [zI_le (by omega) (by omega)]; omega), eX5_hasGreatest hi3, zbq, if_pos (zin_zI hi3 (by omega)), zI_nat (by omega), (hR.2.2.2.1 i hi3).1, (hR.2.2.2.1 i hi3).2]
    unfold fX5_isNarrow_34 fX12_isWholeLooked_39
    by_cases c : (100 : Int32) ≤ zga P 1 i
    · have c2 := c
      rw [z32le, c100] at c2
      have c3 : zga P 1 i = 100 := by
        apply Int32.toInt_inj.mp
        rw [c100]; omega
      rw [if_pos c, if_pos rfl, if_pos c3]
      exact ⟨0, rfl, rfl, Or.inl ⟨rfl, fun k => by have := (k i (by omega)).1; omega⟩⟩
    · have c2 := c
      rw [z32le, c100] at c2
      have c3 : ¬ zga P 1 i = 100 := fun e => by
        rw [e, c100] at c2
        omega
      have h1 : zab (zga P 0 i).toInt 100 := zab_of (by omega) (by omega)
      have h2 : zab (zga P 1 i).toInt 100 := zab_of (by omega) (by omega)
      have e6 : (zga P 1 i - zga P 0 i ≤ (6 : Int32)) ↔ (zga P 1 i).toInt - (zga P 0 i).toInt ≤ 6 := by
        rw [z32le, z32sub h2 h1 (by omega), show (6 : Int32).toInt = 6 by decide]
      rw [if_neg c, if_neg (by decide), eX5_greatestOf hi3, zbq, eX5_leastOf hi3, zbq, if_neg c3, if_pos (zin_zI hi3 (by omega)), if_pos (zin_zI hi3 (by omega))]
      by_cases g6 : (zga P 1 i).toInt - (zga P 0 i).toInt ≤ 6
      · rw [if_pos (e6.mpr g6), if_pos (e6.mpr g6), zlq, zlq, zI_succ]
        refine znr_both hP hR d (i + 1) f g (by omega) (by omega) (by omega) (fun j hj => ?_)
        by_cases ej : j = i
        · rw [ej]; exact ⟨by omega, g6⟩
        · exact h j (by omega)
      · rw [if_neg (fun k => g6 (e6.mp k)), if_neg (fun k => g6 (e6.mp k))]
        exact ⟨0, rfl, rfl, Or.inl ⟨rfl, fun k => g6 (k i (by omega)).2⟩⟩
theorem eX5_isNarrow {O : zSt} (hP : zPw n m q P) (hR : zRl n m q P O) : ∃ y : Int32, fX5_isNarrow P = some y ∧ fX12_isWholeLooked O = some y ∧ ((y = 0 ∧ ¬ zNar n P) ∨ (y = 1 ∧ zNar n P)) := by
  unfold fX5_isNarrow fX12_isWholeLooked
  rw [zn0]
  exact znr_both hP hR n 0 6000 6000 (by omega) (by have := hP.1; omega) (by have := hP.1; omega) (fun j hj => by omega)
theorem zNar_st (hP : zPw n m q P) (h : zNar n P) {i : Nat} (hi : i < 3) : ∃ s, zst P i s := by
  have hb := hP.2.2.2.2.2.2.2.1 i hi
  by_cases c : i < n
  · have := (h i c).2
    exact ⟨((zga P 1 i).toInt - (zga P 0 i).toInt).toNat, by omega, by omega⟩
  · have e := hP.2.2.2.2.2.2.2.2.1 i hi (by omega)
    exact ⟨0, by omega, by rw [e.1, e.2]; decide⟩
theorem eX10_look {O Z E H : zSt} (hP : zPw n m q P) (hR : zRl n m q P O) (hN : zNar n P) (hH : (zgl H 1).toInt = 1) (hz : zgi Z 4 = 0) : ∃ Z2 E2 H2 x1 O2, fX10_look Z P E H = some (Z2, E2, H2) ∧ fX12_findsWhole O = some (x1, O2) ∧ zFJ O O2 ∧ zWb Z2 E2 x1 O2 ∧ (zgl H2 1).toInt = 1 := by
  obtain ⟨s0, h0⟩ := zNar_st hP hN (show 0 < 3 by omega)
  obtain ⟨s1, h1⟩ := zNar_st hP hN (show 1 < 3 by omega)
  obtain ⟨s2, h2⟩ := zNar_st hP hN (show 2 < 3 by omega)
  obtain ⟨hs, h6⟩ := zSm_all hP hR (-1)
  have ha := eX12_allLeft (O := O) hP.2.1 hR.2.1
  obtain ⟨O1, f1, f2, f3⟩ := eX12_lays (n := n) (m := m) (O := O) (zI (zbits (fun r => decide (zga O 6 r = 0)) m)) (-1) 0 false (by decide) h6 (zRl_ow hP hR)
  have hlen := zPLs_len (n := n) (O := O) (zI (zbits (fun r => decide (zga O 6 r = 0)) m)) (-1) false h6
  have hb := zPLs_b (zI (zbits (fun r => decide (zga O 6 r = 0)) m)) (-1) false (zRl_ow hP hR)
  have hfit := zfit_iff hP hR hs
  generalize zPLs O n m (zI (zbits (fun r => decide (zga O 6 r = 0)) m)) (-1) false = L at *
  have frJ : zFJ O (zsb O1 27 (vp_updL (zgb O1 27) 3 1)) := (zFJ_p f2).trans ⟨fun _ _ => rfl, fun _ => rfl, fun _ _ => rfl, fun k hk => gb_sbn (by omega)⟩
  have hI : zWI n m q P L (zsb O1 27 (vp_updL (zgb O1 27) 3 1)) (zsi (zsi Z 4 1) 3 0) E (zsi H 2 (zgi P 8)) 0 := by
    refine ⟨zRl_J hR frJ, ?_, ?_, hH, Or.inl ⟨gi_si, rfl⟩⟩
    · unfold zPl at f3 ⊢
      rw [gb_sbn (by omega), gb_sbn (by omega)]
      exact f3
    · rw [gb_sb, updL_s rfl]
  obtain ⟨Z2, E2, H2, O2, x1, g1, g2, g3, g4⟩ := zwl_a hP (by omega) (fun k v h => (hb k v h).1) (fun k v h => (hb k v h).2) hfit h0 h1 h2 (s0 + 1) 0 6000 6000 (zsi (zsi Z 4 1) 3 0) E (zsi H 2 (zgi P 8)) (zsb O1 27 (vp_updL (zgb O1 27) 3 1)) 0 (by omega) (by have := h0.1; omega) (by have := h0.1; omega) hI
  have e0 : zga P 0 0 + zI 0 = zga P 0 0 := Int32.add_zero _
  rw [e0] at g2
  refine ⟨Z2, E2, H2, x1, O2, ?_, ?_, frJ.trans (zFJ_W g3), g4.2.2.2.2, g4.2.2.2.1⟩
  · unfold fX10_look
    rw [if_pos hz, zlq, zlq, zlq, zn0]
    exact g1
  · unfold fX12_findsWhole
    rw [ha, zbq, f1, zbq, if_pos (by decide), zlq]
    rw [show ((3 : Int32)).toNatClampNeg = 3 from rfl]
    refine (zlo_ref hP hI.1 (show 0 < 3 by omega) (fun y => fX12_findsWhole_36 (zsb O1 27 (vp_updL (zgb O1 27) 3 1)) 0 y)).trans ?_
    unfold fX12_findsWhole_36
    exact g2
end ZNARROW
