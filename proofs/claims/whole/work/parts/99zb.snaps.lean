/-! 9zb: keep, kept, brokenBy. -/
def zSnap (k : Nat) (M O : zSt) : Prop := (zgi M 2 = -1 ∧ zga O 39 k = -1) ∨ ∃ n0 X0 Y0, n0 ≤ 3 ∧ zgi M 2 = zI n0 ∧ zga O 39 k = zI n0 ∧ zQp M X0 ∧ zSnR O k Y0 ∧ zBd X0 ∧ zBd Y0 ∧ zSame X0 Y0
/-- what keep leaves of the reference -/
def zFk (k : Nat) (A B : zSt) : Prop := (∀ j, j ≠ 9 → (j < 31 ∨ 36 < j) → zgi B j = zgi A j) ∧ (∀ j, zgl B j = zgl A j) ∧ (∀ j, j ≠ 39 → (j < 24 ∨ 26 < j) → zga B j = zga A j) ∧ (∀ j, j ≠ 37 → j ≠ 38 → (j < 19 ∨ 30 < j) → zgb B j = zgb A j) ∧ ∀ j, j ≠ k → zga B 39 j = zga A 39 j ∧ zgb B 38 j = zgb A 38 j ∧ ∀ i, i < 3 → zgb B 37 (3 * j + i) = zgb A 37 (3 * j + i)
theorem zFk_c {k : Nat} {A B : zSt} (h : zFc A B) : zFk k A B := ⟨h.1, h.2.1, fun j _ => h.2.2.1 j, fun j _ _ => h.2.2.2 j, fun j _ => ⟨by rw [h.2.2.1 39 (by omega)], by rw [h.2.2.2 38 (by omega)], fun i _ => by rw [h.2.2.2 37 (by omega)]⟩⟩
theorem zFk.trans {k : Nat} {A B C : zSt} (h : zFk k A B) (g : zFk k B C) : zFk k A C := ⟨fun j a b => (g.1 j a b).trans (h.1 j a b), fun j => (g.2.1 j).trans (h.2.1 j), fun j a b => (g.2.2.1 j a b).trans (h.2.2.1 j a b), fun j a b c => (g.2.2.2.1 j a b c).trans (h.2.2.2.1 j a b c), fun j a => ⟨(g.2.2.2.2 j a).1.trans (h.2.2.2.2 j a).1, (g.2.2.2.2 j a).2.1.trans (h.2.2.2.2 j a).2.1, fun i b => ((g.2.2.2.2 j a).2.2 i b).trans ((h.2.2.2.2 j a).2.2 i b)⟩⟩
theorem zRl_fk {n m q k : Nat} {P O O2 : zSt} (h : zRl n m q P O) (f : zFk k O O2) : zRl n m q P O2 := by
  obtain ⟨g10, g11, g12, g0, gr, ga, gx⟩ := h
  obtain ⟨f1, -, f3, -⟩ := f
  refine ⟨?_, ?_, ?_, ?_, ?_, ?_, ?_⟩
  · rw [f1 10 (by omega) (by omega)]; exact g10
  · rw [f1 11 (by omega) (by omega)]; exact g11
  · rw [f1 12 (by omega) (by omega)]; exact g12
  · rw [f3 0 (by omega) (by omega), f3 1 (by omega) (by omega)]; exact g0
  · rw [f3 2 (by omega) (by omega), f3 3 (by omega) (by omega), f3 4 (by omega) (by omega), f3 6 (by omega) (by omega)]; exact gr
  · rw [f3 5 (by omega) (by omega), f3 7 (by omega) (by omega)]; exact ga
  · rw [f3 6 (by omega) (by omega)]; exact gx
theorem zTy_fk {n len k : Nat} {X O O2 : zSt} (h : zTy n len X O) (f : zFk k O O2) : zTy n len X O2 := by
  obtain ⟨a, b, c, d, e, g⟩ := h
  exact ⟨a, b, c, by rw [f.1 13 (by omega) (by omega)]; exact d, fun k hk => by rw [f.2.2.1 8 (by omega) (by omega)]; exact e k hk, by rw [f.1 10 (by omega) (by omega)]; exact g⟩
theorem zSnap_fk {k j : Nat} {M O O2 : zSt} (hj : j ≠ k) (h : zSnap j M O) (f : zFk k O O2) : zSnap j M O2 := by
  obtain ⟨e1, e2, e3⟩ := f.2.2.2.2 j hj
  rcases h with ⟨a, b⟩ | ⟨n0, X0, Y0, a, b, c, d, e, g⟩
  · exact Or.inl ⟨a, by rw [e1]; exact b⟩
  · exact Or.inr ⟨n0, X0, Y0, a, b, by rw [e1]; exact c, d, ⟨by rw [e2]; exact e.1, fun i hi => by rw [e3 i hi]; exact e.2 i hi⟩, g⟩
theorem zSnap_f {j : Nat} {M O O2 : zSt} (h : zSnap j M O) (e1 : zga O2 39 = zga O 39) (e2 : zgb O2 38 = zgb O 38) (e3 : zgb O2 37 = zgb O 37) : zSnap j M O2 := by
  rcases h with ⟨a, b⟩ | ⟨n0, X0, Y0, a, b, c, d, e, g⟩
  · exact Or.inl ⟨a, by rw [e1]; exact b⟩
  · exact Or.inr ⟨n0, X0, Y0, a, b, by rw [e1]; exact c, d, ⟨by rw [e2]; exact e.1, fun i hi => by rw [e3]; exact e.2 i hi⟩, g⟩
theorem zSnap_c {j : Nat} {M O O2 : zSt} (h : zSnap j M O) (f : zFc O O2) : zSnap j M O2 := zSnap_f h (f.2.2.1 39 (by omega)) (f.2.2.2 38 (by omega)) (f.2.2.2 37 (by omega))
theorem zSame_sym {X Y : zV} (h : zSame X Y) : zSame Y X := fun i hi => (h i hi).symm
theorem zSame_tr {X Y T : zV} (h : zSame X Y) (g : zSame Y T) (hY : 0 < Y.2.2.2) : zSame X T := by
  intro i hi
  have a := h i hi
  have b := g i hi
  have hne : Y.2.2.2 ≠ 0 := by omega
  apply Int.eq_of_mul_eq_mul_right hne
  have e1 : zco X i * T.2.2.2 * Y.2.2.2 = zco X i * Y.2.2.2 * T.2.2.2 := by grind
  have e2 : zco T i * X.2.2.2 * Y.2.2.2 = zco T i * Y.2.2.2 * X.2.2.2 := by grind
  rw [e1, e2, a, ← b]
  grind
theorem zI_m1 {n : Nat} (h : n ≤ 3) : ¬ zI n = -1 := by
  intro e
  have h2 : (zI n).toInt = (-1 : Int32).toInt := by rw [e]
  have : n = 0 ∨ n = 1 ∨ n = 2 ∨ n = 3 := by omega
  rcases this with rfl | rfl | rfl | rfl <;> exact absurd h2 (by decide)
theorem zBr_100 {P : zSt} {n m : Nat} {X : zV} {v : Int32} (hn : n ≤ 3) (hm : m ≤ 12) (h : zBr P n m X v) : (100 : Int32) ≤ v ↔ v = 100 := by
  rcases h with ⟨i, hi, hv, -⟩ | ⟨-, ⟨r, hr, hv, -⟩ | ⟨hv, -⟩⟩
  · have : i = 0 ∨ i = 1 ∨ i = 2 := by omega
    rw [hv]
    rcases this with rfl | rfl | rfl <;> decide
  · rw [hv, show (100 : Int32) = zI 100 from rfl, zI_le (by omega) (by omega), zI_eq (by omega) (by omega)]
    omega
  · rw [hv]; decide
section ZSNAPS
variable {n m q : Nat} {P C W sS D Q B Z E H O R M K : zSt}
theorem zAns_best {X : zV} {O2 : zSt} (h : zAns n q O W Q X O2) : (zgi W 5 = 111 ∧ zgi O2 36 = 111 ∧ zBest n q O Q X O2) ∨ (¬ zgi W 5 = 111 ∧ ¬ zgi O2 36 = 111) := by
  rcases h with ⟨hX, hpt, -, -, ⟨h1, h2, h34, hv, fd, np, hb⟩ | ⟨k, -, h1, -, h2, -⟩⟩ | ⟨h1, h2, -⟩
  · exact Or.inl ⟨h1, h2, hX, zPt_qp hpt, hpt.1, hv, fd, np, ⟨hb.1, hb.2.1, hb.2.2.1, hb.2.2.2.1⟩, hb.2.2.2.2⟩
  · exact Or.inr ⟨by rw [h1]; decide, by rw [h2]; decide⟩
  · exact Or.inr ⟨by rw [h1]; decide, by rw [h2]; decide⟩
/-- how a kept point stands, both ways -/
theorem zhow {k : Nat} (hk : k < 4) (hP : zPw n m q P) (hR : zRl n m q P O) (hJ : zJc n m q K P W sS D Q B Z E H) (hS : zSnap k M O) : ∃ v W2 s2 D2 Q2 O2, fX11_standingOf C P W sS D Q M = some (v, W2, s2, D2, Q2) ∧ fX12_how O (zI k) = some (v, O2) ∧ zFLk O O2 ∧ zJc n m q K P W2 s2 D2 Q2 B Z E H ∧ znar .char v = true ∧ (v = 120 → ¬ zgi M 2 = -1) ∧ (zgi W 9 ≠ 0 → W2 = W ∧ s2 = sS ∧ D2 = D ∧ Q2 = Q) := by
  have hn := hP.1
  have ck : zin (zI k) 4 = true := zin_zI hk (by omega)
  unfold fX11_standingOf fX11_standingOf_38 fX11_standingOf_79 fX11_standingOf_81 fX12_how fX12_how_35 fX12_how_64 fX12_how_66
  rw [if_pos ck, if_pos ck, zI_nat (by omega)]
  rcases hS with ⟨a, b⟩ | ⟨n0, X0, Y0, h0, a, b, hM, hY, hX0, hY0, hs⟩
  · rw [if_pos a, b, if_neg (show ¬ (0 : Int32) ≤ -1 by decide)]
    exact ⟨45, _, _, _, _, _, rfl, rfl, zFLk.refl O, hJ, by decide, fun h => absurd h (by decide), fun _ => ⟨rfl, rfl, rfl, rfl⟩⟩
  · have nm : ¬ zgi M 2 = -1 := by rw [a]; exact zI_m1 h0
    have le0 : (0 : Int32) ≤ zI n0 := by rw [zn0, zI_le (by omega) (by omega)]; omega
    rw [if_neg nm, b, if_pos le0, a, hP.2.2.2.1, hR.1]
    by_cases c : zI n0 = zI n
    · rw [if_pos c, if_pos c]
      obtain ⟨v, v1, v2⟩ := eX5_breakerOf hP hM hX0
      obtain ⟨w, w1, w2⟩ := eX12_breaks hP hR hk hY hY0
      have e : w = v := zBr_one w2 (zBr_same hn hs hX0.2.1 hY0.2.1 v2)
      rw [e] at w1
      have e100 := zBr_100 hn hP.2.1 v2
      rw [v1, zbq, w1, zbq]
      by_cases d : v = 100
      · rw [if_pos d, if_pos (e100.mpr d)]
        obtain ⟨W2, s2, D2, Q2, o, ins, O2, f1, g1, g2, f2, g3, j, h10, hR2⟩ := zsees hP hR hJ
        have same : zgi W 9 ≠ 0 → W2 = W ∧ s2 = sS ∧ D2 = D ∧ Q2 = Q := by
          intro h
          rw [zfb_eq h] at f1
          injection f1 with f1
          injection f1 with e2 f1
          injection f1 with e3 f1
          injection f1 with e4 e5
          exact ⟨e2.symm, e3.symm, e4.symm, e5.symm⟩
        rw [f1, zbq, g1, zbq]
        rcases zAns_best g3 with ⟨h5, h36, hX, hQ, hQ2, -, fd, np, hB, hS2⟩ | ⟨h5, h36⟩
        · rw [if_pos h5, if_pos h36]
          obtain ⟨b1, i1, i2⟩ := eX4_isSame hM hQ hX0 hX
          have hY2 : zSnR O2 k Y0 := ⟨by rw [g2.2.2.2 38 (by omega)]; exact hY.1, fun i hi => by rw [g2.2.2.2 37 (by omega)]; exact hY.2 i hi⟩
          obtain ⟨b2, j1, j2⟩ := eX12_isBest hB hk hY2 hY0
          have hbd := zBp_bd hB
          have iff : b1 ≠ 0 ↔ b2 ≠ 0 := by
            rw [i2, j2]
            constructor
            · rintro ⟨g, -⟩
              exact zSame_tr (zSame_tr hS2 (zSame_sym g) hX.2.1) hs hX0.2.1
            · intro g
              exact ⟨zSame_tr (zSame_tr hs (zSame_sym g) hY0.2.1) hS2 hbd.2.1, by rw [a, hQ2, c]⟩
          rw [i1, zbq, j1, zbq]
          by_cases z : b1 = 0
          · have z2 : b2 = 0 := by
              by_cases y : b2 = 0
              · exact y
              · exact absurd z (iff.mpr y)
            rw [if_pos z, if_pos z2, if_pos (show znar .char (102 : Int32) = true by decide), if_pos (show znar .char (102 : Int32) = true by decide)]
            exact ⟨102, _, _, _, _, _, rfl, rfl, g2, j, by decide, fun h => absurd h (by decide), same⟩
          · rw [if_neg z, if_neg (iff.mp z), if_pos (show znar .char (98 : Int32) = true by decide), if_pos (show znar .char (98 : Int32) = true by decide)]
            exact ⟨98, _, _, _, _, _, rfl, rfl, g2, j, by decide, fun h => absurd h (by decide), same⟩
        · rw [if_neg h5, if_neg h36, if_pos (show znar .char (102 : Int32) = true by decide), if_pos (show znar .char (102 : Int32) = true by decide)]
          exact ⟨102, _, _, _, _, _, rfl, rfl, g2, j, by decide, fun h => absurd h (by decide), same⟩
      · rw [if_neg d, if_neg (fun h => d (e100.mp h))]
        exact ⟨120, _, _, _, _, _, rfl, rfl, zFLk.refl O, hJ, by decide, fun _ => by rw [← a]; exact nm, fun _ => ⟨rfl, rfl, rfl, rfl⟩⟩
    · rw [if_neg c, if_neg c]
      exact ⟨120, _, _, _, _, _, rfl, rfl, zFLk.refl O, hJ, by decide, fun _ => by rw [← a]; exact nm, fun _ => ⟨rfl, rfl, rfl, rfl⟩⟩
theorem zin_4 {k : Nat} (hk : k < 4) : fX12_in (zI k) 0 3 = some 1 := by
  unfold fX12_in fX12_in_15
  rw [if_neg (by rw [zn0, zI_lt (by omega) (by omega)]; omega), if_neg (by rw [zn3, zI_lt (by omega) (by omega)]; omega), if_pos znb1]
theorem zno_in {x : Int32} (hx : x < 0 ∨ 4 ≤ x) : fX12_in x 0 3 = some 0 := by
  unfold fX12_in fX12_in_14 fX12_in_15
  rcases hx with h | h
  · rw [if_pos h, if_pos znb0]
  · have h3 : (3 : Int32) < x := by
      rw [z32lt]
      rw [z32le] at h
      have a : (3 : Int32).toInt = 3 := by decide
      have b : (4 : Int32).toInt = 4 := by decide
      omega
    rw [if_pos h3, if_pos znb0]
    split <;> rfl
theorem zcall_kept {k : Nat} (hk : k < 4) (hP : zPw n m q P) (hR : zRl n m q P O) (hJ : zJc n m q K P W sS D Q B Z E H) (hS : zSnap k M O) : ∃ v W2 s2 D2 Q2 O2, fX11_kept_0 C P W sS D Q M = some (v, W2, s2, D2, Q2) ∧ fX12_kept O (zI k) = some (v, O2) ∧ zgi O2 9 = 0 ∧ zFc O O2 ∧ zJc n m q K P W2 s2 D2 Q2 B Z E H := by
  obtain ⟨v, W2, s2, D2, Q2, O2, f1, g1, g2, j, nr, -, -⟩ := zhow (C := C) (O := zsi O 9 0) hk hP (zRl_i hR (by omega)) hJ (zSnap_c hS zFc_9)
  unfold fX11_kept_0 fX12_kept fX12_kept_23
  rw [f1, zbq, if_pos nr, zin_4 hk, zbq, eX12_checked, if_neg (show ¬ (1 : Int32) = 0 by decide), zbq, if_pos (show (0 : Int32) ≤ 0 by decide), g1, zbq, if_pos nr]
  exact ⟨_, _, _, _, _, _, rfl, rfl, by rw [g2.1 9 (by omega), gi_si], zFc_9.trans (zFc_k g2), j⟩
theorem zno_kept {x : Int32} (hx : x < 0 ∨ 4 ≤ x) : fX12_kept O x = some (32, zsi O 9 1) := by
  unfold fX12_kept fX12_kept_23
  rw [zno_in hx, zbq, eX12_checked, if_pos rfl, zbq, if_neg (show ¬ (1 : Int32) ≤ 0 by decide), if_pos (show znar .char (32 : Int32) = true by decide)]
theorem zcall_brokenBy {k : Nat} (hk : k < 4) (hP : zPw n m q P) (hR : zRl n m q P O) (hJ : zJc n m q K P W sS D Q B Z E H) (hS : zSnap k M O) : ∃ r v W2 s2 D2 Q2 O2, fX11_brokenBy_0 C P W sS D Q M = some (r, W2, s2, D2, Q2) ∧ fX12_brokenBy O (zI k) = some (v, O2) ∧ zAg [("java/lang/IllegalArgumentException", 1), ("java/util/NoSuchElementException", 2), ("java/lang/UnsupportedOperationException", 3)] r v (zgi O2 9) ∧ zFc O O2 ∧ zJc n m q K P W2 s2 D2 Q2 B Z E H := by
  obtain ⟨v, W2, s2, D2, Q2, O2, f1, g1, g2, j, nr, h120, -⟩ := zhow (C := C) hk hP hR hJ hS
  have fr : ∀ c : Int32, zFc O (zsi O2 9 c) := fun c => (zFc_k g2).trans zFc_9
  have hS2 := zSnap_c hS (zFc_k g2)
  have hR2 := zRl_k hR g2
  have ck : zin (zI k) 4 = true := zin_zI hk (by omega)
  unfold fX11_brokenBy_0 fX12_brokenBy fX12_brokenBy_46 fX12_brokenBy_65
  rw [f1, zbq, zin_4 hk, zbq, if_neg (show ¬ (1 : Int32) = 0 by decide), g1, zbq]
  by_cases c : v = 120
  · rw [if_pos c, if_pos c, if_pos ck, zI_nat (by omega)]
    rcases hS2 with ⟨a, -⟩ | ⟨n0, X0, Y0, h0, a, b, hM, hY, hX0, hY0, hs⟩
    · exact absurd a (h120 c)
    · rw [a, b, hP.2.2.2.1, hR2.1]
      by_cases d : zI n0 = zI n
      · rw [if_pos d, if_pos d, zlq, gi_si, if_pos (show (0 : Int32) ≤ 0 by decide)]
        obtain ⟨w, w1, w2⟩ := eX5_breakerOf hP hM hX0
        obtain ⟨u, u1, u2⟩ := eX12_breaks (O := zsi O2 9 0) hP (zRl_i hR2 (by omega)) hk (show zSnR (zsi O2 9 0) k Y0 from ⟨hY.1, hY.2⟩) hY0
        have e : u = w := zBr_one u2 (zBr_same hP.1 hs hX0.2.1 hY0.2.1 w2)
        rw [w1, zbq, u1, zbq, e]
        exact ⟨_, _, _, _, _, _, _, rfl, rfl, Or.inl ⟨rfl, by rw [gi_si]⟩, fr 0, j⟩
      · rw [if_neg d, if_neg d, zlq, gi_si, if_neg (show ¬ (3 : Int32) ≤ 0 by decide)]
        exact ⟨_, _, _, _, _, _, _, rfl, rfl, Or.inr ⟨_, rfl, by rw [gi_si]; simp⟩, fr 3, j⟩
  · rw [if_neg c, if_neg c, zlq, gi_si, if_neg (show ¬ (2 : Int32) ≤ 0 by decide)]
    exact ⟨_, _, _, _, _, _, _, rfl, rfl, Or.inr ⟨_, rfl, by rw [gi_si]; simp⟩, fr 2, j⟩
theorem zno_brokenBy {x : Int32} (hx : x < 0 ∨ 4 ≤ x) : fX12_brokenBy O x = some (0, zsi O 9 1) := by
  unfold fX12_brokenBy fX12_brokenBy_46 fX12_brokenBy_65
  rw [zno_in hx, zbq, if_pos rfl, zlq, gi_si, if_neg (show ¬ (1 : Int32) ≤ 0 by decide)]
theorem zkeep_st {k c f fd : Nat} {v : Int32} {O : zSt} (hfd : zgi O 35 = zI fd) (h600 : fd < 600) (hk : k < 4) (hc : c < 3) : fX12_keep_57 (f + 1) O (zI k) v (zI c) = fX12_keep_57 f (zsb O 37 (vp_updL (zgb O 37) (3 * k + c) (zgb O 21 (3 * fd + c)))) (zI k) v (zI (c + 1)) := by
  rw [fX12_keep_57, if_neg (by rw [zn3, zI_le (by omega) (by omega)]; omega), hfd, show (3 : Int32) * zI fd + zI c = zI (3 * fd + c) by rw [zn3, zI_mul, zI_add], show (3 : Int32) * zI k + zI c = zI (3 * k + c) by rw [zn3, zI_mul, zI_add], if_pos (zin_zI (by omega) (by omega)), if_pos (zin_zI (by omega) (by omega)), zlq, zlq, zI_succ, zI_nat (by omega), zI_nat (by omega)]
theorem zkq_n {O : zSt} {f1 f2 f3 : Nat → Int64} {j : Nat} (h37 : j ≠ 37) : zgb (zsb (zsb (zsb O 37 f1) 37 f2) 37 f3) j = zgb O j := by
  rw [gb_sbn h37, gb_sbn h37, gb_sbn h37]
theorem zkp_n {O : zSt} {f1 f2 f3 f4 : Nat → Int64} {f5 : Nat → Int32} {j : Nat} (h37 : j ≠ 37) (h38 : j ≠ 38) : zgb (zsa (zsb (zsb (zsb (zsb O 37 f1) 37 f2) 37 f3) 38 f4) 39 f5) j = zgb O j := by
  rw [gb_sa, gb_sbn h38, zkq_n h37]
theorem zkp_38 {O : zSt} {f1 f2 f3 f4 : Nat → Int64} {f5 : Nat → Int32} : zgb (zsa (zsb (zsb (zsb (zsb O 37 f1) 37 f2) 37 f3) 38 f4) 39 f5) 38 = f4 := by
  rw [gb_sa, gb_sb]
theorem zkp_37 {O : zSt} {f1 f2 f3 f4 : Nat → Int64} {f5 : Nat → Int32} : zgb (zsa (zsb (zsb (zsb (zsb O 37 f1) 37 f2) 37 f3) 38 f4) 39 f5) 37 = f3 := by
  rw [gb_sa, gb_sbn (by omega), gb_sb]
theorem zkeep_57 {k f fd : Nat} {v : Int32} {O : zSt} (hfd : zgi O 35 = zI fd) (h600 : fd < 600) (hk : k < 4) (hv : znar .char v = true) : ∃ O2, fX12_keep_57 (f + 4) O (zI k) v (zI 0) = some (v, O2) ∧ zFk k O O2 ∧ zgi O2 9 = zgi O 9 ∧ zga O2 39 k = zgi O 10 ∧ zSnR O2 k (zVp O fd) := by
  have ck : zin (zI k) 4 = true := zin_zI hk (by omega)
  rw [zkeep_st hfd h600 hk (by omega), zkeep_st (by exact hfd) h600 hk (by omega), zkeep_st (by exact hfd) h600 hk (by omega), fX12_keep_57, if_pos (show (3 : Int32) ≤ zI (0 + 1 + 1 + 1) by rw [zn3, zI_le (by omega) (by omega)]; omega)]
  have e35 : ∀ (A : zSt) (g : Nat → Int64), zgi (zsb A 37 g) 35 = zgi A 35 := fun _ _ => rfl
  rw [e35, e35, e35, hfd, if_pos (zin_zI h600 (by omega)), if_pos ck, zlq, if_pos ck, zlq, if_pos hv, zI_nat (by omega), zI_nat (by omega)]
  refine ⟨_, rfl, ⟨fun _ _ _ => rfl, fun _ => rfl, fun j hj _ => ?_, fun j h37 h38 _ => zkp_n h37 h38, fun j hj => ⟨?_, ?_, fun i hi => ?_⟩⟩, rfl, ?_, ?_, fun i hi => ?_⟩
  · exact ga_san hj
  · rw [ga_sa, upd_n hj]; rfl
  · rw [zkp_38, updL_n hj]; exact congrFun (zkq_n (by omega)) j
  · rw [zkp_37, updL_n (by omega), gb_sb, updL_n (by omega), gb_sb, updL_n (by omega)]
  · rw [ga_sa, upd_s rfl]; rfl
  · rw [zkp_38, updL_s rfl, zkq_n (by omega)]
    rfl
  · rw [zkp_37]
    rcases zlt3 hi with rfl | rfl | rfl
    · rw [updL_n (by omega), gb_sb, updL_n (by omega), gb_sb, updL_s rfl]
      exact zVp_co O fd (by omega)
    · rw [updL_n (by omega), gb_sb, updL_s rfl, gb_sbn (by omega)]
      exact zVp_co O fd (by omega)
    · rw [updL_s rfl, gb_sbn (by omega), gb_sbn (by omega)]
      exact zVp_co O fd (by omega)
theorem zcall_keep {k : Nat} (hk : k < 4) (hP : zPw n m q P) (hR : zRl n m q P O) (hJ : zJc n m q K P W sS D Q B Z E H) (hS : zSnap k M O) : ∃ r v W2 s2 D2 Q2 M2 O2, fX11_keep_0 C P W sS D Q M = some (r, W2, s2, D2, Q2, M2) ∧ fX12_keep O (zI k) = some (v, O2) ∧ zAg [("java/lang/IllegalArgumentException", 1), ("java/util/NoSuchElementException", 2)] r v (zgi O2 9) ∧ zFk k O O2 ∧ zJc n m q K P W2 s2 D2 Q2 B Z E H ∧ zSnap k M2 O2 := by
  have hn := hP.1
  obtain ⟨W2, s2, D2, Q2, O2, X, f1, g1, g2, j, h10, hR2, -, hb⟩ := zdemandBest (C := C) hP hR hJ
  have fr : ∀ c : Int32, zFc O (zsi O2 9 c) := fun c => (zFc_k g2).trans zFc_9
  unfold fX11_keep_0 fX12_keep fX12_keep_32
  rw [f1, zbq, g1, zbq, zin_4 hk, zbq, if_neg (show ¬ (1 : Int32) = 0 by decide)]
  rcases hb with ⟨h5, h36, -⟩ | ⟨h5, h36⟩
  · rw [if_pos h5, if_pos h36]
    simp only [Sum.elim_inr]
    obtain ⟨v, W3, s3, D3, Q3, O3, k1, k2, k3, -, nr, -, k4⟩ := zhow (C := C) (O := zsi O2 9 0) hk hP (zRl_i hR2 (by omega)) j (zSnap_c hS (fr 0))
    obtain ⟨e2, e3, e4, e5⟩ := k4 h10
    rw [e2, e3, e4, e5] at k1
    have hR3 := zRl_k (zRl_i (k := 9) (v := 0) hR2 (by omega)) k3
    obtain ⟨W4, s4, D4, Q4, o, ins, O4, l1, l2, l3, -, l4, -, -, -⟩ := zsees hP hR3 j
    rw [zfb_eq h10] at l1
    injection l1 with l1
    injection l1 with t2 l1
    injection l1 with t3 l1
    injection l1 with t4 t5
    rw [← t2, ← t5] at l4
    rcases zAns_best l4 with ⟨-, -, hX, hQ, hQ2, -, fd, np, hB, hS2⟩ | ⟨h, -⟩
    · obtain ⟨M2, m1, m2, m3⟩ := eX4_copy (A := M) hQ
      have hnp := hB.2.2.1
      have hfd := hB.2.1
      obtain ⟨O5, o1, o2, o3, o4, o5⟩ := zkeep_57 (f := 5996) (k := k) hB.1 (by omega) hk nr
      rw [← zn0] at o1
      rw [k1, zbq, m1, zbq, if_pos nr, zlq, gi_si, if_pos (show (0 : Int32) ≤ 0 by decide), k2, zbq, l2, zbq, o1]
      have z9 : zgi O5 9 = 0 := by rw [o3, l3.1 9 (by omega), k3.1 9 (by omega), gi_si]
      have e10 : zgi O4 10 = zI n := by rw [l3.1 10 (by omega)]; exact hR3.1
      refine ⟨_, _, _, _, _, _, _, _, rfl, rfl, Or.inl ⟨rfl, z9⟩, ?_, j, Or.inr ⟨n, _, _, hn, by rw [m3, hQ2], by rw [o4, e10], m2, o5, hX, zBp_bd hB, zSame_sym hS2⟩⟩
      exact (zFk_c ((fr 0).trans ((zFc_k k3).trans (zFc_k l3)))).trans o2
    · exact absurd h5 h
  · rw [if_neg h5, if_neg h36]
    simp only [Sum.elim_inl]
    rw [zlq, gi_si, if_neg (show ¬ (2 : Int32) ≤ 0 by decide)]
    exact ⟨_, _, _, _, _, _, _, _, rfl, rfl, Or.inr ⟨_, rfl, by rw [gi_si]; simp⟩, zFk_c (fr 2), j, zSnap_c hS (fr 2)⟩
theorem zno_keep {x : Int32} (hP : zPw n m q P) (hR : zRl n m q P O) (hJ : zJc n m q K P W sS D Q B Z E H) (hx : x < 0 ∨ 4 ≤ x) : ∃ O2, fX12_keep O x = some (32, O2) ∧ zgi O2 9 = 1 ∧ zFc O O2 := by
  obtain ⟨W2, s2, D2, Q2, O2, X, f1, g1, g2, j, h10, hR2, -, hb⟩ := zdemandBest (C := O) hP hR hJ
  unfold fX12_keep fX12_keep_32
  rw [g1, zbq, zno_in hx, zbq, if_pos rfl, zlq, gi_si, if_neg (show ¬ (1 : Int32) ≤ 0 by decide)]
  exact ⟨_, rfl, by rw [gi_si], (zFc_k g2).trans zFc_9⟩
end ZSNAPS
