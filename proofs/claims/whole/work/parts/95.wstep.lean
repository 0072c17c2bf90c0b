/-! 95: one whole point, both ways. -/
def zFW (A B : zSt) : Prop := (∀ k, zgi B k = zgi A k) ∧ (∀ k, zgl B k = zgl A k) ∧ (∀ k, zga B k = zga A k) ∧ (∀ k, k ≠ 27 → k ≠ 30 → zgb B k = zgb A k) ∧ zgb B 27 3 = zgb A 27 3
theorem zFW.refl (O : zSt) : zFW O O := ⟨fun _ => rfl, fun _ => rfl, fun _ => rfl, fun _ _ _ => rfl, rfl⟩
theorem zFW.trans {A B C : zSt} (h : zFW A B) (g : zFW B C) : zFW A C := ⟨fun k => (g.1 k).trans (h.1 k), fun k => (g.2.1 k).trans (h.2.1 k), fun k => (g.2.2.1 k).trans (h.2.2.1 k), fun k a b => (g.2.2.2.1 k a b).trans (h.2.2.2.1 k a b), g.2.2.2.2.trans h.2.2.2.2⟩
theorem zRl_W {n m q : Nat} {P O O2 : zSt} (h : zRl n m q P O) (hf : zFW O O2) : zRl n m q P O2 := by
  unfold zRl at h ⊢
  simp only [hf.1, hf.2.2.1]
  exact h
theorem zPl_W {O O2 : zSt} {L : List (zV × Nat)} (h : zPl O L) (hf : zFW O O2) : zPl O2 L := by
  unfold zPl at h ⊢
  rw [hf.1, hf.2.2.2.1 19 (by omega) (by omega), hf.2.2.2.1 20 (by omega) (by omega), hf.2.2.1]
  exact h
def zWb (Z E : zSt) (x1 : Int32) (O : zSt) : Prop :=
  (zgi Z 3 = 0 ∧ x1 = 0) ∨ (zgi Z 3 = 1 ∧ x1 = 1 ∧ ∃ Y, zQp E Y ∧ zWX Y ∧ ∀ i, i < 3 → (zgb O 30 i).toInt = zco Y i)
theorem zwco_199 {k37 : zSt → Int32 → Int32 → Option (Int32 × zSt)} {k77 : zSt → Int32 → Int32 → Int32 → Option (Int32 × zSt)} {k119 : zSt → Int32 → Int32 → Int32 → Int32 → Option (Int32 × zSt)} {x2 x3 x4 : Int32} : ∀ (d i f : Nat) (O : zSt), i + d = 3 → d < f → (∀ k, k < i → zgb O 30 k = zgb O 27 k) → ∃ O2, fX12_findsWhole_199 k37 k77 k119 f O x2 x3 x4 (zI i) = k119 O2 1 x2 x3 (x4 + 1) ∧ zFW O O2 ∧ zgb O2 27 = zgb O 27 ∧ ∀ k, k < 3 → zgb O2 30 k = zgb O 27 k
  | 0, i, f + 1, O, hi, hf, h => by
    rw [fX12_findsWhole_199, if_pos (by rw [zn3, zI_le (by omega) (by omega)]; omega)]
    unfold fX12_findsWhole_227
    rw [zlq]
    exact ⟨O, rfl, zFW.refl O, rfl, fun k hk => h k (by omega)⟩
  | d + 1, i, f + 1, O, hi, hf, h => by
    rw [fX12_findsWhole_199, if_neg (by rw [zn3, zI_le (by omega) (by omega)]; omega), if_pos (zin_zI (by omega) (by omega)), if_pos (zin_zI (by omega) (by omega)), zlq, zlq, zI_succ, zI_nat (by omega)]
    obtain ⟨O2, g1, g2, g3, g4⟩ := zwco_199 (k37 := k37) (k77 := k77) (k119 := k119) (x2 := x2) (x3 := x3) (x4 := x4) d (i + 1) f (zsb O 30 (vp_updL (zgb O 30) i (zgb O 27 i))) (by omega) (by omega) (fun k hk => by
      rw [gb_sb, gb_sbn (by omega)]
      by_cases e : k = i
      · rw [updL_s e, e]
      · rw [updL_n e]; exact h k (by omega))
    rw [gb_sbn (by omega)] at g3 g4
    have fr : zFW O (zsb O 30 (vp_updL (zgb O 30) i (zgb O 27 i))) := ⟨fun _ => rfl, fun _ => rfl, fun _ => rfl, fun k _ h2 => gb_sbn h2, by rw [gb_sbn (by omega)]⟩
    exact ⟨O2, g1, fr.trans g2, g3, g4⟩
theorem zwstep {n m q : Nat} {P O Z E H : zSt} {L : List (zV × Nat)} {x1 x2 x3 x4 y0 y1 : Int32} {X : zV} (hP : zPw n m q P) (hR : zRl n m q P O) (hPl : zPl O L) (hlen : L.length ≤ 16) (hb : ∀ (k : Nat) (v : zV × Nat), L[k]? = some v → zvb v.1) (hkd : ∀ (k : Nat) (v : zV × Nat), L[k]? = some v → v.2 < 3) (hfit : ∀ X, zfit L L.length X ↔ (∀ s, s < (zGa P 0 (-1) n m).length → 0 ≤ zev (zSo (zGa P 0 (-1) n m) s) X) ∧ ∀ i, i < 3 → n ≤ i → zco X i = 0) (hH : zQp H X) (hX : zWX X) (hz : ∀ i, i < 3 → n ≤ i → zco X i = 0) (h2 : x2.toInt = zco X 0) (h3 : x3.toInt = zco X 1) (h4 : x4.toInt = zco X 2) (h273 : zgb O 27 3 = 1) (hy : ¬ y1 < y0) (hW : zWb Z E x1 O) (k37 : zSt → Int32 → Int32 → Option (Int32 × zSt)) (k77 : zSt → Int32 → Int32 → Int32 → Option (Int32 × zSt)) (k119 : zSt → Int32 → Int32 → Int32 → Int32 → Option (Int32 × zSt)) : ∃ Z2 E2 x1' O2, fX10_lookAt Z P E H = some (Z2, E2) ∧ fX12_findsWhole_139 k37 k77 k119 O x1 x2 x3 x4 y0 y1 = k119 O2 x1' x2 x3 (x4 + 1) ∧ zWb Z2 E2 x1' O2 ∧ zFW O O2 := by
  have hbd := zWX_bd hX
  have hw : 0 ≤ X.2.2.2 := by rw [hX.1]; omega
  obtain ⟨v, v1, v2⟩ := eX5_breakerOf hP hH hbd
  have hfe := zbr_feas hP hw hz
  -- the reference's point
  let O1 := zsb (zsb (zsb O 27 (vp_updL (zgb O 27) 0 x2.toInt64)) 27 (vp_updL (zgb (zsb O 27 (vp_updL (zgb O 27) 0 x2.toInt64)) 27) 1 x3.toInt64)) 27 (vp_updL (zgb (zsb (zsb O 27 (vp_updL (zgb O 27) 0 x2.toInt64)) 27 (vp_updL (zgb (zsb O 27 (vp_updL (zgb O 27) 0 x2.toInt64)) 27) 1 x3.toInt64)) 27) 2 x4.toInt64)
  have hO1 : O1 = zsb (zsb (zsb O 27 (vp_updL (zgb O 27) 0 x2.toInt64)) 27 (vp_updL (zgb (zsb O 27 (vp_updL (zgb O 27) 0 x2.toInt64)) 27) 1 x3.toInt64)) 27 (vp_updL (zgb (zsb (zsb O 27 (vp_updL (zgb O 27) 0 x2.toInt64)) 27 (vp_updL (zgb (zsb O 27 (vp_updL (zgb O 27) 0 x2.toInt64)) 27) 1 x3.toInt64)) 27) 2 x4.toInt64) := rfl
  have fr1 : zFW O O1 := by
    rw [hO1]
    refine ⟨fun _ => rfl, fun _ => rfl, fun _ => rfl, fun k a b => by rw [gb_sbn a, gb_sbn a, gb_sbn a], ?_⟩
    rw [gb_sb, updL_n (by omega), gb_sb, updL_n (by omega), gb_sb, updL_n (by omega)]
  have g0 : zgb O1 27 0 = x2.toInt64 := by rw [hO1, gb_sb, updL_n (by omega), gb_sb, updL_n (by omega), gb_sb, updL_s rfl]
  have g1 : zgb O1 27 1 = x3.toInt64 := by rw [hO1, gb_sb, updL_n (by omega), gb_sb, updL_s rfl]
  have g2 : zgb O1 27 2 = x4.toInt64 := by rw [hO1, gb_sb, updL_s rfl]
  have g30 : zgb O1 30 = zgb O 30 := by rw [hO1, gb_sbn (by omega), gb_sbn (by omega), gb_sbn (by omega)]
  have hsol : zSol O1 X := by
    refine ⟨fun k hk => ?_, ?_⟩
    · rcases zlt3 hk with rfl | rfl | rfl
      · rw [g0, z32_64, h2]
      · rw [g1, z32_64, h3]
      · rw [g2, z32_64, h4]
    · rw [fr1.2.2.2.2, h273, hX.1]; decide
  obtain ⟨y, y1', y2⟩ := eX12_fits (zPl_W hPl fr1) hlen hb hkd hsol ⟨hbd.1, zBd_w hbd⟩ (many := L.length) (Nat.le_refl _)
  have h31 : zgi O1 31 = zI L.length := (zPl_W hPl fr1).1
  have hR1 := zRl_W hR fr1
  have start : fX12_findsWhole_139 k37 k77 k119 O x1 x2 x3 x4 y0 y1 = (if y = 0 then fX12_findsWhole_227 k37 k77 k119 O1 x1 x2 x3 x4 else if x1 = 0 then fX12_findsWhole_196 k37 k77 k119 O1 x2 x3 x4 else (fX12_isWholeBetter O1 x2 x3 x4).bind (fun o187 => if o187 = 0 then fX12_findsWhole_227 k37 k77 k119 O1 x1 x2 x3 x4 else fX12_findsWhole_196 k37 k77 k119 O1 x2 x3 x4)) := by
    unfold fX12_findsWhole_139
    rw [if_neg hy, if_pos (by decide), zlq, if_pos (by decide), zlq, if_pos (by decide), zlq]
    rw [show ((0 : Int32)).toNatClampNeg = 0 from rfl, show ((1 : Int32)).toNatClampNeg = 1 from rfl, show ((2 : Int32)).toNatClampNeg = 2 from rfl, ← hO1, h31, y1', zbq]
  have skip : zWb Z E x1 O1 := by
    unfold zWb at hW ⊢
    rw [g30]
    exact hW
  have skip2 : fX12_findsWhole_227 k37 k77 k119 O1 x1 x2 x3 x4 = k119 O1 x1 x2 x3 (x4 + 1) := by
    unfold fX12_findsWhole_227
    rw [zlq]
  have take : ∃ Z2 E2 x1' O2, fX10_lookAt_41 P H Z E = some (Z2, E2) ∧ fX12_findsWhole_196 k37 k77 k119 O1 x2 x3 x4 = k119 O2 x1' x2 x3 (x4 + 1) ∧ zWb Z2 E2 x1' O2 ∧ zFW O O2 := by
    obtain ⟨E2, e1, e2, -⟩ := eX4_copy (A := E) hH
    obtain ⟨O2, w1, w2, w3, w4⟩ := zwco_199 (k37 := k37) (k77 := k77) (k119 := k119) (x2 := x2) (x3 := x3) (x4 := x4) 3 0 6000 O1 (by omega) (by omega) (fun k hk => by omega)
    unfold fX10_lookAt_41 fX10_lookAt_57 fX12_findsWhole_196
    rw [e1, zbq, zlq, zn0, w1]
    refine ⟨_, E2, 1, O2, rfl, rfl, Or.inr ⟨gi_si, rfl, X, e2, hX, fun i hi => ?_⟩, fr1.trans w2⟩
    rw [w4 i hi]
    exact hsol.1 i hi
  rw [start]
  unfold fX10_lookAt
  rw [v1, zbq]
  by_cases c : v = 100
  · have hf : zfit L L.length X := (hfit X).mpr ⟨(hfe.mp (by rw [c] at v2; exact v2)).2, hz⟩
    have hy1 : y = 1 := by
      rcases y2 with ⟨k, -⟩ | ⟨-, k⟩
      · exact k
      · exact absurd hf k
    rw [if_pos c, if_neg (show ¬ y = 0 by rw [hy1]; decide)]
    rcases hW with ⟨w3, w1⟩ | ⟨w3, w1, Y, q1, q2, q3⟩
    · rw [if_pos w3, if_pos w1]
      exact take
    · rw [if_neg (show ¬ zgi Z 3 = 0 by rw [w3]; decide), if_neg (show ¬ x1 = 0 by rw [w1]; decide)]
      obtain ⟨r, r1, r2⟩ := eX5_compareByAims hP hH q1 hbd (zWX_bd q2)
      obtain ⟨t, t1, t2⟩ := eX12_isWholeBetter hP hR1 hX q2 h2 h3 h4 (fun i hi => by rw [g30]; exact q3 i hi)
      rw [r1, zbq, t1, zbq]
      rcases t2 with ⟨k, kk⟩ | ⟨k, kk⟩
      · have rle : r ≤ 0 := by
          by_cases g : r ≤ 0
          · exact g
          · exact absurd (r2.mp g) kk
        rw [if_pos rle, if_pos k, skip2]
        unfold fX10_lookAt_57
        exact ⟨Z, E, x1, O1, rfl, rfl, skip, fr1⟩
      · rw [if_neg (r2.mpr kk), if_neg (show ¬ t = 0 by rw [k]; decide)]
        exact take
  · have hf : ¬ zfit L L.length X := fun h => c (zBr_one v2 (hfe.mpr ⟨hw, ((hfit X).mp h).1⟩))
    have hy0 : y = 0 := by
      rcases y2 with ⟨-, k⟩ | ⟨k, -⟩
      · exact absurd k hf
      · exact k
    rw [if_neg c, if_pos hy0, skip2]
    unfold fX10_lookAt_57
    exact ⟨Z, E, x1, O1, rfl, rfl, skip, fr1⟩
