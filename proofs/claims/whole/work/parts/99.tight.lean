/-! 99: what is tight at the reference's best point. -/
theorem zsame_ev {X Y : zV} (h : zSame X Y) (F : zV) : zev F X * Y.2.2.2 = zev F Y * X.2.2.2 := by
  have h0 : X.1 * Y.2.2.2 = Y.1 * X.2.2.2 := h 0 (by omega)
  have h1 : X.2.1 * Y.2.2.2 = Y.2.1 * X.2.2.2 := h 1 (by omega)
  have h2 : X.2.2.1 * Y.2.2.2 = Y.2.2.1 * X.2.2.2 := h 2 (by omega)
  unfold zev
  generalize X.2.2.2 = xw at *
  generalize Y.2.2.2 = yw at *
  grind
theorem zsame_0 {X Y : zV} (h : zSame X Y) (hX : 0 < X.2.2.2) (hY : 0 < Y.2.2.2) (F : zV) : zev F X = 0 ↔ zev F Y = 0 := by
  have e := zsame_ev h F
  constructor
  · intro k
    rw [k, Int.zero_mul] at e
    rcases Int.mul_eq_zero.mp e.symm with g | g
    · exact g
    · omega
  · intro k
    rw [k, Int.zero_mul] at e
    rcases Int.mul_eq_zero.mp e with g | g
    · exact g
    · omega
theorem zsame_co {X Y : zV} (h : zSame X Y) (hX : 0 < X.2.2.2) (hY : 0 < Y.2.2.2) {i : Nat} (hi : i < 3) (e : Int) : zco X i = e * X.2.2.2 ↔ zco Y i = e * Y.2.2.2 := by
  have k := zsame_0 h hX hY (zEp i e)
  rw [zEp_ev i e X hi, zEp_ev i e Y hi] at k
  omega
section ZTIGHT
variable {n m q fd np : Nat} {P O : zSt}
/-- the reference's best point -/
def zBp (O : zSt) (fd np : Nat) : Prop := zgi O 35 = zI fd ∧ fd < np ∧ np ≤ 220 ∧ zbP O np
theorem zVp_co (O : zSt) (p : Nat) {i : Nat} (hi : i < 3) : (zgb O 21 (3 * p + i)).toInt = zco (zVp O p) i := by
  rcases zlt3 hi with rfl | rfl | rfl <;> rfl
theorem zBp_bd (h : zBp O fd np) : zBd (zVp O fd) := by
  have e := h.2.2.2 fd h.2.1
  exact ⟨fun i hi => by rw [← zVp_co O fd hi]; exact e.1 i hi, e.2.1, by have := zab_hi e.2.2; show (zgb O 22 fd).toInt ≤ _; omega⟩
theorem zrt_step {r c f : Nat} {x : Int64} {A : Nat} (hP : zPw n m q P) (hR : zRl n m q P O) (hB : zBp O fd np) (hr : r < m) (hc : c < 3) (hx : zab x.toInt A) (hA : A < 1000000000) : ∃ x2 : Int64, fX12_isRowTight_5 O (f + 1) (zI r) x (zI c) = fX12_isRowTight_5 O f (zI r) x2 (zI (c + 1)) ∧ x2.toInt = x.toInt + (zga P 2 (r * 3 + c)).toInt * zco (zVp O fd) c ∧ zab x2.toInt (A + 212576400) := by
  have hm := hP.2.1
  have hbd := zBp_bd hB
  have hfd := hB.2.1
  have hnp := hB.2.2.1
  have hcf := ((hP.2.2.2.2.2.2.2.2.2.1 r hr).1 c hc).1
  have e := (hR.2.2.2.2.1 r hr).1 c hc
  have hv : zab (zgb O 21 (3 * fd + c)).toInt 23619600 := by rw [zVp_co O fd hc]; exact hbd.1 c hc
  have d := zdot (c := zga O 2 (3 * r + c)) hx (by rw [e]; exact hcf) hv (by omega) (by omega)
  rw [e, zVp_co O fd hc] at d
  refine ⟨x + (zga O 2 (3 * r + c)).toInt64 * zgb O 21 (3 * fd + c), ?_, by rw [e]; exact d.1, by rw [e]; exact zab_le d.2 (by omega)⟩
  rw [fX12_isRowTight_5, if_neg (by rw [zn3, zI_le (by omega) (by omega)]; omega), hB.1]
  simp only [zn3, zI_mul, zI_add]
  rw [if_pos (zin_zI (by omega) (by omega)), if_pos (zin_zI (by omega) (by omega)), zlq, zlq, zI_succ, zI_nat (by omega), zI_nat (by omega)]
theorem zrt_f {r f : Nat} (hP : zPw n m q P) (hR : zRl n m q P O) (hB : zBp O fd np) (hr : r < m) : fX12_isRowTight_5 O (f + 4) (zI r) 0 (zI 0) = some (if zev (zrc P r) (zVp O fd) = 0 then 1 else 0) := by
  have hm := hP.2.1
  have hbd := zBp_bd hB
  have hfd := hB.2.1
  have hnp := hB.2.2.1
  obtain ⟨x1, a1, b1, c1⟩ := zrt_step (f := f + 3) (c := 0) hP hR hB hr (by omega) z64zab0 (by omega)
  obtain ⟨x2, a2, b2, c2⟩ := zrt_step (f := f + 2) (c := 0 + 1) hP hR hB hr (by omega) c1 (by omega)
  obtain ⟨x3, a3, b3, c3⟩ := zrt_step (f := f + 1) (c := 0 + 1 + 1) hP hR hB hr (by omega) c2 (by omega)
  rw [a1, a2, a3, fX12_isRowTight_5, if_pos (by rw [zn3, zI_le (by omega) (by omega)]; omega), hB.1, if_pos (zin_zI (by omega) (by omega)), if_pos (zin_zI (by omega) (by omega)), zI_nat (by omega), zI_nat (by omega)]
  unfold fX12_isRowTight_74
  rw [if_pos znb1, if_pos znb0]
  have hn := (hP.2.2.2.2.2.2.2.2.2.1 r hr).2.2
  have e4 := (hR.2.2.2.2.1 r hr).2.2.1
  have w1 : zab (zga O 4 r).toInt64.toInt 99 := by rw [z32_64, e4]; exact hn
  have w2 : zab (zgb O 22 fd).toInt 23619600 := zBd_w hbd
  have mm := z64mul w1 w2 (by omega)
  rw [z32_64, e4] at mm
  have ev : zev (zrc P r) (zVp O fd) = x3.toInt - (zga P 4 r).toInt * (zgb O 22 fd).toInt := by
    have b2' : x2.toInt = x1.toInt + (zga P 2 (r * 3 + 1)).toInt * zco (zVp O fd) 1 := b2
    have b3' : x3.toInt = x2.toInt + (zga P 2 (r * 3 + 2)).toInt * zco (zVp O fd) 2 := b3
    rw [b3', b2', b1, z64_0]
    simp only [zev, zrc, zco, Nat.add_zero, Int.neg_mul, Int.zero_add]
    show _ + -((zga P 4 r).toInt * (zgb O 22 fd).toInt) = _
    omega
  by_cases c : zev (zrc P r) (zVp O fd) = 0
  · rw [if_pos c, if_pos (by rw [z64eq, e4, mm]; omega)]
  · rw [if_neg c, if_neg (by rw [z64eq, e4, mm]; omega)]
theorem eX12_isRowTight {r : Nat} (hP : zPw n m q P) (hR : zRl n m q P O) (hB : zBp O fd np) (hr : r < m) : fX12_isRowTight O (zI r) = some (if zev (zrc P r) (zVp O fd) = 0 then 1 else 0) := by
  unfold fX12_isRowTight
  rw [zn0]
  exact zrt_f (f := 5996) hP hR hB hr
theorem ztrr_4 {X : zV} (hP : zPw n m q P) (hR : zRl n m q P O) (hB : zBp O fd np) (hX : 0 < X.2.2.2) (hs : zSame (zVp O fd) X) : ∀ (d r f : Nat), r + d = m → d < f → fX12_tightRows_4 O f (zI (zcnt (ztR P X) r)) (zI r) = some (zI (zcnt (ztR P X) m))
  | 0, r, f + 1, hr, hf => by
    have e : r = m := by omega
    subst e
    rw [fX12_tightRows_4, hR.2.1, if_pos (Int32.le_refl _)]
  | d + 1, r, f + 1, hr, hf => by
    have hm := hP.2.1
    have hlive := (hR.2.2.2.2.1 r (by omega)).2.2.2
    have ih := ztrr_4 hP hR hB hX hs d (r + 1) f (by omega) (by omega)
    have e0 : ∀ a : Nat, zI a + (0 : Int32) = zI a := fun a => Int32.add_zero _
    rw [fX12_tightRows_4, hR.2.1, if_neg (by rw [zI_le (by omega) (by omega)]; omega), if_pos (zin_zI (by omega) (by omega)), zI_nat (by omega)]
    by_cases c : zga O 6 r = 0
    · have c2 := hlive.mp c
      rw [if_pos c, eX12_isRowTight hP hR hB (by omega), zbq]
      have same := zsame_0 hs (zBp_bd hB).2.1 hX (zrc P r)
      by_cases e : zev (zrc P r) (zVp O fd) = 0
      · rw [if_pos e, if_neg (by decide)]
        unfold fX12_tightRows_35
        rw [zlq, zlq, zI_succ, zI_succ]
        rw [zcnt_t (show ztR P X r = true by unfold ztR; simp [c2, same.mp e])] at ih
        exact ih
      · rw [if_neg e, if_pos rfl]
        unfold fX12_tightRows_34 fX12_tightRows_35
        rw [zlq, zlq, zI_succ, e0]
        rw [zcnt_f (show ztR P X r = false by unfold ztR; rw [decide_eq_false (show ¬ zev (zrc P r) X = 0 from fun h => e (same.mpr h)), Bool.and_false])] at ih
        exact ih
    · have c2 : zga P 5 r = 0 := by
        by_cases g : zga P 5 r = 0
        · exact g
        · exact absurd (hlive.mpr g) c
      rw [if_neg c]
      unfold fX12_tightRows_34 fX12_tightRows_35
      rw [zlq, zlq, zI_succ, e0]
      rw [zcnt_f (show ztR P X r = false by unfold ztR; simp [c2])] at ih
      exact ih
theorem eX12_tightRows {X : zV} (hP : zPw n m q P) (hR : zRl n m q P O) (hB : zBp O fd np) (hX : 0 < X.2.2.2) (hs : zSame (zVp O fd) X) : fX12_tightRows O = some (zI (zcnt (ztR P X) m)) := by
  unfold fX12_tightRows
  rw [zn0]
  exact ztrr_4 hP hR hB hX hs m 0 6000 (by omega) (by have := hP.2.1; omega)
end ZTIGHT
