/-! 9q: tell, both ways. -/
/-- the walk, the corners, the whole points: their answers forgotten -/
def zFg (T : zSt × zSt × zSt) : zSt × zSt × zSt := (zsi T.1 9 0, zsi T.2.1 5 0, zsi T.2.2 4 0)
theorem zforget (C W K Z : zSt) : fX11_forgetAnswers C W K Z = some (zFg (W, K, Z)) := by
  unfold fX11_forgetAnswers
  simp only [zlq]
  rfl
theorem zTxt_ty {n len : Nat} {X O : zSt} (h : zTxt n len X O) : zTy n len X O := ⟨h.1, h.2.1, h.2.2.1, h.2.2.2.1, h.2.2.2.2.1, h.2.2.2.2.2.2⟩
theorem zRead_ty {n len : Nat} {X O : zSt} (h : zRead n len X O) : zTy n len X O := by
  rcases h with ⟨g, -⟩ | g
  · exact zTxt_ty g.1.1
  · exact zTxt_ty g.1
theorem zRl_tx {n m q : Nat} {P O O2 : zSt} (h : zRl n m q P O) (hf : zFtx O O2) : zRl n m q P O2 := by
  obtain ⟨g10, g11, g12, g0, gr, ga, gx⟩ := h
  obtain ⟨f1, -, f3, -⟩ := hf
  refine ⟨?_, ?_, ?_, ?_, ?_, ?_, ?_⟩
  · rw [f1 10 (by omega)]; exact g10
  · rw [f1 11 (by omega)]; exact g11
  · rw [f1 12 (by omega)]; exact g12
  · rw [f3 0 (by omega), f3 1 (by omega)]; exact g0
  · rw [f3 2 (by omega), f3 3 (by omega), f3 4 (by omega), f3 6 (by omega)]; exact gr
  · rw [f3 5 (by omega), f3 7 (by omega)]; exact ga
  · rw [f3 6 (by omega)]; exact gx
theorem eX12_leftRows_4 {O P : zSt} {m : Nat} (hm : m ≤ 12) (h11 : zgi O 11 = zI m) (h : ∀ r, r < m → (zga O 6 r = 0 ↔ zga P 5 r ≠ 0)) : ∀ (d i f : Nat), i + d = m → d < f → fX12_leftRows_4 O f (zI (zlv P i)) (zI i) = some (zI (zlv P m))
  | 0, i, f + 1, hi, hf => by
    have e : i = m := by omega
    subst e
    rw [fX12_leftRows_4, h11, if_pos (Int32.le_refl _)]
  | d + 1, i, f + 1, hi, hf => by
    have hl := zlv_le P i
    rw [fX12_leftRows_4, h11, if_neg (show ¬ zI m ≤ zI i by rw [zI_le (by omega) (by omega)]; omega), if_pos (zin_zI (by omega) (by omega)), zI_nat (by omega)]
    unfold fX12_leftRows_27
    simp only [zlq]
    have s : zlv P (i + 1) = zlv P i + if zga P 5 i = 0 then 0 else 1 := rfl
    have ih := eX12_leftRows_4 hm h11 h d (i + 1) f (by omega) (by omega)
    rw [s] at ih
    by_cases c : zga P 5 i = 0
    · rw [if_neg (show ¬ zga O 6 i = 0 from fun h2 => (h i (by omega)).mp h2 c), zI_succ, zn0, zI_add]
      rw [if_pos c] at ih
      exact ih
    · rw [if_pos ((h i (by omega)).mpr c), zI_succ, zI_succ]
      rw [if_neg c] at ih
      exact ih
theorem eX12_leftRows {n m q : Nat} {P O : zSt} (hP : zPw n m q P) (h : zRl n m q P O) : fX12_leftRows O = some (zI (zlv P m)) := by
  have hm := hP.2.1
  unfold fX12_leftRows
  exact eX12_leftRows_4 (P := P) hm h.2.1 (fun r hr => (h.2.2.2.2.1 r hr).2.2.2) m 0 6000 (by omega) (by omega)
theorem eX5_hasRoomForRow {n m q : Nat} {P : zSt} (hP : zPw n m q P) : fX5_hasRoomForRow P = some (if m = 12 ∨ zlv P m = 6 then 0 else 1) := by
  have hm := hP.2.1
  have hl := hP.2.2.2.2.2.2.1.2
  unfold fX5_hasRoomForRow fX5_hasRoomForRow_22 fX5_hasRoomForRow_23
  rw [hP.2.2.2.2.1, hP.2.2.2.2.2.2.1.1, if_pos znb0, if_pos znb1]
  by_cases c : m = 12
  · rw [if_pos (by rw [zn12, zI_le (by omega) (by omega)]; omega), if_pos (Or.inl c)]
  · rw [if_neg (by rw [zn12, zI_le (by omega) (by omega)]; omega)]
    by_cases c2 : zlv P m = 6
    · rw [if_pos (by rw [zn6, zI_le (by omega) (by omega)]; omega), if_pos (Or.inr c2)]
    · rw [if_neg (by rw [zn6, zI_le (by omega) (by omega)]; omega), if_neg (by omega)]
theorem eX5_hasRoomForAim {n m q : Nat} {P : zSt} (hP : zPw n m q P) : fX5_hasRoomForAim P = some (if q = 3 then 0 else 1) := by
  have hq := hP.2.2.1
  unfold fX5_hasRoomForAim fX5_hasRoomForAim_13
  rw [hP.2.2.2.2.2.1, if_pos znb0, if_pos znb1]
  by_cases c : q = 3
  · rw [if_pos (by rw [zn3, zI_le (by omega) (by omega)]; omega), if_pos c]
  · rw [if_neg (by rw [zn3, zI_le (by omega) (by omega)]; omega), if_neg c]
theorem eX5_putRow {n m q : Nat} {P X : zSt} (hP : zPw n m q P) (hm : m < 12) (hrel : zgi X 8 = 60 ∨ zgi X 8 = 61 ∨ zgi X 8 = 62) : fX5_putRow P X = some (zI m, zsa (zsa (zsi (zsi (zsa (zsa P 3 (upd (zga P 3) m (zgi X 8))) 5 (upd (zga P 5) m 1)) 9 (zI (m + 1))) 10 (zI (zlv P m + 1))) 4 (upd (zga P 4) m (zgi X 9))) 2 (fun k => if m * 3 + 0 ≤ k ∧ k < m * 3 + 3 then zga X 1 (k - m * 3) else zga P 2 k)) := by
  have cin : zin (zI m) 12 = true := zin_zI (by omega) (by omega)
  have c0 : ¬ zI m < 0 := by rw [zn0, zI_lt (by omega) (by omega)]; omega
  have c12 : ¬ (12 : Int32) ≤ zI m := by rw [zn12, zI_le (by omega) (by omega)]; omega
  have nr : vp_nar .char (zgi X 8) = zgi X 8 := by rcases hrel with e | e | e <;> rw [e] <;> decide
  have nb : vp_nar .boolean (1 : Int32) = 1 := by decide
  unfold fX5_putRow
  rw [zlq, hP.2.2.2.2.1, if_neg c0, if_neg c12, if_neg c12, if_pos cin, zlq, if_pos cin, zlq, zlq, zlq]
  unfold fX5_putRow_64 fX5_putNumber fX5_putNumber_20 fX5_putCoefficients
  rw [if_neg c0, if_neg c12, if_pos cin, zlq, zbq, nr, nb, zI_nat (by omega)]
  have e9 : zgi (zsa (zsa P 3 (upd (zga P 3) m (zgi X 8))) 5 (upd (zga (zsa P 3 (upd (zga P 3) m (zgi X 8))) 5) m 1)) 9 + (1 : Int32) = zI (m + 1) := by rw [gi_sa, gi_sa, hP.2.2.2.2.1, zI_succ]
  rw [e9, gi_sin (by omega), gi_sa, gi_sa, hP.2.2.2.2.2.2.1.1, zI_succ, zn0, zputC hm 3 0 6000 _ (by omega) (by omega), zbq, ga_san (by omega), ga_san (by omega), ga_si, ga_si, ga_san (by omega), ga_san (by omega), ga_si, ga_si, ga_san (by omega), ga_san (by omega)]
theorem eX5_putAim {n m q : Nat} {P X : zSt} (hP : zPw n m q P) (hq : q < 3) : fX5_putAim P X = some (zI q, zsa (zsi (zsa P 7 (upd (zga P 7) q (zgi X 7))) 11 (zI (q + 1))) 6 (fun k => if q * 3 + 0 ≤ k ∧ k < q * 3 + 3 then zga X 1 (k - q * 3) else zga P 6 k)) := by
  have cin : zin (zI q) 3 = true := zin_zI (by omega) (by omega)
  have c0 : ¬ zI q < 0 := by rw [zn0, zI_lt (by omega) (by omega)]; omega
  have c3 : ¬ (3 : Int32) ≤ zI q := by rw [zn3, zI_le (by omega) (by omega)]; omega
  unfold fX5_putAim
  rw [zlq, hP.2.2.2.2.2.1, if_neg c0, if_neg c3, if_pos cin, zlq, zlq]
  unfold fX5_putAim_38 fX5_putCoefficients_b
  rw [gi_sa, hP.2.2.2.2.2.1, zI_succ, zn0, zputCb hq 3 0 6000 _ (by omega) (by omega), zbq, zI_nat (by omega), ga_si, ga_san (by omega)]
