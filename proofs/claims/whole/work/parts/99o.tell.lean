/-! 9o: what was read is put into the program, both ways: a row. -/
theorem zup_id {α : Type} (f : Nat → α) (k : Nat) : zup f k (f k) = f := by
  funext j
  by_cases c : j = k
  · rw [c]; simp [zup]
  · exact zupne c
theorem zup_zup {α : Type} (f : Nat → α) (k : Nat) (a b : α) : zup (zup f k a) k b = zup f k b := by
  funext j
  by_cases c : j = k
  · rw [c]; simp [zup]
  · rw [zupne c, zupne c, zupne c]
theorem zsa_id (P : zSt) (k : Nat) : zsa P k (zga P k) = P := by
  unfold zsa zga
  rw [zup_id]
theorem zsa_sa (P : zSt) (k : Nat) (f g : Nat → Int32) : zsa (zsa P k f) k g = zsa P k g := by
  unfold zsa
  rw [zup_zup]
theorem zputC {sX : zSt} {r : Nat} (hr : r < 12) : ∀ (d i f : Nat) (P : zSt), i + d = 3 → d < f → fX5_putCoefficients_2 sX f P (zI r) (zI i) = some (zsa P 2 (fun k => if r * 3 + i ≤ k ∧ k < r * 3 + 3 then zga sX 1 (k - r * 3) else zga P 2 k))
  | 0, i, f + 1, P, hi, hf => by
    rw [fX5_putCoefficients_2, if_pos (show (3 : Int32) ≤ zI i by rw [zn3, zI_le (by omega) (by omega)]; omega)]
    have e : (fun k => if r * 3 + i ≤ k ∧ k < r * 3 + 3 then zga sX 1 (k - r * 3) else zga P 2 k) = zga P 2 := by
      funext k
      rw [if_neg (by omega)]
    rw [e, zsa_id]
  | d + 1, i, f + 1, P, hi, hf => by
    have hc : fX8_coefficientOf sX (zI i) = some (zga sX 1 i) := by
      simp (disch := omega) only [fX8_coefficientOf, fX8_coefficientOf_22, fX8_coefficientOf_23, zn0, zn3, zI_lt_f, zI_le_f, zin_zI, zI_nat, if_false, if_true]
    rw [fX5_putCoefficients_2, if_neg (show ¬ (3 : Int32) ≤ zI i by rw [zn3, zI_le (by omega) (by omega)]; omega), zlq, zn3, zI_mul, zI_add, if_neg (show ¬ zI (r * 3 + i) < 0 by rw [zn0, zI_lt (by omega) (by omega)]; omega), if_neg (show ¬ (36 : Int32) ≤ zI (r * 3 + i) by rw [zn36, zI_le (by omega) (by omega)]; omega), hc, zbq, if_pos (zin_zI (by omega) (by omega)), zlq, zI_nat (by omega), fX5_putCoefficients_35, zlq, zI_succ, zputC hr d (i + 1) f _ (by omega) (by omega)]
    congr 1
    rw [zsa_sa, ga_sa]
    congr 1
    funext k
    by_cases c : r * 3 + i ≤ k ∧ k < r * 3 + 3
    · rw [if_pos c]
      by_cases c2 : k = r * 3 + i
      · rw [if_neg (by omega), upd_s c2, c2]
        congr 1
        omega
      · rw [if_pos (by omega)]
    · rw [if_neg c, if_neg (by omega), upd_n (by omega)]
theorem zputCb {sX : zSt} {r : Nat} (hr : r < 3) : ∀ (d i f : Nat) (P : zSt), i + d = 3 → d < f → fX5_putCoefficients_b_2 sX f P (zI r) (zI i) = some (zsa P 6 (fun k => if r * 3 + i ≤ k ∧ k < r * 3 + 3 then zga sX 1 (k - r * 3) else zga P 6 k))
  | 0, i, f + 1, P, hi, hf => by
    rw [fX5_putCoefficients_b_2, if_pos (show (3 : Int32) ≤ zI i by rw [zn3, zI_le (by omega) (by omega)]; omega)]
    have e : (fun k => if r * 3 + i ≤ k ∧ k < r * 3 + 3 then zga sX 1 (k - r * 3) else zga P 6 k) = zga P 6 := by
      funext k
      rw [if_neg (by omega)]
    rw [e, zsa_id]
  | d + 1, i, f + 1, P, hi, hf => by
    have hc : fX8_coefficientOf sX (zI i) = some (zga sX 1 i) := by
      simp (disch := omega) only [fX8_coefficientOf, fX8_coefficientOf_22, fX8_coefficientOf_23, zn0, zn3, zI_lt_f, zI_le_f, zin_zI, zI_nat, if_false, if_true]
    rw [fX5_putCoefficients_b_2, if_neg (show ¬ (3 : Int32) ≤ zI i by rw [zn3, zI_le (by omega) (by omega)]; omega), zlq, zn3, zI_mul, zI_add, if_neg (show ¬ zI (r * 3 + i) < 0 by rw [zn0, zI_lt (by omega) (by omega)]; omega), if_neg (show ¬ (9 : Int32) ≤ zI (r * 3 + i) by rw [zn9, zI_le (by omega) (by omega)]; omega), hc, zbq, if_pos (zin_zI (by omega) (by omega)), zlq, zI_nat (by omega), fX5_putCoefficients_b_35, zlq, zI_succ, zputCb hr d (i + 1) f _ (by omega) (by omega)]
    congr 1
    rw [zsa_sa, ga_sa]
    congr 1
    funext k
    by_cases c : r * 3 + i ≤ k ∧ k < r * 3 + 3
    · rw [if_pos c]
      by_cases c2 : k = r * 3 + i
      · rw [if_neg (by omega), upd_s c2, c2]
        congr 1
        omega
      · rw [if_pos (by omega)]
    · rw [if_neg c, if_neg (by omega), upd_n (by omega)]
/-- the reference: a row -/
theorem ztell_109 {m : Nat} (hm : m < 12) : ∀ (d i f : Nat) (O : zSt), i + d = 3 → d < f → zgi O 11 = zI m → fX12_tell_109 f O (zI i) = some (zI m, zsi (zsa (zsa (zsa O 2 (fun k => if 3 * m + i ≤ k ∧ k < 3 * m + 3 then zga O 14 (k - 3 * m) else zga O 2 k)) 3 (upd (zga O 3) m (zgi O 16))) 4 (upd (zga O 4) m (zgi O 17))) 11 (zI (m + 1)))
  | 0, i, f + 1, O, hi, hf, h11 => by
    have cin : zin (zI m) 12 = true := zin_zI (by omega) (by omega)
    rw [fX12_tell_109, if_pos (show (3 : Int32) ≤ zI i by rw [zn3, zI_le (by omega) (by omega)]; omega), h11, if_pos cin, zlq, gi_sa, h11, if_pos cin, zlq, zlq, gi_sa, gi_sa, gi_sa, h11, zI_succ, gi_si, zI_nat (by omega)]
    have e : (fun k => if 3 * m + i ≤ k ∧ k < 3 * m + 3 then zga O 14 (k - 3 * m) else zga O 2 k) = zga O 2 := by
      funext k
      rw [if_neg (by omega)]
    rw [e, zsa_id, ga_san (by omega)]
    have e2 : zI (m + 1) - (1 : Int32) = zI m := by rw [zn1, zI_sub (by omega)]; congr 1
    rw [e2]
  | d + 1, i, f + 1, O, hi, hf, h11 => by
    have cin : zin (zI i) 3 = true := zin_zI (by omega) (by omega)
    have ci2 : zin (zI (3 * m + i)) 36 = true := zin_zI (by omega) (by omega)
    rw [fX12_tell_109, if_neg (show ¬ (3 : Int32) ≤ zI i by rw [zn3, zI_le (by omega) (by omega)]; omega), if_pos cin, h11, zn3, zI_mul, zI_add, if_pos ci2, zlq, zlq, zI_succ, zI_nat (by omega), zI_nat (by omega), ztell_109 hm d (i + 1) f _ (by omega) (by omega) (by rw [gi_sa]; exact h11)]
    rw [zsa_sa, ga_sa, ga_san (by omega), ga_san (by omega), ga_san (by omega), gi_sa, gi_sa]
    have e : (fun k => if 3 * m + (i + 1) ≤ k ∧ k < 3 * m + 3 then zga O 14 (k - 3 * m) else upd (zga O 2) (3 * m + i) (zga O 14 i) k) = (fun k => if 3 * m + i ≤ k ∧ k < 3 * m + 3 then zga O 14 (k - 3 * m) else zga O 2 k) := by
      funext k
      by_cases c : 3 * m + i ≤ k ∧ k < 3 * m + 3
      · rw [if_pos c]
        by_cases c2 : k = 3 * m + i
        · rw [if_neg (by omega), upd_s c2, c2]
          congr 1
          omega
        · rw [if_pos (by omega)]
      · rw [if_neg c, if_neg (by omega), upd_n (by omega)]
    rw [e]
theorem ztellsAim {q : Nat} (hq : q < 3) (w : Int32) : ∀ (d i f : Nat) (O : zSt), i + d = 3 → d < f → zgi O 12 = zI q → zga O 8 1 = w → fX12_tellsAim_2 f O (zI i) = some (zI q, zsi (zsa (zsa O 5 (fun k => if 3 * q + i ≤ k ∧ k < 3 * q + 3 then zga O 14 (k - 3 * q) else zga O 5 k)) 7 (upd (zga O 7) q (if w = 97 then 1 else 0))) 12 (zI (q + 1)))
  | 0, i, f + 1, O, hi, hf, h12, h8 => by
    have cin : zin (zI q) 3 = true := zin_zI (by omega) (by omega)
    have c30 : zin (1 : Int32) 30 = true := by decide
    have n1 : ((1 : Int32)).toNatClampNeg = 1 := by decide
    have b1 : vp_nar .boolean (1 : Int32) = 1 := by decide
    have b0 : vp_nar .boolean (0 : Int32) = 0 := by decide
    have e : (fun k => if 3 * q + i ≤ k ∧ k < 3 * q + 3 then zga O 14 (k - 3 * q) else zga O 5 k) = zga O 5 := by
      funext k
      rw [if_neg (by omega)]
    have e2 : zI (q + 1) - (1 : Int32) = zI q := by rw [zn1, zI_sub (by omega)]; congr 1
    rw [fX12_tellsAim_2, if_pos (show (3 : Int32) ≤ zI i by rw [zn3, zI_le (by omega) (by omega)]; omega), if_pos c30, n1, h8, h12, e, zsa_id]
    unfold fX12_tellsAim_56
    rw [if_pos cin]
    simp only [zlq]
    rw [gi_si, gi_si, gi_sa, gi_sa, h12, zI_succ, e2, zI_nat (by omega), b1, b0]
    split <;> rfl
  | d + 1, i, f + 1, O, hi, hf, h12, h8 => by
    have cin : zin (zI i) 3 = true := zin_zI (by omega) (by omega)
    have ci2 : zin (zI (3 * q + i)) 9 = true := zin_zI (by omega) (by omega)
    rw [fX12_tellsAim_2, if_neg (show ¬ (3 : Int32) ≤ zI i by rw [zn3, zI_le (by omega) (by omega)]; omega), if_pos cin, h12, zn3, zI_mul, zI_add, if_pos ci2, zlq, zlq, zI_succ, zI_nat (by omega), zI_nat (by omega), ztellsAim hq w d (i + 1) f _ (by omega) (by omega) (by rw [gi_sa]; exact h12) (by rw [ga_san (by omega)]; exact h8)]
    rw [zsa_sa, ga_sa, ga_san (by omega), ga_san (by omega)]
    have e : (fun k => if 3 * q + (i + 1) ≤ k ∧ k < 3 * q + 3 then zga O 14 (k - 3 * q) else upd (zga O 5) (3 * q + i) (zga O 14 i) k) = (fun k => if 3 * q + i ≤ k ∧ k < 3 * q + 3 then zga O 14 (k - 3 * q) else zga O 5 k) := by
      funext k
      by_cases c : 3 * q + i ≤ k ∧ k < 3 * q + 3
      · rw [if_pos c]
        by_cases c2 : k = 3 * q + i
        · rw [if_neg (by omega), upd_s c2, c2]
          congr 1
          omega
        · rw [if_pos (by omega)]
      · rw [if_neg c, if_neg (by omega), upd_n (by omega)]
    rw [e]
