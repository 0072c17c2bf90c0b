/-! 9n: a character is typed, both ways. -/
theorem znar_zty {c : Int32} (h : zty c) : vp_nar .char c = c := by
  obtain ⟨k, hk, rfl⟩ : ∃ k, k < 127 ∧ c = zI k := ⟨c.toInt.toNat, by have := h.2.1; have := h.2.2; omega, by
    apply Int32.toInt_inj.mp
    have h1 := h.2.1
    have h2 := h.2.2
    rw [zI_toInt (by omega)]
    omega⟩
  have all : ∀ k, k < 127 → vp_nar .char (zI k) = zI k := by decide
  exact all k hk
theorem ztyped {n len : Nat} {X O : zSt} {c : Int32} (h : zTy n len X O) (hc : zty c) (hl : len < 30) : ∃ X2 O2, fX8_append X c = some (zI (len + 1), X2) ∧ fX12_type_31 O c = some (zI (len + 1), O2) ∧ zgi O2 9 = 0 ∧ zTy n (len + 1) X2 O2 ∧ (∀ k, k ≠ 2 → zgi X2 k = zgi X k) ∧ (∀ k, k ≠ 9 → k ≠ 13 → zgi O2 k = zgi O k) ∧ (∀ k, k ≠ 8 → zga O2 k = zga O k) ∧ (∀ k, zgb O2 k = zgb O k) ∧ ∀ k, zgl O2 k = zgl O k := by
  obtain ⟨hn, hl30, h2, h13, hch, h10⟩ := h
  have cin : zin (zI len) 30 = true := zin_zI hl (by omega)
  have cn := znar_zty hc
  unfold fX8_append fX8_append_39 fX12_type_31 fX12_type_45
  rw [h2, h13, if_neg (show ¬ zI len < 0 by rw [zn0, zI_lt (by omega) (by omega)]; omega), if_neg (show ¬ (30 : Int32) ≤ zI len by rw [zn30, zI_le (by omega) (by omega)]; omega), if_pos cin, if_neg (show ¬ zI len = (30 : Int32) by rw [zn30, zI_eq (by omega) (by omega)]; omega), cn]
  simp only [zlq]
  have z9 : zgi (zsi O 9 (0 : Int32)) 9 = 0 := gi_si
  have z13 : zgi (zsi O 9 (0 : Int32)) 13 = zI len := by rw [gi_sin (by omega)]; exact h13
  rw [z9, z13, if_pos (show (0 : Int32) ≤ 0 by decide), if_pos cin, zI_nat (by omega)]
  have e2 : zgi (zsa X 0 (upd (zga X 0) len c)) 2 + (1 : Int32) = zI (len + 1) := by rw [gi_sa, h2, zI_succ]
  have e13 : zgi (zsa (zsi O 9 0) 8 (upd (zga (zsi O 9 0) 8) len c)) 13 + (1 : Int32) = zI (len + 1) := by rw [gi_sa, z13, zI_succ]
  rw [e2, e13, gi_si, gi_si]
  refine ⟨_, _, rfl, rfl, ?_, ⟨hn, by omega, gi_si, gi_si, fun k hk => ?_, ?_⟩, fun k hk => ?_, fun k a b => ?_, fun k a => ?_, fun k => rfl, fun k => rfl⟩
  · rw [gi_sin (by omega), gi_sa, gi_si]
  · rw [ga_si, ga_sa, ga_si, ga_sa, ga_si]
    by_cases e : k = len
    · rw [upd_s e, upd_s e]; exact ⟨rfl, hc⟩
    · rw [upd_n e, upd_n e]; exact hch k (by omega)
  · rw [gi_sin (by omega), gi_sa, gi_sin (by omega)]; exact h10
  · rw [gi_sin hk, gi_sa]
  · rw [gi_sin b, gi_sa, gi_sin a]
  · rw [ga_si, ga_san a, ga_si]
