/-! 9u: dropRow, dropAims, coefficient, relation. -/
section ZDROPS
variable {n m q len : Nat} {P C X O W K Z : zSt}
theorem zlv_dr {P P2 : zSt} {r : Nat} (h0 : zga P2 5 r = 0) (h1 : zga P 5 r ≠ 0) : ∀ m, (∀ s, s ≠ r → zga P2 5 s = zga P 5 s) → r < m → zlv P2 m + 1 = zlv P m
  | 0, _, h => by omega
  | m + 1, h, hr => by
    have s1 : zlv P2 (m + 1) = zlv P2 m + if zga P2 5 m = 0 then 0 else 1 := rfl
    have s2 : zlv P (m + 1) = zlv P m + if zga P 5 m = 0 then 0 else 1 := rfl
    rw [s1, s2]
    by_cases c : m = r
    · subst c
      rw [if_pos h0, if_neg h1, zlv_cg (P := P) (P2 := P2) m (fun s hs => by rw [h s (by omega)])]
    · rw [h m c]
      have ih := zlv_dr h0 h1 m h (by omega)
      omega
theorem zPw_dr {P2 : zSt} {r : Nat} (hP : zPw n m q P) (hr : r < m) (hl : zga P 5 r ≠ 0) (gi : ∀ k, k ≠ 10 → zgi P2 k = zgi P k) (g10 : zgi P2 10 = zI (zlv P m - 1)) (a5 : zga P2 5 = upd (zga P 5) r 0) (a2 : ∀ k, k ≠ 5 → zga P2 k = zga P k) : zPw n m q P2 := by
  obtain ⟨hn1, hm2, hq, g8, g9, g11, g10', hb, hz, hr', ha, hx⟩ := hP
  have lv := zlv_dr (P := P) (P2 := P2) (r := r) (by rw [a5, upd_s rfl]) hl m (fun s hs => by rw [a5, upd_n hs]) hr
  refine ⟨hn1, hm2, hq, (gi 8 (by omega)).trans g8, (gi 9 (by omega)).trans g9, (gi 11 (by omega)).trans g11, ⟨?_, ?_⟩, ?_, ?_, ?_, ?_, ?_⟩
  · rw [g10]; congr 1; omega
  · omega
  · rw [a2 0 (by omega), a2 1 (by omega)]; exact hb
  · rw [a2 0 (by omega), a2 1 (by omega)]; exact hz
  · rw [a2 2 (by omega), a2 3 (by omega), a2 4 (by omega)]; exact hr'
  · rw [a2 6 (by omega), a2 7 (by omega)]; exact ha
  · intro s h1 h2
    rw [a5, upd_n (by omega)]
    exact hx s h1 h2
theorem zRl_dr {P2 O2 : zSt} {r : Nat} (hR : zRl n m q P O) (hr : r < m) (a5 : zga P2 5 = upd (zga P 5) r 0) (a2 : ∀ k, k ≠ 5 → zga P2 k = zga P k) (g10 : zgi O2 10 = zgi O 10) (g11 : zgi O2 11 = zgi O 11) (g12 : zgi O2 12 = zgi O 12) (b6 : zga O2 6 = upd (zga O 6) r 1) (b2 : ∀ k, k ≠ 6 → zga O2 k = zga O k) : zRl n m q P2 O2 := by
  obtain ⟨h10, h11, h12, g0, gr, ga, gx⟩ := hR
  refine ⟨g10.trans h10, g11.trans h11, g12.trans h12, ?_, ?_, ?_, ?_⟩
  · rw [a2 0 (by omega), a2 1 (by omega), b2 0 (by omega), b2 1 (by omega)]; exact g0
  · intro s hs
    rw [a2 2 (by omega), a2 3 (by omega), a2 4 (by omega), b2 2 (by omega), b2 3 (by omega), b2 4 (by omega), a5, b6]
    obtain ⟨k1, k2, k3, k4⟩ := gr s hs
    refine ⟨k1, k2, k3, ?_⟩
    by_cases c : s = r
    · rw [upd_s c, upd_s c]; exact ⟨fun h => absurd h (by decide), fun h => absurd rfl h⟩
    · rw [upd_n c, upd_n c]; exact k4
  · rw [a2 6 (by omega), a2 7 (by omega), b2 5 (by omega), b2 7 (by omega)]; exact ga
  · intro s h1 h2
    rw [b6, upd_n (by omega)]
    exact gx s h1 h2
theorem eX12_wrongRow (hP : zPw n m q P) (hR : zRl n m q P O) {r : Nat} (hr : r < m) : fX12_wrongRow O (zI r) = some (if zga P 5 r = 0 then 2 else 0) := by
  have hm := hP.2.1
  have cin : zin (zI r) 12 = true := zin_zI (by omega) (by omega)
  have hl := (hR.2.2.2.2.1 r hr).2.2.2
  unfold fX12_wrongRow fX12_wrongRow_26
  rw [eX12_isRow hR.2.1 (by omega), zbq, if_pos (zix_of (by omega) hr), if_neg (show ¬ (1 : Int32) = 0 by decide), if_pos cin, zI_nat (by omega)]
  by_cases c : zga P 5 r = 0
  · rw [if_pos c, if_neg (fun h => hl.mp h c)]
  · rw [if_neg c, if_pos (hl.mpr c)]
theorem eX12_wrongRow_no (hP : zPw n m q P) (hR : zRl n m q P O) {x : Int32} (hr : ¬ zix m x) : fX12_wrongRow O x = some 1 := by
  have hm := hP.2.1
  unfold fX12_wrongRow fX12_wrongRow_26
  rw [eX12_isRow hR.2.1 (by omega), zbq, if_neg hr, if_pos rfl]
theorem zcall_dropRow (hP : zPw n m q P) (hR : zRl n m q P O) (hT : zTy n len X O) (x1 : Int32) : ∃ r v T2 P2 O2, fX11_dropRow C P W K Z x1 = some (r, P2, T2) ∧ fX12_dropRow O x1 = some (v, O2) ∧ zAg [("java/lang/IndexOutOfBoundsException", 1), ("java/lang/IllegalStateException", 2)] r v (zgi O2 9) ∧ zKeep n m q (W, K, Z) P T2 P2 X O O2 := by
  have hm := hP.2.1
  unfold fX11_dropRow fX12_dropRow
  by_cases c : zix m x1
  · obtain ⟨v, hv, rfl⟩ := zix_ex (by omega) c
    have cin : zin (zI v) 12 = true := zin_zI (by omega) (by omega)
    rw [eX11_demandLiveRow hP hv, zbq, eX12_wrongRow hP hR hv, zbq, zlq, gi_si]
    by_cases c5 : zga P 5 v = 0
    · rw [if_pos c5, if_pos c5, if_neg (by decide)]
      simp only [Sum.elim_inl]
      exact ⟨_, _, _, _, _, rfl, rfl, Or.inr ⟨_, rfl, by rw [gi_si]; simp⟩, zKeep_no hP hR hT⟩
    · rw [if_neg c5, if_neg c5, if_pos (show (0 : Int32) ≤ 0 by decide), if_pos cin, zlq, zI_nat (by omega)]
      simp only [Sum.elim_inr]
      have c0 : ¬ zI v < 0 := by rw [zn0, zI_lt (by omega) (by omega)]; omega
      have c3 : ¬ (12 : Int32) ≤ zI v := by rw [zn12, zI_le (by omega) (by omega)]; omega
      have b0 : vp_nar .boolean (0 : Int32) = 0 := by decide
      have b1 : vp_nar .boolean (1 : Int32) = 1 := by decide
      rw [zforget, zbq]
      unfold fX5_removeRow fX5_removeRow_39
      rw [if_neg c0, if_neg c3, if_pos cin, zI_nat (by omega), if_neg c5, if_pos cin, zlq, zlq, zbq, b0, b1, gi_sa, hP.2.2.2.2.2.2.1.1, ga_si, gi_si]
      have hlv : 1 ≤ zlv P m := by
        have s2 : zlv P (v + 1) = zlv P v + if zga P 5 v = 0 then 0 else 1 := rfl
        rw [if_neg c5] at s2
        have := zlv_mono P (show v + 1 ≤ m by omega)
        omega
      have hl6 := hP.2.2.2.2.2.2.1.2
      have e1 : zI (zlv P m) - (1 : Int32) = zI (zlv P m - 1) := by rw [zn1, zI_sub (by omega)]
      rw [e1]
      have hP2 : zPw n m q (zsi (zsa P 5 (upd (zga P 5) v 0)) 10 (zI (zlv P m - 1))) := zPw_dr hP hv c5 (fun k hk => by rw [gi_sin hk, gi_sa]) (by rw [gi_si]) (by rw [ga_si, ga_sa]) (fun k hk => by rw [ga_si, ga_san hk])
      have hR2 : zRl n m q (zsi (zsa P 5 (upd (zga P 5) v 0)) 10 (zI (zlv P m - 1))) (zsa (zsi O 9 0) 6 (upd (zga O 6) v 1)) := zRl_dr hR hv (by rw [ga_si, ga_sa]) (fun k hk => by rw [ga_si, ga_san hk]) (by rw [gi_sa, gi_sin (by omega)]) (by rw [gi_sa, gi_sin (by omega)]) (by rw [gi_sa, gi_sin (by omega)]) (by rw [ga_sa]) (fun k hk => by rw [ga_san hk, ga_si])
      have el := eX12_leftRows hP2 hR2
      have e10 := hP2.2.2.2.2.2.2.1.1
      rw [gi_si] at e10
      rw [← e10] at el
      rw [el, zbq]
      refine ⟨_, _, _, _, _, rfl, rfl, Or.inl ⟨rfl, by rw [gi_sa, gi_si]⟩, ?_⟩
      exact zKeep_fg hP2 hR2 hT (by rw [gi_sa, gi_sin (by omega)]) (by rw [ga_san (by omega), ga_si]) ((zFr_i (by omega)).trans (zFr_a (by omega)))
  · rw [eX11_demandLiveRow_no hP c, zbq, eX12_wrongRow_no hP hR c, zbq, zlq, gi_si, if_neg (by decide)]
    simp only [Sum.elim_inl]
    exact ⟨_, _, _, _, _, rfl, rfl, Or.inr ⟨_, rfl, by rw [gi_si]; simp⟩, zKeep_no hP hR hT⟩
theorem zcall_dropAims (hP : zPw n m q P) (hR : zRl n m q P O) (hT : zTy n len X O) : ∃ v T2 P2 O2, fX11_dropAims C P W K Z = some (v, P2, T2) ∧ fX12_dropAims O = some (v, O2) ∧ zKeep n m q (W, K, Z) P T2 P2 X O O2 := by
  unfold fX11_dropAims fX12_dropAims
  simp only [zlq]
  rw [zforget, zbq, hP.2.2.2.2.2.1, gi_sin (by omega), hR.2.2.1]
  refine ⟨_, _, _, _, rfl, rfl, ?_⟩
  obtain ⟨hn1, hm2, hq, g8, g9, g11, g10, hb, hz, hr, ha, hx⟩ := hP
  obtain ⟨h10, h11, h12, h0, hhr, hha, hhx⟩ := hR
  refine zKeep_fg (n2 := n) (m2 := m) (q2 := 0) ⟨hn1, hm2, by omega, ?_, ?_, ?_, ⟨?_, ?_⟩, hb, hz, hr, fun a h => by omega, hx⟩ ⟨?_, ?_, ?_, h0, hhr, fun a h => by omega, hhx⟩ hT ?_ ?_ ?_
  · rw [gi_sin (by omega)]; exact g8
  · rw [gi_sin (by omega)]; exact g9
  · rw [gi_si, zn0]
  · rw [gi_sin (by omega), zlv_cg (P := P) m (fun r _ => by rw [ga_si])]; exact g10.1
  · rw [zlv_cg (P := P) m (fun r _ => by rw [ga_si])]; exact g10.2
  · rw [gi_sin (by omega), gi_sin (by omega)]; exact h10
  · rw [gi_sin (by omega), gi_sin (by omega)]; exact h11
  · rw [gi_si, zn0]
  · rw [gi_sin (by omega), gi_sin (by omega)]
  · rfl
  · exact (zFr_i (by omega)).trans (zFr_i (by omega))
theorem eX12_checked (O : zSt) (x : Int32) : fX12_checked O x = some (if x = 0 then (1, zsi O 9 1) else (0, zsi O 9 0)) := by
  unfold fX12_checked fX12_checked_10
  by_cases c : x = 0
  · rw [if_pos c, if_pos c, zlq, gi_si]
  · rw [if_neg c, if_neg c, zlq, gi_si]
/-- what a call that changes nothing of the program leaves -/
theorem zcall_coefficient (hP : zPw n m q P) (hR : zRl n m q P O) (x1 x2 : Int32) : ∃ r v c, fX11_coefficient C P x1 x2 = some r ∧ fX12_coefficient O x1 x2 = some (v, zsi O 9 c) ∧ zAg [("java/lang/IndexOutOfBoundsException", 1)] r v c := by
  have hm := hP.2.1
  have hn := hP.1
  unfold fX11_coefficient fX12_coefficient fX12_coefficient_21 fX12_coefficient_22 fX12_coefficient_42
  rw [eX11_demandRow hP.2.2.2.2.1, zbq, eX12_isRow hR.2.1 (by omega), zbq]
  by_cases c : zix m x1
  · rw [if_pos c, if_pos c, if_neg (show ¬ (1 : Int32) = 0 by decide)]
    simp only [Sum.elim_inr]
    rw [eX11_demandVariable hP.2.2.2.1, zbq, eX12_isVar hR.1 (by omega), zbq]
    by_cases c2 : zix n x2
    · rw [if_pos c2, if_pos c2, if_neg (show ¬ (1 : Int32) = 0 by decide)]
      simp only [Sum.elim_inr]
      obtain ⟨v, hv, rfl⟩ := zix_ex (by omega) c
      obtain ⟨w, hw, rfl⟩ := zix_ex (by omega) c2
      rw [eX5_rowCoefficient (by omega), zbq, eX12_checked, if_neg (show ¬ (1 : Int32) = 0 by decide), zbq, if_pos (show (0 : Int32) ≤ 0 by decide), zn3, zI_mul, zI_add, if_pos (zin_zI (by omega) (by omega)), zI_nat (by omega), ga_si, (hR.2.2.2.2.1 v hv).1 w (by omega)]
      exact ⟨_, _, 0, rfl, rfl, Or.inl ⟨rfl, rfl⟩⟩
    · rw [if_neg c2, if_neg c2, if_pos rfl]
      simp only [Sum.elim_inl]
      rw [eX12_checked, if_pos rfl, zbq, if_neg (show ¬ (1 : Int32) ≤ 0 by decide)]
      exact ⟨_, _, 1, rfl, rfl, Or.inr ⟨_, rfl, by simp⟩⟩
  · rw [if_neg c, if_neg c, if_pos rfl]
    simp only [Sum.elim_inl]
    rw [eX12_checked, if_pos rfl, zbq, if_neg (show ¬ (1 : Int32) ≤ 0 by decide)]
    exact ⟨_, _, 1, rfl, rfl, Or.inr ⟨_, rfl, by simp⟩⟩
end ZDROPS
