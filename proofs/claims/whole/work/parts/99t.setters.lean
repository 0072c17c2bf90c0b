/-! 9t: setLeast, setGreatest, setNumber, dropRow, dropAims. -/
section ZSETTERS
variable {n m q len : Nat} {P C X O W K Z : zSt}
theorem zcall_setLeast (hP : zPw n m q P) (hR : zRl n m q P O) (hT : zTy n len X O) (x1 x2 : Int32) : ∃ r v T2 P2 O2, fX11_setLeast C P W K Z x1 x2 = some (r, P2, T2) ∧ fX12_setLeast O x1 x2 = some (v, O2) ∧ zAg [("java/lang/IndexOutOfBoundsException", 1), ("java/lang/IllegalArgumentException", 2)] r v (zgi O2 9) ∧ zKeep n m q (W, K, Z) P T2 P2 X O O2 := by
  have hn := hP.1
  have no : ∀ (E : String) (c : Int32), (E, c) ∈ ([("java/lang/IndexOutOfBoundsException", 1), ("java/lang/IllegalArgumentException", 2)] : List (String × Int32)) → ¬ c ≤ 0 → fX11_setLeast C P W K Z x1 x2 = some (.inl E, P, W, K, Z) → fX12_setLeast O x1 x2 = fX12_setLeast_39 O x1 x2 c → ∃ r v T2 P2 O2, fX11_setLeast C P W K Z x1 x2 = some (r, P2, T2) ∧ fX12_setLeast O x1 x2 = some (v, O2) ∧ zAg [("java/lang/IndexOutOfBoundsException", 1), ("java/lang/IllegalArgumentException", 2)] r v (zgi O2 9) ∧ zKeep n m q (W, K, Z) P T2 P2 X O O2 := by
    intro E c hE hc e1 e2
    unfold fX12_setLeast_39 at e2
    rw [zlq, gi_si, if_neg hc] at e2
    exact ⟨_, _, _, _, _, e1, e2, Or.inr ⟨E, rfl, by rw [gi_si]; exact hE⟩, zKeep_no hP hR hT⟩
  have hcl : fX11_setLeast C P W K Z x1 x2 = fX11_setLeast C P W K Z x1 x2 := rfl
  have hrf : fX12_setLeast O x1 x2 = fX12_setLeast O x1 x2 := rfl
  conv at hcl => rhs; unfold fX11_setLeast
  conv at hrf => rhs; unfold fX12_setLeast fX12_setLeast_34
  rw [eX11_demandVariable hP.2.2.2.1, zbq] at hcl
  rw [eX12_isVar hR.1 (by omega), zbq] at hrf
  by_cases c : zix n x1
  · rw [if_pos c] at hcl hrf
    rw [if_neg (show ¬ (1 : Int32) = 0 by decide), zinB, zbq] at hrf
    obtain ⟨v, hv, rfl⟩ := zix_ex (by omega) c
    have cin : zin (zI v) 3 = true := zin_zI (by omega) (by omega)
    have hb := hP.2.2.2.2.2.2.2.1 v (by omega)
    simp only [Sum.elim_inr] at hcl
    rw [eX5_greatestOf (by omega), zbq, eX11_areBounds, zbq, eX5_leastOf (by omega), zbq, zbq] at hcl
    rw [if_pos cin, zI_nat (by omega), (hR.2.2.2.1 v (by omega)).2] at hrf
    simp only [z32le, show (-50 : Int32).toInt = -50 by decide, show (50 : Int32).toInt = 50 by decide] at hrf
    by_cases cb : -50 ≤ x2.toInt ∧ x2.toInt ≤ 50 ∧ x2.toInt ≤ (zga P 1 v).toInt
    · rw [if_pos (show -50 ≤ x2.toInt ∧ x2.toInt ≤ 50 ∧ x2.toInt ≤ (zga P 1 v).toInt ∧ (zga P 1 v).toInt ≤ 100 from ⟨cb.1, cb.2.1, cb.2.2, hb.2.2.2⟩), if_neg (show ¬ (1 : Int32) = 0 by decide), eX5_putBounds (by omega), zbq, zforget, zbq] at hcl
      rw [if_pos (show -50 ≤ x2.toInt ∧ x2.toInt ≤ 50 from ⟨cb.1, cb.2.1⟩), if_neg (show ¬ (1 : Int32) = 0 by decide), if_pos cb.2.2] at hrf
      unfold fX12_setLeast_39 at hrf
      simp only [zlq] at hrf
      rw [gi_si, if_pos (show (0 : Int32) ≤ 0 by decide), if_pos cin, if_pos cin, zI_nat (by omega), ga_si] at hrf
      refine ⟨_, _, _, _, _, hcl, hrf, Or.inl ⟨?_, ?_⟩, ?_⟩
      · rw [(hR.2.2.2.1 v (by omega)).1]
      · rw [gi_sa, gi_si]
      · have w1 : upd (zga P 1) v (zga P 1 v) = zga P 1 := by
          funext k
          by_cases e : k = v
          · rw [upd_s e, e]
          · rw [upd_n e]
        have w2 : upd (zga O 1) v (zga P 1 v) = zga O 1 := by
          funext k
          by_cases e : k = v
          · rw [upd_s e, e]; exact ((hR.2.2.2.1 v (by omega)).2).symm
          · rw [upd_n e]
        refine zKeep_fg (n2 := n) (m2 := m) (q2 := q) ?_ ?_ hT ?_ ?_ ?_
        · refine zPw_bd (v := v) hP (by omega) hv (Or.inr rfl) ?_ ?_ ?_ ?_ (a := x2) (b := zga P 1 v) ?_ ?_ ?_ ⟨cb.1, cb.2.1, cb.2.2, hb.2.2.2⟩
          · rw [gi_sa, gi_sa]; exact hP.2.2.2.1
          · rw [gi_sa, gi_sa]
          · rw [gi_sa, gi_sa]
          · rw [gi_sa, gi_sa]
          · rw [ga_san (by omega), ga_sa]
          · rw [ga_sa]
          · intro k hk; rw [ga_san (by omega), ga_san (by omega)]
        · refine zRl_bd (v := v) hR ?_ ?_ ?_ (a := x2) (b := zga P 1 v) ?_ ?_ ?_ ?_ ?_ ?_
          · rw [gi_sa, gi_sin (by omega)]; exact hR.1
          · rw [gi_sa, gi_sin (by omega)]
          · rw [gi_sa, gi_sin (by omega)]
          · rw [ga_san (by omega), ga_sa]
          · rw [ga_sa]
          · intro k hk; rw [ga_san (by omega), ga_san (by omega)]
          · rw [ga_sa]
          · rw [ga_san (by omega), ga_si, w2]
          · intro k hk; rw [ga_san (by omega), ga_si]
        · rw [gi_sa, gi_sin (by omega)]
        · rw [ga_san (by omega), ga_si]
        · exact (zFr_i (by omega)).trans (zFr_a (by omega))
    · rw [if_neg (show ¬ (-50 ≤ x2.toInt ∧ x2.toInt ≤ 50 ∧ x2.toInt ≤ (zga P 1 v).toInt ∧ (zga P 1 v).toInt ≤ 100) by omega), if_pos rfl] at hcl
      refine no "java/lang/IllegalArgumentException" 2 (by simp) (by decide) hcl ?_
      rw [hrf]
      by_cases c1 : -50 ≤ x2.toInt ∧ x2.toInt ≤ 50
      · rw [if_pos c1, if_neg (show ¬ (1 : Int32) = 0 by decide), if_neg (show ¬ x2.toInt ≤ (zga P 1 v).toInt by omega)]
      · rw [if_neg c1, if_pos rfl]
  · rw [if_neg c] at hcl hrf
    rw [if_pos rfl] at hrf
    simp only [Sum.elim_inl] at hcl
    exact no "java/lang/IndexOutOfBoundsException" 1 (by simp) (by decide) hcl hrf
theorem zcall_setGreatest (hP : zPw n m q P) (hR : zRl n m q P O) (hT : zTy n len X O) (x1 x2 : Int32) : ∃ r v T2 P2 O2, fX11_setGreatest C P W K Z x1 x2 = some (r, P2, T2) ∧ fX12_setGreatest O x1 x2 = some (v, O2) ∧ zAg [("java/lang/IndexOutOfBoundsException", 1), ("java/lang/IllegalArgumentException", 2)] r v (zgi O2 9) ∧ zKeep n m q (W, K, Z) P T2 P2 X O O2 := by
  have hn := hP.1
  have no : ∀ (E : String) (c : Int32), (E, c) ∈ ([("java/lang/IndexOutOfBoundsException", 1), ("java/lang/IllegalArgumentException", 2)] : List (String × Int32)) → ¬ c ≤ 0 → fX11_setGreatest C P W K Z x1 x2 = some (.inl E, P, W, K, Z) → fX12_setGreatest O x1 x2 = fX12_setGreatest_33 O x1 x2 c → ∃ r v T2 P2 O2, fX11_setGreatest C P W K Z x1 x2 = some (r, P2, T2) ∧ fX12_setGreatest O x1 x2 = some (v, O2) ∧ zAg [("java/lang/IndexOutOfBoundsException", 1), ("java/lang/IllegalArgumentException", 2)] r v (zgi O2 9) ∧ zKeep n m q (W, K, Z) P T2 P2 X O O2 := by
    intro E c hE hc e1 e2
    unfold fX12_setGreatest_33 at e2
    rw [zlq, gi_si, if_neg hc] at e2
    exact ⟨_, _, _, _, _, e1, e2, Or.inr ⟨E, rfl, by rw [gi_si]; exact hE⟩, zKeep_no hP hR hT⟩
  have hcl : fX11_setGreatest C P W K Z x1 x2 = fX11_setGreatest C P W K Z x1 x2 := rfl
  have hrf : fX12_setGreatest O x1 x2 = fX12_setGreatest O x1 x2 := rfl
  conv at hcl => rhs; unfold fX11_setGreatest
  conv at hrf => rhs; unfold fX12_setGreatest
  rw [eX11_demandVariable hP.2.2.2.1, zbq] at hcl
  rw [eX12_isVar hR.1 (by omega), zbq] at hrf
  by_cases c : zix n x1
  · rw [if_pos c] at hcl hrf
    rw [if_neg (show ¬ (1 : Int32) = 0 by decide)] at hrf
    obtain ⟨v, hv, rfl⟩ := zix_ex (by omega) c
    have cin : zin (zI v) 3 = true := zin_zI (by omega) (by omega)
    have hb := hP.2.2.2.2.2.2.2.1 v (by omega)
    simp only [Sum.elim_inr] at hcl
    rw [eX5_leastOf (by omega), zbq, eX11_areBounds, zbq, eX5_greatestOf (by omega), zbq, zbq] at hcl
    rw [if_pos cin, zI_nat (by omega), (hR.2.2.2.1 v (by omega)).1, zinB, zbq] at hrf
    simp only [z32le, show (100 : Int32).toInt = 100 by decide] at hrf
    by_cases cb : (zga P 0 v).toInt ≤ x2.toInt ∧ x2.toInt ≤ 100
    · rw [if_pos (show -50 ≤ (zga P 0 v).toInt ∧ (zga P 0 v).toInt ≤ 50 ∧ (zga P 0 v).toInt ≤ x2.toInt ∧ x2.toInt ≤ 100 from ⟨hb.1, hb.2.1, cb.1, cb.2⟩), if_neg (show ¬ (1 : Int32) = 0 by decide), eX5_putBounds (by omega), zbq, zforget, zbq] at hcl
      rw [if_pos cb, if_neg (show ¬ (1 : Int32) = 0 by decide)] at hrf
      unfold fX12_setGreatest_33 at hrf
      simp only [zlq] at hrf
      rw [gi_si, if_pos (show (0 : Int32) ≤ 0 by decide), if_pos cin, if_pos cin, zI_nat (by omega), ga_si] at hrf
      refine ⟨_, _, _, _, _, hcl, hrf, Or.inl ⟨?_, ?_⟩, ?_⟩
      · rw [(hR.2.2.2.1 v (by omega)).2]
      · rw [gi_sa, gi_si]
      · have w2 : upd (zga O 0) v (zga P 0 v) = zga O 0 := by
          funext k
          by_cases e : k = v
          · rw [upd_s e, e]; exact ((hR.2.2.2.1 v (by omega)).1).symm
          · rw [upd_n e]
        refine zKeep_fg (n2 := n) (m2 := m) (q2 := q) ?_ ?_ hT ?_ ?_ ?_
        · refine zPw_bd (v := v) hP (by omega) hv (Or.inr rfl) ?_ ?_ ?_ ?_ (a := zga P 0 v) (b := x2) ?_ ?_ ?_ ⟨hb.1, hb.2.1, cb.1, cb.2⟩
          · rw [gi_sa, gi_sa]; exact hP.2.2.2.1
          · rw [gi_sa, gi_sa]
          · rw [gi_sa, gi_sa]
          · rw [gi_sa, gi_sa]
          · rw [ga_san (by omega), ga_sa]
          · rw [ga_sa]
          · intro k hk; rw [ga_san (by omega), ga_san (by omega)]
        · refine zRl_bd (v := v) hR ?_ ?_ ?_ (a := zga P 0 v) (b := x2) ?_ ?_ ?_ ?_ ?_ ?_
          · rw [gi_sa, gi_sin (by omega)]; exact hR.1
          · rw [gi_sa, gi_sin (by omega)]
          · rw [gi_sa, gi_sin (by omega)]
          · rw [ga_san (by omega), ga_sa]
          · rw [ga_sa]
          · intro k hk; rw [ga_san (by omega), ga_san (by omega)]
          · rw [ga_san (by omega), ga_si, w2]
          · rw [ga_sa]
          · intro k hk; rw [ga_san (by omega), ga_si]
        · rw [gi_sa, gi_sin (by omega)]
        · rw [ga_san (by omega), ga_si]
        · exact (zFr_i (by omega)).trans (zFr_a (by omega))
    · rw [if_neg (show ¬ (-50 ≤ (zga P 0 v).toInt ∧ (zga P 0 v).toInt ≤ 50 ∧ (zga P 0 v).toInt ≤ x2.toInt ∧ x2.toInt ≤ 100) by omega), if_pos rfl] at hcl
      rw [if_neg cb, if_pos rfl] at hrf
      exact no "java/lang/IllegalArgumentException" 2 (by simp) (by decide) hcl hrf
  · rw [if_neg c] at hcl hrf
    rw [if_pos rfl] at hrf
    simp only [Sum.elim_inl] at hcl
    exact no "java/lang/IndexOutOfBoundsException" 1 (by simp) (by decide) hcl hrf
/-- is the row there, is it live -/
theorem eX11_demandLiveRow (hP : zPw n m q P) {r : Nat} (hr : r < m) : fX11_demandLiveRow C P (zI r) = some (if zga P 5 r = 0 then .inl "java/lang/IllegalStateException" else .inr ()) := by
  have hm := hP.2.1
  unfold fX11_demandLiveRow
  rw [eX11_demandRow hP.2.2.2.2.1, zbq, if_pos (zix_of (by omega) hr)]
  simp only [Sum.elim_inr]
  rw [eX5_isLive (by omega), zbq]
  by_cases c : zga P 5 r = 0
  · rw [if_pos c, if_pos c, if_pos rfl]
  · rw [if_neg c, if_neg c, if_neg (show ¬ (1 : Int32) = 0 by decide)]
theorem eX11_demandLiveRow_no (hP : zPw n m q P) {x : Int32} (hr : ¬ zix m x) : fX11_demandLiveRow C P x = some (.inl "java/lang/IndexOutOfBoundsException") := by
  unfold fX11_demandLiveRow
  rw [eX11_demandRow hP.2.2.2.2.1, zbq, if_neg hr]
  rfl
/-- other numbers of a row -/
theorem zPw_num {P2 : zSt} {r : Nat} {a : Int32} (hP : zPw n m q P) (gi : ∀ k, zgi P2 k = zgi P k) (a4 : zga P2 4 = upd (zga P 4) r a) (a2 : ∀ k, k ≠ 4 → zga P2 k = zga P k) (h : zab a.toInt 99) : zPw n m q P2 := by
  obtain ⟨hn1, hm2, hq, g8, g9, g11, g10, hb, hz, hr, ha, hx⟩ := hP
  have lv : zlv P2 m = zlv P m := zlv_cg m (fun r hr => by rw [a2 5 (by omega)])
  refine ⟨hn1, hm2, hq, (gi 8).trans g8, (gi 9).trans g9, (gi 11).trans g11, ⟨?_, ?_⟩, ?_, ?_, ?_, ?_, ?_⟩
  · rw [lv, gi 10]; exact g10.1
  · rw [lv]; exact g10.2
  · rw [a2 0 (by omega), a2 1 (by omega)]; exact hb
  · rw [a2 0 (by omega), a2 1 (by omega)]; exact hz
  · intro s hs
    rw [a2 2 (by omega), a2 3 (by omega), a4]
    obtain ⟨k1, k2, k3⟩ := hr s hs
    refine ⟨k1, k2, ?_⟩
    by_cases c : s = r
    · rw [upd_s c]; exact h
    · rw [upd_n c]; exact k3
  · rw [a2 6 (by omega), a2 7 (by omega)]; exact ha
  · rw [a2 5 (by omega)]; exact hx
theorem zRl_num {P2 O2 : zSt} {r : Nat} {a : Int32} (hR : zRl n m q P O) (a4 : zga P2 4 = upd (zga P 4) r a) (a2 : ∀ k, k ≠ 4 → zga P2 k = zga P k) (g10 : zgi O2 10 = zgi O 10) (g11 : zgi O2 11 = zgi O 11) (g12 : zgi O2 12 = zgi O 12) (b4 : zga O2 4 = upd (zga O 4) r a) (b2 : ∀ k, k ≠ 4 → zga O2 k = zga O k) : zRl n m q P2 O2 := by
  obtain ⟨h10, h11, h12, g0, gr, ga, gx⟩ := hR
  refine ⟨g10.trans h10, g11.trans h11, g12.trans h12, ?_, ?_, ?_, ?_⟩
  · rw [a2 0 (by omega), a2 1 (by omega), b2 0 (by omega), b2 1 (by omega)]; exact g0
  · intro s hs
    rw [a2 2 (by omega), a2 3 (by omega), a2 5 (by omega), b2 2 (by omega), b2 3 (by omega), b2 6 (by omega), a4, b4]
    obtain ⟨k1, k2, k3, k4⟩ := gr s hs
    refine ⟨k1, k2, ?_, k4⟩
    by_cases c : s = r
    · rw [upd_s c, upd_s c]
    · rw [upd_n c, upd_n c]; exact k3
  · rw [a2 6 (by omega), a2 7 (by omega), b2 5 (by omega), b2 7 (by omega)]; exact ga
  · rw [b2 6 (by omega)]; exact gx
theorem eX5_putNumber {r : Nat} (hr : r < 12) (a : Int32) : fX5_putNumber P (zI r) a = some (zsa P 4 (upd (zga P 4) r a)) := by
  have cin : zin (zI r) 12 = true := zin_zI hr (by omega)
  have c0 : ¬ zI r < 0 := by rw [zn0, zI_lt (by omega) (by omega)]; omega
  have c3 : ¬ (12 : Int32) ≤ zI r := by rw [zn12, zI_le (by omega) (by omega)]; omega
  unfold fX5_putNumber fX5_putNumber_20
  rw [if_neg c0, if_neg c3, if_pos cin, zlq, zI_nat (by omega)]
theorem zcall_setNumber (hP : zPw n m q P) (hR : zRl n m q P O) (hT : zTy n len X O) (x1 x2 : Int32) : ∃ r v T2 P2 O2, fX11_setNumber C P W K Z x1 x2 = some (r, P2, T2) ∧ fX12_setNumber O x1 x2 = some (v, O2) ∧ zAg [("java/lang/IndexOutOfBoundsException", 1), ("java/lang/IllegalArgumentException", 2), ("java/lang/IllegalStateException", 3)] r v (zgi O2 9) ∧ zKeep n m q (W, K, Z) P T2 P2 X O O2 := by
  have hm := hP.2.1
  have no : ∀ (E : String) (c : Int32), (E, c) ∈ ([("java/lang/IndexOutOfBoundsException", 1), ("java/lang/IllegalArgumentException", 2), ("java/lang/IllegalStateException", 3)] : List (String × Int32)) → ¬ c ≤ 0 → fX11_setNumber C P W K Z x1 x2 = some (.inl E, P, W, K, Z) → fX12_setNumber O x1 x2 = fX12_setNumber_42 O x1 x2 c → ∃ r v T2 P2 O2, fX11_setNumber C P W K Z x1 x2 = some (r, P2, T2) ∧ fX12_setNumber O x1 x2 = some (v, O2) ∧ zAg [("java/lang/IndexOutOfBoundsException", 1), ("java/lang/IllegalArgumentException", 2), ("java/lang/IllegalStateException", 3)] r v (zgi O2 9) ∧ zKeep n m q (W, K, Z) P T2 P2 X O O2 := by
    intro E c hE hc e1 e2
    unfold fX12_setNumber_42 at e2
    rw [zlq, gi_si, if_neg hc] at e2
    exact ⟨_, _, _, _, _, e1, e2, Or.inr ⟨E, rfl, by rw [gi_si]; exact hE⟩, zKeep_no hP hR hT⟩
  have hcl : fX11_setNumber C P W K Z x1 x2 = fX11_setNumber C P W K Z x1 x2 := rfl
  have hrf : fX12_setNumber O x1 x2 = fX12_setNumber O x1 x2 := rfl
  conv at hcl => rhs; unfold fX11_setNumber fX11_setNumber_17
  conv at hrf => rhs; unfold fX12_setNumber
  rw [eX11_demandRow hP.2.2.2.2.1, zbq] at hcl
  rw [eX12_isRow hR.2.1 (by omega), zbq] at hrf
  by_cases c : zix m x1
  · rw [if_pos c] at hcl hrf
    rw [if_neg (show ¬ (1 : Int32) = 0 by decide), zinB, zbq] at hrf
    obtain ⟨v, hv, rfl⟩ := zix_ex (by omega) c
    have cin : zin (zI v) 12 = true := zin_zI (by omega) (by omega)
    simp only [Sum.elim_inr] at hcl
    rw [eX11_demandLiveRow hP hv, zbq, eX5_numberOf (by omega), zbq, eX5_putNumber (by omega), zbq, zforget, zbq] at hcl
    rw [if_pos cin, zI_nat (by omega)] at hrf
    have hl := (hR.2.2.2.2.1 v hv).2.2.2
    by_cases cb : -99 ≤ x2.toInt ∧ x2.toInt ≤ 99
    · rw [if_neg (show ¬ x2 < (-99 : Int32) by rw [z32lt, show (-99 : Int32).toInt = -99 by decide]; omega), if_pos (show x2 ≤ (99 : Int32) by rw [z32le, show (99 : Int32).toInt = 99 by decide]; omega)] at hcl
      rw [if_pos (show (-99 : Int32) ≤ x2 ∧ x2 ≤ (99 : Int32) by rw [z32le, z32le, show (99 : Int32).toInt = 99 by decide, show (-99 : Int32).toInt = -99 by decide]; exact cb), if_neg (show ¬ (1 : Int32) = 0 by decide)] at hrf
      by_cases c5 : zga P 5 v = 0
      · rw [if_pos c5] at hcl
        simp only [Sum.elim_inl] at hcl
        rw [if_neg (fun h => hl.mp h c5)] at hrf
        exact no "java/lang/IllegalStateException" 3 (by simp) (by decide) hcl hrf
      · rw [if_neg c5] at hcl
        simp only [Sum.elim_inr] at hcl
        rw [if_pos (hl.mpr c5)] at hrf
        unfold fX12_setNumber_42 at hrf
        simp only [zlq] at hrf
        rw [gi_si, if_pos (show (0 : Int32) ≤ 0 by decide), if_pos cin, if_pos cin, zI_nat (by omega), ga_si] at hrf
        refine ⟨_, _, _, _, _, hcl, hrf, Or.inl ⟨?_, ?_⟩, ?_⟩
        · rw [(hR.2.2.2.2.1 v hv).2.2.1]
        · rw [gi_sa, gi_si]
        · refine zKeep_fg (n2 := n) (m2 := m) (q2 := q) ?_ ?_ hT ?_ ?_ ?_
          · exact zPw_num (r := v) (a := x2) hP (fun k => rfl) (by rw [ga_sa]) (fun k hk => ga_san hk) (zab_of cb.1 cb.2)
          · exact zRl_num (r := v) (a := x2) hR (by rw [ga_sa]) (fun k hk => ga_san hk) (by rw [gi_sa, gi_sin (by omega)]) (by rw [gi_sa, gi_sin (by omega)]) (by rw [gi_sa, gi_sin (by omega)]) (by rw [ga_sa]) (fun k hk => by rw [ga_san hk, ga_si])
          · rw [gi_sa, gi_sin (by omega)]
          · rw [ga_san (by omega), ga_si]
          · exact (zFr_i (by omega)).trans (zFr_a (by omega))
    · refine no "java/lang/IllegalArgumentException" 2 (by simp) (by decide) ?_ ?_
      · rw [hcl]
        by_cases c1 : x2 < (-99 : Int32)
        · rw [if_pos c1]
        · rw [if_neg c1]
          rw [z32lt, show (-99 : Int32).toInt = -99 by decide] at c1
          rw [if_neg (show ¬ x2 ≤ (99 : Int32) by rw [z32le, show (99 : Int32).toInt = 99 by decide]; omega)]
      · rw [hrf, if_neg (show ¬ ((-99 : Int32) ≤ x2 ∧ x2 ≤ (99 : Int32)) by rw [z32le, z32le, show (99 : Int32).toInt = 99 by decide, show (-99 : Int32).toInt = -99 by decide]; exact cb), if_pos rfl]
  · rw [if_neg c] at hcl hrf
    rw [if_pos rfl] at hrf
    simp only [Sum.elim_inl] at hcl
    exact no "java/lang/IndexOutOfBoundsException" 1 (by simp) (by decide) hcl hrf
end ZSETTERS
