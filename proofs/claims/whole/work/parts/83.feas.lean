/-! 83: a point is not broken just when it is within all sides. -/
theorem zgat_0 {P : zSt} {r : Nat} (hr : r < 12) : zgat P 0 r ↔ zga P 5 r ≠ 0 := by
  have e := zgat_bits (P := P) (g := fun _ => false) (m := 12) (by omega) hr
  rw [zbits_none] at e
  exact e.trans ⟨fun h => h.1, fun h => ⟨h, rfl⟩⟩
theorem zrnum_m1 {P : zSt} {r : Nat} (hr : r < 12) : zrnum P (-1) r = zga P 4 r := by
  unfold zrnum
  rw [if_neg (by rw [zI_neg1 (by omega)]; exact fun h => h)]
  exact Int32.add_zero _
theorem zrc_ev (P : zSt) (r : Nat) (X : zV) : zev ((zga P 2 (r * 3 + 0)).toInt, (zga P 2 (r * 3 + 1)).toInt, (zga P 2 (r * 3 + 2)).toInt, -(zga P 4 r).toInt) X = zev (zrc P r) X := rfl
theorem zbr_feas {n m q : Nat} {P : zSt} {X : zV} (hP : zPw n m q P) (hw : 0 ≤ X.2.2.2) (hz : ∀ i, i < 3 → n ≤ i → zco X i = 0) : zBr P n m X (zI 100) ↔ zfeas (zSo (zGa P 0 (-1) n m)) (zGa P 0 (-1) n m).length X := by
  have hm := hP.2.1
  have hn := hP.1
  unfold zfeas
  rw [zSo_all (Q := fun F => 0 ≤ zev F X)]
  constructor
  · intro h
    have hh : (∀ j, j < n → zwi P j X) ∧ ∀ s, s < m → zga P 5 s ≠ 0 → zalw (zga P 3 s) (zev (zrc P s) X) := by
      rcases h with ⟨i, hi, hv, -⟩ | ⟨h1, ⟨r, hr, hv, -⟩ | ⟨-, h2⟩⟩
      · rcases zlt3 (show i < 3 by omega) with rfl | rfl | rfl <;> exact absurd hv (by decide)
      · rw [zI_eq (by omega) (by omega)] at hv; omega
      · exact ⟨h1, h2⟩
    obtain ⟨h1, h2⟩ := hh
    refine ⟨hw, fun v hv => ?_⟩
    rcases zGa_mem.mp hv with hv | ⟨r, hr, hg, hv⟩ | ⟨i, hi, hg, hv⟩
    · obtain ⟨i, hi, e⟩ := zLL_mem.mp hv
      rw [e]
      show 0 ≤ zev (zEp i (zga P 0 i).toInt) X
      rw [zEp_ev i _ X hi]
      by_cases c : i < n
      · have := (h1 i c).1
        omega
      · rw [hz i hi (by omega), (hP.2.2.2.2.2.2.2.2.1 i hi (by omega)).1]
        simp
    · rw [zgat_0 (by omega)] at hg
      rw [zrnum_m1 (by omega)] at hv
      have ha := h2 r hr hg
      rcases zRS_mem hv with ⟨k, e⟩ | ⟨k, e⟩
      · rw [e]
        show 0 ≤ zev (-(zga P 2 (r * 3 + 0)).toInt, -(zga P 2 (r * 3 + 1)).toInt, -(zga P 2 (r * 3 + 2)).toInt, (zga P 4 r).toInt) X
        rw [zev_neg, zrc_ev]
        rcases ha with ha | ⟨ha, -⟩ | ⟨-, ha⟩
        · omega
        · omega
        · exact absurd ha k
      · rw [e]
        show 0 ≤ zev ((zga P 2 (r * 3 + 0)).toInt, (zga P 2 (r * 3 + 1)).toInt, (zga P 2 (r * 3 + 2)).toInt, -(zga P 4 r).toInt) X
        rw [zrc_ev]
        rcases ha with ha | ⟨-, ha⟩ | ⟨ha, -⟩
        · omega
        · exact absurd ha k
        · omega
    · rw [hv]
      show 0 ≤ zev (if i = 0 then -1 else 0, if i = 1 then -1 else 0, if i = 2 then -1 else 0, (zga P 1 i).toInt) X
      rw [zEn_ev i _ X (by omega)]
      have := (h1 i hi).2 (by
        rw [z32le] at hg
        have : (100 : Int32).toInt = 100 := by decide
        omega)
      omega
  · rintro ⟨-, hall⟩
    refine Or.inr ⟨fun j hj => ⟨?_, fun hg => ?_⟩, Or.inr ⟨rfl, fun s hs h5 => ?_⟩⟩
    · have e := hall (zEp j (zga P 0 j).toInt, false) (zGa_mem.mpr (Or.inl (zLL_mem.mpr ⟨j, by omega, rfl⟩)))
      have e2 : 0 ≤ zev (zEp j (zga P 0 j).toInt) X := e
      rw [zEp_ev j _ X (by omega)] at e2
      omega
    · have e := hall _ (zGa_mem.mpr (Or.inr (Or.inr ⟨j, hj, (by
        rw [z32le]
        have : (100 : Int32).toInt = 100 := by decide
        omega), rfl⟩)))
      have e2 : 0 ≤ zev (if j = 0 then -1 else 0, if j = 1 then -1 else 0, if j = 2 then -1 else 0, (zga P 1 j).toInt) X := e
      rw [zEn_ev j _ X (by omega)] at e2
      omega
    · have hg : zgat P 0 s := (zgat_0 (by omega)).mpr h5
      have hlow : zga P 3 s ≠ 62 → zev (zrc P s) X ≤ 0 := by
        intro k
        have e := hall ((-(zga P 2 (s * 3 + 0)).toInt, -(zga P 2 (s * 3 + 1)).toInt, -(zga P 2 (s * 3 + 2)).toInt, (zrnum P (-1) s).toInt), false) (zGa_mem.mpr (Or.inr (Or.inl ⟨s, hs, hg, by
          unfold zRS
          rw [if_neg k]
          exact List.mem_append_left _ (List.mem_singleton.mpr rfl)⟩)))
        have e2 : 0 ≤ zev (-(zga P 2 (s * 3 + 0)).toInt, -(zga P 2 (s * 3 + 1)).toInt, -(zga P 2 (s * 3 + 2)).toInt, (zrnum P (-1) s).toInt) X := e
        rw [zev_neg, zrnum_m1 (by omega), zrc_ev] at e2
        omega
      have hup : zga P 3 s ≠ 60 → 0 ≤ zev (zrc P s) X := by
        intro k
        have e := hall (((zga P 2 (s * 3 + 0)).toInt, (zga P 2 (s * 3 + 1)).toInt, (zga P 2 (s * 3 + 2)).toInt, -(zrnum P (-1) s).toInt), decide (zga P 3 s = 61)) (zGa_mem.mpr (Or.inr (Or.inl ⟨s, hs, hg, by
          unfold zRS
          rw [if_neg k]
          exact List.mem_append_right _ (List.mem_singleton.mpr rfl)⟩)))
        have e2 : 0 ≤ zev ((zga P 2 (s * 3 + 0)).toInt, (zga P 2 (s * 3 + 1)).toInt, (zga P 2 (s * 3 + 2)).toInt, -(zrnum P (-1) s).toInt) X := e
        rw [zrnum_m1 (by omega), zrc_ev] at e2
        exact e2
      rcases (hP.2.2.2.2.2.2.2.2.2.1 s hs).2.1 with k | k | k
      · have := hlow (by rw [k]; decide)
        by_cases c : zev (zrc P s) X = 0
        · exact Or.inl c
        · exact Or.inr (Or.inl ⟨by omega, k⟩)
      · have a := hlow (by rw [k]; decide)
        have b := hup (by rw [k]; decide)
        exact Or.inl (by omega)
      · have := hup (by rw [k]; decide)
        by_cases c : zev (zrc P s) X = 0
        · exact Or.inl c
        · exact Or.inr (Or.inr ⟨by omega, k⟩)
