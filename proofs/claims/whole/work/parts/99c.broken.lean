/-! 9c: what breaks a kept point, as the reference finds it. -/
theorem zpos_le {a b x y : Int} (hx : 0 < x) (hy : 0 < y) (e : a * y = b * x) : 0 ≤ a ↔ 0 ≤ b := by
  constructor
  · intro h
    have h1 : 0 ≤ a * y := Int.mul_nonneg h (by omega)
    rw [e] at h1
    exact Int.nonneg_of_mul_nonneg_left h1 hx
  · intro h
    have h1 : 0 ≤ b * x := Int.mul_nonneg h (by omega)
    rw [← e] at h1
    exact Int.nonneg_of_mul_nonneg_left h1 hy
theorem zsame_sg {X Y : zV} (h : zSame X Y) (hX : 0 < X.2.2.2) (hY : 0 < Y.2.2.2) (F : zV) : 0 ≤ zev F X ↔ 0 ≤ zev F Y := zpos_le hX hY (zsame_ev h F)
theorem zwi_same {P : zSt} {X Y : zV} {i : Nat} (hi : i < 3) (h : zSame X Y) (hX : 0 < X.2.2.2) (hY : 0 < Y.2.2.2) : zwi P i X ↔ zwi P i Y := by
  have a := zsame_sg h hX hY (zEp i (zga P 0 i).toInt)
  have b := zsame_sg h hX hY (if i = 0 then -1 else 0, if i = 1 then -1 else 0, if i = 2 then -1 else 0, (zga P 1 i).toInt)
  rw [zEp_ev i _ X hi, zEp_ev i _ Y hi] at a
  rw [zEn_ev i _ X hi, zEn_ev i _ Y hi] at b
  unfold zwi
  constructor
  · rintro ⟨h1, h2⟩
    exact ⟨by omega, fun g => by have := h2 g; omega⟩
  · rintro ⟨h1, h2⟩
    exact ⟨by omega, fun g => by have := h2 g; omega⟩
theorem zalw_same {P : zSt} {X Y : zV} {r : Nat} {k : Int32} (h : zSame X Y) (hX : 0 < X.2.2.2) (hY : 0 < Y.2.2.2) : zalw k (zev (zrc P r) X) ↔ zalw k (zev (zrc P r) Y) := by
  have a := zsame_sg h hX hY (zrc P r)
  have b := zsame_0 h hX hY (zrc P r)
  unfold zalw
  constructor
  · rintro (h1 | ⟨h1, h2⟩ | ⟨h1, h2⟩)
    · exact Or.inl (b.mp h1)
    · exact Or.inr (Or.inl ⟨by omega, h2⟩)
    · exact Or.inr (Or.inr ⟨by omega, h2⟩)
  · rintro (h1 | ⟨h1, h2⟩ | ⟨h1, h2⟩)
    · exact Or.inl (b.mpr h1)
    · exact Or.inr (Or.inl ⟨by omega, h2⟩)
    · exact Or.inr (Or.inr ⟨by omega, h2⟩)
theorem zBr_same {P : zSt} {n m : Nat} {X Y : zV} {v : Int32} (hn : n ≤ 3) (h : zSame X Y) (hX : 0 < X.2.2.2) (hY : 0 < Y.2.2.2) (g : zBr P n m X v) : zBr P n m Y v := by
  rcases g with ⟨i, hi, hv, h1, h2⟩ | ⟨h1, ⟨r, hr, hv, h2, h3, h4⟩ | ⟨hv, h2⟩⟩
  · exact Or.inl ⟨i, hi, hv, fun k => h1 ((zwi_same (by omega) h hX hY).mpr k), fun j hj => (zwi_same (by omega) h hX hY).mp (h2 j hj)⟩
  · exact Or.inr ⟨fun j hj => (zwi_same (by omega) h hX hY).mp (h1 j hj), Or.inl ⟨r, hr, hv, h2, fun k => h3 ((zalw_same h hX hY).mpr k), fun s hs h5 => (zalw_same h hX hY).mp (h4 s hs h5)⟩⟩
  · exact Or.inr ⟨fun j hj => (zwi_same (by omega) h hX hY).mp (h1 j hj), Or.inr ⟨hv, fun s hs h5 => (zalw_same h hX hY).mp (h2 s hs h5)⟩⟩
section ZBRK
variable {n m q k : Nat} {P O : zSt} {Y : zV}
theorem zbk_step {r c f : Nat} {x : Int64} {A : Nat} {k82 : Int32 → Int32 → Option Int32} (hP : zPw n m q P) (hR : zRl n m q P O) (hk : k < 4) (hS : zSnR O k Y) (hY : zBd Y) (hr : r < m) (hc : c < 3) (hx : zab x.toInt A) (hA : A < 10000000000) : ∃ x2 : Int64, fX12_breaks_109 O k82 (f + 1) (zI k) (zI r) x (zI c) = fX12_breaks_109 O k82 f (zI k) (zI r) x2 (zI (c + 1)) ∧ x2.toInt = x.toInt + (zga P 2 (r * 3 + c)).toInt * zco Y c ∧ zab x2.toInt (A + 212576400) := by
  have hm := hP.2.1
  have hcf := ((hP.2.2.2.2.2.2.2.2.2.1 r hr).1 c hc).1
  have e := (hR.2.2.2.2.1 r hr).1 c hc
  have hv : zab (zgb O 37 (3 * k + c)).toInt 23619600 := by rw [hS.2 c hc]; exact hY.1 c hc
  have d := zdot (c := zga O 2 (3 * r + c)) hx (by rw [e]; exact hcf) hv (by omega) (by omega)
  rw [e, hS.2 c hc] at d
  refine ⟨x + (zga O 2 (3 * r + c)).toInt64 * zgb O 37 (3 * k + c), ?_, by rw [e]; exact d.1, by rw [e]; exact zab_le d.2 (by omega)⟩
  rw [fX12_breaks_109, if_neg (by rw [zn3, zI_le (by omega) (by omega)]; omega)]
  simp only [zn3, zI_mul, zI_add]
  rw [if_pos (zin_zI (by omega) (by omega)), if_pos (zin_zI (by omega) (by omega)), zlq, zlq, zI_succ, zI_nat (by omega), zI_nat (by omega)]
theorem zbk_row {r f : Nat} {k82 : Int32 → Int32 → Option Int32} (hP : zPw n m q P) (hR : zRl n m q P O) (hk : k < 4) (hS : zSnR O k Y) (hY : zBd Y) (hr : r < m) : ∃ b : Int32, fX12_breaks_109 O k82 (f + 4) (zI k) (zI r) ((-(zga O 4 r)).toInt64 * zgb O 38 k) (zI 0) = (if zga O 6 r = 0 then (if b = 0 then fX12_breaks_224 O k82 (zI k) (zI r) else some (zI r)) else fX12_breaks_224 O k82 (zI k) (zI r)) ∧ (b = 0 ↔ zalw (zga P 3 r) (zev (zrc P r) Y)) := by
  have hm := hP.2.1
  have hn := (hP.2.2.2.2.2.2.2.2.2.1 r hr).2.2
  have e4 := (hR.2.2.2.2.1 r hr).2.2.1
  have n4 : (-(zga O 4 r)).toInt = -(zga P 4 r).toInt := by rw [e4]; exact z32neg hn (by omega)
  have w1 : zab (-(zga O 4 r)).toInt64.toInt 99 := by rw [z32_64, n4]; exact zab_neg hn
  have w2 : zab (zgb O 38 k).toInt 23619600 := by rw [hS.1]; exact zBd_w hY
  have mm := z64mul w1 w2 (by omega)
  have mb : zab ((-(zga O 4 r)).toInt64 * zgb O 38 k).toInt (99 * 23619600) := by rw [mm]; exact zab_mul w1 w2
  rw [z32_64, n4, hS.1] at mm
  obtain ⟨x1, a1, b1, c1⟩ := zbk_step (f := f + 3) (c := 0) (k82 := k82) hP hR hk hS hY hr (by omega) mb (by omega)
  obtain ⟨x2, a2, b2, c2⟩ := zbk_step (f := f + 2) (c := 0 + 1) (k82 := k82) hP hR hk hS hY hr (by omega) c1 (by omega)
  obtain ⟨x3, a3, b3, c3⟩ := zbk_step (f := f + 1) (c := 0 + 1 + 1) (k82 := k82) hP hR hk hS hY hr (by omega) c2 (by omega)
  have b2' : x2.toInt = x1.toInt + (zga P 2 (r * 3 + 1)).toInt * zco Y 1 := b2
  have b3' : x3.toInt = x2.toInt + (zga P 2 (r * 3 + 2)).toInt * zco Y 2 := b3
  have ev : zev (zrc P r) Y = x3.toInt := by
    rw [b3', b2', b1, mm]
    simp only [zev, zrc, zco, Nat.add_zero, Int.neg_mul]
    omega
  rw [a1, a2, a3, fX12_breaks_109, if_pos (by rw [zn3, zI_le (by omega) (by omega)]; omega), if_pos (zin_zI (by omega) (by omega)), zI_nat (by omega), if_pos (zin_zI (by omega) (by omega))]
  have fin : ∀ y : Int32, fX12_breaks_206 O k82 (zI k) (zI r) y = (if zga O 6 r = 0 then (if y = 0 then fX12_breaks_224 O k82 (zI k) (zI r) else some (zI r)) else fX12_breaks_224 O k82 (zI k) (zI r)) := by
    intro y
    unfold fX12_breaks_206
    rw [if_pos (zin_zI (by omega) (by omega)), zI_nat (by omega)]
  rw [ev]
  unfold zalw
  rcases (hR.2.2.2.2.1 r hr).2.1 with ⟨k1, k2⟩ | ⟨k1, k2⟩ | ⟨k1, k2⟩
  · rw [k1, k2, if_pos (show zI 0 = 0 from rfl)]
    by_cases c : x3.toInt ≤ 0
    · rw [if_pos (by rw [z64le, z64_0]; exact c)]
      exact ⟨0, fin 0, fun _ => by
        by_cases e : x3.toInt = 0
        · exact Or.inl e
        · exact Or.inr (Or.inl ⟨by omega, rfl⟩), fun _ => rfl⟩
    · rw [if_neg (by rw [z64le, z64_0]; exact c)]
      refine ⟨1, fin 1, fun h => absurd h (by decide), fun h => ?_⟩
      rcases h with h | ⟨h, -⟩ | ⟨-, h⟩
      · omega
      · omega
      · exact absurd h (by decide)
  · rw [k1, k2, if_neg (by decide), if_pos (show zI 1 = 1 from rfl)]
    by_cases c : 0 ≤ x3.toInt
    · rw [if_pos (by rw [z64le, z64_0]; exact c)]
      exact ⟨0, fin 0, fun _ => by
        by_cases e : x3.toInt = 0
        · exact Or.inl e
        · exact Or.inr (Or.inr ⟨by omega, rfl⟩), fun _ => rfl⟩
    · rw [if_neg (by rw [z64le, z64_0]; exact c)]
      refine ⟨1, fin 1, fun h => absurd h (by decide), fun h => ?_⟩
      rcases h with h | ⟨-, h⟩ | ⟨h, -⟩
      · omega
      · exact absurd h (by decide)
      · omega
  · rw [k1, k2, if_neg (by decide), if_neg (by decide)]
    by_cases c : x3.toInt = 0
    · rw [if_pos (by rw [z64eq, z64_0]; exact c)]
      exact ⟨0, fin 0, fun _ => Or.inl c, fun _ => rfl⟩
    · rw [if_neg (by rw [z64eq, z64_0]; exact c)]
      refine ⟨1, fin 1, fun h => absurd h (by decide), fun h => ?_⟩
      rcases h with h | ⟨-, h⟩ | ⟨-, h⟩
      · exact absurd h c
      · exact absurd h (by decide)
      · exact absurd h (by decide)
theorem zbk_82 (hP : zPw n m q P) (hR : zRl n m q P O) (hk : k < 4) (hS : zSnR O k Y) (hY : zBd Y) (hw : ∀ j, j < n → zwi P j Y) : ∀ (d r f : Nat), r + d = m → d < f → (∀ s, s < r → zga P 5 s ≠ 0 → zalw (zga P 3 s) (zev (zrc P s) Y)) → ∃ v, fX12_breaks_82 O f (zI k) (zI r) = some v ∧ zBr P n m Y v
  | 0, r, f + 1, hr, hf, ha => by
    have e : r = m := by omega
    subst e
    rw [fX12_breaks_82, hR.2.1, if_pos (Int32.le_refl _)]
    exact ⟨100, rfl, Or.inr ⟨hw, Or.inr ⟨rfl, ha⟩⟩⟩
  | d + 1, r, f + 1, hr, hf, ha => by
    have hm := hP.2.1
    have hlive := (hR.2.2.2.2.1 r (by omega)).2.2.2
    obtain ⟨b, b1, b2⟩ := zbk_row (f := 5996) (k82 := fX12_breaks_82 O f) hP hR hk hS hY (show r < m by omega)
    have next : (zga P 5 r ≠ 0 → zalw (zga P 3 r) (zev (zrc P r) Y)) → ∃ v, fX12_breaks_224 O (fX12_breaks_82 O f) (zI k) (zI r) = some v ∧ zBr P n m Y v := by
      intro h
      unfold fX12_breaks_224
      rw [zlq, zI_succ]
      refine zbk_82 hP hR hk hS hY hw d (r + 1) f (by omega) (by omega) (fun s hs h5 => ?_)
      by_cases e : s = r
      · rw [e] at h5 ⊢; exact h h5
      · exact ha s (by omega) h5
    rw [fX12_breaks_82, hR.2.1, if_neg (by rw [zI_le (by omega) (by omega)]; omega), if_pos (zin_zI (by omega) (by omega)), if_pos (zin_zI hk (by omega)), zlq, zI_nat (by omega), zI_nat (by omega), zn0]
    rw [b1]
    by_cases c : zga O 6 r = 0
    · rw [if_pos c]
      by_cases cb : b = 0
      · rw [if_pos cb]
        exact next (fun _ => b2.mp cb)
      · rw [if_neg cb]
        exact ⟨zI r, rfl, Or.inr ⟨hw, Or.inl ⟨r, by omega, rfl, hlive.mp c, fun h => cb (b2.mpr h), ha⟩⟩⟩
    · rw [if_neg c]
      exact next (fun h5 => absurd (hlive.mpr h5) c)
theorem zbk_2 (hP : zPw n m q P) (hR : zRl n m q P O) (hk : k < 4) (hS : zSnR O k Y) (hY : zBd Y) : ∀ (d i f : Nat), i + d = n → d < f → (∀ j, j < i → zwi P j Y) → ∃ v, fX12_breaks_2 O f (zI k) (zI i) = some v ∧ zBr P n m Y v
  | 0, i, f + 1, hi, hf, ha => by
    have e : i = n := by omega
    subst e
    rw [fX12_breaks_2, hR.1, if_pos (Int32.le_refl _), zn0]
    exact zbk_82 hP hR hk hS hY ha m 0 6000 (by omega) (by have := hP.2.1; omega) (fun s hs => by omega)
  | d + 1, i, f + 1, hi, hf, ha => by
    have hn := hP.1
    have hi3 : i < 3 := by omega
    obtain ⟨l0, l1⟩ := zbnd hP hi3
    have a0 := (hR.2.2.2.1 i hi3).1
    have a1 := (hR.2.2.2.1 i hi3).2
    have e0 := zmulw l0 hS.1 ⟨hY.2.1, hY.2.2⟩
    have e1 := zmulw l1 hS.1 ⟨hY.2.1, hY.2.2⟩
    have next : zwi P i Y → ∃ v, fX12_breaks_74 O (fX12_breaks_2 O f) (zI k) (zI i) = some v ∧ zBr P n m Y v := by
      intro w
      unfold fX12_breaks_74
      rw [zlq, zI_succ]
      refine zbk_2 hP hR hk hS hY d (i + 1) f (by omega) (by omega) (fun j hj => ?_)
      by_cases e : j = i
      · rw [e]; exact w
      · exact ha j (by omega)
    have stop : ¬ zwi P i Y → ∃ v, fX12_breaks_70 O (zI i) = some v ∧ zBr P n m Y v := by
      intro w
      unfold fX12_breaks_70
      exact ⟨_, rfl, Or.inl ⟨i, by omega, rfl, w, ha⟩⟩
    rw [fX12_breaks_2, hR.1, if_neg (by rw [zI_le (by omega) (by omega)]; omega), show (3 : Int32) * zI k + zI i = zI (3 * k + i) by rw [zn3, zI_mul, zI_add], if_pos (zin_zI (by omega) (by omega)), zlq, if_pos (zin_zI hi3 (by omega)), if_pos (zin_zI hk (by omega)), zI_nat (by omega), zI_nat (by omega), zI_nat (by omega), a0, a1]
    by_cases c : zco Y i < (zga P 0 i).toInt * Y.2.2.2
    · rw [if_pos (by rw [z64lt, e0, hS.2 i hi3]; exact c)]
      exact stop (fun h => by have := h.1; omega)
    · rw [if_neg (by rw [z64lt, e0, hS.2 i hi3]; exact c), if_pos (zin_zI hi3 (by omega))]
      have c100 : (100 : Int32).toInt = 100 := by decide
      by_cases d2 : (100 : Int32) ≤ zga P 1 i
      · rw [if_pos d2]
        rw [z32le, c100] at d2
        exact next ⟨by omega, fun h => by omega⟩
      · rw [if_neg d2, if_pos (zin_zI hi3 (by omega)), if_pos (zin_zI hk (by omega))]
        rw [z32le, c100] at d2
        by_cases g : zco Y i ≤ (zga P 1 i).toInt * Y.2.2.2
        · rw [if_pos (by rw [z64le, e1, hS.2 i hi3]; exact g)]
          exact next ⟨by omega, fun _ => g⟩
        · rw [if_neg (by rw [z64le, e1, hS.2 i hi3]; exact g)]
          exact stop (fun h => g (h.2 (by omega)))
theorem eX12_breaks (hP : zPw n m q P) (hR : zRl n m q P O) (hk : k < 4) (hS : zSnR O k Y) (hY : zBd Y) : ∃ v, fX12_breaks O (zI k) = some v ∧ zBr P n m Y v := by
  unfold fX12_breaks
  rw [zn0]
  exact zbk_2 hP hR hk hS hY n 0 6000 (by omega) (by have := hP.1; omega) (fun j hj => by omega)
end ZBRK
