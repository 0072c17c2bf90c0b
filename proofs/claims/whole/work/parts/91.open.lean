/-! 91: the proof that an aim is open; all proofs together. -/
theorem eX1_rateOf {S G : Nat → zV} {cnt s b : Nat} {o ins : Nat → Nat} {D : zSt} (h : zDic S G cnt o ins D) (hs : s < cnt) (hb : b < 3) : ∃ v, fX1_rateOf D (zI s) (zI b) = some v ∧ v.toInt = zc (zT S o) (S s) b := by
  have h18 := h.1.2.1
  have hob := h.2.1.1.2 b hb
  unfold fX1_rateOf
  rw [eX1_outsideOf hb, zbq, h.2.2.2.1 b hb]
  by_cases c : o b = s
  · rw [if_pos (by rw [c])]
    refine ⟨_, rfl, ?_⟩
    rw [h.2.2.2.2.2.1, ← c]
    have e := zc_own (t := zT S o) hb (i := b) (by omega)
    rw [if_pos rfl] at e
    exact e.symm
  · rw [if_neg (by rw [zI_eq (by omega) (by omega)]; exact c)]
    rcases eX1_lineOf h hs with ⟨l, hl, e, f⟩ | ⟨hu, f⟩
    · rw [f, zbq, if_neg (by rw [zI_neg1 (by omega)]; exact fun h => h), eX1_cell (by omega), zbq]
      refine ⟨_, rfl, ?_⟩
      rw [h.2.2.2.2.2.2 l (Or.inl hl) b (by omega)]
      unfold zRow
      rw [if_pos (by omega), e]
    · rw [f, zbq, if_pos rfl]
      refine ⟨0, rfl, ?_⟩
      rw [z64_0]
      exact (zou_val hu (by omega) (fun j hj e2 e3 => c (by rw [e3]; exact e2))).symm
section ZOPEN
variable {n m q : Nat} {P W s D : zSt} {o ins : Nat → Nat} {b : Nat}
theorem zbnd_row {y2 y3 : Int32} {i : Nat} (hi : i < 3) : zSo (zGa P y2 y3 n m) i = zEp i (zga P 0 i).toInt := by
  rcases zlt3 hi with rfl | rfl | rfl <;> rfl
theorem zXd_i (t : Nat → zV) {y2 y3 : Int32} {i : Nat} (hi : i < 3) (hb : b < 3) : zc t (zSo (zGa P y2 y3 n m) i) b = zco (zXd t b) i := by
  rw [zbnd_row hi, ← zXd_ev t _ hb, zEp_ev i _ _ hi]
  show _ - _ * (0 : Int) = _
  rw [Int.mul_zero, Int.sub_zero]
theorem zop_6 (hD : zDic (zSo (zGa P 0 (-1) n m)) (zGo P q) (zGa P 0 (-1) n m).length o ins D) (hb : b < 3) (h7 : zgi W 7 = zI b) : ∀ (d i f : Nat) (F : zSt), i + d = 3 → d < f → (∀ k, k < i → (zgb F 2 k).toInt = zco (zXd (zT (zSo (zGa P 0 (-1) n m)) o) b) k) → ∃ F2, fX6_provesOpen_6 P W s D f F (zI i) = fX6_provesOpen_47 P W s D 6000 F2 (zI 0) ∧ ∀ k, k < 3 → (zgb F2 2 k).toInt = zco (zXd (zT (zSo (zGa P 0 (-1) n m)) o) b) k
  | 0, i, f + 1, F, hi, hf, h => by
    rw [fX6_provesOpen_6, if_pos (by rw [zn3, zI_le (by omega) (by omega)]; omega)]
    exact ⟨F, rfl, fun k hk => h k (by omega)⟩
  | d + 1, i, f + 1, F, hi, hf, h => by
    have h3 := hD.1.1
    obtain ⟨v, v1, v2⟩ := eX1_rateOf (s := i) hD (by omega) hb
    rw [fX6_provesOpen_6, if_neg (by rw [zn3, zI_le (by omega) (by omega)]; omega), h7, v1, zbq, if_pos (zin_zI (by omega) (by omega)), zlq, zlq, zI_succ, zI_nat (by omega)]
    refine zop_6 hD hb h7 d (i + 1) f _ (by omega) (by omega) (fun k hk => ?_)
    rw [gb_sb]
    by_cases c : k = i
    · rw [updL_s c, v2, c]
      exact zXd_i _ (by omega) hb
    · rw [updL_n c]; exact h k (by omega)
theorem zgain_s {f t : Nat} {F : zSt} {S : Nat → zV} {cnt : Nat} {V : zV} (hS : zSd s S cnt) (ht : t < cnt) (hV : ∀ k, k < 3 → (zgb F 2 k).toInt = zco V k ∧ zab (zco V k) 4374) (hw : V.2.2.2 = 0) : ∃ v, fX6_gainOfSide_5 F W s (f + 4) (zI t) 0 (zI 0) = some v ∧ v.toInt = zev (S t) V := by
  have h18 := hS.1
  obtain ⟨a1, a2, -⟩ := hS.2.2 t ht
  have st : ∀ (x : Int64) (A c : Nat), c < 3 → zab x.toInt A → A < 1000000 → (x + (zga s 0 (t * 3 + c)).toInt64 * zgb F 2 c).toInt = x.toInt + zco (S t) c * zco V c ∧ zab (x + (zga s 0 (t * 3 + c)).toInt64 * zgb F 2 c).toInt (A + 39366) := by
    intro x A c hc hx hA
    have hb : zab (zga s 0 (t * 3 + c)).toInt 9 := by rw [a2 c hc]; exact zvb_co a1 hc
    have hv : zab (zgb F 2 c).toInt 4374 := by rw [(hV c hc).1]; exact (hV c hc).2
    have e := zdot hx hb hv (by omega) (by omega)
    rw [a2 c hc, (hV c hc).1] at e
    exact ⟨e.1, zab_le e.2 (by omega)⟩
  have d0 := st 0 0 0 (by omega) z64zab0 (by omega)
  have d1 := st _ _ 1 (by omega) d0.2 (by omega)
  have d2 := st _ _ 2 (by omega) d1.2 (by omega)
  refine ⟨_, (by
    rw [fX6_gainOfSide_5, if_neg (by rw [zn3, zI_le (by omega) (by omega)]; omega), eX7_slopeOf (by omega), zbq, if_pos (zin_zI (by omega) (by omega)), zlq, zlq, zI_succ, zI_nat (by omega)]
    rw [fX6_gainOfSide_5, if_neg (by rw [zn3, zI_le (by omega) (by omega)]; omega), eX7_slopeOf (by omega), zbq, if_pos (zin_zI (by omega) (by omega)), zlq, zlq, zI_succ, zI_nat (by omega)]
    rw [fX6_gainOfSide_5, if_neg (by rw [zn3, zI_le (by omega) (by omega)]; omega), eX7_slopeOf (by omega), zbq, if_pos (zin_zI (by omega) (by omega)), zlq, zlq, zI_succ, zI_nat (by omega)]
    rw [fX6_gainOfSide_5, if_pos (by rw [zn3, zI_le (by omega) (by omega)]; omega)]), ?_⟩
  rw [d2.1, d1.1, d0.1, z64_0, Int.zero_add]
  unfold zev
  rw [hw, Int.mul_zero, Int.add_zero]
  rfl
theorem zgain_a {f a : Nat} {F : zSt} {V : zV} (hP : zPw n m q P) (ha : a < q) (hV : ∀ k, k < 3 → (zgb F 2 k).toInt = zco V k ∧ zab (zco V k) 4374) : ∃ v, fX6_gainOfAim_5 F P (f + 4) (zI a) 0 (zI 0) = some v ∧ v.toInt = (zga P 7 a).toInt * zev (zac P a) V := by
  have hq := hP.2.2.1
  have hc := (hP.2.2.2.2.2.2.2.2.2.2.1 a ha).1
  have hdir := (hP.2.2.2.2.2.2.2.2.2.2.1 a ha).2
  have hd : zab (zga P 7 a).toInt64.toInt 1 := by
    rw [z32_64]
    rcases hdir with k | k <;> rw [k] <;> exact zab_of (by decide) (by decide)
  have hv : ∀ k, k < 3 → zab (zgb F 2 k).toInt 4374 := fun k hk => by rw [(hV k hk).1]; exact (hV k hk).2
  have d0 := zdot z64zab0 (hc 0 (by omega)).1 (hv 0 (by omega)) (by omega) (by omega)
  have d1 := zdot d0.2 (hc 1 (by omega)).1 (hv 1 (by omega)) (by omega) (by omega)
  have d2 := zdot d1.2 (hc 2 (by omega)).1 (hv 2 (by omega)) (by omega) (by omega)
  have mm := z64mul d2.2 hd (by omega)
  refine ⟨_, (by
    rw [fX6_gainOfAim_5, if_neg (by rw [zn3, zI_le (by omega) (by omega)]; omega), eX5_aimCoefficient (by omega), zbq, if_pos (zin_zI (by omega) (by omega)), zlq, zlq, zI_succ, zI_nat (by omega)]
    rw [fX6_gainOfAim_5, if_neg (by rw [zn3, zI_le (by omega) (by omega)]; omega), eX5_aimCoefficient (by omega), zbq, if_pos (zin_zI (by omega) (by omega)), zlq, zlq, zI_succ, zI_nat (by omega)]
    rw [fX6_gainOfAim_5, if_neg (by rw [zn3, zI_le (by omega) (by omega)]; omega), eX5_aimCoefficient (by omega), zbq, if_pos (zin_zI (by omega) (by omega)), zlq, zlq, zI_succ, zI_nat (by omega)]
    rw [fX6_gainOfAim_5, if_pos (by rw [zn3, zI_le (by omega) (by omega)]; omega), eX5_directionOf (by omega), zbq]), ?_⟩
  rw [mm, d2.1, d1.1, d0.1, z64_0, z32_64, (hV 0 (by omega)).1, (hV 1 (by omega)).1, (hV 2 (by omega)).1, Int.zero_add, Int.mul_comm]
  congr 1
  unfold zev zac
  simp only [Nat.add_zero, Int.zero_mul, Int.add_zero]
  rfl
theorem zop_81 {k : Nat} {F : zSt} {V : zV} (hP : zPw n m q P) (hk : k < q) (h6 : zgi W 6 = zI k) (hV : ∀ k, k < 3 → (zgb F 2 k).toInt = zco V k ∧ zab (zco V k) 4374) (hz : ∀ a, a < k → (zga P 7 a).toInt * zev (zac P a) V = 0) (hp : 0 < (zga P 7 k).toInt * zev (zac P k) V) : ∀ (d a f : Nat), a + d = k → d < f → fX6_provesOpen_81 P W s D f F (zI a) = some (1, F)
  | 0, a, f + 1, ha, hf => by
    have hq := hP.2.2.1
    obtain ⟨v, v1, v2⟩ := zgain_a (f := 5996) hP hk hV
    rw [fX6_provesOpen_81, h6, if_pos (by rw [zI_le (by omega) (by omega)]; omega)]
    unfold fX6_gainOfAim
    rw [zn0, v1, zbq, if_neg (by rw [z64le, z64_0, v2]; omega)]
    unfold fX6_provesOpen_131
    rw [if_pos znb1]
  | d + 1, a, f + 1, ha, hf => by
    have hq := hP.2.2.1
    obtain ⟨v, v1, v2⟩ := zgain_a (f := 5996) hP (show a < q by omega) hV
    rw [fX6_provesOpen_81, h6, if_neg (by rw [zI_le (by omega) (by omega)]; omega)]
    rw [show fX6_gainOfAim F P (zI a) = some v from v1, zbq, if_pos (by rw [z64eq, z64_0, v2]; exact hz a (by omega)), zlq, zI_succ]
    exact zop_81 hP hk h6 hV hz hp d (a + 1) f (by omega) (by omega)
theorem zop_47 {k : Nat} {F : zSt} {S : Nat → zV} {cnt : Nat} {V : zV} (hP : zPw n m q P) (hS : zSd s S cnt) (hk : k < q) (h6 : zgi W 6 = zI k) (hV : ∀ k, k < 3 → (zgb F 2 k).toInt = zco V k ∧ zab (zco V k) 4374) (hw : V.2.2.2 = 0) (hs : ∀ t, t < cnt → 0 ≤ zev (S t) V) (hz : ∀ a, a < k → (zga P 7 a).toInt * zev (zac P a) V = 0) (hp : 0 < (zga P 7 k).toInt * zev (zac P k) V) : ∀ (d t f : Nat), t + d = cnt → d < f → fX6_provesOpen_47 P W s D f F (zI t) = some (1, F)
  | 0, t, f + 1, ht, hf => by
    rw [fX6_provesOpen_47, hS.2.1, if_pos (by rw [show t = cnt by omega]; exact Int32.le_refl _), zn0]
    exact zop_81 hP hk h6 hV hz hp k 0 6000 (by omega) (by have := hP.2.2.1; omega)
  | d + 1, t, f + 1, ht, hf => by
    have h18 := hS.1
    obtain ⟨v, v1, v2⟩ := zgain_s (W := W) (f := 5996) hS (show t < cnt by omega) hV hw
    rw [fX6_provesOpen_47, hS.2.1, if_neg (by rw [zI_le (by omega) (by omega)]; omega)]
    rw [show fX6_gainOfSide F W s (zI t) = some v from v1, zbq, if_pos (by rw [z64le, z64_0, v2]; exact hs t (by omega)), zlq, zI_succ]
    exact zop_47 hP hS hk h6 hV hw hs hz hp d (t + 1) f (by omega) (by omega)
end ZOPEN
theorem eX6_provesOpen {n m q k b : Nat} {P W s D F : zSt} {o ins : Nat → Nat} (hP : zPw n m q P) (hS : zSd s (zSo (zGa P 0 (-1) n m)) (zGa P 0 (-1) n m).length) (hD : zDic (zSo (zGa P 0 (-1) n m)) (zGo P q) (zGa P 0 (-1) n m).length o ins D) (hk : k < q) (hb : b < 3) (h6 : zgi W 6 = zI k) (h7 : zgi W 7 = zI b) (hp : 0 < zc (zT (zSo (zGa P 0 (-1) n m)) o) (zGo P q k) b) (hs : ∀ s, s < (zGa P 0 (-1) n m).length → 0 ≤ zc (zT (zSo (zGa P 0 (-1) n m)) o) (zSo (zGa P 0 (-1) n m) s) b) (hz : ∀ c, c < k → zc (zT (zSo (zGa P 0 (-1) n m)) o) (zGo P q c) b = 0) : ∃ F2, fX6_provesOpen F P W s D = some (1, F2) := by
  obtain ⟨F1, f1, -⟩ := eX6_clear F
  obtain ⟨F2, g1, g2⟩ := zop_6 (W := W) (s := s) hD hb h7 3 0 6000 F1 (by omega) (by omega) (fun k hk => by omega)
  have conv : ∀ a, a < q → (zga P 7 a).toInt * zev (zac P a) (zXd (zT (zSo (zGa P 0 (-1) n m)) o) b) = zc (zT (zSo (zGa P 0 (-1) n m)) o) (zGo P q a) b := by
    intro a ha
    obtain ⟨c, hc⟩ := zGaim_c P a
    rw [← zXd_ev _ _ hb, zGo_lt hP.2.2.1 ha, hc]
    show _ = _ - c * (0 : Int)
    rw [Int.mul_zero, Int.sub_zero]
  have hV : ∀ k, k < 3 → (zgb F2 2 k).toInt = zco (zXd (zT (zSo (zGa P 0 (-1) n m)) o) b) k ∧ zab (zco (zXd (zT (zSo (zGa P 0 (-1) n m)) o) b) k) 4374 := fun k hk => by
    refine ⟨g2 k hk, ?_⟩
    have e : zco (zXd (zT (zSo (zGa P 0 (-1) n m)) o) b) k = zc (zT (zSo (zGa P 0 (-1) n m)) o) (zE k) b := by
      rcases zlt3 hk with rfl | rfl | rfl <;> rfl
    rw [e]
    exact zWf_c hD.1 o (zvbE k) hb
  unfold fX6_provesOpen
  rw [f1, zbq, zn0, g1]
  exact ⟨F2, zop_47 hP hS hk h6 hV rfl (fun t ht => by rw [zXd_ev _ _ hb]; exact hs t ht) (fun a ha => by rw [conv a (by omega)]; exact hz a ha) (by rw [conv k hk]; exact hp) (zGa P 0 (-1) n m).length 0 6000 (by omega) (by have := hS.1; omega)⟩
theorem eX6_isSound {n m q : Nat} {P W s D Q F : zSt} {o ins : Nat → Nat} (hP : zPw n m q P) (hq : 0 < q) (hW : zWk n m q P W s D Q o ins) : ∃ F2, fX6_isSound F P W s D Q = some (1, F2) := by
  obtain ⟨hL, hF | hF⟩ := hW
  · have hS := zLi_sd hP hL
    have hbd := zDic_bd hF.1
    obtain ⟨hD, hx, hfe, hQ, hout⟩ := hF
    have hz : ∀ i, i < 3 → n ≤ i → zco (zXb (zT (zSo (zGa P 0 (-1) n m)) o)) i = 0 := by
      intro i hi hn
      rw [zXb_co hP o hi]
      have e2 : zc (zT (zSo (zGa P 0 (-1) n m)) o) (zSo (zGa P 0 (-1) n m) i) 3 = 0 := zou_val ⟨i, hi, hx i hi hn⟩ (by omega) (fun j hj _ => by omega)
      rw [e2, (hP.2.2.2.2.2.2.2.2.1 i hi hn).1]
      simp
    have hXf : zfeas (zSo (zGa P 0 (-1) n m)) (zGa P 0 (-1) n m).length (zXb (zT (zSo (zGa P 0 (-1) n m)) o)) := ⟨Int.le_of_lt hbd.2.1, fun s hs => by rw [zXb_ev]; exact hfe s hs⟩
    obtain ⟨v, v1, v2⟩ := eX5_breakerOf hP (zPt_qp hQ) hbd
    have v3 : v = 100 := zBr_one v2 ((zbr_feas hP (Int.le_of_lt hbd.2.1) hz).mpr hXf)
    unfold fX6_isSound fX6_isSound_61
    rcases hout with ⟨h5, hpat, -⟩ | ⟨k, b, -, hk, hb, h5, h6, h7, -, -, hp, hs, hz2⟩
    · obtain ⟨F2, e⟩ := eX6_provesBest (W := W) (F := F) hP hq hS hD hQ hpat
      rw [if_neg (by rw [h5]; decide), v1, zbq, if_pos v3, if_neg (by rw [h5]; decide), e, zbq, if_pos znb1]
      exact ⟨F2, rfl⟩
    · obtain ⟨F2, e⟩ := eX6_provesOpen (W := W) (F := F) hP hS hD hk hb h6 h7 hp hs hz2
      rw [if_neg (by rw [h5]; decide), v1, zbq, if_pos v3, if_pos h5, e, zbq, if_pos znb1]
      exact ⟨F2, rfl⟩
  · have hS := zLi_sd hP hL
    obtain ⟨F2, e⟩ := eX6_provesNone (F := F) hS hF
    have h5 : zgi W 5 = 105 := by
      rcases hF.2.2.2 with ⟨h1, -⟩ | ⟨-, h1, -⟩
      · exact absurd h1 (by decide)
      · exact h1
    unfold fX6_isSound
    rw [if_pos h5, e, zbq, if_pos znb1]
    exact ⟨F2, rfl⟩
