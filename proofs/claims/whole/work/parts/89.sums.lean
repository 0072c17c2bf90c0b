/-! 89: sums of sides (class X6). -/
def zFv (F : zSt) (V : zV) (A : Nat) : Prop := (∀ i, i < 3 → (zgb F 2 i).toInt = zco V i ∧ zab (zco V i) A) ∧ (zgl F 3).toInt = V.2.2.2 ∧ zab V.2.2.2 A
theorem zFv_le {F : zSt} {V : zV} {A B : Nat} (h : zFv F V A) (hB : A ≤ B) : zFv F V B := ⟨fun i hi => ⟨(h.1 i hi).1, zab_le (h.1 i hi).2 hB⟩, h.2.1, zab_le h.2.2 hB⟩
def zadd (V : zV) (c : Int) (U : zV) : zV := (V.1 + c * U.1, V.2.1 + c * U.2.1, V.2.2.1 + c * U.2.2.1, V.2.2.2 + c * U.2.2.2)
theorem zco_zadd (V : zV) (c : Int) (U : zV) {i : Nat} (hi : i < 3) : zco (zadd V c U) i = zco V i + c * zco U i := by
  rcases zlt3 hi with rfl | rfl | rfl <;> rfl
theorem zclr_7 : ∀ (d i f : Nat) (F : zSt), i + d = 3 → d < f → (∀ k, k < i → zgb F 2 k = 0) → ∃ F2, fX6_clear_7 f F (zI i) = some F2 ∧ (∀ k, k < 3 → zgb F2 2 k = 0) ∧ zgl F2 3 = zgl F 3
  | 0, i, f + 1, F, hi, hf, h => by
    rw [fX6_clear_7, if_pos (by rw [zn3, zI_le (by omega) (by omega)]; omega)]
    exact ⟨F, rfl, fun k hk => h k (by omega), rfl⟩
  | d + 1, i, f + 1, F, hi, hf, h => by
    rw [fX6_clear_7, if_neg (by rw [zn3, zI_le (by omega) (by omega)]; omega), if_pos (zin_zI (by omega) (by omega)), zlq, zlq, zI_succ, zI_nat (by omega)]
    obtain ⟨F2, g1, g2, g3⟩ := zclr_7 d (i + 1) f (zsb F 2 (vp_updL (zgb F 2) i 0)) (by omega) (by omega) (fun k hk => by
      rw [gb_sb]
      by_cases e : k = i
      · rw [updL_s e]
      · rw [updL_n e]; exact h k (by omega))
    exact ⟨F2, g1, g2, by rw [g3, gl_sb]⟩
theorem eX6_clear (F : zSt) : ∃ F2, fX6_clear F = some F2 ∧ zFv F2 (0, 0, 0, 0) 0 := by
  obtain ⟨F2, g1, g2, g3⟩ := zclr_7 3 0 6000 (zsl F 3 0) (by omega) (by omega) (fun k hk => by omega)
  unfold fX6_clear
  rw [zlq, zn0, g1]
  refine ⟨F2, rfl, fun i hi => ⟨?_, ?_⟩, ?_, Nat.le_refl 0⟩
  · rw [g2 i hi, z64_0]
    rcases zlt3 hi with rfl | rfl | rfl <;> rfl
  · rcases zlt3 hi with rfl | rfl | rfl <;> exact Nat.le_refl 0
  · rw [g3, gl_sl, z64_0]
theorem zfad_25 {W s : zSt} {S : Nat → zV} {cnt k A : Nat} {x1 : Int64} {V : zV} (hS : zSd s S cnt) (hk : k < cnt) (hc : zab x1.toInt 4374) (hV : ∀ i, i < 3 → zab (zco V i) A) (hA : A < 1000000000000) : ∀ (d i f : Nat) (F : zSt), i + d = 3 → d < f → (∀ j, j < 3 → (zgb F 2 j).toInt = if j < i then zco (zadd V x1.toInt (S k)) j else zco V j) → ∃ F2, fX6_add_25 W s f F x1 (zI k) (zI i) = some F2 ∧ (∀ j, j < 3 → (zgb F2 2 j).toInt = zco (zadd V x1.toInt (S k)) j) ∧ zgl F2 3 = zgl F 3
  | 0, i, f + 1, F, hi, hf, h => by
    rw [fX6_add_25, if_pos (by rw [zn3, zI_le (by omega) (by omega)]; omega)]
    exact ⟨F, rfl, fun j hj => by rw [h j hj, if_pos (by omega)], rfl⟩
  | d + 1, i, f + 1, F, hi, hf, h => by
    have h18 := hS.1
    have hi3 : i < 3 := by omega
    obtain ⟨a1, a2, -⟩ := hS.2.2 k hk
    have e : (zga s 0 (k * 3 + i)).toInt64.toInt = zco (S k) i := by rw [z32_64, a2 i hi3]
    have hb : zab (zga s 0 (k * 3 + i)).toInt64.toInt 9 := by rw [e]; exact zvb_co a1 hi3
    have m1 := z64mul hc hb (by omega)
    have c1 := zab_mul hc hb
    rw [← m1] at c1
    have h0 := h i hi3
    rw [if_neg (by omega)] at h0
    have hb0 : zab (zgb F 2 i).toInt A := by rw [h0]; exact hV i hi3
    have m2 := z64add hb0 c1 (by omega)
    rw [fX6_add_25, if_neg (by rw [zn3, zI_le (by omega) (by omega)]; omega), if_pos (zin_zI (by omega) (by omega)), eX7_slopeOf (by omega), zbq, if_pos (zin_zI (by omega) (by omega)), zlq, zlq, zI_succ, zI_nat (by omega)]
    obtain ⟨F2, g1, g2, g3⟩ := zfad_25 (W := W) hS hk hc hV hA d (i + 1) f (zsb F 2 (vp_updL (zgb F 2) i (zgb F 2 i + x1 * (zga s 0 (k * 3 + i)).toInt64))) (by omega) (by omega) (fun j hj => by
      rw [gb_sb]
      by_cases c : j = i
      · rw [updL_s c, if_pos (by omega), c, m2, m1, h0, e, zco_zadd _ _ _ hi3]
      · rw [updL_n c, h j hj]
        by_cases c2 : j < i
        · rw [if_pos c2, if_pos (by omega)]
        · rw [if_neg c2, if_neg (by omega)])
    exact ⟨F2, g1, g2, by rw [g3, gl_sb]⟩
theorem eX6_add {W s F : zSt} {S : Nat → zV} {cnt k A : Nat} {x1 : Int64} {V : zV} (hS : zSd s S cnt) (hk : k < cnt) (hc : zab x1.toInt 4374) (hV : zFv F V A) (hA : A < 1000000000000) : ∃ F2, fX6_add F W s x1 (zI k) = some F2 ∧ zFv F2 (zadd V x1.toInt (S k)) (A + 5904900) := by
  have h18 := hS.1
  obtain ⟨a1, -, a3⟩ := hS.2.2 k hk
  have e : (zga s 1 k).toInt64.toInt = (S k).2.2.2 := by rw [z32_64, a3]
  have hb : zab (zga s 1 k).toInt64.toInt 1350 := by rw [e]; exact a1.2.2.2
  have m1 := z64mul hc hb (by omega)
  have c1 := zab_mul hc hb
  rw [← m1] at c1
  have hb0 : zab (zgl F 3).toInt A := by rw [hV.2.1]; exact hV.2.2
  have m2 := z64add hb0 c1 (by omega)
  obtain ⟨F2, g1, g2, g3⟩ := zfad_25 (W := W) hS hk hc (fun i hi => (hV.1 i hi).2) hA 3 0 6000 (zsl F 3 (zgl F 3 + x1 * (zga s 1 k).toInt64)) (by omega) (by omega) (fun j hj => by rw [gb_sl, (hV.1 j hj).1, if_neg (by omega)])
  unfold fX6_add
  rw [eX7_constantOf (by omega), zbq, zlq, zn0, g1]
  refine ⟨F2, rfl, fun i hi => ⟨g2 i hi, ?_⟩, ?_, ?_⟩
  · rw [zco_zadd _ _ _ hi]
    exact zab_le (zab_add (hV.1 i hi).2 (zab_mul hc (zvb_co a1 hi))) (by omega)
  · rw [g3, gl_sl, m2, m1, hV.2.1, e]
    rfl
  · exact zab_le (zab_add hV.2.2 (zab_mul hc a1.2.2.2)) (by omega)
/-- what the sides outside, taken by the row's cells, add up to -/
theorem zsum_id (S : Nat → zV) (o : Nat → Nat) (F V : zV) : zadd (zadd (zadd V (-zc (zT S o) F 0) (S (o 0))) (-zc (zT S o) F 1) (S (o 1))) (-zc (zT S o) F 2) (S (o 2)) = (V.1 - zsc (zT S o) * F.1, V.2.1 - zsc (zT S o) * F.2.1, V.2.2.1 - zsc (zT S o) * F.2.2.1, V.2.2.2 - zsc (zT S o) * F.2.2.2 + zc (zT S o) F 3) := by
  have c0 := zc_cramer (zT S o) F (1, 0, 0, 0)
  have c1 := zc_cramer (zT S o) F (0, 1, 0, 0)
  have c2 := zc_cramer (zT S o) F (0, 0, 1, 0)
  have c3 := zc_cramer (zT S o) F (0, 0, 0, 1)
  simp only [zev, zT, Int.mul_one, Int.mul_zero, Int.add_zero, Int.zero_add] at c0 c1 c2 c3
  unfold zadd
  simp only [Int.neg_mul]
  refine Prod.ext ?_ (Prod.ext ?_ (Prod.ext ?_ ?_)) <;> simp only [] <;> omega
theorem zout_2 {W s D F : zSt} {S G : Nat → zV} {cnt r A f : Nat} {o ins : Nat → Nat} {V : zV} (hS : zSd s S cnt) (hD : zDic S G cnt o ins D) (hr : zval cnt r) (hneg : ∀ j, j < 3 → zc (zT S o) (zRow S G ins r) j ≤ 0) (hV : zFv F V A) (hA : A < 900000000000) : ∃ F2, fX6_addOutsides_2 W s D (f + 4) F (zI r) (zI 0) = some (1, F2) ∧ zFv F2 (V.1 - zsc (zT S o) * (zRow S G ins r).1, V.2.1 - zsc (zT S o) * (zRow S G ins r).2.1, V.2.2.1 - zsc (zT S o) * (zRow S G ins r).2.2.1, V.2.2.2 - zsc (zT S o) * (zRow S G ins r).2.2.2 + zc (zT S o) (zRow S G ins r) 3) (A + 17714700) := by
  have h18 := hS.1
  have hr21 : r < 21 := by unfold zval at hr; omega
  have hrow := hD.2.2.2.2.2.2 r hr
  have hout := hD.2.2.2.1
  have hok := hD.2.1.1.2
  have step : ∀ j, j < 3 → (-zgb D 0 (r * 4 + j)).toInt = -zc (zT S o) (zRow S G ins r) j ∧ zab (-zgb D 0 (r * 4 + j)).toInt 4374 := by
    intro j hj
    have b := zWf_c hD.1 o (zRow_b hD.1 ins r) hj
    have e := hrow j (by omega)
    have e2 := z64neg (a := zgb D 0 (r * 4 + j)) (A := 4374) (by rw [e]; exact b) (by omega)
    rw [e] at e2
    exact ⟨e2, by rw [e2]; exact zab_neg b⟩
  obtain ⟨F1, f1, f2⟩ := eX6_add (W := W) hS (hok 0 (by omega)) (step 0 (by omega)).2 hV (by omega)
  obtain ⟨F2, g1, g2⟩ := eX6_add (W := W) hS (hok 1 (by omega)) (step 1 (by omega)).2 f2 (by omega)
  obtain ⟨F3, h1, h2⟩ := eX6_add (W := W) hS (hok 2 (by omega)) (step 2 (by omega)).2 g2 (by omega)
  rw [(step 0 (by omega)).1, (step 1 (by omega)).1, (step 2 (by omega)).1, zsum_id] at h2
  refine ⟨F3, ?_, zFv_le h2 (by omega)⟩
  have go : ∀ (f j : Nat) (F F2 : zSt), j < 3 → fX6_add F W s (-zgb D 0 (r * 4 + j)) (zI (o j)) = some F2 → fX6_addOutsides_2 W s D (f + 1) F (zI r) (zI j) = fX6_addOutsides_2 W s D f F2 (zI r) (zI (j + 1)) := by
    intro f j F F2 hj h
    have nn : 0 ≤ (-zgb D 0 (r * 4 + j)).toInt := by
      have := hneg j hj
      rw [(step j hj).1]
      omega
    rw [fX6_addOutsides_2, if_neg (by rw [zn3, zI_le (by omega) (by omega)]; omega), eX1_cell (by omega), zbq, zlq, if_pos (by rw [z64le, z64_0]; exact nn), eX1_outsideOf hj, zbq, hout j hj, h, zbq, zlq, zI_succ]
  rw [go (f + 3) 0 F F1 (by omega) f1, go (f + 2) 1 F1 F2 (by omega) g1, go (f + 1) 2 F2 F3 (by omega) h1, fX6_addOutsides_2, if_pos (by rw [zn3, zI_le (by omega) (by omega)]; omega)]
theorem eX6_addOutsides {W s D F : zSt} {S G : Nat → zV} {cnt r A : Nat} {o ins : Nat → Nat} {V : zV} (hS : zSd s S cnt) (hD : zDic S G cnt o ins D) (hr : zval cnt r) (hneg : ∀ j, j < 3 → zc (zT S o) (zRow S G ins r) j ≤ 0) (hV : zFv F V A) (hA : A < 900000000000) : ∃ F2, fX6_addOutsides F W s D (zI r) = some (1, F2) ∧ zFv F2 (V.1 - zsc (zT S o) * (zRow S G ins r).1, V.2.1 - zsc (zT S o) * (zRow S G ins r).2.1, V.2.2.1 - zsc (zT S o) * (zRow S G ins r).2.2.1, V.2.2.2 - zsc (zT S o) * (zRow S G ins r).2.2.2 + zc (zT S o) (zRow S G ins r) 3) (A + 17714700) := by
  unfold fX6_addOutsides
  rw [zn0]
  exact zout_2 (f := 5996) hS hD hr hneg hV hA
