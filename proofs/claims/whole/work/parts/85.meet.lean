/-! 85: three sides meet (class X0). -/
theorem eX7_isMirror {s : zSt} {k : Nat} (h : k < 18) : ∃ b, fX7_isMirror s (zI k) = some b ∧ (b = 0 ↔ zga s 2 k = 0) := by
  unfold fX7_isMirror fX7_isMirror_26 fX7_isMirror_27
  rw [if_pos znb1, if_pos znb0, if_neg (show ¬ zI k < 0 by rw [zn0, zI_lt (by omega) (by omega)]; omega), if_neg (by rw [zn18, zI_le (by omega) (by omega)]; omega), if_pos (zin_zI h (by omega)), zI_nat (by omega)]
  by_cases c : zga s 2 k = 0
  · rw [if_pos c]
    exact ⟨0, rfl, fun _ => c, fun _ => rfl⟩
  · rw [if_neg c]
    exact ⟨1, rfl, fun h => absurd h (by decide), fun h => absurd h c⟩
/-- the sides of a list, by their slopes and constants -/
def zSd (s : zSt) (S : Nat → zV) (cnt : Nat) : Prop := cnt ≤ 18 ∧ zgi s 3 = zI cnt ∧ ∀ k, k < cnt → zvb (S k) ∧ (∀ i, i < 3 → (zga s 0 (k * 3 + i)).toInt = zco (S k) i) ∧ (zga s 1 k).toInt = (S k).2.2.2
theorem zLi_sd {n m q : Nat} {P s : zSt} {x2 x3 : Int32} (hP : zPw n m q P) (h : zLi s (zGa P x2 x3 n m)) : zSd s (zSo (zGa P x2 x3 n m)) (zGa P x2 x3 n m).length := by
  refine ⟨(zGa_len hP x2 x3).2, h.1, fun k hk => ⟨zGa_b hP x2 x3 k, fun i hi => ?_, ?_⟩⟩
  · have e := h.2 k _ (List.getElem?_eq_getElem hk)
    rw [zSo_some (List.getElem?_eq_getElem hk)]
    rcases zlt3 hi with rfl | rfl | rfl
    · exact e.1
    · exact e.2.1
    · exact e.2.2.1
  · have e := h.2 k _ (List.getElem?_eq_getElem hk)
    rw [zSo_some (List.getElem?_eq_getElem hk)]
    exact e.2.2.2.1
def zcrs (v w : zV) : Nat → Int
  | 0 => v.2.1 * w.2.2.1 - v.2.2.1 * w.2.1
  | 1 => v.2.2.1 * w.1 - v.1 * w.2.2.1
  | _ => v.1 * w.2.1 - v.2.1 * w.1
theorem zcrs_i (v w : zV) {i j k : Nat} (h : (i = 0 ∧ j = 1 ∧ k = 2) ∨ (i = 1 ∧ j = 2 ∧ k = 0) ∨ (i = 2 ∧ j = 0 ∧ k = 1)) : zcrs v w i = zco v j * zco w k - zco v k * zco w j := by
  rcases h with ⟨rfl, rfl, rfl⟩ | ⟨rfl, rfl, rfl⟩ | ⟨rfl, rfl, rfl⟩ <;> rfl
theorem zvb_co {v : zV} (h : zvb v) {i : Nat} (hi : i < 3) : zab (zco v i) 9 := by
  rcases zlt3 hi with rfl | rfl | rfl
  · exact h.1
  · exact h.2.1
  · exact h.2.2.1
theorem zcr_25 {K s : zSt} {S : Nat → zV} {cnt a b j k : Nat} (hS : zSd s S cnt) (ha : a < cnt) (hb : b < cnt) (hj : j < 3) (hk : k < 3) : ∃ v, fX0_cross_25 K s (zI a) (zI b) (zI j) (zI k) = some v ∧ v.toInt = zco (S a) j * zco (S b) k - zco (S a) k * zco (S b) j ∧ zab v.toInt 162 := by
  have h18 := hS.1
  obtain ⟨a1, a2, -⟩ := hS.2.2 a ha
  obtain ⟨b1, b2, -⟩ := hS.2.2 b hb
  have r : ∀ (x : Int32) (v : Int), x.toInt = v → zab v 9 → x.toInt64.toInt = v ∧ zab x.toInt64.toInt 9 := fun x v h1 h2 => by rw [z32_64, h1]; exact ⟨rfl, h2⟩
  obtain ⟨p1, p2⟩ := r _ _ (a2 j hj) (zvb_co a1 hj)
  obtain ⟨q1, q2⟩ := r _ _ (b2 k hk) (zvb_co b1 hk)
  obtain ⟨s1, s2⟩ := r _ _ (a2 k hk) (zvb_co a1 hk)
  obtain ⟨t1, t2⟩ := r _ _ (b2 j hj) (zvb_co b1 hj)
  have m1 := z64mul p2 q2 (by omega)
  have m2 := z64mul s2 t2 (by omega)
  have c1 := zab_mul p2 q2
  have c2 := zab_mul s2 t2
  rw [← m1] at c1
  rw [← m2] at c2
  have m3 := z64sub c1 c2 (by omega)
  refine ⟨_, (by
    unfold fX0_cross_25
    rw [eX7_slopeOf (by omega), zbq, eX7_slopeOf (by omega), zbq, eX7_slopeOf (by omega), zbq, eX7_slopeOf (by omega), zbq]), ?_, ?_⟩
  · rw [m3, m1, m2, p1, q1, s1, t1]
  · rw [m3]
    exact zab_le (zab_sub c1 c2) (by omega)
theorem eX0_cross {K s : zSt} {S : Nat → zV} {cnt a b i : Nat} (hS : zSd s S cnt) (ha : a < cnt) (hb : b < cnt) (hi : i < 3) : ∃ v, fX0_cross K s (zI a) (zI b) (zI i) = some v ∧ v.toInt = zcrs (S a) (S b) i ∧ zab v.toInt 162 := by
  unfold fX0_cross fX0_cross_12
  rcases zlt3 hi with rfl | rfl | rfl
  · rw [if_neg (by decide), if_pos (by decide)]
    exact zcr_25 (j := 1) (k := 2) hS ha hb (by omega) (by omega)
  · rw [if_neg (by decide), if_neg (by decide)]
    exact zcr_25 (j := 2) (k := 0) hS ha hb (by omega) (by omega)
  · rw [if_pos (by decide), if_neg (by decide)]
    exact zcr_25 (j := 0) (k := 1) hS ha hb (by omega) (by omega)
theorem zd3_crs (u v w : zV) : zd3 u v w = zco u 0 * zcrs v w 0 + zco u 1 * zcrs v w 1 + zco u 2 * zcrs v w 2 := by
  unfold zd3
  show _ = u.1 * _ + u.2.1 * _ + u.2.2.1 * _
  simp only [zcrs]
  grind
theorem zd4_crs (u v w : zV) {i : Nat} (hi : i < 3) : zd4 u v w (zE i) = -(u.2.2.2 * zcrs v w i + v.2.2.2 * zcrs w u i + w.2.2.2 * zcrs u v i) := by
  obtain ⟨u0, u1, u2, u3⟩ := u
  obtain ⟨v0, v1, v2, v3⟩ := v
  obtain ⟨w0, w1, w2, w3⟩ := w
  rcases zlt3 hi with rfl | rfl | rfl <;> simp only [zcrs, zE, zd4, zd3] <;> grind
