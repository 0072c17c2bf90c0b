/-! 57: the program as it was told (class X5), its reads; the sides that are gathered from it. -/
/-- how many of the first rows are not dropped -/
def zlv (P : zSt) : Nat → Nat
  | 0 => 0
  | m + 1 => zlv P m + if zga P 5 m = 0 then 0 else 1
def zPw (n m q : Nat) (P : zSt) : Prop :=
  n ≤ 3 ∧ m ≤ 12 ∧ q ≤ 3 ∧ zgi P 8 = zI n ∧ zgi P 9 = zI m ∧ zgi P 11 = zI q ∧ (zgi P 10 = zI (zlv P m) ∧ zlv P m ≤ 6) ∧
  (∀ i, i < 3 → -50 ≤ (zga P 0 i).toInt ∧ (zga P 0 i).toInt ≤ 50 ∧ (zga P 0 i).toInt ≤ (zga P 1 i).toInt ∧ (zga P 1 i).toInt ≤ 100) ∧
  (∀ i, i < 3 → n ≤ i → zga P 0 i = 0 ∧ zga P 1 i = 0) ∧
  (∀ r, r < m → (∀ i, i < 3 → zab (zga P 2 (r * 3 + i)).toInt 9 ∧ (n ≤ i → zga P 2 (r * 3 + i) = 0)) ∧ (zga P 3 r = 60 ∨ zga P 3 r = 61 ∨ zga P 3 r = 62) ∧ zab (zga P 4 r).toInt 99) ∧
  (∀ a, a < q → (∀ i, i < 3 → zab (zga P 6 (a * 3 + i)).toInt 9 ∧ (n ≤ i → zga P 6 (a * 3 + i) = 0)) ∧ (zga P 7 a = 1 ∨ zga P 7 a = -1)) ∧
  ∀ r, m ≤ r → r < 12 → zga P 5 r = 0
theorem zlv_le (P : zSt) (m : Nat) : zlv P m ≤ m := by
  induction m with
  | zero => exact Nat.le_refl 0
  | succ m ih => unfold zlv; split <;> omega
theorem zlv_mono (P : zSt) {a b : Nat} (h : a ≤ b) : zlv P a ≤ zlv P b := by
  induction b with
  | zero => rw [show a = 0 by omega]; exact Nat.le_refl _
  | succ b ih =>
    by_cases c : a = b + 1
    · rw [c]; exact Nat.le_refl _
    · have h1 := ih (by omega)
      have e : zlv P (b + 1) = zlv P b + if zga P 5 b = 0 then 0 else 1 := rfl
      omega
theorem eX5_leastOf {P : zSt} {i : Nat} (h : i < 3) : fX5_leastOf P (zI i) = some (zga P 0 i) := by
  simp (disch := omega) only [fX5_leastOf, fX5_leastOf_22, fX5_leastOf_23, zn0, zn3, zI_lt_f, zI_le_f, zin_zI, zI_nat, if_false, if_true]
theorem eX5_greatestOf {P : zSt} {i : Nat} (h : i < 3) : fX5_greatestOf P (zI i) = some (zga P 1 i) := by
  simp (disch := omega) only [fX5_greatestOf, fX5_greatestOf_22, fX5_greatestOf_24, zn0, zn3, zI_lt_f, zI_le_f, zin_zI, zI_nat, if_false, if_true]
theorem znb1 : znar .boolean (1 : Int32) = true := by decide
theorem znb0 : znar .boolean (0 : Int32) = true := by decide
theorem eX5_hasGreatest {P : zSt} {i : Nat} (h : i < 3) : fX5_hasGreatest P (zI i) = some (if (100 : Int32) ≤ zga P 1 i then 0 else 1) := by
  simp only [fX5_hasGreatest, eX5_greatestOf h, zbs, fX5_hasGreatest_15, znb1, znb0, if_true]
  split <;> rfl
theorem eX5_isLive {P : zSt} {r : Nat} (h : r < 12) : fX5_isLive P (zI r) = some (if zga P 5 r = 0 then 0 else 1) := by
  simp (disch := omega) only [fX5_isLive, fX5_isLive_26, fX5_isLive_27, zI_ge0, zn12, zI_le_f, zin_zI, zI_nat, if_false, if_true, znb1, znb0]
  rw [if_neg (by rw [zn0, zI_lt (by omega) (by omega)]; omega)]
  split <;> rfl
theorem znrel {v : Int32} (h : v = 60 ∨ v = 61 ∨ v = 62) : znar .char v = true := by
  rcases h with rfl | rfl | rfl <;> decide
theorem eX5_relationOf {P : zSt} {r : Nat} (h : r < 12) (hv : zga P 3 r = 60 ∨ zga P 3 r = 61 ∨ zga P 3 r = 62) : fX5_relationOf P (zI r) = some (zga P 3 r) := by
  simp (disch := omega) only [fX5_relationOf, fX5_relationOf_22, fX5_relationOf_24, zn0, zn12, zI_lt_f, zI_le_f, zin_zI, zI_nat, if_false, if_true, znrel hv]
theorem eX5_numberOf {P : zSt} {r : Nat} (h : r < 12) : fX5_numberOf P (zI r) = some (zga P 4 r) := by
  simp (disch := omega) only [fX5_numberOf, fX5_numberOf_22, fX5_numberOf_23, zn0, zn12, zI_lt_f, zI_le_f, zin_zI, zI_nat, if_false, if_true]
theorem eX5_rowCoefficient {P : zSt} {r i : Nat} (h : r * 3 + i < 36) : fX5_rowCoefficient P (zI r) (zI i) = some (zga P 2 (r * 3 + i)) := by
  simp (disch := omega) only [fX5_rowCoefficient, fX5_rowCoefficient_28, fX5_rowCoefficient_29, zn0, zn3, zn36, zI_mul, zI_add, zlet, zI_lt_f, zI_le_f, zin_zI, zI_nat, if_false, if_true]
theorem eX5_aimCoefficient {P : zSt} {a i : Nat} (h : a * 3 + i < 9) : fX5_aimCoefficient P (zI a) (zI i) = some (zga P 6 (a * 3 + i)) := by
  simp (disch := omega) only [fX5_aimCoefficient, fX5_aimCoefficient_28, fX5_aimCoefficient_29, zn0, zn3, zn9, zI_mul, zI_add, zlet, zI_lt_f, zI_le_f, zin_zI, zI_nat, if_false, if_true]
theorem eX5_directionOf {P : zSt} {a : Nat} (h : a < 3) : fX5_directionOf P (zI a) = some (zga P 7 a) := by
  simp (disch := omega) only [fX5_directionOf, fX5_directionOf_22, fX5_directionOf_23, zn0, zn3, zI_lt_f, zI_le_f, zin_zI, zI_nat, if_false, if_true]
-- the sides as a list
def zLi (s : zSt) (L : List (zV × Bool)) : Prop :=
  zgi s 3 = zI L.length ∧ ∀ k v, L[k]? = some v → (zga s 0 (k * 3)).toInt = v.1.1 ∧ (zga s 0 (k * 3 + 1)).toInt = v.1.2.1 ∧ (zga s 0 (k * 3 + 2)).toInt = v.1.2.2.1 ∧ (zga s 1 k).toInt = v.1.2.2.2 ∧ zga s 2 k = if v.2 then 1 else 0
/-- one side more -/
def zApp (s : zSt) (a b c e m : Int32) : zSt :=
  let k := (zgi s 3).toNatClampNeg
  let s1 := zsa s 0 (upd (zga s 0) (k * 3) a)
  let s2 := zsa s1 0 (upd (zga s1 0) (k * 3 + 1) b)
  let s3 := zsa s2 0 (upd (zga s2 0) (k * 3 + 2) c)
  let s4 := zsa s3 1 (upd (zga s3 1) k e)
  let s5 := zsa s4 2 (upd (zga s4 2) k m)
  zsi s5 3 (zI (k + 1))
theorem zLi_app {s : zSt} {L : List (zV × Bool)} (h : zLi s L) (hL : L.length < 18) (a b c e m : Int32) (mb : Bool) (hm : m = if mb then 1 else 0) : zLi (zApp s a b c e m) (L ++ [((a.toInt, b.toInt, c.toInt, e.toInt), mb)]) := by
  obtain ⟨h1, h2⟩ := h
  have hk : (zgi s 3).toNatClampNeg = L.length := by rw [h1, zI_nat (by omega)]
  refine ⟨?_, fun k v hv => ?_⟩
  · unfold zApp
    simp only [gi_si, hk, List.length_append, List.length_cons, List.length_nil]
  · unfold zApp
    simp (disch := omega) only [ga_si, ga_sa, ga_san, hk]
    by_cases ck : k < L.length
    · rw [List.getElem?_append_left ck] at hv
      have h3 := h2 k v hv
      refine ⟨?_, ?_, ?_, ?_, ?_⟩
      · rw [upd_n (by omega), upd_n (by omega), upd_n (by omega)]; exact h3.1
      · rw [upd_n (by omega), upd_n (by omega), upd_n (by omega)]; exact h3.2.1
      · rw [upd_n (by omega), upd_n (by omega), upd_n (by omega)]; exact h3.2.2.1
      · rw [upd_n (by omega)]; exact h3.2.2.2.1
      · rw [upd_n (by omega)]; exact h3.2.2.2.2
    · rw [List.getElem?_append_right (by omega)] at hv
      have hk2 : k - L.length = 0 := by
        by_cases c0 : k - L.length = 0
        · exact c0
        · rw [List.getElem?_eq_none (by simp; omega)] at hv; cases hv
      rw [hk2] at hv
      have hkL : k = L.length := by omega
      have hv2 : ((a.toInt, b.toInt, c.toInt, e.toInt), mb) = v := Option.some.inj hv
      subst hv2 hkL
      refine ⟨?_, ?_, ?_, ?_, ?_⟩
      · rw [upd_n (by omega), upd_n (by omega), upd_s rfl]
      · rw [upd_n (by omega), upd_s rfl]
      · rw [upd_s rfl]
      · rw [upd_s rfl]
      · rw [upd_s rfl]; exact hm
theorem eX7_putSlope {s : zSt} {k i : Nat} {v : Int32} (hs : zgi s 3 = zI k) (h : k * 3 + i < 54) : fX7_putSlope s (zI i) v = some (zsa s 0 (upd (zga s 0) (k * 3 + i) v)) := by
  simp (disch := omega) only [fX7_putSlope, fX7_putSlope_29, hs, zn0, zn3, zn54, zI_mul, zI_add, zlet, zI_lt_f, zI_le_f, zin_zI, zI_nat, if_false, if_true]
theorem eX7_close {s : zSt} {k : Nat} {e m : Int32} (hs : zgi s 3 = zI k) (h : k < 18) (hm : vp_nar .boolean m = m) : fX7_close s e m = some (zsi (zsa (zsa s 1 (upd (zga s 1) k e)) 2 (upd (zga (zsa s 1 (upd (zga s 1) k e)) 2) k m)) 3 (zI (k + 1))) := by
  simp (disch := omega) only [fX7_close, fX7_close_61, hs, zn0, zn18, zn1, zI_add, zlet, zI_lt_f, zI_le_f, zin_zI, zI_nat, if_false, if_true, gi_sa, hm]
theorem eX7_app {s s1 s2 s3 : zSt} {k : Nat} {a b c e m : Int32} (hs : zgi s 3 = zI k) (h : k < 18) (hm : vp_nar .boolean m = m) (h1 : s1 = zsa s 0 (upd (zga s 0) (k * 3 + 0) a)) (h2 : s2 = zsa s1 0 (upd (zga s1 0) (k * 3 + 1) b)) (h3 : s3 = zsa s2 0 (upd (zga s2 0) (k * 3 + 2) c)) : fX7_close s3 e m = some (zApp s a b c e m) := by
  have hk : (zgi s 3).toNatClampNeg = k := by rw [hs, zI_nat (by omega)]
  rw [eX7_close (k := k) (by rw [h3, gi_sa, h2, gi_sa, h1, gi_sa, hs]) h hm]
  subst h1 h2 h3
  unfold zApp
  simp only [hk]
  rfl
theorem eX7_putBound_f {s : zSt} {k v f : Nat} {a e : Int32} (hs : zgi s 3 = zI k) (h : k < 18) (hv : v < 3) : fX7_putBound_3 (f + 4) s (zI v) a e 0 = some (zApp s (if v = 0 then a else 0) (if v = 1 then a else 0) (if v = 2 then a else 0) e 0) := by
  have z1 := fun (x : Int32) => eX7_putSlope (s := s) (k := k) (i := 0) (v := x) hs (by omega)
  have z2 := fun (x y : Int32) => eX7_putSlope (s := zsa s 0 (upd (zga s 0) (k * 3 + 0) x)) (k := k) (i := 1) (v := y) hs (by omega)
  have z3 := fun (x y z : Int32) => eX7_putSlope (s := zsa (zsa s 0 (upd (zga s 0) (k * 3 + 0) x)) 0 (upd (zga (zsa s 0 (upd (zga s 0) (k * 3 + 0) x)) 0) (k * 3 + 1) y)) (k := k) (i := 2) (v := z) hs (by omega)
  have z4 := fun (x y z : Int32) => eX7_app (s := s) (a := x) (b := y) (c := z) (e := e) (m := 0) hs h zb0 rfl rfl rfl
  rcases zlt3 hv with rfl | rfl | rfl
  · rw [zn0, fX7_putBound_3]
    simp (disch := omega) only [zn3, zI_le_f, if_false, if_true, fX7_putBound_23, z1, zbs, zlet]
    rw [zn1, zI_add, fX7_putBound_3]
    simp (disch := omega) only [zn3, zI_le_f, zI_eq_f, if_false, if_true, fX7_putBound_23, z2, zbs, zlet]
    rw [zn1, zI_add, fX7_putBound_3]
    simp (disch := omega) only [zn3, zI_le_f, zI_eq_f, if_false, if_true, fX7_putBound_23, z3, zbs, zlet]
    rw [zn1, zI_add, fX7_putBound_3]
    simp (disch := omega) only [zn3, zI_le_t, if_true, z4, zbs]
    rfl
  · rw [zn0, fX7_putBound_3]
    simp (disch := omega) only [zn3, zI_le_f, zI_eq_f, if_false, if_true, fX7_putBound_23, z1, zbs, zlet]
    rw [zn1, zI_add, fX7_putBound_3]
    simp (disch := omega) only [zn3, zI_le_f, zI_eq_f, if_false, if_true, fX7_putBound_23, z2, zbs, zlet]
    rw [zn1, zI_add, fX7_putBound_3]
    simp (disch := omega) only [zn3, zI_le_f, zI_eq_f, if_false, if_true, fX7_putBound_23, z3, zbs, zlet]
    rw [zn1, zI_add, fX7_putBound_3]
    simp (disch := omega) only [zn3, zI_le_t, if_true, z4, zbs]
    rfl
  · rw [zn0, fX7_putBound_3]
    simp (disch := omega) only [zn3, zI_le_f, zI_eq_f, if_false, if_true, fX7_putBound_23, z1, zbs, zlet]
    rw [zn1, zI_add, fX7_putBound_3]
    simp (disch := omega) only [zn3, zI_le_f, zI_eq_f, if_false, if_true, fX7_putBound_23, z2, zbs, zlet]
    rw [zn1, zI_add, fX7_putBound_3]
    simp (disch := omega) only [zn3, zI_le_f, zI_eq_f, if_false, if_true, fX7_putBound_23, z3, zbs, zlet]
    rw [zn1, zI_add, fX7_putBound_3]
    simp (disch := omega) only [zn3, zI_le_t, if_true, z4, zbs]
    rfl
theorem eX7_putBound {s : zSt} {k v : Nat} {a e : Int32} (hs : zgi s 3 = zI k) (h : k < 18) (hv : v < 3) : fX7_putBound s (zI v) a e = some (zApp s (if v = 0 then a else 0) (if v = 1 then a else 0) (if v = 2 then a else 0) e 0) := eX7_putBound_f (f := 5996) hs h hv
