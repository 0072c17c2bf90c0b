/-! 80: what breaks a point, what is tight at it; fractions. -/
def zwi (P : zSt) (i : Nat) (X : zV) : Prop := (zga P 0 i).toInt * X.2.2.2 ≤ zco X i ∧ ((zga P 1 i).toInt < 100 → zco X i ≤ (zga P 1 i).toInt * X.2.2.2)
/-- what breaks X first -/
def zBr (P : zSt) (n m : Nat) (X : zV) (v : Int32) : Prop :=
  (∃ i, i < n ∧ v = zI i - zI 3 ∧ ¬ zwi P i X ∧ ∀ j, j < i → zwi P j X) ∨ ((∀ j, j < n → zwi P j X) ∧
   ((∃ r, r < m ∧ v = zI r ∧ zga P 5 r ≠ 0 ∧ ¬ zalw (zga P 3 r) (zev (zrc P r) X) ∧ ∀ s, s < r → zga P 5 s ≠ 0 → zalw (zga P 3 s) (zev (zrc P s) X)) ∨
    (v = zI 100 ∧ ∀ s, s < m → zga P 5 s ≠ 0 → zalw (zga P 3 s) (zev (zrc P s) X))))
theorem zBr_one {P : zSt} {n m : Nat} {X : zV} {v w : Int32} (h : zBr P n m X v) (g : zBr P n m X w) : v = w := by
  rcases h with ⟨i, hi, hv, h1, h2⟩ | ⟨h1, h⟩
  · rcases g with ⟨j, hj, hw, g1, g2⟩ | ⟨g1, g⟩
    · have : i = j := by
        rcases Nat.lt_trichotomy i j with c | c | c
        · exact absurd (g2 i c) h1
        · exact c
        · exact absurd (h2 j c) g1
      rw [hv, hw, this]
    · exact absurd (g1 i hi) h1
  · rcases g with ⟨j, hj, hw, g1, g2⟩ | ⟨g1, g⟩
    · exact absurd (h1 j hj) g1
    · rcases h with ⟨r, hr, hv, h2, h3, h4⟩ | ⟨hv, h2⟩
      · rcases g with ⟨s, hs, hw, g2, g3, g4⟩ | ⟨hw, g2⟩
        · have : r = s := by
            rcases Nat.lt_trichotomy r s with c | c | c
            · exact absurd (g4 r c h2) h3
            · exact c
            · exact absurd (h4 s c g2) g3
          rw [hv, hw, this]
        · exact absurd (g2 r hr h2) h3
      · rcases g with ⟨s, hs, hw, g2, g3, g4⟩ | ⟨hw, g2⟩
        · exact absurd (h2 s hs g2) g3
        · rw [hv, hw]
theorem zbnd {n m q i : Nat} {P : zSt} (hP : zPw n m q P) (hi : i < 3) : zab (zga P 0 i).toInt 100 ∧ zab (zga P 1 i).toInt 100 := by
  have := hP.2.2.2.2.2.2.2.1 i hi
  exact ⟨zab_of (by omega) (by omega), zab_of (by omega) (by omega)⟩
theorem zmulw {c : Int32} {t : Int64} {w : Int} (hc : zab c.toInt 100) (ht : t.toInt = w) (hw : 0 < w ∧ w ≤ 23619600) : (c.toInt64 * t).toInt = c.toInt * w := by
  have h1 : zab c.toInt64.toInt 100 := by rw [z32_64]; exact hc
  have h2 : zab t.toInt 23619600 := by rw [ht]; exact zab_of (by omega) (by omega)
  rw [z64mul h1 h2 (by omega), z32_64, ht]
theorem eX5_isWithin {n m q i : Nat} {P Q : zSt} {X : zV} (hP : zPw n m q P) (hi : i < 3) (hQ : zQp Q X) (hX : zBd X) : ∃ b, fX5_isWithin P Q (zI i) = some b ∧ (b = 0 ↔ ¬ zwi P i X) := by
  obtain ⟨l0, l1⟩ := zbnd hP hi
  have e0 := zmulw l0 hQ.1 ⟨hX.2.1, hX.2.2⟩
  have e1 := zmulw l1 hQ.1 ⟨hX.2.1, hX.2.2⟩
  unfold fX5_isWithin fX5_isWithin_50 fX5_isWithin_46 fX5_isWithin_51
  rw [if_pos znb1, if_pos znb0, eX4_topOf hi, zbq, eX5_leastOf hi, zbq, eX5_hasGreatest hi, zbq, eX5_greatestOf hi, zbq]
  unfold zwi
  by_cases c : zco X i < (zga P 0 i).toInt * X.2.2.2
  · rw [if_pos (by rw [z64lt, e0, hQ.2 i hi]; exact c)]
    exact ⟨0, rfl, fun _ h => by omega, fun _ => rfl⟩
  · rw [if_neg (by rw [z64lt, e0, hQ.2 i hi]; exact c)]
    by_cases d : (100 : Int32) ≤ zga P 1 i
    · rw [if_pos d, if_pos rfl]
      have d2 : 100 ≤ (zga P 1 i).toInt := by rw [z32le] at d; exact d
      exact ⟨1, rfl, fun h => absurd h (by decide), fun h => absurd ⟨by omega, fun h => by omega⟩ h⟩
    · rw [if_neg d, if_neg (by decide)]
      have d2 : (zga P 1 i).toInt < 100 := by
        rw [z32le] at d
        have : (100 : Int32).toInt = 100 := by decide
        omega
      by_cases f : (zga P 1 i).toInt * X.2.2.2 < zco X i
      · rw [if_pos (by rw [z64lt, e1, hQ.2 i hi]; exact f)]
        exact ⟨0, rfl, fun _ h => by have := h.2 d2; omega, fun _ => rfl⟩
      · rw [if_neg (by rw [z64lt, e1, hQ.2 i hi]; exact f)]
        exact ⟨1, rfl, fun h => absurd h (by decide), fun h => absurd ⟨by omega, fun _ => by omega⟩ h⟩
theorem zbr_31 {n m q : Nat} {P Q : zSt} {X : zV} (hP : zPw n m q P) (hQ : zQp Q X) (hX : zBd X) (hw : ∀ j, j < n → zwi P j X) : ∀ (d r f : Nat), r + d = m → d < f → (∀ s, s < r → zga P 5 s ≠ 0 → zalw (zga P 3 s) (zev (zrc P s) X)) → ∃ v, fX5_breakerOf_31 P Q f (zI r) = some v ∧ zBr P n m X v
  | 0, r, f + 1, hr, hf, ha => by
    have e : r = m := by omega
    subst e
    rw [fX5_breakerOf_31, hP.2.2.2.2.1, if_pos (Int32.le_refl _)]
    exact ⟨100, rfl, Or.inr ⟨hw, Or.inr ⟨rfl, ha⟩⟩⟩
  | d + 1, r, f + 1, hr, hf, ha => by
    have hm := hP.2.1
    have hre := (hP.2.2.2.2.2.2.2.2.2.1 r (by omega)).2.1
    rw [fX5_breakerOf_31, hP.2.2.2.2.1, if_neg (by rw [zI_le (by omega) (by omega)]; omega), eX5_isLive (by omega), zbq]
    by_cases c : zga P 5 r = 0
    · rw [if_pos c, if_pos rfl, fX5_breakerOf_66, zlq, zn1, zI_add]
      refine zbr_31 hP hQ hX hw d (r + 1) f (by omega) (by omega) (fun s hs h5 => ?_)
      by_cases e : s = r
      · rw [e] at h5; exact absurd c h5
      · exact ha s (by omega) h5
    · have hd : Decidable (zalw (zga P 3 r) (zev (zrc P r) X)) := by unfold zalw; exact inferInstance
      rw [if_neg c, if_neg (by decide), eX5_relationOf (by omega) hre, zbq, eX5_sideOf hP (by omega) hQ hX, zbq, eX5_allows, zbq]
      by_cases a : zalw (zga P 3 r) (zev (zrc P r) X)
      · rw [if_pos a, if_neg (by decide), fX5_breakerOf_66, zlq, zn1, zI_add]
        refine zbr_31 hP hQ hX hw d (r + 1) f (by omega) (by omega) (fun s hs h5 => ?_)
        by_cases e : s = r
        · rw [e]; exact a
        · exact ha s (by omega) h5
      · rw [if_neg a, if_pos rfl]
        exact ⟨zI r, rfl, Or.inr ⟨hw, Or.inl ⟨r, by omega, rfl, c, a, ha⟩⟩⟩
theorem zbr_2 {n m q : Nat} {P Q : zSt} {X : zV} (hP : zPw n m q P) (hQ : zQp Q X) (hX : zBd X) : ∀ (d i f : Nat), i + d = n → d < f → (∀ j, j < i → zwi P j X) → ∃ v, fX5_breakerOf_2 P Q f (zI i) = some v ∧ zBr P n m X v
  | 0, i, f + 1, hi, hf, ha => by
    have e : i = n := by omega
    subst e
    rw [fX5_breakerOf_2, hP.2.2.2.1, if_pos (Int32.le_refl _), zn0]
    exact zbr_31 hP hQ hX ha m 0 6000 (by omega) (by have := hP.2.1; omega) (fun s hs => by omega)
  | d + 1, i, f + 1, hi, hf, ha => by
    have hn := hP.1
    obtain ⟨b, g1, g2⟩ := eX5_isWithin (i := i) hP (by omega) hQ hX
    rw [fX5_breakerOf_2, hP.2.2.2.1, if_neg (by rw [zI_le (by omega) (by omega)]; omega), g1, zbq]
    by_cases c : b = 0
    · rw [if_pos c]
      exact ⟨_, rfl, Or.inl ⟨i, by omega, rfl, g2.mp c, ha⟩⟩
    · rw [if_neg c, zlq, zn1, zI_add]
      refine zbr_2 hP hQ hX d (i + 1) f (by omega) (by omega) (fun j hj => ?_)
      by_cases e : j = i
      · rw [e]
        by_cases w : zwi P i X
        · exact w
        · exact absurd (g2.mpr w) c
      · exact ha j (by omega)
theorem eX5_breakerOf {n m q : Nat} {P Q : zSt} {X : zV} (hP : zPw n m q P) (hQ : zQp Q X) (hX : zBd X) : ∃ v, fX5_breakerOf P Q = some v ∧ zBr P n m X v := by
  unfold fX5_breakerOf
  rw [zn0]
  exact zbr_2 hP hQ hX n 0 6000 (by omega) (by have := hP.1; omega) (fun j hj => by omega)
/-- counts -/
def zcnt (f : Nat → Bool) : Nat → Nat
  | 0 => 0
  | m + 1 => zcnt f m + if f m then 1 else 0
def ztR (P : zSt) (X : zV) (r : Nat) : Bool := decide (zga P 5 r ≠ 0) && decide (zev (zrc P r) X = 0)
def ztL (P : zSt) (X : zV) (i : Nat) : Bool := decide (zco X i = (zga P 0 i).toInt * X.2.2.2)
def ztG (P : zSt) (X : zV) (i : Nat) : Bool := decide ((zga P 1 i).toInt < 100) && decide (zco X i = (zga P 1 i).toInt * X.2.2.2)
theorem zcnt_t {f : Nat → Bool} {k : Nat} (h : f k = true) : zcnt f (k + 1) = zcnt f k + 1 := by
  show zcnt f k + (if f k then 1 else 0) = _
  rw [h]; rfl
theorem zcnt_f {f : Nat → Bool} {k : Nat} (h : f k = false) : zcnt f (k + 1) = zcnt f k := by
  show zcnt f k + (if f k then 1 else 0) = _
  rw [h]; rfl
theorem ztr_4 {n m q : Nat} {P Q : zSt} {X : zV} (hP : zPw n m q P) (hQ : zQp Q X) (hX : zBd X) : ∀ (d r f : Nat), r + d = m → d < f → fX5_tightRows_4 P Q f (zI (zcnt (ztR P X) r)) (zI r) = some (zI (zcnt (ztR P X) m))
  | 0, r, f + 1, hr, hf => by
    have e : r = m := by omega
    subst e
    rw [fX5_tightRows_4, hP.2.2.2.2.1, if_pos (Int32.le_refl _)]
  | d + 1, r, f + 1, hr, hf => by
    have hm := hP.2.1
    rw [fX5_tightRows_4, hP.2.2.2.2.1, if_neg (by rw [zI_le (by omega) (by omega)]; omega), eX5_isLive (by omega), zbq]
    have ih := ztr_4 hP hQ hX d (r + 1) f (by omega) (by omega)
    by_cases c : zga P 5 r = 0
    · rw [if_pos c, if_pos rfl, fX5_tightRows_32, zlq, zn1, zI_add]
      rw [zcnt_f (show ztR P X r = false by unfold ztR; simp [c])] at ih
      exact ih
    · rw [if_neg c, if_neg (by decide), eX5_sideOf hP (by omega) hQ hX, zbq]
      by_cases e : zev (zrc P r) X = 0
      · rw [if_pos (zsgn_0.mpr e), zlq, fX5_tightRows_32, zlq, zn1, zI_add, zI_add]
        rw [zcnt_t (show ztR P X r = true by unfold ztR; simp [c, e])] at ih
        exact ih
      · rw [if_neg (fun h => e (zsgn_0.mp h)), fX5_tightRows_32, zlq, zn1, zI_add]
        rw [zcnt_f (show ztR P X r = false by unfold ztR; simp [e])] at ih
        exact ih
theorem eX5_tightRows {n m q : Nat} {P Q : zSt} {X : zV} (hP : zPw n m q P) (hQ : zQp Q X) (hX : zBd X) : fX5_tightRows P Q = some (zI (zcnt (ztR P X) m)) := by
  unfold fX5_tightRows
  rw [zn0]
  exact ztr_4 hP hQ hX m 0 6000 (by omega) (by have := hP.2.1; omega)
theorem ztb_4 {n m q : Nat} {P Q : zSt} {X : zV} (hP : zPw n m q P) (hQ : zQp Q X) (hX : zBd X) : ∀ (d i f : Nat), i + d = n → d < f → fX5_tightBounds_4 P Q f (zI (zcnt (ztL P X) i + zcnt (ztG P X) i)) (zI i) = some (zI (zcnt (ztL P X) n + zcnt (ztG P X) n))
  | 0, i, f + 1, hi, hf => by
    have e : i = n := by omega
    subst e
    rw [fX5_tightBounds_4, hP.2.2.2.1, if_pos (Int32.le_refl _)]
  | d + 1, i, f + 1, hi, hf => by
    have hn := hP.1
    obtain ⟨l0, l1⟩ := zbnd hP (show i < 3 by omega)
    have e0 := zmulw l0 hQ.1 ⟨hX.2.1, hX.2.2⟩
    have e1 := zmulw l1 hQ.1 ⟨hX.2.1, hX.2.2⟩
    have ih := ztb_4 hP hQ hX d (i + 1) f (by omega) (by omega)
    have second : ∀ x : Nat, fX5_tightBounds_39 P Q (fX5_tightBounds_4 P Q f) (zI x) (zI i) (zgb Q 0 i) = fX5_tightBounds_4 P Q f (zI (x + if ztG P X i then 1 else 0)) (zI (i + 1)) := by
      intro x
      unfold fX5_tightBounds_39
      rw [eX5_hasGreatest (by omega), zbq]
      by_cases c : (100 : Int32) ≤ zga P 1 i
      · have d2 : 100 ≤ (zga P 1 i).toInt := by rw [z32le] at c; exact c
        rw [if_pos c, if_pos rfl, fX5_tightBounds_67, zlq, zn1, zI_add]
        rw [show ztG P X i = false by unfold ztG; rw [decide_eq_false (by omega)]; rfl]
        rfl
      · have d2 : (zga P 1 i).toInt < 100 := by
          rw [z32le] at c
          have : (100 : Int32).toInt = 100 := by decide
          omega
        rw [if_neg c, if_neg (by decide), eX5_greatestOf (by omega), zbq]
        by_cases e : zco X i = (zga P 1 i).toInt * X.2.2.2
        · rw [if_pos (by rw [z64eq, e1, hQ.2 i (by omega)]; exact e), zlq, fX5_tightBounds_67, zlq, zn1, zI_add, zI_add]
          rw [show ztG P X i = true by unfold ztG; rw [decide_eq_true d2, decide_eq_true e]; rfl]
          rfl
        · rw [if_neg (by rw [z64eq, e1, hQ.2 i (by omega)]; exact e), fX5_tightBounds_67, zlq, zn1, zI_add]
          rw [show ztG P X i = false by unfold ztG; rw [decide_eq_false e, Bool.and_false]]
          rfl
    rw [fX5_tightBounds_4, hP.2.2.2.1, if_neg (by rw [zI_le (by omega) (by omega)]; omega), eX4_topOf (by omega), zbq, eX5_leastOf (by omega), zbq]
    have es : zcnt (ztL P X) (i + 1) + zcnt (ztG P X) (i + 1) = zcnt (ztL P X) i + zcnt (ztG P X) i + (if ztL P X i then 1 else 0) + if ztG P X i then 1 else 0 := by
      show (zcnt (ztL P X) i + if ztL P X i then 1 else 0) + (zcnt (ztG P X) i + if ztG P X i then 1 else 0) = _
      omega
    rw [es] at ih
    by_cases c : zco X i = (zga P 0 i).toInt * X.2.2.2
    · rw [if_pos (by rw [z64eq, e0, hQ.2 i (by omega)]; exact c), zlq, zn1, zI_add, second]
      rw [show ztL P X i = true by unfold ztL; exact decide_eq_true c] at ih
      exact ih
    · rw [if_neg (by rw [z64eq, e0, hQ.2 i (by omega)]; exact c), second]
      rw [show ztL P X i = false by unfold ztL; exact decide_eq_false c] at ih
      exact ih
theorem eX5_tightBounds {n m q : Nat} {P Q : zSt} {X : zV} (hP : zPw n m q P) (hQ : zQp Q X) (hX : zBd X) : fX5_tightBounds P Q = some (zI (zcnt (ztL P X) n + zcnt (ztG P X) n)) := by
  unfold fX5_tightBounds
  rw [zn0]
  exact ztb_4 hP hQ hX n 0 6000 (by omega) (by have := hP.1; omega)
