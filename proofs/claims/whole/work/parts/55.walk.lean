/-! 55: the searches of the walk: the first broken line, the first growing column, the first stop; holding. -/
theorem zflt_trans1 {a b c d e f : Int} (h1 : a * d < c * b) (h2 : c * f ≤ e * d) (hb : 0 < b) (hd : 0 < d) (hf : 0 < f) : a * f < e * b := by
  have h3 := Int.mul_lt_mul_of_pos_right h1 hf
  have h4 := Int.mul_le_mul_of_nonneg_right h2 (Int.le_of_lt hb)
  have h5 : d * (a * f) < d * (e * b) := by
    have e1 : d * (a * f) = a * d * f := by grind
    have e2 : c * b * f = c * f * b := by grind
    have e3 : d * (e * b) = e * d * b := by grind
    omega
  exact Int.lt_of_mul_lt_mul_left h5 (Int.le_of_lt hd)
theorem zflt_trans2 {a b c d e f : Int} (h1 : a * d ≤ c * b) (h2 : c * f < e * d) (hb : 0 < b) (hd : 0 < d) (hf : 0 < f) : a * f < e * b := by
  have h3 := Int.mul_le_mul_of_nonneg_right h1 (Int.le_of_lt hf)
  have h4 := Int.mul_lt_mul_of_pos_right h2 hb
  have h5 : d * (a * f) < d * (e * b) := by
    have e1 : d * (a * f) = a * d * f := by grind
    have e2 : c * b * f = c * f * b := by grind
    have e3 : d * (e * b) = e * d * b := by grind
    omega
  exact Int.lt_of_mul_lt_mul_left h5 (Int.le_of_lt hd)
theorem zlex_trans {a b c p q r : Int} {x y z : Nat} (h1 : a * q < b * p ∨ (a * q = b * p ∧ x ≤ y)) (h2 : b * r < c * q ∨ (b * r = c * q ∧ y ≤ z)) (hp : 0 < p) (hq : 0 < q) (hr : 0 < r) : a * r < c * p ∨ (a * r = c * p ∧ x ≤ z) := by
  have le1 : a * q ≤ b * p := by rcases h1 with h | ⟨h, -⟩ <;> omega
  have le2 : b * r ≤ c * q := by rcases h2 with h | ⟨h, -⟩ <;> omega
  rcases h1 with h1 | ⟨h1, hx⟩
  · exact Or.inl (zflt_trans1 h1 le2 hp hq hr)
  · rcases h2 with h2 | ⟨h2, hy⟩
    · exact Or.inl (zflt_trans2 le1 h2 hp hq hr)
    · have l1 := zfle_trans le1 le2 hp hq hr
      have l2 := zfle_trans (a := c) (b := r) (c := b) (d := q) (e := a) (f := p) (by omega) (by omega) hr hq hp
      exact Or.inr ⟨by omega, by omega⟩
theorem zDic_cell {S G : Nat → zV} {cnt : Nat} {o ins : Nat → Nat} {D : zSt} (h : zDic S G cnt o ins D) {l : Nat} (hl : l < cnt - 3) {j : Nat} (hj : j < 4) : (zgb D 0 (l * 4 + j)).toInt = zc (zT S o) (S (ins l)) j := by
  have hc := h.1.2.1
  rw [h.2.2.2.2.2.2 l (Or.inl hl) j hj]
  unfold zRow
  rw [if_pos (by omega)]
theorem zDic_goal {S G : Nat → zV} {cnt : Nat} {o ins : Nat → Nat} {D : zSt} (h : zDic S G cnt o ins D) {g : Nat} (hg : g < 6) {j : Nat} (hj : j < 4) : (zgb D 0 ((15 + g) * 4 + j)).toInt = zc (zT S o) (G g) j := by
  rw [h.2.2.2.2.2.2 (15 + g) (Or.inr (by omega)) j hj]
  unfold zRow
  rw [if_neg (by omega), show 15 + g - 15 = g by omega]
theorem zI_ge0 {a : Nat} (ha : a < 2147483648) : (zI a ≤ (0 : Int32)) = (a = 0) := by
  rw [zn0, zI_le ha (by omega)]
  exact propext (by omega)
-- the first broken line
def zIbl (S : Nat → zV) (o ins : Nat → Nat) (m : Nat) (x : Int32) : Prop :=
  (x = -1 ∧ ∀ l, l < m → 0 ≤ zc (zT S o) (S (ins l)) 3) ∨ ∃ b, b < m ∧ x = zI b ∧ zc (zT S o) (S (ins b)) 3 < 0 ∧ ∀ l, l < m → zc (zT S o) (S (ins l)) 3 < 0 → ins b ≤ ins l
theorem zfbl_4 {S G : Nat → zV} {cnt : Nat} {o ins : Nat → Nat} {D : zSt} (h : zDic S G cnt o ins D) (W : zSt) : ∀ (d m n : Nat) (x : Int32), m + d = cnt - 3 → d < n → zIbl S o ins m x → ∃ y, fX9_firstBrokenLine_4 W D n x (zI m) = some y ∧ zIbl S o ins (cnt - 3) y
  | 0, m, n + 1, x, hmd, hn, hx => by
    have hc := h.1.2.1
    refine ⟨x, ?_, by rw [← hmd]; exact hx⟩
    rw [fX9_firstBrokenLine_4, h.2.2.1]
    simp (disch := omega) only [zI_le_t, if_true]
  | d + 1, m, n + 1, x, hmd, hn, hx => by
    have hc := h.1.2.1
    have e := zDic_cell h (l := m) (by omega) (j := 3) (by omega)
    rw [fX9_firstBrokenLine_4, h.2.2.1]
    simp (disch := omega) only [zn3, zI_le_f, if_false, eX1_cell, zbs]
    by_cases c : (0 : Int64) ≤ zgb D 0 (m * 4 + 3)
    · rw [if_pos c]
      rw [z64le, z64_0, e] at c
      simp only [fX9_firstBrokenLine_55, zlet]
      rw [zn1, zI_add]
      refine zfbl_4 h W d (m + 1) n x (by omega) (by omega) ?_
      rcases hx with ⟨h1, h2⟩ | ⟨b, h1, h2, h3, h4⟩
      · refine Or.inl ⟨h1, fun l hl => ?_⟩
        rcases Nat.lt_or_eq_of_le (Nat.le_of_lt_succ hl) with h5 | rfl
        · exact h2 l h5
        · exact c
      · refine Or.inr ⟨b, by omega, h2, h3, fun l hl h5 => ?_⟩
        rcases Nat.lt_or_eq_of_le (Nat.le_of_lt_succ hl) with h6 | rfl
        · exact h4 l h6 h5
        · omega
    · rw [if_neg c]
      rw [z64le, z64_0, e] at c
      rcases hx with ⟨h1, h2⟩ | ⟨b, h1, h2, h3, h4⟩
      · subst h1
        simp only [if_true, fX9_firstBrokenLine_53, fX9_firstBrokenLine_55, zlet]
        rw [zn1, zI_add]
        refine zfbl_4 h W d (m + 1) n (zI m) (by omega) (by omega) ?_
        refine Or.inr ⟨m, by omega, rfl, by omega, fun l hl h5 => ?_⟩
        rcases Nat.lt_or_eq_of_le (Nat.le_of_lt_succ hl) with h6 | rfl
        · have := h2 l h6; omega
        · exact Nat.le_refl _
      · subst h2
        have q1 := h.2.2.2.2.1 m (by omega)
        have q2 := h.2.2.2.2.1 b (by omega)
        have k1 := h.2.1.2.1 m (by omega)
        have k2 := h.2.1.2.1 b (by omega)
        simp (disch := omega) only [zI_neg1, if_false, eX1_insideOf, zbs, q1, q2]
        by_cases c2 : ins b ≤ ins m
        · rw [if_pos (by rw [zI_le (by omega) (by omega)]; exact c2)]
          simp only [fX9_firstBrokenLine_55, zlet]
          rw [zn1, zI_add]
          refine zfbl_4 h W d (m + 1) n (zI b) (by omega) (by omega) ?_
          refine Or.inr ⟨b, by omega, rfl, h3, fun l hl h5 => ?_⟩
          rcases Nat.lt_or_eq_of_le (Nat.le_of_lt_succ hl) with h6 | rfl
          · exact h4 l h6 h5
          · exact c2
        · rw [if_neg (by rw [zI_le (by omega) (by omega)]; exact c2)]
          simp only [fX9_firstBrokenLine_53, fX9_firstBrokenLine_55, zlet]
          rw [zn1, zI_add]
          refine zfbl_4 h W d (m + 1) n (zI m) (by omega) (by omega) ?_
          refine Or.inr ⟨m, by omega, rfl, by omega, fun l hl h5 => ?_⟩
          rcases Nat.lt_or_eq_of_le (Nat.le_of_lt_succ hl) with h6 | rfl
          · have := h4 l h6 h5; omega
          · exact Nat.le_refl _
theorem eX9_fbl {S G : Nat → zV} {cnt : Nat} {o ins : Nat → Nat} {D : zSt} (h : zDic S G cnt o ins D) (W : zSt) : ∃ y, fX9_firstBrokenLine W D = some y ∧ zIbl S o ins (cnt - 3) y := by
  have hc := h.1.2.1
  unfold fX9_firstBrokenLine
  rw [zn0]
  exact zfbl_4 h W (cnt - 3) 0 6000 (-1) (by omega) (by omega) (Or.inl ⟨rfl, fun l hl => by omega⟩)
-- the first growing column
def zIfg (S : Nat → zV) (o : Nat → Nat) (W : zSt) (F : zV) (m : Nat) (x : Int32) : Prop :=
  (x = -1 ∧ ∀ j, j < m → zga W 4 j = 0 → zc (zT S o) F j ≤ 0) ∨ ∃ b, b < m ∧ x = zI b ∧ zga W 4 b = 0 ∧ 0 < zc (zT S o) F b ∧ ∀ j, j < m → zga W 4 j = 0 → 0 < zc (zT S o) F j → o b ≤ o j
theorem zfg_4 {S G : Nat → zV} {cnt : Nat} {o ins : Nat → Nat} {D : zSt} (h : zDic S G cnt o ins D) (W : zSt) {r : Nat} (hr : zval cnt r) {F : zV} (hF : zRow S G ins r = F) : ∀ (d m n : Nat) (x : Int32), m + d = 3 → d < n → zIfg S o W F m x → ∃ y, fX9_firstGrowing_4 W D n (zI r) x (zI m) = some y ∧ zIfg S o W F 3 y
  | 0, m, n + 1, x, hmd, hn, hx => by
    refine ⟨x, ?_, by rw [← hmd]; exact hx⟩
    rw [fX9_firstGrowing_4]
    simp (disch := omega) only [zn3, zI_le_t, if_true]
  | d + 1, m, n + 1, x, hmd, hn, hx => by
    have hc := h.1.2.1
    have hr2 : r < 21 := by unfold zval at hr; omega
    have e := h.2.2.2.2.2.2 r hr m (by omega)
    rw [hF] at e
    rw [fX9_firstGrowing_4]
    simp (disch := omega) only [zn3, zI_le_f, if_false, zin_zI, if_true, zI_nat]
    have go : ∀ x2, zIfg S o W F (m + 1) x2 → ∃ y, fX9_firstGrowing_4 W D n (zI r) x2 (zI m + 1) = some y ∧ zIfg S o W F 3 y := by
      intro x2 h2
      rw [zn1, zI_add]
      exact zfg_4 h W hr hF d (m + 1) n x2 (by omega) (by omega) h2
    by_cases ch : zga W 4 m = 0
    · rw [if_pos ch]
      simp (disch := omega) only [eX1_cell, zbs]
      by_cases c : zgb D 0 (r * 4 + m) ≤ (0 : Int64)
      · rw [if_pos c]
        rw [z64le, z64_0, e] at c
        simp only [fX9_firstGrowing_62, zlet]
        refine go x ?_
        rcases hx with ⟨h1, h2⟩ | ⟨b, h1, h2, h3, h4, h5⟩
        · refine Or.inl ⟨h1, fun l hl h6 => ?_⟩
          rcases Nat.lt_or_eq_of_le (Nat.le_of_lt_succ hl) with h7 | rfl
          · exact h2 l h7 h6
          · exact c
        · refine Or.inr ⟨b, by omega, h2, h3, h4, fun l hl h6 h7 => ?_⟩
          rcases Nat.lt_or_eq_of_le (Nat.le_of_lt_succ hl) with h8 | rfl
          · exact h5 l h8 h6 h7
          · omega
      · rw [if_neg c]
        rw [z64le, z64_0, e] at c
        rcases hx with ⟨h1, h2⟩ | ⟨b, h1, h2, h3, h4, h5⟩
        · subst h1
          simp only [if_true, fX9_firstGrowing_60, fX9_firstGrowing_62, zlet]
          refine go (zI m) (Or.inr ⟨m, by omega, rfl, ch, by omega, fun l hl h6 h7 => ?_⟩)
          rcases Nat.lt_or_eq_of_le (Nat.le_of_lt_succ hl) with h8 | rfl
          · have := h2 l h8 h6; omega
          · exact Nat.le_refl _
        · subst h2
          have q1 := h.2.2.2.1 m (by omega)
          have q2 := h.2.2.2.1 b (by omega)
          have k1 := h.2.1.1.2 m (by omega)
          have k2 := h.2.1.1.2 b (by omega)
          simp (disch := omega) only [zI_neg1, if_false, eX1_outsideOf, zbs, q1, q2]
          by_cases c2 : o b ≤ o m
          · rw [if_pos (by rw [zI_le (by omega) (by omega)]; exact c2)]
            simp only [fX9_firstGrowing_62, zlet]
            refine go (zI b) (Or.inr ⟨b, by omega, rfl, h3, h4, fun l hl h6 h7 => ?_⟩)
            rcases Nat.lt_or_eq_of_le (Nat.le_of_lt_succ hl) with h8 | rfl
            · exact h5 l h8 h6 h7
            · exact c2
          · rw [if_neg (by rw [zI_le (by omega) (by omega)]; exact c2)]
            simp only [fX9_firstGrowing_60, fX9_firstGrowing_62, zlet]
            refine go (zI m) (Or.inr ⟨m, by omega, rfl, ch, by omega, fun l hl h6 h7 => ?_⟩)
            rcases Nat.lt_or_eq_of_le (Nat.le_of_lt_succ hl) with h8 | rfl
            · have := h5 l h8 h6 h7; omega
            · exact Nat.le_refl _
    · rw [if_neg ch]
      simp only [fX9_firstGrowing_62, zlet]
      refine go x ?_
      rcases hx with ⟨h1, h2⟩ | ⟨b, h1, h2, h3, h4, h5⟩
      · refine Or.inl ⟨h1, fun l hl h6 => ?_⟩
        rcases Nat.lt_or_eq_of_le (Nat.le_of_lt_succ hl) with h7 | rfl
        · exact h2 l h7 h6
        · exact absurd h6 ch
      · refine Or.inr ⟨b, by omega, h2, h3, h4, fun l hl h6 h7 => ?_⟩
        rcases Nat.lt_or_eq_of_le (Nat.le_of_lt_succ hl) with h8 | rfl
        · exact h5 l h8 h6 h7
        · exact absurd h6 ch
theorem eX9_fg {S G : Nat → zV} {cnt : Nat} {o ins : Nat → Nat} {D : zSt} (h : zDic S G cnt o ins D) (W : zSt) {r : Nat} (hr : zval cnt r) : ∃ y, fX9_firstGrowing W D (zI r) = some y ∧ zIfg S o W (zRow S G ins r) 3 y := by
  unfold fX9_firstGrowing
  rw [zn0]
  exact zfg_4 h W hr rfl 3 0 6000 (-1) (by omega) (by omega) (Or.inl ⟨rfl, fun l hl => by omega⟩)
-- the first stop
def zsoon (S : Nat → zV) (o : Nat → Nat) (j s r : Nat) : Prop :=
  zc (zT S o) (S s) 3 * -(zc (zT S o) (S r) j) < zc (zT S o) (S r) 3 * -(zc (zT S o) (S s) j) ∨ (zc (zT S o) (S s) 3 * -(zc (zT S o) (S r) j) = zc (zT S o) (S r) 3 * -(zc (zT S o) (S s) j) ∧ s ≤ r)
theorem zsoon_trans {S : Nat → zV} {o : Nat → Nat} {j a b c : Nat} (h1 : zsoon S o j a b) (h2 : zsoon S o j b c) (ha : zc (zT S o) (S a) j < 0) (hb : zc (zT S o) (S b) j < 0) (hc : zc (zT S o) (S c) j < 0) : zsoon S o j a c := zlex_trans h1 h2 (by omega) (by omega) (by omega)
theorem eX9_soon {S G : Nat → zV} {cnt : Nat} {o ins : Nat → Nat} {D : zSt} (h : zDic S G cnt o ins D) (W : zSt) {m b j : Nat} (hm : m < cnt - 3) (hb : b < cnt - 3) (hj : j < 3) : ∃ y, fX9_stopsSooner W D (zI m) (zI b) (zI j) = some y ∧ ((y = 0 ∧ zsoon S o j (ins b) (ins m)) ∨ (y ≠ 0 ∧ zsoon S o j (ins m) (ins b))) := by
  have hc := h.1.2.1
  have w := h.1
  have e1 := zDic_cell h hm (j := 3) (by omega)
  have e2 := zDic_cell h hb (j := j) (by omega)
  have e3 := zDic_cell h hb (j := 3) (by omega)
  have e4 := zDic_cell h hm (j := j) (by omega)
  have b1 : zab (zgb D 0 (m * 4 + 3)).toInt 23619600 := by rw [e1]; exact zWf_c4 w o (w.2.2.1 _) (by omega)
  have b2 : zab (zgb D 0 (b * 4 + j)).toInt 4374 := by rw [e2]; exact zWf_c w o (w.2.2.1 _) hj
  have b3 : zab (zgb D 0 (b * 4 + 3)).toInt 23619600 := by rw [e3]; exact zWf_c4 w o (w.2.2.1 _) (by omega)
  have b4 : zab (zgb D 0 (m * 4 + j)).toInt 4374 := by rw [e4]; exact zWf_c w o (w.2.2.1 _) hj
  have n2 := z64neg b2 (by omega)
  have n4 := z64neg b4 (by omega)
  have p1 := z64mul (a := zgb D 0 (m * 4 + 3)) (b := -zgb D 0 (b * 4 + j)) (A := 23619600) (B := 4374) b1 (by rw [n2]; exact zab_neg b2) (by omega)
  have p2 := z64mul (a := zgb D 0 (b * 4 + 3)) (b := -zgb D 0 (m * 4 + j)) (A := 23619600) (B := 4374) b3 (by rw [n4]; exact zab_neg b4) (by omega)
  rw [n2, e1, e2] at p1
  rw [n4, e3, e4] at p2
  have q1 := h.2.2.2.2.1 m hm
  have q2 := h.2.2.2.2.1 b hb
  have k1 := h.2.1.2.1 m hm
  have k2 := h.2.1.2.1 b hb
  have z1 : znar .boolean (1 : Int32) = true := by decide
  have z0 : znar .boolean (0 : Int32) = true := by decide
  unfold fX9_stopsSooner zsoon
  simp (disch := omega) only [zn3, eX1_cell, zbs, zlet, eX1_insideOf, q1, q2, fX9_stopsSooner_79, fX9_stopsSooner_83, fX9_stopsSooner_84, z1, z0, if_true]
  by_cases c1 : zgb D 0 (m * 4 + 3) * -zgb D 0 (b * 4 + j) < zgb D 0 (b * 4 + 3) * -zgb D 0 (m * 4 + j)
  · rw [if_pos c1]
    rw [z64lt, p1, p2] at c1
    exact ⟨1, rfl, Or.inr ⟨by decide, Or.inl c1⟩⟩
  · rw [if_neg c1]
    rw [z64lt, p1, p2] at c1
    by_cases c2 : zgb D 0 (m * 4 + 3) * -zgb D 0 (b * 4 + j) = zgb D 0 (b * 4 + 3) * -zgb D 0 (m * 4 + j)
    · rw [if_pos c2]
      rw [z64eq, p1, p2] at c2
      by_cases c3 : ins b ≤ ins m
      · rw [if_pos (by rw [zI_le (by omega) (by omega)]; exact c3)]
        exact ⟨0, rfl, Or.inl ⟨rfl, Or.inr ⟨c2.symm, c3⟩⟩⟩
      · rw [if_neg (by rw [zI_le (by omega) (by omega)]; exact c3)]
        exact ⟨1, rfl, Or.inr ⟨by decide, Or.inr ⟨c2, by omega⟩⟩⟩
    · rw [if_neg c2]
      rw [z64eq, p1, p2] at c2
      exact ⟨0, rfl, Or.inl ⟨rfl, Or.inl (by omega)⟩⟩
def zIst (S : Nat → zV) (o ins : Nat → Nat) (j m : Nat) (x : Int32) : Prop :=
  (x = -1 ∧ ∀ l, l < m → 0 ≤ zc (zT S o) (S (ins l)) j) ∨ ∃ b, b < m ∧ x = zI b ∧ zc (zT S o) (S (ins b)) j < 0 ∧ ∀ l, l < m → zc (zT S o) (S (ins l)) j < 0 → zsoon S o j (ins b) (ins l)
theorem zsoon_refl (S : Nat → zV) (o : Nat → Nat) (j s : Nat) : zsoon S o j s s := Or.inr ⟨rfl, Nat.le_refl _⟩
theorem zst_4 {S G : Nat → zV} {cnt : Nat} {o ins : Nat → Nat} {D : zSt} (h : zDic S G cnt o ins D) (W : zSt) {j : Nat} (hj : j < 3) : ∀ (d m n : Nat) (x : Int32), m + d = cnt - 3 → d < n → zIst S o ins j m x → ∃ y, fX9_firstStop_4 W D n (zI j) x (zI m) = some y ∧ zIst S o ins j (cnt - 3) y
  | 0, m, n + 1, x, hmd, hn, hx => by
    have hc := h.1.2.1
    refine ⟨x, ?_, by rw [← hmd]; exact hx⟩
    rw [fX9_firstStop_4, h.2.2.1]
    simp (disch := omega) only [zI_le_t, if_true]
  | d + 1, m, n + 1, x, hmd, hn, hx => by
    have hc := h.1.2.1
    have e := zDic_cell h (l := m) (by omega) (j := j) (by omega)
    rw [fX9_firstStop_4, h.2.2.1]
    simp (disch := omega) only [zI_le_f, if_false, eX1_cell, zbs]
    have go : ∀ x2, zIst S o ins j (m + 1) x2 → ∃ y, fX9_firstStop_4 W D n (zI j) x2 (zI m + 1) = some y ∧ zIst S o ins j (cnt - 3) y := by
      intro x2 h2
      rw [zn1, zI_add]
      exact zst_4 h W hj d (m + 1) n x2 (by omega) (by omega) h2
    by_cases c : (0 : Int64) ≤ zgb D 0 (m * 4 + j)
    · rw [if_pos c]
      rw [z64le, z64_0, e] at c
      simp only [fX9_firstStop_46, zlet]
      refine go x ?_
      rcases hx with ⟨h1, h2⟩ | ⟨b, h1, h2, h3, h4⟩
      · refine Or.inl ⟨h1, fun l hl => ?_⟩
        rcases Nat.lt_or_eq_of_le (Nat.le_of_lt_succ hl) with h5 | rfl
        · exact h2 l h5
        · exact c
      · refine Or.inr ⟨b, by omega, h2, h3, fun l hl h5 => ?_⟩
        rcases Nat.lt_or_eq_of_le (Nat.le_of_lt_succ hl) with h6 | rfl
        · exact h4 l h6 h5
        · omega
    · rw [if_neg c]
      rw [z64le, z64_0, e] at c
      rcases hx with ⟨h1, h2⟩ | ⟨b, h1, h2, h3, h4⟩
      · subst h1
        simp only [if_true, fX9_firstStop_44, fX9_firstStop_46, zlet]
        refine go (zI m) (Or.inr ⟨m, by omega, rfl, by omega, fun l hl h5 => ?_⟩)
        rcases Nat.lt_or_eq_of_le (Nat.le_of_lt_succ hl) with h6 | rfl
        · have := h2 l h6; omega
        · exact zsoon_refl S o j _
      · subst h2
        simp (disch := omega) only [zI_neg1, if_false]
        obtain ⟨y, f1, f2⟩ := eX9_soon h W (m := m) (b := b) (j := j) (by omega) (by omega) hj
        rw [f1]
        simp only [zbs]
        rcases f2 with ⟨f2, f3⟩ | ⟨f2, f3⟩
        · rw [if_pos f2]
          simp only [fX9_firstStop_46, zlet]
          refine go (zI b) (Or.inr ⟨b, by omega, rfl, h3, fun l hl h5 => ?_⟩)
          rcases Nat.lt_or_eq_of_le (Nat.le_of_lt_succ hl) with h6 | rfl
          · exact h4 l h6 h5
          · exact f3
        · rw [if_neg f2]
          simp only [fX9_firstStop_44, fX9_firstStop_46, zlet]
          refine go (zI m) (Or.inr ⟨m, by omega, rfl, by omega, fun l hl h5 => ?_⟩)
          rcases Nat.lt_or_eq_of_le (Nat.le_of_lt_succ hl) with h6 | rfl
          · exact zsoon_trans f3 (h4 l h6 h5) (by omega) h3 h5
          · exact zsoon_refl S o j _
theorem eX9_fst {S G : Nat → zV} {cnt : Nat} {o ins : Nat → Nat} {D : zSt} (h : zDic S G cnt o ins D) (W : zSt) {j : Nat} (hj : j < 3) : ∃ y, fX9_firstStop W D (zI j) = some y ∧ zIst S o ins j (cnt - 3) y := by
  have hc := h.1.2.1
  unfold fX9_firstStop
  rw [zn0]
  exact zst_4 h W hj (cnt - 3) 0 6000 (-1) (by omega) (by omega) (Or.inl ⟨rfl, fun l hl => by omega⟩)
