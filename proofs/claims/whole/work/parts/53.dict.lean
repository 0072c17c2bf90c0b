/-! 53: what the dictionary holds: the minors of a basis; its reads and a swap. -/
theorem eX1_cell {D : zSt} {r j : Nat} (h : r * 4 + j < 84) : fX1_cell D (zI r) (zI j) = some (zgb D 0 (r * 4 + j)) := by
  simp (disch := omega) only [fX1_cell, fX1_cell_28, fX1_cell_29, zn4, zn0, zn84, zI_mul, zI_add, zlet, zI_lt_f, zI_le_f, zin_zI, zI_nat, if_false, if_true]
theorem eX1_putCell {D : zSt} {r j : Nat} {v : Int64} (h : r * 4 + j < 84) : fX1_putCell D (zI r) (zI j) v = some (zsb D 0 (vp_updL (zgb D 0) (r * 4 + j) v)) := by
  simp (disch := omega) only [fX1_putCell, fX1_putCell_30, zn4, zn0, zn84, zI_mul, zI_add, zlet, zI_lt_f, zI_le_f, zin_zI, zI_nat, if_false, if_true]
theorem eX1_insideOf {D : zSt} {l : Nat} (h : l < 15) : fX1_insideOf D (zI l) = some (zga D 1 l) := by
  simp (disch := omega) only [fX1_insideOf, fX1_insideOf_22, fX1_insideOf_23, zn0, zn15, zI_lt_f, zI_le_f, zin_zI, zI_nat, if_false, if_true]
theorem eX1_outsideOf {D : zSt} {j : Nat} (h : j < 3) : fX1_outsideOf D (zI j) = some (zga D 2 j) := by
  simp (disch := omega) only [fX1_outsideOf, fX1_outsideOf_22, fX1_outsideOf_23, zn0, zn3, zI_lt_f, zI_le_f, zin_zI, zI_nat, if_false, if_true]
/-- the sides S (cnt of them) and goals G are small -/
def zWf (S G : Nat → zV) (cnt : Nat) : Prop := 3 ≤ cnt ∧ cnt ≤ 18 ∧ (∀ s, zvb (S s)) ∧ ∀ g, zvb (G g)
def zBas (S : Nat → zV) (cnt : Nat) (o ins : Nat → Nat) : Prop :=
  zok S cnt o ∧ (∀ l, l < cnt - 3 → ins l < cnt) ∧ (∀ l, l < cnt - 3 → ¬ zou o (ins l)) ∧ (∀ s, s < cnt → zou o s ∨ ∃ l, l < cnt - 3 ∧ ins l = s) ∧ ∀ l k, l < cnt - 3 → k < cnt - 3 → ins l = ins k → l = k
def zRow (S G : Nat → zV) (ins : Nat → Nat) (r : Nat) : zV := if r < 15 then S (ins r) else G (r - 15)
def zval (cnt r : Nat) : Prop := r < cnt - 3 ∨ (15 ≤ r ∧ r < 21)
def zRep (S G : Nat → zV) (cnt : Nat) (o ins : Nat → Nat) (D : zSt) : Prop :=
  zgi D 3 = zI (cnt - 3) ∧ (∀ j, j < 3 → zga D 2 j = zI (o j)) ∧ (∀ l, l < cnt - 3 → zga D 1 l = zI (ins l)) ∧ (zgl D 4).toInt = zsc (zT S o) ∧ ∀ r, zval cnt r → ∀ j, j < 4 → (zgb D 0 (r * 4 + j)).toInt = zc (zT S o) (zRow S G ins r) j
def zDic (S G : Nat → zV) (cnt : Nat) (o ins : Nat → Nat) (D : zSt) : Prop := zWf S G cnt ∧ zBas S cnt o ins ∧ zRep S G cnt o ins D
theorem zRow_b {S G : Nat → zV} {cnt : Nat} (h : zWf S G cnt) (ins : Nat → Nat) (r : Nat) : zvb (zRow S G ins r) := by
  unfold zRow
  split
  · exact h.2.2.1 _
  · exact h.2.2.2 _
theorem zWf_c {S G : Nat → zV} {cnt : Nat} (h : zWf S G cnt) (o : Nat → Nat) {F : zV} (hF : zvb F) {j : Nat} (hj : j < 3) : zab (zc (zT S o) F j) 4374 := zc_b (t := zT S o) (h.2.2.1 (o 0)) (h.2.2.1 (o 1)) (h.2.2.1 (o 2)) hF hj
theorem zWf_c4 {S G : Nat → zV} {cnt : Nat} (h : zWf S G cnt) (o : Nat → Nat) {F : zV} (hF : zvb F) {j : Nat} (hj : j < 4) : zab (zc (zT S o) F j) 23619600 := by
  rcases (show j < 3 ∨ j = 3 by omega) with c | rfl
  · exact zab_le (zWf_c h o hF c) (by omega)
  · exact zc_b3 (t := zT S o) (h.2.2.1 (o 0)) (h.2.2.1 (o 1)) (h.2.2.1 (o 2)) hF
theorem zWf_s {S G : Nat → zV} {cnt : Nat} (h : zWf S G cnt) (o : Nat → Nat) : zab (zsc (zT S o)) 4374 := zsc_b (t := zT S o) (h.2.2.1 (o 0)) (h.2.2.1 (o 1)) (h.2.2.1 (o 2))
/-- a row on its way to a new basis: the places before i, but for the column j, are new -/
def zCl (D : zSt) (r j : Nat) (t t2 : Nat → zV) (F : zV) (i : Nat) (E : zSt) : Prop :=
  (∀ k, zgi E k = zgi D k) ∧ (∀ k, zgl E k = zgl D k) ∧ (∀ k, zga E k = zga D k) ∧ (∀ n, (∀ i, i < 4 → n ≠ r * 4 + i) → zgb E 0 n = zgb D 0 n) ∧ ∀ k, k < 4 → (zgb E 0 (r * 4 + k)).toInt = zc (if k < i ∧ k ≠ j then t2 else t) F k
theorem zCl_step {D E : zSt} {r l j i n : Nat} {t : Nat → zV} {s F : zV} {x4 x6 : Int64} {x8 : Int32} (hr : r < 21) (hl : l < 21) (hrl : r ≠ l) (hj : j < 3) (hi : i < 4) (hij : i ≠ j) (hsc : 0 < zsc t) (hD : (zgl D 4).toInt = zsc t) (hrow : ∀ k, k < 4 → (zgb D 0 (l * 4 + k)).toInt = zc t s k)
    (hb1 : zab (zc t s j) 4374) (hb2 : zab (zc t F j) 4374) (hb3 : zab (zc t s i) 23619600) (hb4 : zab (zc t F i) 23619600) (h4 : x4.toInt = zc t s j) (h6 : x6.toInt = zc t F j) (h8 : (0 < zc t s j ∧ x8.toInt = 1) ∨ (zc t s j < 0 ∧ x8.toInt = -1)) (hE : zCl D r j t (zrp t j s) F i E) :
    ∃ E2, zCl D r j t (zrp t j s) F (i + 1) E2 ∧ fX1_clear_33 (n + 1) E (zI r) (zI l) (zI j) x4 x6 x8 (zI i) = fX1_clear_33 n E2 (zI r) (zI l) (zI j) x4 x6 x8 (zI (i + 1)) := by
  obtain ⟨a1, a2, a3, a4, a5⟩ := hE
  have hsn : (zgl E 4).toInt = zsc t := by rw [a2, hD]
  have hne : (zgl E 4) ≠ 0 := by
    intro e
    rw [e, z64_0] at hsn
    omega
  have c1 : (zgb E 0 (r * 4 + i)).toInt = zc t F i := by
    rw [a5 i hi, if_neg (by omega)]
  have c2 : (zgb E 0 (l * 4 + i)).toInt = zc t s i := by
    rw [a4 _ (by intro k hk; omega), hrow i hi]
  have p1 : (x4 * zgb E 0 (r * 4 + i)).toInt = zc t s j * zc t F i := by
    rw [z64mul (A := 4374) (B := 23619600) (by rw [h4]; exact hb1) (by rw [c1]; exact hb4) (by omega), h4, c1]
  have p2 : (x6 * zgb E 0 (l * 4 + i)).toInt = zc t F j * zc t s i := by
    rw [z64mul (A := 4374) (B := 23619600) (by rw [h6]; exact hb2) (by rw [c2]; exact hb3) (by omega), h6, c2]
  have b1 : zab (x4 * zgb E 0 (r * 4 + i)).toInt 103312130400 := by rw [p1]; exact zab_mul hb1 hb4
  have b2 : zab (x6 * zgb E 0 (l * 4 + i)).toInt 103312130400 := by rw [p2]; exact zab_mul hb2 hb3
  have p3 : (x4 * zgb E 0 (r * 4 + i) - x6 * zgb E 0 (l * 4 + i)).toInt = zc t s j * zc t F i - zc t F j * zc t s i := by
    rw [z64sub b1 b2 (by omega), p1, p2]
  have b3 : zab (x4 * zgb E 0 (r * 4 + i) - x6 * zgb E 0 (l * 4 + i)).toInt 206624260800 := by
    rw [p3, ← p1, ← p2]; exact zab_sub b1 b2
  have b8 : zab x8.toInt64.toInt 1 := by
    rw [z32_64]
    rcases h8 with ⟨-, e⟩ | ⟨-, e⟩ <;> rw [e] <;> unfold zab <;> omega
  have p4 : (x8.toInt64 * (x4 * zgb E 0 (r * 4 + i) - x6 * zgb E 0 (l * 4 + i))).toInt = zsc t * zc (zrp t j s) F i := by
    rw [z64mul b8 b3 (by omega), p3, z32_64]
    exact zrp_c hj hi hij s F h8
  have p5 : (x8.toInt64 * (x4 * zgb E 0 (r * 4 + i) - x6 * zgb E 0 (l * 4 + i)) / zgl E 4).toInt = zc (zrp t j s) F i := by
    rw [z64div (A := 206624260800) (by rw [z64mul b8 b3 (by omega)]; exact zab_le (zab_mul b8 b3) (by omega)) (by omega), p4, hsn]
    exact Int.mul_tdiv_cancel_left _ (by omega)
  refine ⟨zsb E 0 (vp_updL (zgb E 0) (r * 4 + i) (x8.toInt64 * (x4 * zgb E 0 (r * 4 + i) - x6 * zgb E 0 (l * 4 + i)) / zgl E 4)), ⟨a1, a2, a3, fun n hn => ?_, fun k hk => ?_⟩, ?_⟩
  · rw [gb_sb, updL_n (hn i hi), a4 n hn]
  · rw [gb_sb]
    by_cases hki : k = i
    · subst hki
      rw [updL_s rfl, p5, if_pos (by omega)]
    · rw [updL_n (by omega), a5 k hk]
      by_cases hk2 : k < i ∧ k ≠ j
      · rw [if_pos hk2, if_pos (by omega)]
      · rw [if_neg hk2, if_neg (by omega)]
  · rw [fX1_clear_33]
    simp (disch := omega) only [zn4, zI_le_f, zI_eq_f, if_false, if_true, if_neg hne, eX1_cell, zbs, zlet, eX1_putCell, fX1_clear_95, zn1, zI_add]
theorem zCl_skip {D E : zSt} {r l j n : Nat} {t t2 : Nat → zV} {F : zV} {x4 x6 : Int64} {x8 : Int32} (hr : r < 21) (hl : l < 21) (hj : j < 3) (hE : zCl D r j t t2 F j E) :
    ∃ E2, zCl D r j t t2 F (j + 1) E2 ∧ fX1_clear_33 (n + 1) E (zI r) (zI l) (zI j) x4 x6 x8 (zI j) = fX1_clear_33 n E2 (zI r) (zI l) (zI j) x4 x6 x8 (zI (j + 1)) := by
  obtain ⟨a1, a2, a3, a4, a5⟩ := hE
  refine ⟨E, ⟨a1, a2, a3, a4, fun k hk => ?_⟩, ?_⟩
  · rw [a5 k hk]
    by_cases hk2 : k < j ∧ k ≠ j
    · rw [if_pos hk2, if_pos (by omega)]
    · rw [if_neg hk2, if_neg (by omega)]
  · rw [fX1_clear_33]
    simp (disch := omega) only [zn4, zI_le_f, if_false, if_true, zlet, fX1_clear_95, zn1, zI_add]
theorem eX1_clear {D : zSt} {r l j : Nat} {t : Nat → zV} {s F : zV} (hr : r < 21) (hl : l < 21) (hrl : r ≠ l) (hj : j < 3) (hsc : 0 < zsc t) (hD : (zgl D 4).toInt = zsc t) (hrow : ∀ k, k < 4 → (zgb D 0 (l * 4 + k)).toInt = zc t s k) (hown : ∀ k, k < 4 → (zgb D 0 (r * 4 + k)).toInt = zc t F k)
    (hbs : ∀ k, k < 3 → zab (zc t s k) 4374) (hbF : ∀ k, k < 3 → zab (zc t F k) 4374) (hbs4 : ∀ k, k < 4 → zab (zc t s k) 23619600) (hbF4 : ∀ k, k < 4 → zab (zc t F k) 23619600) (hp : zc t s j ≠ 0) :
    ∃ E, fX1_clear D (zI r) (zI l) (zI j) = some E ∧ (∀ k, zgi E k = zgi D k) ∧ (∀ k, zgl E k = zgl D k) ∧ (∀ k, zga E k = zga D k) ∧ (∀ n, (∀ i, i < 4 → n ≠ r * 4 + i) → zgb E 0 n = zgb D 0 n) ∧ ∀ k, k < 4 → (zgb E 0 (r * 4 + k)).toInt = zc (zrp t j s) F k := by
  have e1 : (zgb D 0 (l * 4 + j)).toInt = zc t s j := hrow j (by omega)
  have e2 : (zgb D 0 (r * 4 + j)).toInt = zc t F j := hown j (by omega)
  have start : zCl D r j t (zrp t j s) F 0 D := ⟨fun _ => rfl, fun _ => rfl, fun _ => rfl, fun _ _ => rfl, fun k hk => by rw [hown k hk, if_neg (by omega)]⟩
  have key : ∀ x8 : Int32, (0 < zc t s j ∧ x8.toInt = 1) ∨ (zc t s j < 0 ∧ x8.toInt = -1) → ∃ E, fX1_clear_33 6000 D (zI r) (zI l) (zI j) (zgb D 0 (l * 4 + j)) (zgb D 0 (r * 4 + j)) x8 (zI 0) = some E ∧ (∀ k, zgi E k = zgi D k) ∧ (∀ k, zgl E k = zgl D k) ∧ (∀ k, zga E k = zga D k) ∧ (∀ n, (∀ i, i < 4 → n ≠ r * 4 + i) → zgb E 0 n = zgb D 0 n) ∧ ∀ k, k < 4 → (zgb E 0 (r * 4 + k)).toInt = zc (zrp t j s) F k := by
    intro x8 h8
    have one : ∀ (i n : Nat) (E : zSt), i < 4 → zCl D r j t (zrp t j s) F i E → ∃ E2, zCl D r j t (zrp t j s) F (i + 1) E2 ∧ fX1_clear_33 (n + 1) E (zI r) (zI l) (zI j) (zgb D 0 (l * 4 + j)) (zgb D 0 (r * 4 + j)) x8 (zI i) = fX1_clear_33 n E2 (zI r) (zI l) (zI j) (zgb D 0 (l * 4 + j)) (zgb D 0 (r * 4 + j)) x8 (zI (i + 1)) := by
      intro i n E hi hE
      by_cases hij : i = j
      · subst hij
        exact zCl_skip hr hl hj hE
      · exact zCl_step hr hl hrl hj hi hij hsc hD hrow (hbs j hj) (hbF j hj) (hbs4 i hi) (hbF4 i hi) e1 e2 h8 hE
    obtain ⟨E1, g1, f1⟩ := one 0 5999 D (by omega) start
    obtain ⟨E2, g2, f2⟩ := one 1 5998 E1 (by omega) g1
    obtain ⟨E3, g3, f3⟩ := one 2 5997 E2 (by omega) g2
    obtain ⟨E4, g4, f4⟩ := one 3 5996 E3 (by omega) g3
    obtain ⟨a1, a2, a3, a4, a5⟩ := g4
    rw [f1, f2, f3, f4, fX1_clear_33]
    simp (disch := omega) only [zn4, zI_le_t, if_true, eX1_putCell, zbs]
    have b8 : zab x8.toInt64.toInt 1 := by
      rw [z32_64]
      rcases h8 with ⟨-, e⟩ | ⟨-, e⟩ <;> rw [e] <;> unfold zab <;> omega
    refine ⟨_, rfl, a1, a2, a3, fun n hn => ?_, fun k hk => ?_⟩
    · rw [gb_sb, updL_n (hn j (by omega)), a4 n hn]
    · rw [gb_sb]
      by_cases hkj : k = j
      · subst hkj
        rw [updL_s rfl, z64mul (B := 4374) b8 (by rw [e2]; exact hbF k hj) (by omega), z32_64, e2, zrp_cj hj s F h8]
      · rw [updL_n (by omega), a5 k hk, if_pos ⟨hk, hkj⟩]
  unfold fX1_clear
  simp (disch := omega) only [eX1_cell, zbs, fX1_clear_28]
  by_cases c : (0 : Int64) ≤ zgb D 0 (l * 4 + j)
  · rw [if_pos c]
    rw [z64le, z64_0, e1] at c
    exact key 1 (Or.inl ⟨by omega, by decide⟩)
  · rw [if_neg c]
    rw [z64le, z64_0, e1] at c
    exact key (-1) (Or.inr ⟨by omega, by decide⟩)
