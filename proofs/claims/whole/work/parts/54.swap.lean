/-! 54: a swap of the dictionary is a swap of the basis. -/
theorem zBas_swap {S : Nat → zV} {cnt : Nat} {o ins : Nat → Nat} {l j : Nat} (h : zBas S cnt o ins) (hl : l < cnt - 3) (hj : j < 3) (hp : zc (zT S o) (S (ins l)) j ≠ 0) : zBas S cnt (zrs o j (ins l)) (zrs ins l (o j)) := by
  obtain ⟨h1, h2, h3, h4, h5⟩ := h
  refine ⟨⟨?_, fun i hi => ?_⟩, fun k hk => ?_, fun k hk => ?_, fun s hs => ?_, fun k m hk hm e => ?_⟩
  · rw [zT_rs]; exact zrp_ne hj _ hp
  · unfold zrs
    split
    · exact h2 l hl
    · exact h1.2 i hi
  · unfold zrs
    split
    · exact h1.2 j hj
    · exact h2 k hk
  · rintro ⟨i, hi, e⟩
    unfold zrs at e
    by_cases c1 : i = j <;> by_cases c2 : k = l
    · rw [if_pos c1, if_pos c2] at e
      exact h3 l hl ⟨j, hj, e.symm⟩
    · rw [if_pos c1, if_neg c2] at e
      exact c2 (h5 l k hl hk e).symm
    · rw [if_neg c1, if_pos c2] at e
      exact c1 (zok_inj h1 hi hj e)
    · rw [if_neg c1, if_neg c2] at e
      exact h3 k hk ⟨i, hi, e⟩
  · rcases h4 s hs with ⟨i, hi, e⟩ | ⟨k, hk, e⟩
    · by_cases c : i = j
      · right
        refine ⟨l, hl, ?_⟩
        unfold zrs
        rw [if_pos rfl, ← c, e]
      · left
        refine ⟨i, hi, ?_⟩
        unfold zrs
        rw [if_neg c, e]
    · by_cases c : k = l
      · left
        refine ⟨j, hj, ?_⟩
        unfold zrs
        rw [if_pos rfl, ← c, e]
      · right
        refine ⟨k, hk, ?_⟩
        unfold zrs
        rw [if_neg c, e]
  · unfold zrs at e
    by_cases c1 : k = l <;> by_cases c2 : m = l
    · omega
    · rw [if_pos c1, if_neg c2] at e
      exact absurd ⟨j, hj, e⟩ (h3 m hm)
    · rw [if_neg c1, if_pos c2] at e
      exact absurd ⟨j, hj, e.symm⟩ (h3 k hk)
    · rw [if_neg c1, if_neg c2] at e
      exact h5 k m hk hm e
/-- on the way of a swap: the rows before m are new, but that of the pivot -/
def zMid (S G : Nat → zV) (cnt : Nat) (o ins : Nat → Nat) (l j : Nat) (D : zSt) (m : Nat) (E : zSt) : Prop :=
  (∀ k, zgi E k = zgi D k) ∧ (∀ k, zgl E k = zgl D k) ∧ (∀ k, zga E k = zga D k) ∧ ∀ r, zval cnt r → ∀ k, k < 4 → (zgb E 0 (r * 4 + k)).toInt = zc (if r < m ∧ r ≠ l then zrp (zT S o) j (S (ins l)) else zT S o) (zRow S G ins r) k
theorem zMid_step {S G : Nat → zV} {cnt : Nat} {o ins : Nat → Nat} {l j m : Nat} {D E : zSt} (h : zDic S G cnt o ins D) (hl : l < cnt - 3) (hj : j < 3) (hp : zc (zT S o) (S (ins l)) j ≠ 0) (hm : zval cnt m) (hml : m ≠ l) (hE : zMid S G cnt o ins l j D m E) : ∃ E2, fX1_clear E (zI m) (zI l) (zI j) = some E2 ∧ zMid S G cnt o ins l j D (m + 1) E2 := by
  obtain ⟨hw, hb, hr⟩ := h
  obtain ⟨a1, a2, a3, a4⟩ := hE
  have hc := hw.2.1
  have hm2 : m < 21 := by unfold zval at hm; omega
  have hl15 : zRow S G ins l = S (ins l) := by unfold zRow; rw [if_pos (by omega)]
  obtain ⟨E2, f1, b1, b2, b3, b4, b5⟩ := eX1_clear (D := E) (r := m) (l := l) (j := j) (t := zT S o) (s := S (ins l)) (F := zRow S G ins m) hm2 (by omega) hml hj (zsc_pos hb.1.1) (by rw [a2]; exact hr.2.2.2.1)
    (fun k hk => by rw [a4 l (Or.inl hl) k hk, if_neg (by omega), hl15]) (fun k hk => by rw [a4 m hm k hk, if_neg (by omega)])
    (fun k hk => zWf_c hw o (hw.2.2.1 _) hk) (fun k hk => zWf_c hw o (zRow_b hw ins m) hk) (fun k hk => zWf_c4 hw o (hw.2.2.1 _) hk) (fun k hk => zWf_c4 hw o (zRow_b hw ins m) hk) hp
  refine ⟨E2, f1, fun k => (b1 k).trans (a1 k), fun k => (b2 k).trans (a2 k), fun k => (b3 k).trans (a3 k), fun r hrv k hk => ?_⟩
  by_cases c : r = m
  · subst c
    rw [b5 k hk, if_pos ⟨by omega, hml⟩]
  · rw [b4 _ (by intro i hi; omega), a4 r hrv k hk]
    by_cases c2 : r < m ∧ r ≠ l
    · rw [if_pos c2, if_pos (by omega)]
    · rw [if_neg c2, if_neg (by omega)]
theorem zMid_skip {S G : Nat → zV} {cnt : Nat} {o ins : Nat → Nat} {l j : Nat} {D E : zSt} (m m2 : Nat) (hmm : ∀ r, zval cnt r → ((r < m ∧ r ≠ l) ↔ (r < m2 ∧ r ≠ l))) (hE : zMid S G cnt o ins l j D m E) : zMid S G cnt o ins l j D m2 E := by
  obtain ⟨a1, a2, a3, a4⟩ := hE
  refine ⟨a1, a2, a3, fun r hrv k hk => ?_⟩
  rw [a4 r hrv k hk]
  by_cases c2 : r < m ∧ r ≠ l
  · rw [if_pos c2, if_pos ((hmm r hrv).mp c2)]
  · rw [if_neg c2, if_neg (fun h => c2 ((hmm r hrv).mpr h))]
theorem zsw_43 {S G : Nat → zV} {cnt : Nat} {o ins : Nat → Nat} {l j : Nat} {D : zSt} (h : zDic S G cnt o ins D) (hl : l < cnt - 3) (hj : j < 3) (hp : zc (zT S o) (S (ins l)) j ≠ 0) (x3 : Int64) : ∀ (d m n : Nat) (E : zSt), m + d = cnt - 3 → d < n → zMid S G cnt o ins l j D m E → ∃ E2, zMid S G cnt o ins l j D 15 E2 ∧ fX1_swap_43 n E (zI l) (zI j) x3 (zI m) = fX1_swap_75 6000 E2 (zI l) (zI j) x3 (zI 0)
  | 0, m, n + 1, E, hmd, hn, hE => by
    have hc := h.1.2.1
    have hL : zgi E 3 = zI (cnt - 3) := by rw [hE.1]; exact h.2.2.1
    refine ⟨E, zMid_skip m 15 (fun r hr => by unfold zval at hr; omega) hE, ?_⟩
    rw [fX1_swap_43, hL]
    simp (disch := omega) only [zI_le_t, if_true, zn0]
  | d + 1, m, n + 1, E, hmd, hn, hE => by
    have hc := h.1.2.1
    have hL : zgi E 3 = zI (cnt - 3) := by rw [hE.1]; exact h.2.2.1
    by_cases c : m = l
    · obtain ⟨E2, g1, g2⟩ := zsw_43 h hl hj hp x3 d (m + 1) n E (by omega) (by omega) (zMid_skip m (m + 1) (fun r hr => by omega) hE)
      refine ⟨E2, g1, ?_⟩
      rw [fX1_swap_43, hL]
      subst c
      simp (disch := omega) only [zI_le_f, if_false, if_true, fX1_swap_66, zlet, zn1, zI_add]
      exact g2
    · obtain ⟨E1, f1, f2⟩ := zMid_step h hl hj hp (Or.inl (by omega)) c hE
      obtain ⟨E2, g1, g2⟩ := zsw_43 h hl hj hp x3 d (m + 1) n E1 (by omega) (by omega) f2
      refine ⟨E2, g1, ?_⟩
      rw [fX1_swap_43, hL]
      simp (disch := omega) only [zI_le_f, zI_eq_f, if_false, f1, zbs, fX1_swap_66, zlet, zn1, zI_add]
      exact g2
theorem zsw_75 {S G : Nat → zV} {cnt : Nat} {o ins : Nat → Nat} {l j : Nat} {D : zSt} (h : zDic S G cnt o ins D) (hl : l < cnt - 3) (hj : j < 3) (hp : zc (zT S o) (S (ins l)) j ≠ 0) (x3 : Int64) : ∀ (d m n : Nat) (E : zSt), m + d = 6 → d < n → zMid S G cnt o ins l j D (15 + m) E → ∃ E2, zMid S G cnt o ins l j D 21 E2 ∧ fX1_swap_75 n E (zI l) (zI j) x3 (zI m) = if (0 : Int64) ≤ x3 then fX1_swap_110 E2 (zI l) (zI j) x3 1 else fX1_swap_110 E2 (zI l) (zI j) x3 (-1)
  | 0, m, n + 1, E, hmd, hn, hE => by
    refine ⟨E, by rw [show 21 = 15 + m by omega]; exact hE, ?_⟩
    rw [fX1_swap_75]
    simp (disch := omega) only [zn6, zI_le_t, if_true]
  | d + 1, m, n + 1, E, hmd, hn, hE => by
    have hc := h.1.2.1
    obtain ⟨E1, f1, f2⟩ := zMid_step h hl hj hp (m := 15 + m) (Or.inr (by omega)) (by omega) hE
    obtain ⟨E2, g1, g2⟩ := zsw_75 h hl hj hp x3 d (m + 1) n E1 (by omega) (by omega) f2
    refine ⟨E2, g1, ?_⟩
    rw [fX1_swap_75]
    simp (disch := omega) only [zn6, zI_le_f, zn15, if_false, zI_add, f1, zbs, zlet]
    rw [zn1, zI_add]
    exact g2
/-- the row of the pivot on its way -/
def zOw (l j : Nat) (g : Int) (E : zSt) (i : Nat) (E2 : zSt) : Prop :=
  (∀ k, zgi E2 k = zgi E k) ∧ (∀ k, zgl E2 k = zgl E k) ∧ (∀ k, zga E2 k = zga E k) ∧ (∀ n, (∀ i, i < 4 → n ≠ l * 4 + i) → zgb E2 0 n = zgb E 0 n) ∧ ∀ k, k < 4 → (zgb E2 0 (l * 4 + k)).toInt = if k < i then (if k = j then g * (zgl E 4).toInt else -g * (zgb E 0 (l * 4 + k)).toInt) else (zgb E 0 (l * 4 + k)).toInt
theorem zOw_step {E E2 : zSt} {l j i n : Nat} {g : Int} {x3 : Int64} {x5 : Int32} (hl : l < 15) (hj : j < 3) (hi : i < 4) (hg : x5.toInt = g) (hg2 : g = 1 ∨ g = -1) (hb4 : zab (zgl E 4).toInt 4374) (hb : ∀ k, k < 4 → zab (zgb E 0 (l * 4 + k)).toInt 23619600) (h : zOw l j g E i E2) : ∃ E3, zOw l j g E (i + 1) E3 ∧ fX1_swap_115 (n + 1) E2 (zI l) (zI j) x3 x5 (zI i) = fX1_swap_115 n E3 (zI l) (zI j) x3 x5 (zI (i + 1)) := by
  obtain ⟨a1, a2, a3, a4, a5⟩ := h
  have b5 : zab x5.toInt64.toInt 1 := by
    rw [z32_64, hg]
    rcases hg2 with e | e <;> rw [e] <;> unfold zab <;> omega
  have n5 : (-x5).toInt = -g := by
    rw [z32neg (A := 1) (by rw [← z32_64]; exact b5) (by omega), hg]
  have b6 : zab (-x5).toInt64.toInt 1 := by
    rw [z32_64, n5]
    rcases hg2 with e | e <;> rw [e] <;> unfold zab <;> omega
  by_cases c : i = j
  · subst c
    refine ⟨zsb E2 0 (vp_updL (zgb E2 0) (l * 4 + i) (x5.toInt64 * zgl E2 4)), ⟨a1, a2, a3, fun n hn => ?_, fun k hk => ?_⟩, ?_⟩
    · rw [gb_sb, updL_n (hn i hi), a4 n hn]
    · rw [gb_sb]
      by_cases ck : k = i
      · subst ck
        rw [updL_s rfl, if_pos (by omega), if_pos rfl, a2, z64mul b5 hb4 (by omega), z32_64, hg]
      · rw [updL_n (by omega), a5 k hk]
        by_cases c2 : k < i
        · rw [if_pos c2, if_pos (show k < i + 1 by omega)]
        · rw [if_neg c2, if_neg (show ¬ k < i + 1 by omega)]
    · rw [fX1_swap_115]
      simp (disch := omega) only [zn4, zI_le_f, if_false, if_true, fX1_swap_154, eX1_putCell, zbs, zlet]
      rw [zn1, zI_add]
  · have ei : (zgb E2 0 (l * 4 + i)).toInt = (zgb E 0 (l * 4 + i)).toInt := by rw [a5 i hi, if_neg (by omega)]
    refine ⟨zsb E2 0 (vp_updL (zgb E2 0) (l * 4 + i) ((-x5).toInt64 * zgb E2 0 (l * 4 + i))), ⟨a1, a2, a3, fun n hn => ?_, fun k hk => ?_⟩, ?_⟩
    · rw [gb_sb, updL_n (hn i hi), a4 n hn]
    · rw [gb_sb]
      by_cases ck : k = i
      · subst ck
        rw [updL_s rfl, if_pos (by omega), if_neg c, z64mul b6 (by rw [ei]; exact hb k hk) (by omega), z32_64, n5, ei]
      · rw [updL_n (by omega), a5 k hk]
        by_cases c2 : k < i
        · rw [if_pos c2, if_pos (show k < i + 1 by omega)]
        · rw [if_neg c2, if_neg (show ¬ k < i + 1 by omega)]
    · rw [fX1_swap_115]
      simp (disch := omega) only [zn4, zI_le_f, zI_eq_f, if_false, eX1_cell, fX1_swap_154, eX1_putCell, zbs, zlet]
      rw [zn1, zI_add]
theorem eX1_swap {S G : Nat → zV} {cnt : Nat} {o ins : Nat → Nat} {l j : Nat} {D : zSt} (h : zDic S G cnt o ins D) (hl : l < cnt - 3) (hj : j < 3) (hp : zc (zT S o) (S (ins l)) j ≠ 0) : ∃ E, fX1_swap D (zI l) (zI j) = some E ∧ zDic S G cnt (zrs o j (ins l)) (zrs ins l (o j)) E := by
  have hc := h.1.2.1
  obtain ⟨hw, hb, hr⟩ := h
  obtain ⟨r1, r2, r3, r4, r5⟩ := hr
  have hl15 : zRow S G ins l = S (ins l) := by unfold zRow; rw [if_pos (by omega)]
  have e3 : (zgb D 0 (l * 4 + j)).toInt = zc (zT S o) (S (ins l)) j := by rw [r5 l (Or.inl hl) j (by omega), hl15]
  have hne : zgb D 0 (l * 4 + j) ≠ 0 := by
    intro e
    rw [e, z64_0] at e3
    exact hp e3.symm
  have start : zMid S G cnt o ins l j D 0 D := ⟨fun _ => rfl, fun _ => rfl, fun _ => rfl, fun r hrv k hk => by rw [r5 r hrv k hk, if_neg (by omega)]⟩
  obtain ⟨E1, g1, f1⟩ := zsw_43 ⟨hw, hb, r1, r2, r3, r4, r5⟩ hl hj hp (zgb D 0 (l * 4 + j)) (cnt - 3) 0 6000 D (by omega) (by omega) start
  obtain ⟨E2, g2, f2⟩ := zsw_75 ⟨hw, hb, r1, r2, r3, r4, r5⟩ hl hj hp (zgb D 0 (l * 4 + j)) 6 0 6000 E1 (by omega) (by omega) (zMid_skip 15 15 (fun _ _ => Iff.rfl) g1)
  obtain ⟨a1, a2, a3, a4⟩ := g2
  have sc2 : (zgl E2 4).toInt = zsc (zT S o) := by rw [a2, r4]
  have row2 : ∀ k, k < 4 → (zgb E2 0 (l * 4 + k)).toInt = zc (zT S o) (S (ins l)) k := fun k hk => by rw [a4 l (Or.inl hl) k hk, if_neg (by omega), hl15]
  have key : ∀ x5 : Int32, (0 < zc (zT S o) (S (ins l)) j ∧ x5.toInt = 1) ∨ (zc (zT S o) (S (ins l)) j < 0 ∧ x5.toInt = -1) → ∃ E, fX1_swap_110 E2 (zI l) (zI j) (zgb D 0 (l * 4 + j)) x5 = some E ∧ zDic S G cnt (zrs o j (ins l)) (zrs ins l (o j)) E := by
    intro x5 h5
    have hg2 : x5.toInt = 1 ∨ x5.toInt = -1 := by rcases h5 with ⟨-, e⟩ | ⟨-, e⟩ <;> simp [e]
    have b5 : zab x5.toInt64.toInt 1 := by
      rw [z32_64]
      rcases hg2 with e | e <;> rw [e] <;> unfold zab <;> omega
    have st2 : zOw l j x5.toInt E2 0 E2 := ⟨fun _ => rfl, fun _ => rfl, fun _ => rfl, fun _ _ => rfl, fun k hk => by rw [if_neg (by omega)]⟩
    have one : ∀ (i n : Nat) (F : zSt), i < 4 → zOw l j x5.toInt E2 i F → ∃ F2, zOw l j x5.toInt E2 (i + 1) F2 ∧ fX1_swap_115 (n + 1) F (zI l) (zI j) (zgb D 0 (l * 4 + j)) x5 (zI i) = fX1_swap_115 n F2 (zI l) (zI j) (zgb D 0 (l * 4 + j)) x5 (zI (i + 1)) := fun i n F hi hF => zOw_step (by omega) hj hi rfl hg2 (by rw [sc2]; exact zWf_s hw o) (fun k hk => by rw [row2 k hk]; exact zWf_c4 hw o (hw.2.2.1 _) hk) hF
    obtain ⟨F1, q1, p1⟩ := one 0 5999 E2 (by omega) st2
    obtain ⟨F2, q2, p2⟩ := one 1 5998 F1 (by omega) q1
    obtain ⟨F3, q3, p3⟩ := one 2 5997 F2 (by omega) q2
    obtain ⟨F4, q4, p4⟩ := one 3 5996 F3 (by omega) q3
    obtain ⟨c1, c2, c3, c4, c5⟩ := q4
    have hins : zga F4 1 l = zI (ins l) := by rw [c3, a3]; exact r3 l hl
    have hout : zga F4 2 j = zI (o j) := by rw [c3, a3]; exact r2 j hj
    unfold fX1_swap_110
    rw [zn0, p1, p2, p3, p4, fX1_swap_115]
    simp (disch := omega) only [zn4, zI_le_t, if_true, zlet, zin_zI, zI_nat, ga_sa, ga_san, ga_sl]
    refine ⟨_, rfl, hw, zBas_swap hb hl hj hp, ?_, fun k hk => ?_, fun k hk => ?_, ?_, fun r hrv k hk => ?_⟩
    · simp only [gi_sa, gi_sl]
      rw [c1, a1, r1]
    · simp (disch := omega) only [ga_sa, ga_san, ga_sl]
      unfold zrs
      by_cases ck : k = j
      · rw [if_pos ck, upd_s ck, hins]
      · rw [if_neg ck, upd_n ck, c3, a3, r2 k hk]
    · simp (disch := omega) only [ga_sa, ga_san, ga_sl]
      unfold zrs
      by_cases ck : k = l
      · rw [if_pos ck, upd_s ck, hout]
      · rw [if_neg ck, upd_n ck, c3, a3, r3 k hk]
    · simp only [gl_sa, gl_sl]
      rw [zT_rs, (zrp_sc hj _ h5).1, z64mul (B := 4374) b5 (by rw [e3]; exact zWf_c hw o (hw.2.2.1 _) hj) (by omega), z32_64, e3]
    · simp only [gb_sa, gb_sl]
      by_cases cr : r = l
      · subst cr
        rw [c5 k hk, if_pos hk, sc2, row2 k hk, zT_rs]
        have e4 : zRow S G (zrs ins r (o j)) r = zT S o j := by unfold zRow zrs; rw [if_pos (by omega), if_pos rfl]
        rw [e4, zrp_own hj hk hb.1.1 _ h5]
      · rw [c4 _ (by intro i hi; omega), a4 r hrv k hk, if_pos ⟨by unfold zval at hrv; omega, cr⟩, zT_rs]
        have e4 : zRow S G (zrs ins l (o j)) r = zRow S G ins r := by unfold zRow zrs; rw [if_neg cr]
        rw [e4]
  unfold fX1_swap
  simp (disch := omega) only [eX1_cell, zbs, if_neg hne, zn0, zn15, zn3, zI_lt_f, zI_le_f, zI_lt_t, if_false, if_true]
  rw [f1, f2]
  by_cases c : (0 : Int64) ≤ zgb D 0 (l * 4 + j)
  · rw [if_pos c]
    rw [z64le, z64_0, e3] at c
    exact key 1 (Or.inl ⟨by omega, by decide⟩)
  · rw [if_neg c]
    rw [z64le, z64_0, e3] at c
    exact key (-1) (Or.inr ⟨by omega, by decide⟩)
