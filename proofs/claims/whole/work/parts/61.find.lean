/-! 61: what the walk finds: no point (a broken line), an open column, or the best point; each with its ground. -/
theorem zc_lin (t : Nat → zV) (F : zV) : zc t F 3 = zev F (zXb t) := (zXb_ev t F).symm
def zfeas (S : Nat → zV) (cnt : Nat) (X : zV) : Prop := 0 ≤ X.2.2.2 ∧ ∀ s, s < cnt → 0 ≤ zev (S s) X
/-- a point object holds X, over n variables -/
def zPt (Q : zSt) (n : Nat) (X : zV) : Prop := zgi Q 2 = zI n ∧ (zgl Q 1).toInt = X.2.2.2 ∧ ∀ i, i < 3 → (zgb Q 0 i).toInt = zco X i
theorem eX1_lineOf_in {S G : Nat → zV} {cnt : Nat} {o ins : Nat → Nat} {D : zSt} (h : zDic S G cnt o ins D) {l : Nat} (hl : l < cnt - 3) : ∀ (d m f : Nat), m + d = l → d < f → fX1_lineOf_2 D f (zI (ins l)) (zI m) = some (zI l)
  | 0, m, f + 1, hm, hf => by
    have hc := h.1.2.1
    have hml : m = l := by omega
    subst hml
    have e := h.2.2.2.2.1 m hl
    have hb := h.2.1.2.1 m hl
    rw [fX1_lineOf_2, h.2.2.1]
    simp (disch := omega) only [zI_le_f, zn15, if_false, zin_zI, if_true, zI_nat, e]
  | d + 1, m, f + 1, hm, hf => by
    have hc := h.1.2.1
    have e := h.2.2.2.2.1 m (by omega)
    have hb := h.2.1.2.1 m (by omega)
    have hb2 := h.2.1.2.1 l (by omega)
    have hne : ins m ≠ ins l := fun e => by have := h.2.1.2.2.2.2 m l (by omega) hl e; omega
    rw [fX1_lineOf_2, h.2.2.1]
    simp (disch := omega) only [zI_le_f, zn15, if_false, zin_zI, if_true, zI_nat, e, zI_eq_f, zlq]
    rw [zn1, zI_add]
    exact eX1_lineOf_in h hl d (m + 1) f (by omega) (by omega)
theorem eX1_lineOf_out {S G : Nat → zV} {cnt : Nat} {o ins : Nat → Nat} {D : zSt} (h : zDic S G cnt o ins D) {s : Nat} (hs : s < cnt) (hno : ∀ l, l < cnt - 3 → ins l ≠ s) : ∀ (d m f : Nat), m + d = cnt - 3 → d < f → fX1_lineOf_2 D f (zI s) (zI m) = some (-1)
  | 0, m, f + 1, hm, hf => by
    have hc := h.1.2.1
    rw [fX1_lineOf_2, h.2.2.1]
    simp (disch := omega) only [zI_le_t, if_true, fX1_lineOf_37]
  | d + 1, m, f + 1, hm, hf => by
    have hc := h.1.2.1
    have e := h.2.2.2.2.1 m (by omega)
    have hb := h.2.1.2.1 m (by omega)
    have hne := hno m (by omega)
    rw [fX1_lineOf_2, h.2.2.1]
    simp (disch := omega) only [zI_le_f, zn15, if_false, zin_zI, if_true, zI_nat, e, zI_eq_f, zlq]
    rw [zn1, zI_add]
    exact eX1_lineOf_out h hs hno d (m + 1) f (by omega) (by omega)
theorem eX1_lineOf {S G : Nat → zV} {cnt : Nat} {o ins : Nat → Nat} {D : zSt} (h : zDic S G cnt o ins D) {s : Nat} (hs : s < cnt) : (∃ l, l < cnt - 3 ∧ ins l = s ∧ fX1_lineOf D (zI s) = some (zI l)) ∨ (zou o s ∧ fX1_lineOf D (zI s) = some (-1)) := by
  have hc := h.1.2.1
  unfold fX1_lineOf
  rw [zn0]
  by_cases c : ∃ l, l < cnt - 3 ∧ ins l = s
  · obtain ⟨l, hl, e⟩ := c
    left
    refine ⟨l, hl, e, ?_⟩
    rw [← e]
    exact eX1_lineOf_in h hl l 0 6000 (by omega) (by omega)
  · right
    have hno : ∀ l, l < cnt - 3 → ins l ≠ s := fun l hl e => c ⟨l, hl, e⟩
    refine ⟨?_, eX1_lineOf_out h hs hno (cnt - 3) 0 6000 (by omega) (by omega)⟩
    rcases h.2.1.2.2.2.1 s hs with h1 | ⟨l, hl, e⟩
    · exact h1
    · exact absurd e (hno l hl)
theorem eX1_slackOf {S G : Nat → zV} {cnt : Nat} {o ins : Nat → Nat} {D : zSt} (h : zDic S G cnt o ins D) {s : Nat} (hs : s < cnt) : ∃ v, fX1_slackOf D (zI s) = some v ∧ v.toInt = zc (zT S o) (S s) 3 := by
  have hc := h.1.2.1
  unfold fX1_slackOf
  rcases eX1_lineOf h hs with ⟨l, hl, e, f⟩ | ⟨hu, f⟩
  · rw [f]
    simp (disch := omega) only [zbq, zI_neg1, if_false, zn3, eX1_cell, fX1_slackOf_21]
    refine ⟨_, rfl, ?_⟩
    rw [zDic_cell h hl (by omega), e]
  · rw [f]
    simp only [zbq, if_true, fX1_slackOf_21]
    refine ⟨_, rfl, ?_⟩
    rw [zou_val hu (by omega) (fun j hj _ => by omega)]
    decide
theorem zXb_co {n m q : Nat} {P : zSt} {x2 x3 : Int32} (hP : zPw n m q P) (o : Nat → Nat) {i : Nat} (hi : i < 3) : zco (zXb (zT (zSo (zGa P x2 x3 n m)) o)) i = (zga P 0 i).toInt * zsc (zT (zSo (zGa P x2 x3 n m)) o) + zc (zT (zSo (zGa P x2 x3 n m)) o) (zSo (zGa P x2 x3 n m) i) 3 := by
  rw [zc_lin]
  have t0 : zSo (zGa P x2 x3 n m) 0 = (1, 0, 0, -(zga P 0 0).toInt) := zSo_some (v := ((1, 0, 0, -(zga P 0 0).toInt), false)) (by unfold zGa; rw [List.append_assoc]; rfl)
  have t1 : zSo (zGa P x2 x3 n m) 1 = (0, 1, 0, -(zga P 0 1).toInt) := zSo_some (v := ((0, 1, 0, -(zga P 0 1).toInt), false)) (by unfold zGa; rw [List.append_assoc]; rfl)
  have t2 : zSo (zGa P x2 x3 n m) 2 = (0, 0, 1, -(zga P 0 2).toInt) := zSo_some (v := ((0, 0, 1, -(zga P 0 2).toInt), false)) (by unfold zGa; rw [List.append_assoc]; rfl)
  generalize zT (zSo (zGa P x2 x3 n m)) o = t
  have hw : (zXb t).2.2.2 = zsc t := rfl
  rcases zlt3 hi with rfl | rfl | rfl
  · rw [t0]
    unfold zev
    simp only [hw, zco]
    grind
  · rw [t1]
    unfold zev
    simp only [hw, zco]
    grind
  · rw [t2]
    unfold zev
    simp only [hw, zco]
    grind
theorem zvbE (i : Nat) : zvb (zE i) := by
  refine ⟨?_, ?_, ?_, zab0 _⟩
  · show zab (if i = 0 then 1 else 0) 9; split <;> unfold zab <;> omega
  · show zab (if i = 1 then 1 else 0) 9; split <;> unfold zab <;> omega
  · show zab (if i = 2 then 1 else 0) 9; split <;> unfold zab <;> omega
theorem zXb_b {S G : Nat → zV} {cnt : Nat} (hw : zWf S G cnt) (o : Nat → Nat) : (∀ i, i < 3 → zab (zco (zXb (zT S o)) i) 23619600) ∧ zab (zXb (zT S o)).2.2.2 4374 := by
  refine ⟨fun i hi => ?_, zWf_s hw o⟩
  rcases zlt3 hi with rfl | rfl | rfl
  · exact zWf_c4 hw o (zvbE 0) (by omega)
  · exact zWf_c4 hw o (zvbE 1) (by omega)
  · exact zWf_c4 hw o (zvbE 2) (by omega)
theorem eX4_putTop {Q : zSt} {i : Nat} {v : Int64} (h : i < 3) : fX4_putTop Q (zI i) v = some (zsb Q 0 (vp_updL (zgb Q 0) i v)) := by
  simp (disch := omega) only [fX4_putTop, fX4_putTop_20, zn0, zn3, zlq, zI_lt_f, zI_le_f, zin_zI, zI_nat, if_false, if_true]
theorem zstand_30 {n m q : Nat} {P : zSt} {x2 x3 : Int32} (hP : zPw n m q P) {o ins : Nat → Nat} {D : zSt} (h : zDic (zSo (zGa P x2 x3 n m)) (zGo P q) (zGa P x2 x3 n m).length o ins D) (W : zSt) : ∀ (d i f : Nat) (Q : zSt), i + d = 3 → d < f → (zgi Q 2 = zI n ∧ (zgl Q 1).toInt = zsc (zT (zSo (zGa P x2 x3 n m)) o) ∧ ∀ k, k < i → (zgb Q 0 k).toInt = zco (zXb (zT (zSo (zGa P x2 x3 n m)) o)) k) → ∃ Q2, fX9_stand_30 W P D f Q (zI i) = some Q2 ∧ zPt Q2 n (zXb (zT (zSo (zGa P x2 x3 n m)) o))
  | 0, i, f + 1, Q, hi, hf, hQ => by
    rw [fX9_stand_30]
    simp (disch := omega) only [zn3, zI_le_t, if_true]
    exact ⟨Q, rfl, hQ.1, hQ.2.1, fun k hk => hQ.2.2 k (by omega)⟩
  | d + 1, i, f + 1, Q, hi, hf, hQ => by
    have hl := zGa_len hP x2 x3
    obtain ⟨v, f1, f2⟩ := eX1_slackOf h (s := i) (by omega)
    have hb := hP.2.2.2.2.2.2.2.1 i (by omega)
    have e4 := h.2.2.2.2.2.1
    have b4 : zab (zgl D 4).toInt 4374 := by rw [e4]; exact zWf_s h.1 o
    have bl : zab (zga P 0 i).toInt64.toInt 50 := by rw [z32_64]; exact zab_of (by omega) (by omega)
    have bv : zab v.toInt 23619600 := by rw [f2]; exact zWf_c4 h.1 o (h.1.2.2.1 _) (by omega)
    have p1 := z64mul bl b4 (by omega)
    have bp : zab ((zga P 0 i).toInt64 * zgl D 4).toInt 218700 := by rw [p1]; exact zab_mul bl b4
    have p2 := z64add bp bv (by omega)
    rw [p1, z32_64, e4, f2, ← zXb_co hP o (by omega)] at p2
    rw [fX9_stand_30]
    simp (disch := omega) only [zn3, zI_le_f, if_false, eX5_leastOf, zbq, f1, eX4_putTop, zlq]
    rw [zn1, zI_add]
    refine zstand_30 hP h W d (i + 1) f _ (by omega) (by omega) ⟨hQ.1, hQ.2.1, fun k hk => ?_⟩
    rw [gb_sb]
    by_cases c : k = i
    · rw [updL_s c, p2, c]
    · rw [updL_n c, hQ.2.2 k (by omega)]
theorem eX9_stand {n m q : Nat} {P : zSt} {x2 x3 : Int32} (hP : zPw n m q P) {o ins : Nat → Nat} {D : zSt} (h : zDic (zSo (zGa P x2 x3 n m)) (zGo P q) (zGa P x2 x3 n m).length o ins D) (W Q : zSt) : ∃ Q2, fX9_stand W P D Q = some Q2 ∧ zPt Q2 n (zXb (zT (zSo (zGa P x2 x3 n m)) o)) := by
  unfold fX9_stand
  simp only [zlq]
  rw [zn0]
  refine zstand_30 hP h W 3 0 6000 _ (by omega) (by omega) ⟨?_, ?_, fun k hk => by omega⟩
  · simp only [gi_sl, gi_si]
    exact hP.2.2.2.1
  · rw [gl_sl]
    exact h.2.2.2.2.2.1
