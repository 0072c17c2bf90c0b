/-! 56: the walk's loops end: at a point that fits, at a broken line, at the best value of a goal, at an open column. -/
def zco (F : zV) : Nat → Int
  | 0 => F.1
  | 1 => F.2.1
  | _ => F.2.2.1
/-- the variables from n on are not there -/
def zNS (S : Nat → zV) (n : Nat) : Prop := ∀ s i, i < 3 → n ≤ i → s ≠ i → zco (S s) i = 0
def zNx (n : Nat) (o : Nat → Nat) : Prop := ∀ i, i < 3 → n ≤ i → o i = i
theorem zNx_c {S : Nat → zV} {n cnt : Nat} {o : Nat → Nat} (hS : zNS S n) (hok : zok S cnt o) (hx : zNx n o) {i : Nat} (hi : i < 3) (hn : n ≤ i) {F : zV} (hF : zco F i = 0) : zc (zT S o) F i = 0 := by
  have hk : ∀ k, k < 3 → k ≠ i → zco (S (o k)) i = 0 := by
    intro k hk hki
    refine hS _ i hi hn (fun e => hki ?_)
    exact zok_inj hok hk hi (by rw [e, hx i hi hn])
  unfold zc zM
  rcases zlt3 hi with rfl | rfl | rfl
  · have h1 : (zT S o 1).1 = 0 := hk 1 (by omega) (by omega)
    have h2 : (zT S o 2).1 = 0 := hk 2 (by omega) (by omega)
    have h3 : F.1 = 0 := hF
    simp [zN, zd3, h1, h2, h3]
  · have h1 : (zT S o 0).2.1 = 0 := hk 0 (by omega) (by omega)
    have h2 : (zT S o 2).2.1 = 0 := hk 2 (by omega) (by omega)
    have h3 : F.2.1 = 0 := hF
    simp [zN, zd3, h1, h2, h3]
  · have h1 : (zT S o 0).2.2.1 = 0 := hk 0 (by omega) (by omega)
    have h2 : (zT S o 1).2.2.1 = 0 := hk 1 (by omega) (by omega)
    have h3 : F.2.2.1 = 0 := hF
    simp [zN, zd3, h1, h2, h3]
theorem zNx_rs {n : Nat} {o : Nat → Nat} {j s : Nat} (hx : zNx n o) (h : ∀ i, i < 3 → n ≤ i → i ≠ j) : zNx n (zrs o j s) := by
  intro i hi hn
  unfold zrs
  rw [if_neg (h i hi hn)]
  exact hx i hi hn
theorem zpig (O : Nat → Nat → Nat) {cnt : Nat} (hc : cnt ≤ 18) (h : ∀ i, i ≤ 5832 → ∀ j, j < 3 → O i j < cnt) : ∃ a b, a < b ∧ b ≤ 5832 ∧ ∀ j, j < 3 → O a j = O b j := by
  obtain ⟨a, b, h1, h2, h3⟩ := zpigeon 5832 (fun i => O i 0 * 324 + O i 1 * 18 + O i 2) (by
    intro i hi
    show O i 0 * 324 + O i 1 * 18 + O i 2 < 5832
    have h0 := h i hi 0 (by omega)
    have h1 := h i hi 1 (by omega)
    have h2 := h i hi 2 (by omega)
    omega)
  refine ⟨a, b, h1, h2, fun j hj => ?_⟩
  have a0 := h a (by omega) 0 (by omega)
  have a1 := h a (by omega) 1 (by omega)
  have a2 := h a (by omega) 2 (by omega)
  have b0 := h b (by omega) 0 (by omega)
  have b1 := h b (by omega) 1 (by omega)
  have b2 := h b (by omega) 2 (by omega)
  have h4 : O a 0 * 324 + O a 1 * 18 + O a 2 = O b 0 * 324 + O b 1 * 18 + O b 2 := h3
  rcases zlt3 hj with rfl | rfl | rfl <;> omega
theorem zall_in {S : Nat → zV} {cnt : Nat} {o ins : Nat → Nat} (hb : zBas S cnt o ins) {i : Nat} (hi : i < 4) (P : Int → Prop) (h0 : P 0) (hs : i < 3 → P (zsc (zT S o))) (h : ∀ l, l < cnt - 3 → P (zc (zT S o) (S (ins l)) i)) : ∀ s, s < cnt → P (zc (zT S o) (S s) i) := by
  intro s hss
  rcases hb.2.2.2.1 s hss with ⟨j, hj, e⟩ | ⟨l, hl, e⟩
  · have h1 := zc_own (t := zT S o) hj hi
    have e2 : zT S o j = S s := congrArg S e
    rw [e2] at h1
    rw [h1]
    split
    · exact hs (by omega)
    · exact h0
  · rw [← e]
    exact h l hl
-- mends
def zFm (W W2 : zSt) : Prop := (∀ k, k ≠ 8 → k ≠ 5 → zgi W2 k = zgi W k) ∧ (∀ k, zgl W2 k = zgl W k) ∧ (∀ k, zga W2 k = zga W k) ∧ ∀ k, zgb W2 k = zgb W k
theorem zFm_set {W W2 : zSt} (h : zFm W W2) (v : Int32) : zFm W (zsi W2 8 v) := ⟨fun k hk h5 => by rw [gi_sin hk]; exact h.1 k hk h5, h.2.1, h.2.2.1, h.2.2.2⟩
theorem zFm_set5 {W W2 : zSt} (h : zFm W W2) (v : Int32) : zFm W (zsi W2 5 v) := ⟨fun k hk h5 => by rw [gi_sin h5]; exact h.1 k hk h5, h.2.1, h.2.2.1, h.2.2.2⟩
def zMe (S G : Nat → zV) (cnt n : Nat) (W0 : zSt) (r : Int32 × zSt × zSt) : Prop :=
  ∃ o ins, zFm W0 r.2.1 ∧ zDic S G cnt o ins r.2.2 ∧ zNx n o ∧ ((r.1 = 1 ∧ zgi r.2.1 5 = 111 ∧ ∀ s, s < cnt → 0 ≤ zc (zT S o) (S s) 3) ∨ (r.1 = 0 ∧ zgi r.2.1 5 = 105 ∧ ∃ b, b < cnt - 3 ∧ zgi r.2.1 8 = zI b ∧ zc (zT S o) (S (ins b)) 3 < 0 ∧ ∀ j, j < 3 → zc (zT S o) (S (ins b)) j ≤ 0))
theorem zmends_run {S G : Nat → zV} {cnt n : Nat} (hS : zNS S n) (W0 : zSt) (hh : ∀ j, j < 3 → zga W0 4 j = 0) : ∀ (d k fu : Nat) (O : Nat → Nat → Nat) (J Sx : Nat → Nat) (W D : zSt) (ins : Nat → Nat), k + d = 5832 → d < fu → (∀ i, i ≤ k → zok S cnt (O i)) → (∀ i, i < k → zmst S cnt (O i) (O (i + 1)) (J i) (Sx i)) → zDic S G cnt (O k) ins D → zNx n (O k) → zFm W0 W → zgi W 5 = 105 → ∃ r, fX9_mends_8 fu W D (zI k) = some r ∧ zMe S G cnt n W0 r
  | 0, k, fu, O, J, Sx, W, D, ins, hkd, hfu, hok, hst, hD, hx, hW, hW5 => by
    exfalso
    obtain ⟨a, b, h1, h2, h3⟩ := zpig O hD.1.2.1 (fun i hi => (hok i (by omega)).2)
    refine zmend_no S cnt (fun i => O (a + i)) (fun i => J (a + i)) (fun i => Sx (a + i)) (b - a) (by omega) (fun i hi => hok (a + i) (by omega)) (fun i hi => hst (a + i) (by omega)) (fun j hj => ?_)
    show O (a + 0) j = O (a + (b - a)) j
    rw [show a + (b - a) = b by omega]
    exact h3 j hj
  | d + 1, k, fu + 1, O, J, Sx, W, D, ins, hkd, hfu, hok, hst, hD, hx, hW, hW5 => by
    have hc := hD.1.2.1
    rw [fX9_mends_8]
    simp (disch := omega) only [zn100000, zI_le_f, if_false]
    obtain ⟨x, f1, f2⟩ := eX9_fbl hD W
    rw [f1]
    simp only [zbs, zlet, gi_si]
    rcases f2 with ⟨h1, h2⟩ | ⟨b, h1, h2, h3, h4⟩
    · rw [if_pos h1]
      refine ⟨_, rfl, O k, ins, zFm_set5 (zFm_set hW x) 111, hD, hx, Or.inl ⟨rfl, gi_si, ?_⟩⟩
      exact zall_in hD.2.1 (by omega) (fun v => 0 ≤ v) (Int.le_refl _) (fun h => by omega) h2
    · subst h2
      simp (disch := omega) only [zI_neg1, if_false]
      obtain ⟨x2, g1, g2⟩ := eX9_fg hD (zsi W 8 (zI b)) (r := b) (Or.inl h1)
      have hrow : zRow S G ins b = S (ins b) := by unfold zRow; rw [if_pos (by omega)]
      rw [hrow] at g2
      rw [g1]
      simp only [zbs]
      have hheld : ∀ j, j < 3 → zga (zsi W 8 (zI b)) 4 j = 0 := fun j hj => by rw [ga_si, hW.2.2.1]; exact hh j hj
      rcases g2 with ⟨q1, q2⟩ | ⟨j, q1, q2, q3, q4, q5⟩
      · rw [if_pos q1]
        exact ⟨_, rfl, O k, ins, zFm_set hW _, hD, hx, Or.inr ⟨rfl, by rw [gi_sin (by omega)]; exact hW5, b, h1, gi_si, h3, fun j hj => q2 j hj (hheld j hj)⟩⟩
      · subst q2
        simp (disch := omega) only [zI_neg1, if_false]
        obtain ⟨D2, s1, s2⟩ := eX1_swap hD h1 q1 (by omega)
        rw [s1]
        simp only [zbs]
        rw [zn1, zI_add]
        have hnew : zmst S cnt (O k) (zrs (O k) j (ins b)) j (ins b) := ⟨q1, hD.2.1.2.1 b h1, rfl, h3, by
          intro r hr hneg
          rcases hD.2.1.2.2.2.1 r hr with hu | ⟨l, hl, e⟩
          · have := zou_val (S := S) hu (show 3 < 4 by omega) (fun j hj _ => by omega)
            omega
          · rw [← e] at hneg ⊢
            exact h4 l hl hneg, q4, fun i hi hpos => q5 i hi (hheld i hi) hpos⟩
        have hO : (if k + 1 ≤ k then O (k + 1) else zrs (O k) j (ins b)) = zrs (O k) j (ins b) := if_neg (by omega)
        refine zmends_run hS W0 hh d (k + 1) fu (fun i => if i ≤ k then O i else zrs (O k) j (ins b)) (fun i => if i < k then J i else j) (fun i => if i < k then Sx i else ins b) _ D2 (zrs ins b (O k j)) (by omega) (by omega) ?_ ?_ ?_ ?_ (zFm_set hW _) (by rw [gi_sin (by omega)]; exact hW5)
        · intro i hi
          by_cases c : i ≤ k
          · simp only [if_pos c]; exact hok i c
          · simp only [if_neg c]; exact s2.2.1.1
        · intro i hi
          by_cases c : i < k
          · simp only [if_pos c, if_pos (show i ≤ k by omega), if_pos (show i + 1 ≤ k by omega)]
            exact hst i c
          · have : i = k := by omega
            subst this
            simp only [if_neg c, if_pos (Nat.le_refl i), if_neg (show ¬ i + 1 ≤ i by omega)]
            exact hnew
        · rw [hO]; exact s2
        · rw [hO]
          refine zNx_rs hx (fun i hi hn e => ?_)
          subst e
          have hne : ins b ≠ i := fun e2 => hD.2.1.2.2.1 b h1 ⟨i, hi, by rw [hx i hi hn, e2]⟩
          have := zNx_c hS hD.2.1.1 hx hi hn (hS (ins b) i hi hn hne)
          omega
theorem eX9_mends {S G : Nat → zV} {cnt n : Nat} {o ins : Nat → Nat} {W D : zSt} (hS : zNS S n) (hh : ∀ j, j < 3 → zga W 4 j = 0) (hD : zDic S G cnt o ins D) (hx : zNx n o) : ∃ r, fX9_mends W D = some r ∧ zMe S G cnt n W r := by
  unfold fX9_mends
  rw [zn0, zlet]
  exact zmends_run hS W hh 5832 0 6000 (fun _ => o) (fun _ => 0) (fun _ => 0) (zsi W 5 105) D ins (by omega) (by omega) (fun i _ => hD.2.1.1) (fun i hi => by omega) hD hx (zFm_set5 ⟨fun _ _ _ => rfl, fun _ => rfl, fun _ => rfl, fun _ => rfl⟩ 105) gi_si
-- hold
def zFh (W W2 : zSt) : Prop := (∀ k, zgi W2 k = zgi W k) ∧ (∀ k, zgl W2 k = zgl W k) ∧ (∀ k, k ≠ 4 → zga W2 k = zga W k) ∧ ∀ k, zgb W2 k = zgb W k
def zHo (W : zSt) (c : Nat → Int) (i : Nat) (W2 : zSt) : Prop := zFh W W2 ∧ ∀ j, j < 3 → zga W2 4 j = if j < i ∧ c j ≠ 0 then 1 else zga W 4 j
theorem zb1 : vp_nar .boolean (1 : Int32) = 1 := by decide
theorem zb0 : vp_nar .boolean (0 : Int32) = 0 := by decide
theorem zHo_step {W W2 D : zSt} {c : Nat → Int} {r i n : Nat} (hr : r < 21) (hi : i < 3) (hc : (zgb D 0 (r * 4 + i)).toInt = c i) (h : zHo W c i W2) : ∃ W3, zHo W c (i + 1) W3 ∧ fX9_hold_2 D (n + 1) W2 (zI r) (zI i) = fX9_hold_2 D n W3 (zI r) (zI (i + 1)) := by
  obtain ⟨h1, h2⟩ := h
  by_cases c0 : c i = 0
  · refine ⟨W2, ⟨h1, fun j hj => ?_⟩, ?_⟩
    · rw [h2 j hj]
      by_cases c2 : j < i ∧ c j ≠ 0
      · rw [if_pos c2, if_pos (by omega)]
      · rw [if_neg c2, if_neg (by
          rintro ⟨q1, q2⟩
          have : j = i := by omega
          subst this
          exact q2 c0)]
    · have e : zgb D 0 (r * 4 + i) = 0 := by rw [z64eq, hc, z64_0, c0]
      rw [fX9_hold_2]
      simp (disch := omega) only [zn3, zI_le_f, if_false, eX1_cell, zbs, e, if_true, fX9_hold_32, zlet]
      rw [zn1, zI_add]
  · refine ⟨zsa W2 4 (upd (zga W2 4) i 1), ⟨⟨h1.1, h1.2.1, fun k hk => by rw [ga_san hk]; exact h1.2.2.1 k hk, h1.2.2.2⟩, fun j hj => ?_⟩, ?_⟩
    · rw [ga_sa]
      by_cases c2 : j = i
      · rw [upd_s c2, if_pos ⟨by omega, by rw [c2]; exact c0⟩]
      · rw [upd_n c2, h2 j hj]
        by_cases c3 : j < i ∧ c j ≠ 0
        · rw [if_pos c3, if_pos ⟨by omega, c3.2⟩]
        · rw [if_neg c3, if_neg (fun q => c3 ⟨by omega, q.2⟩)]
    · have e : ¬ zgb D 0 (r * 4 + i) = 0 := by rw [z64eq, hc, z64_0]; exact c0
      rw [fX9_hold_2]
      simp (disch := omega) only [zn3, zI_le_f, if_false, eX1_cell, zbs, if_neg e, zin_zI, if_true, fX9_hold_32, zlet, zI_nat, zb1]
      rw [zn1, zI_add]
theorem eX9_hold {S G : Nat → zV} {cnt : Nat} {o ins : Nat → Nat} {D : zSt} (h : zDic S G cnt o ins D) (W : zSt) {r : Nat} (hr : zval cnt r) : ∃ W2, fX9_hold W D (zI r) = some W2 ∧ zFh W W2 ∧ ∀ j, j < 3 → zga W2 4 j = if zc (zT S o) (zRow S G ins r) j ≠ 0 then 1 else zga W 4 j := by
  have hc := h.1.2.1
  have hr2 : r < 21 := by unfold zval at hr; omega
  have e := h.2.2.2.2.2.2 r hr
  unfold fX9_hold
  rw [zn0]
  have s0 : zHo W (fun j => zc (zT S o) (zRow S G ins r) j) 0 W := ⟨⟨fun _ => rfl, fun _ => rfl, fun _ _ => rfl, fun _ => rfl⟩, fun j hj => by rw [if_neg (by omega)]⟩
  obtain ⟨W1, a1, b1⟩ := zHo_step (n := 5999) hr2 (show 0 < 3 by omega) (e 0 (by omega)) s0
  obtain ⟨W2, a2, b2⟩ := zHo_step (n := 5998) hr2 (show 1 < 3 by omega) (e 1 (by omega)) a1
  obtain ⟨W3, a3, b3⟩ := zHo_step (n := 5997) hr2 (show 2 < 3 by omega) (e 2 (by omega)) a2
  rw [b1, b2, b3, fX9_hold_2]
  simp (disch := omega) only [zn3, zI_le_t, if_true]
  refine ⟨W3, rfl, a3.1, fun j hj => ?_⟩
  rw [a3.2 j hj]
  by_cases c2 : zc (zT S o) (zRow S G ins r) j ≠ 0
  · rw [if_pos c2, if_pos ⟨by omega, c2⟩]
  · rw [if_neg c2, if_neg (fun q => c2 q.2)]
-- climbs
def zFe (S : Nat → zV) (cnt : Nat) (o : Nat → Nat) : Prop := ∀ s, s < cnt → 0 ≤ zc (zT S o) (S s) 3
theorem zcst_fe {S : Nat → zV} {cnt : Nat} {held : Nat → Prop} {G : zV} {o o2 : Nat → Nat} {j s : Nat} (ho : zok S cnt o) (h : zcst S cnt held G o o2 j s) (hf : zFe S cnt o) : zFe S cnt o2 := by
  intro r hr
  have hc := zcst_c h (S r)
  obtain ⟨h1, h2, h3, h4, h5, h6, h7, h8⟩ := h
  have hsc := zsc_pos ho.1
  have hg : (0 < zc (zT S o) (S s) j ∧ (-1 : Int) = 1) ∨ (zc (zT S o) (S s) j < 0 ∧ (-1 : Int) = -1) := Or.inr ⟨h7, rfl⟩
  have hs2 : zsc (zT S o2) = -1 * zc (zT S o) (S s) j := by rw [h3, zT_rs]; exact (zrp_sc h1 (S s) hg).1
  have f1 := hf r hr
  have f2 := hf s h2
  have key : 0 ≤ zsc (zT S o) * zc (zT S o2) (S r) 3 := by
    rw [hc]
    by_cases c : zc (zT S o) (S r) j < 0
    · have h9 := h8 r hr c
      have e1 : zsc (zT S o2) * zc (zT S o) (S r) 3 = zc (zT S o) (S r) 3 * -(zc (zT S o) (S s) j) := by rw [hs2, Int.mul_comm]; congr 1; omega
      have e2 : zc (zT S o) (S r) j * zc (zT S o) (S s) 3 = -(zc (zT S o) (S s) 3 * -(zc (zT S o) (S r) j)) := by rw [Int.mul_neg, Int.neg_neg, Int.mul_comm]
      rw [e1, e2]
      rcases h9 with h9 | ⟨h9, -⟩ <;> omega
    · have e1 := Int.mul_nonneg (show 0 ≤ zsc (zT S o2) by omega) f1
      have e2 := Int.mul_nonneg (show 0 ≤ zc (zT S o) (S r) j by omega) f2
      omega
  by_cases c : 0 ≤ zc (zT S o2) (S r) 3
  · exact c
  · have := zmul_mp (show zc (zT S o2) (S r) 3 < 0 by omega) hsc
    rw [Int.mul_comm] at this
    omega
def zCm (S G : Nat → zV) (cnt n : Nat) (g : Nat) (Q : (Nat → Nat) → Prop) (o0 : Nat → Nat) (W0 : zSt) (r : Int32 × zSt × zSt) : Prop :=
  ∃ o ins, zDic S G cnt o ins r.2.2 ∧ zNx n o ∧ zFe S cnt o ∧ Q o ∧ (∀ j, j < 3 → zga W0 4 j ≠ 0 → o j = o0 j) ∧
    ((r.1 = 1 ∧ (∀ j, j < 3 → zga W0 4 j = 0 → zc (zT S o) (G g) j ≤ 0) ∧ zFh W0 r.2.1 ∧ ∀ j, j < 3 → zga r.2.1 4 j = if zc (zT S o) (G g) j ≠ 0 then 1 else zga W0 4 j) ∨
     (r.1 = 0 ∧ ∃ b, b < 3 ∧ r.2.1 = zsi W0 7 (zI b) ∧ zga W0 4 b = 0 ∧ 0 < zc (zT S o) (G g) b ∧ ∀ s, s < cnt → 0 ≤ zc (zT S o) (S s) b))
theorem zclimbs_run {S G : Nat → zV} {cnt n : Nat} (hS : zNS S n) (W : zSt) {g : Nat} (hg : g < 6) (hG : ∀ i, i < 3 → n ≤ i → zco (G g) i = 0) (Q : (Nat → Nat) → Prop) (hQ : ∀ o o2 j s, zok S cnt o → zcst S cnt (fun j => zga W 4 j ≠ 0) (G g) o o2 j s → Q o → Q o2) (o0 : Nat → Nat) : ∀ (d k fu : Nat) (O : Nat → Nat → Nat) (J Sx : Nat → Nat) (D : zSt) (ins : Nat → Nat), k + d = 5832 → d < fu → (∀ i, i ≤ k → zok S cnt (O i)) → (∀ i, i ≤ k → zFe S cnt (O i)) → (∀ i, i < k → zcst S cnt (fun j => zga W 4 j ≠ 0) (G g) (O i) (O (i + 1)) (J i) (Sx i)) → zDic S G cnt (O k) ins D → zNx n (O k) → Q (O k) → (∀ j, j < 3 → zga W 4 j ≠ 0 → O k j = o0 j) → ∃ r, fX9_climbs_2 fu W D (zI (15 + g)) (zI k) = some r ∧ zCm S G cnt n g Q o0 W r
  | 0, k, fu, O, J, Sx, D, ins, hkd, hfu, hok, hfe, hst, hD, hx, hQ0, hq => by
    exfalso
    obtain ⟨a, b, h1, h2, h3⟩ := zpig O hD.1.2.1 (fun i hi => (hok i (by omega)).2)
    refine zclimb_no S cnt (fun j => zga W 4 j ≠ 0) (G g) (fun i => O (a + i)) (fun i => J (a + i)) (fun i => Sx (a + i)) (b - a) (by omega) (fun i hi => hok (a + i) (by omega)) (fun i hi => hfe (a + i) (by omega)) (fun i hi => hst (a + i) (by omega)) (fun j hj => ?_)
    show O (a + 0) j = O (a + (b - a)) j
    rw [show a + (b - a) = b by omega]
    exact h3 j hj
  | d + 1, k, fu + 1, O, J, Sx, D, ins, hkd, hfu, hok, hfe, hst, hD, hx, hQ0, hq => by
    have hc := hD.1.2.1
    have hrow : zRow S G ins (15 + g) = G g := by unfold zRow; rw [if_neg (by omega), show 15 + g - 15 = g by omega]
    have hval : zval cnt (15 + g) := Or.inr (by omega)
    rw [fX9_climbs_2]
    simp (disch := omega) only [zn100000, zI_le_f, if_false]
    obtain ⟨x, f1, f2⟩ := eX9_fg hD W hval
    rw [hrow] at f2
    rw [f1]
    simp only [zbs]
    rcases f2 with ⟨h1, h2⟩ | ⟨j, h1, h2, h3, h4, h5⟩
    · rw [if_pos h1]
      obtain ⟨W2, p1, p2, p3⟩ := eX9_hold hD W hval
      rw [hrow] at p3
      rw [p1]
      simp only [zbs]
      exact ⟨_, rfl, O k, ins, hD, hx, hfe k (Nat.le_refl k), hQ0, hq, Or.inl ⟨rfl, h2, p2, p3⟩⟩
    · subst h2
      simp (disch := omega) only [zI_neg1, if_false]
      obtain ⟨x2, g1, g2⟩ := eX9_fst hD W h1
      rw [g1]
      simp only [zbs]
      rcases g2 with ⟨q1, q2⟩ | ⟨b, q1, q2, q3, q4⟩
      · rw [if_pos q1]
        simp only [zlet]
        refine ⟨_, rfl, O k, ins, hD, hx, hfe k (Nat.le_refl k), hQ0, hq, Or.inr ⟨rfl, j, h1, rfl, h3, h4, ?_⟩⟩
        exact zall_in hD.2.1 (by omega) (fun v => 0 ≤ v) (Int.le_refl _) (fun _ => Int.le_of_lt (zsc_pos hD.2.1.1.1)) q2
      · subst q2
        simp (disch := omega) only [zI_neg1, if_false]
        obtain ⟨D2, s1, s2⟩ := eX1_swap hD q1 h1 (by omega)
        rw [s1]
        simp only [zbs, zlet]
        rw [zn1, zI_add]
        have hnew : zcst S cnt (fun j => zga W 4 j ≠ 0) (G g) (O k) (zrs (O k) j (ins b)) j (ins b) := ⟨h1, hD.2.1.2.1 b q1, rfl, fun h => h h3, h4, fun i hi hni hpos => h5 i hi (by
            by_cases c : zga W 4 i = 0
            · exact c
            · exact absurd c hni) hpos, q3, by
          intro r hr hneg
          rcases hD.2.1.2.2.2.1 r hr with ⟨i, hi, e⟩ | ⟨l, hl, e⟩
          · exfalso
            have w1 := zc_own (t := zT S (O k)) hi (show j < 4 by omega)
            have e2 : zT S (O k) i = S r := congrArg S e
            rw [e2] at w1
            have := zsc_pos hD.2.1.1.1
            by_cases c : j = i
            · rw [if_pos c] at w1; omega
            · rw [if_neg c] at w1; omega
          · rw [← e] at hneg ⊢
            exact q4 l hl hneg⟩
        have hO : (if k + 1 ≤ k then O (k + 1) else zrs (O k) j (ins b)) = zrs (O k) j (ins b) := if_neg (by omega)
        refine zclimbs_run hS W hg hG Q hQ o0 d (k + 1) fu (fun i => if i ≤ k then O i else zrs (O k) j (ins b)) (fun i => if i < k then J i else j) (fun i => if i < k then Sx i else ins b) D2 (zrs ins b (O k j)) (by omega) (by omega) ?_ ?_ ?_ ?_ ?_ ?_ ?_
        · intro i hi
          by_cases c : i ≤ k
          · simp only [if_pos c]; exact hok i c
          · simp only [if_neg c]; exact s2.2.1.1
        · intro i hi
          by_cases c : i ≤ k
          · simp only [if_pos c]; exact hfe i c
          · simp only [if_neg c]; exact zcst_fe hD.2.1.1 hnew (hfe k (Nat.le_refl k))
        · intro i hi
          by_cases c : i < k
          · simp only [if_pos c, if_pos (show i ≤ k by omega), if_pos (show i + 1 ≤ k by omega)]
            exact hst i c
          · have : i = k := by omega
            subst this
            simp only [if_neg c, if_pos (Nat.le_refl i), if_neg (show ¬ i + 1 ≤ i by omega)]
            exact hnew
        · rw [hO]; exact s2
        · rw [hO]
          refine zNx_rs hx (fun i hi hn e => ?_)
          subst e
          have := zNx_c hS hD.2.1.1 hx hi hn (hG i hi hn)
          omega
        · rw [hO]; exact hQ _ _ _ _ hD.2.1.1 hnew hQ0
        · intro i hi hne
          rw [hO]
          unfold zrs
          have hij : i ≠ j := fun e => hne (by rw [e]; exact h3)
          rw [if_neg hij]
          exact hq i hi hne
theorem eX9_climbs {S G : Nat → zV} {cnt n : Nat} {o ins : Nat → Nat} {W D : zSt} (hS : zNS S n) {g : Nat} (hg : g < 6) (hG : ∀ i, i < 3 → n ≤ i → zco (G g) i = 0) (Q : (Nat → Nat) → Prop) (hQ : ∀ o o2 j s, zok S cnt o → zcst S cnt (fun j => zga W 4 j ≠ 0) (G g) o o2 j s → Q o → Q o2) (hD : zDic S G cnt o ins D) (hx : zNx n o) (hf : zFe S cnt o) (hQ0 : Q o) : ∃ r, fX9_climbs W D (zI (15 + g)) = some r ∧ zCm S G cnt n g Q o W r := by
  unfold fX9_climbs
  rw [zn0]
  exact zclimbs_run hS W hg hG Q hQ o 5832 0 6000 (fun _ => o) (fun _ => 0) (fun _ => 0) D ins (by omega) (by omega) (fun i _ => hD.2.1.1) (fun i _ => hf) (fun i hi => by omega) hD hx hQ0 (fun j _ _ => rfl)
