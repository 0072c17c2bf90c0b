/-! 9w: the calls that look at the best point: state, open, the values. -/
/-- what a call that computes keeps of the reference -/
def zFc (A B : zSt) : Prop := (∀ k, k ≠ 9 → (k < 31 ∨ 36 < k) → zgi B k = zgi A k) ∧ (∀ k, zgl B k = zgl A k) ∧ (∀ k, (k < 24 ∨ 26 < k) → zga B k = zga A k) ∧ ∀ k, (k < 19 ∨ 30 < k) → zgb B k = zgb A k
theorem zFc.refl (O : zSt) : zFc O O := ⟨fun _ _ _ => rfl, fun _ => rfl, fun _ _ => rfl, fun _ _ => rfl⟩
theorem zFc.trans {A B C : zSt} (h : zFc A B) (g : zFc B C) : zFc A C := ⟨fun k a b => (g.1 k a b).trans (h.1 k a b), fun k => (g.2.1 k).trans (h.2.1 k), fun k a => (g.2.2.1 k a).trans (h.2.2.1 k a), fun k a => (g.2.2.2 k a).trans (h.2.2.2 k a)⟩
theorem zFc_9 {A : zSt} {v : Int32} : zFc A (zsi A 9 v) := ⟨fun j a _ => gi_sin a, fun _ => rfl, fun _ _ => rfl, fun _ _ => rfl⟩
theorem zFc_J {A B : zSt} (h : zFJ A B) : zFc A B := ⟨fun k _ a => h.1 k a, h.2.1, h.2.2.1, h.2.2.2⟩
theorem zFc_k {A B : zSt} (h : zFLk A B) : zFc A B := zFc_J (zFJ_k h)
theorem zRl_c {n m q : Nat} {P O O2 : zSt} (h : zRl n m q P O) (f : zFc O O2) : zRl n m q P O2 := by
  obtain ⟨g10, g11, g12, g0, gr, ga, gx⟩ := h
  obtain ⟨f1, -, f3, -⟩ := f
  refine ⟨?_, ?_, ?_, ?_, ?_, ?_, ?_⟩
  · rw [f1 10 (by omega) (by omega)]; exact g10
  · rw [f1 11 (by omega) (by omega)]; exact g11
  · rw [f1 12 (by omega) (by omega)]; exact g12
  · rw [f3 0 (by omega), f3 1 (by omega)]; exact g0
  · rw [f3 2 (by omega), f3 3 (by omega), f3 4 (by omega), f3 6 (by omega)]; exact gr
  · rw [f3 5 (by omega), f3 7 (by omega)]; exact ga
  · rw [f3 6 (by omega)]; exact gx
theorem zTy_c {n len : Nat} {X O O2 : zSt} (h : zTy n len X O) (f : zFc O O2) : zTy n len X O2 := by
  obtain ⟨a, b, c, d, e, g⟩ := h
  exact ⟨a, b, c, by rw [f.1 13 (by omega) (by omega)]; exact d, fun k hk => by rw [f.2.2.1 8 (by omega)]; exact e k hk, by rw [f.1 10 (by omega) (by omega)]; exact g⟩
/-- what the class has computed so far (K: the corners' own cells) -/
def zJc (n m q : Nat) (K P W sS D Q B Z E H : zSt) : Prop :=
  (zgi W 9 ≠ 0 → ∃ o ins, zWk n m q P W sS D Q o ins) ∧
  (zgi K 5 ≠ 0 → zgi W 9 ≠ 0 ∧ zgi W 5 = 111 ∧ ∃ o ins Y, zWk n m q P W sS D Q o ins ∧ zQp B Y ∧ zBd Y ∧ zeqa P q Y (zXb (zT (zSo (zGa P 0 (-1) n m)) o))) ∧
  (zgi Z 4 ≠ 0 → ∃ Z0 E0 H0, zgi Z0 4 = 0 ∧ (zgl H0 1).toInt = 1 ∧ fX10_look Z0 P E0 H0 = some (Z, E, H)) ∧ (zgl H 1).toInt = 1
section ZVALUES
variable {n m q : Nat} {P C W sS D Q B Z E H O R K : zSt}
theorem zsees (hP : zPw n m q P) (hR : zRl n m q P O) (hJ : zJc n m q K P W sS D Q B Z E H) : ∃ W2 s2 D2 Q2 o ins O2, fX9_findAll W P sS D Q = some (W2, s2, D2, Q2) ∧ fX12_looksNow O = some O2 ∧ zFLk O O2 ∧ zWk n m q P W2 s2 D2 Q2 o ins ∧ zAns n q O W2 Q2 (zXb (zT (zSo (zGa P 0 (-1) n m)) o)) O2 ∧ zJc n m q K P W2 s2 D2 Q2 B Z E H ∧ zgi W2 9 ≠ 0 ∧ zRl n m q P O2 := by
  obtain ⟨j1, j2, j3, j4⟩ := hJ
  obtain ⟨W2, s2, D2, Q2, o, ins, f1, f2, f3, f5⟩ := eX9_seen hP j1
  obtain ⟨O2, g1, g2, g3⟩ := eX12_looksNow hP hR f2
  refine ⟨W2, s2, D2, Q2, o, ins, O2, f1, g1, g2, f2, g3, ⟨fun _ => ⟨o, ins, f2⟩, ?_, j3, j4⟩, f3, zRl_c hR (zFc_k g2)⟩
  intro h
  obtain ⟨k1, k2, k3⟩ := j2 h
  obtain ⟨rfl, rfl, rfl, rfl⟩ := f5 k1
  exact ⟨f3, k2, k3⟩
/-- the three ends -/
theorem zAns_3 {X : zV} {O2 : zSt} (h : zAns n q O W Q X O2) : (zgi W 5 = 111 ∧ zgi O2 36 = 111) ∨ (zgi W 5 = 117 ∧ zgi O2 36 = 117) ∨ (zgi W 5 = 105 ∧ zgi O2 36 = 105) := by
  rcases h with ⟨-, -, -, -, ⟨h1, h2, -⟩ | ⟨k, -, h1, -, h2, -⟩⟩ | ⟨h1, h2, -⟩
  · exact Or.inl ⟨h1, h2⟩
  · exact Or.inr (Or.inl ⟨h1, h2⟩)
  · exact Or.inr (Or.inr ⟨h1, h2⟩)
theorem zcall_state (hP : zPw n m q P) (hR : zRl n m q P O) (hJ : zJc n m q K P W sS D Q B Z E H) : ∃ v W2 s2 D2 Q2 O2, fX11_state C P W sS D Q = some (v, W2, s2, D2, Q2) ∧ fX12_state O = some (v, O2) ∧ zFc O O2 ∧ zJc n m q K P W2 s2 D2 Q2 B Z E H := by
  obtain ⟨W2, s2, D2, Q2, o, ins, O2, f1, g1, g2, f2, g3, j, -, -⟩ := zsees hP (zRl_i (k := 9) (v := 0) hR (by omega)) hJ
  have h3 := zAns_3 g3
  have e : zgi O2 36 = zgi W2 5 := by rcases h3 with ⟨a, b⟩ | ⟨a, b⟩ | ⟨a, b⟩ <;> rw [a, b]
  have nr : znar .char (zgi W2 5) = true := by rcases h3 with ⟨a, b⟩ | ⟨a, b⟩ | ⟨a, b⟩ <;> rw [a] <;> decide
  unfold fX11_state fX12_state
  rw [f1, zbq, zlq, g1, zbq, e, if_pos nr, if_pos nr]
  exact ⟨_, _, _, _, _, _, rfl, rfl, zFc_9.trans (zFc_k g2), j⟩
theorem zcall_open (hP : zPw n m q P) (hR : zRl n m q P O) (hJ : zJc n m q K P W sS D Q B Z E H) : ∃ r v W2 s2 D2 Q2 O2, fX11_open C P W sS D Q = some (r, W2, s2, D2, Q2) ∧ fX12_open O = some (v, O2) ∧ zAg [("java/util/NoSuchElementException", 1)] r v (zgi O2 9) ∧ zFc O O2 ∧ zJc n m q K P W2 s2 D2 Q2 B Z E H := by
  obtain ⟨W2, s2, D2, Q2, o, ins, O2, f1, g1, g2, f2, g3, j, -, -⟩ := zsees hP hR hJ
  have h3 := zAns_3 g3
  unfold fX11_open fX12_open fX12_open_19 fX12_open_33
  rw [f1, zbq, g1, zbq, eX12_checked, eX12_checked, zbq, zbq, if_pos (show (0 : Int32) = 0 from rfl), if_neg (show ¬ (1 : Int32) = 0 by decide), if_neg (show ¬ (1 : Int32) ≤ 0 by decide), if_pos (show (0 : Int32) ≤ 0 by decide)]
  by_cases c : zgi W2 5 = 117
  · have c2 : zgi O2 36 = 117 := by
      rcases h3 with ⟨a, b⟩ | ⟨a, b⟩ | ⟨a, b⟩
      · rw [a] at c; exact absurd c (by decide)
      · exact b
      · rw [a] at c; exact absurd c (by decide)
    have e : zgi W2 6 = zgi O2 34 := by
      rcases g3 with ⟨-, -, -, -, ⟨h1, -⟩ | ⟨k, -, h1, h6, h2, h34, -⟩⟩ | ⟨h1, -⟩
      · rw [h1] at c; exact absurd c (by decide)
      · rw [h6, h34]
      · rw [h1] at c; exact absurd c (by decide)
    rw [if_pos c, if_pos c2]
    exact ⟨_, _, _, _, _, _, _, rfl, rfl, Or.inl ⟨by rw [gi_sin (by omega), e], by rw [gi_si]⟩, (zFc_k g2).trans zFc_9, j⟩
  · have c2 : ¬ zgi O2 36 = 117 := by
      rcases h3 with ⟨a, b⟩ | ⟨a, b⟩ | ⟨a, b⟩
      · rw [b]; decide
      · exact absurd a c
      · rw [b]; decide
    rw [if_neg c, if_neg c2]
    exact ⟨_, _, _, _, _, _, _, rfl, rfl, Or.inr ⟨_, rfl, by rw [gi_si]; simp⟩, (zFc_k g2).trans zFc_9, j⟩
theorem zA0_ac (hR : zRl n m q P O) {a : Nat} (ha : a < q) : zA0 O a = zac P a := by
  have h := (hR.2.2.2.2.2.1 a ha).1
  unfold zA0 zac
  have h0 := h 0 (by omega)
  rw [Nat.add_zero, Nat.add_zero] at h0
  rw [h0, h 1 (by omega), h 2 (by omega)]
/-- a value in lowest terms, both ways -/
theorem zvals {X : zV} {O2 : zSt} {a : Nat} (hP : zPw n m q P) (hR : zRl n m q P O) (ha : a < q) (hQ : zQp Q X) (hX : zBd X) (hv : zVal O a X O2) : ∃ v R2, fX5_aimSum P Q (zI a) = some v ∧ fX2_put R v (zgl Q 1) = some R2 ∧ zgl R2 0 = zgb O2 28 a ∧ zgl R2 1 = zgb O2 29 a := by
  obtain ⟨v, e1, e2, e3⟩ := eX5_aimSum hP ha hQ hX
  have hw := hX.2.1
  obtain ⟨R2, r1, r2, r3⟩ := eX2_put (R := R) (t := v) (b := zgl Q 1) (A := 700000000) (y := X.2.2.2.toNat) e3 (by omega) (by rw [hQ.1]; omega) (by omega)
  refine ⟨v, R2, e1, r1, ?_, ?_⟩
  · rw [z64eq, r2, hv.1, e2, zA0_ac hR ha]
  · rw [z64eq, r3, hv.2, e2, zA0_ac hR ha]
theorem eX9_hasValue (W : zSt) (x : Int32) : fX9_hasValue W x = some (if zgi W 5 = 111 ∨ (zgi W 5 = 117 ∧ ¬ zgi W 6 ≤ x) then 1 else 0) := by
  unfold fX9_hasValue fX9_hasValue_26 fX9_hasValue_30 fX9_hasValue_31
  rw [if_pos znb0, if_pos znb1]
  by_cases c : zgi W 5 = 111
  · rw [if_pos c, if_pos (Or.inl c)]
  · rw [if_neg c]
    by_cases c2 : zgi W 5 = 117
    · rw [if_pos c2]
      by_cases c3 : zgi W 6 ≤ x
      · rw [if_pos c3, if_neg (by rintro (h | ⟨-, h⟩); exact c h; exact h c3)]
      · rw [if_neg c3, if_pos (Or.inr ⟨c2, c3⟩)]
    · rw [if_neg c2, if_neg (by rintro (h | ⟨h, -⟩); exact c h; exact c2 h)]
/-- has the aim a value, both ways -/
theorem zhasv {X : zV} {O2 : zSt} {a : Nat} (h : zAns n q O W Q X O2) (ha : a < q) (hq : q ≤ 3) : ∃ b : Int32, fX9_hasValue W (zI a) = some b ∧ ((b = 1 ∧ zgi O2 36 ≠ 105 ∧ zI a < zgi O2 34 ∧ zBd X ∧ zQp Q X ∧ zVal O a X O2) ∨ (b = 0 ∧ (zgi O2 36 = 105 ∨ (zgi O2 36 = 117 ∧ ¬ zI a < zgi O2 34)))) := by
  rw [eX9_hasValue]
  rcases h with ⟨hX, hpt, -, -, ⟨h1, h2, h34, hv, -⟩ | ⟨k, hk, h1, h6, h2, h34, hv⟩⟩ | ⟨h1, h2, -⟩
  · rw [if_pos (Or.inl h1)]
    exact ⟨1, rfl, Or.inl ⟨rfl, by rw [h2]; decide, by rw [h34, zI_lt (by omega) (by omega)]; exact ha, hX, zPt_qp hpt, hv a ha⟩⟩
  · rw [h6, h34]
    by_cases c : a < k
    · rw [if_pos (Or.inr ⟨h1, by rw [zI_le (by omega) (by omega)]; omega⟩)]
      exact ⟨1, rfl, Or.inl ⟨rfl, by rw [h2]; decide, by rw [zI_lt (by omega) (by omega)]; exact c, hX, zPt_qp hpt, hv a c⟩⟩
    · rw [if_neg (by
        rintro (h | ⟨-, h⟩)
        · rw [h1] at h; exact absurd h (by decide)
        · rw [zI_le (by omega) (by omega)] at h; omega)]
      exact ⟨0, rfl, Or.inr ⟨rfl, Or.inr ⟨h2, by rw [zI_lt (by omega) (by omega)]; exact c⟩⟩⟩
  · rw [if_neg (by rintro (h | ⟨h, -⟩) <;> rw [h1] at h <;> exact absurd h (by decide))]
    exact ⟨0, rfl, Or.inr ⟨rfl, Or.inl h2⟩⟩
theorem zfindValue (hP : zPw n m q P) (hR : zRl n m q P O) (hJ : zJc n m q K P W sS D Q B Z E H) (x : Int32) : ∃ r W2 s2 D2 Q2 R2 c O2, fX11_findValue C P W sS D Q R x = some (r, W2, s2, D2, Q2, R2) ∧ fX12_wrongValue O x = some (c, O2) ∧ zFLk O O2 ∧ zJc n m q K P W2 s2 D2 Q2 B Z E H ∧ ((r = .inr () ∧ c = 0 ∧ ∃ a, a < 3 ∧ x = zI a ∧ zgl R2 0 = zgb O2 28 a ∧ zgl R2 1 = zgb O2 29 a) ∨ (r = .inl "java/lang/IndexOutOfBoundsException" ∧ c = 1) ∨ (r = .inl "java/util/NoSuchElementException" ∧ c = 2)) := by
  have hq := hP.2.2.1
  obtain ⟨W2, s2, D2, Q2, o, ins, O2, f1, g1, g2, f2, g3, j, -, hR2⟩ := zsees hP hR hJ
  unfold fX11_findValue fX12_wrongValue fX12_wrongValue_33 fX12_wrongValue_38
  rw [eX11_demandAim hP.2.2.2.2.2.1, zbq, g1, zbq, eX12_isAimIn hR2.2.2.1 (by omega), zbq]
  by_cases c : zix q x
  · obtain ⟨a, ha, rfl⟩ := zix_ex (by omega) c
    obtain ⟨b, b1, b2⟩ := zhasv g3 ha hq
    rw [if_pos c, if_pos c, if_neg (show ¬ (1 : Int32) = 0 by decide)]
    simp only [Sum.elim_inr]
    rw [f1, zbq, b1, zbq]
    rcases b2 with ⟨hb, h36, h34, hX, hQ, hv⟩ | ⟨hb, h36⟩
    · obtain ⟨v, R2, v1, v2, v3, v4⟩ := zvals (R := R) hP hR ha hQ hX hv
      rw [if_neg (show ¬ b = 0 by rw [hb]; decide), v1, zbq, v2, zbq, if_neg h36, if_pos h34]
      exact ⟨_, _, _, _, _, _, _, _, rfl, rfl, g2, j, Or.inl ⟨rfl, rfl, a, by omega, rfl, v3, v4⟩⟩
    · rw [if_pos hb]
      rcases h36 with h | ⟨h, h34⟩
      · rw [if_pos h]
        exact ⟨_, _, _, _, _, _, _, _, rfl, rfl, g2, j, Or.inr (Or.inr ⟨rfl, rfl⟩)⟩
      · rw [if_neg (show ¬ zgi O2 36 = 105 by rw [h]; decide), if_neg h34]
        exact ⟨_, _, _, _, _, _, _, _, rfl, rfl, g2, j, Or.inr (Or.inr ⟨rfl, rfl⟩)⟩
  · rw [if_neg c, if_neg c, if_pos rfl]
    simp only [Sum.elim_inl]
    exact ⟨_, _, _, _, _, _, _, _, rfl, rfl, g2, hJ, Or.inr (Or.inl ⟨rfl, rfl⟩)⟩
theorem zcall_valueTop (hP : zPw n m q P) (hR : zRl n m q P O) (hJ : zJc n m q K P W sS D Q B Z E H) (x : Int32) : ∃ r v W2 s2 D2 Q2 R2 O2, fX11_valueTop C P W sS D Q R x = some (r, W2, s2, D2, Q2, R2) ∧ fX12_valueTop O x = some (v, O2) ∧ zAg [("java/lang/IndexOutOfBoundsException", 1), ("java/util/NoSuchElementException", 2)] r v (zgi O2 9) ∧ zFc O O2 ∧ zJc n m q K P W2 s2 D2 Q2 B Z E H := by
  obtain ⟨r, W2, s2, D2, Q2, R2, c, O2, e1, e2, e3, j, e4⟩ := zfindValue (C := C) (R := R) hP hR hJ x
  unfold fX11_valueTop fX12_valueTop fX12_valueTop_26
  rw [e1, e2, zbq, zbq, zlq, gi_si]
  have fr : ∀ c : Int32, zFc O (zsi O2 9 c) := fun c => (zFc_k e3).trans zFc_9
  rcases e4 with ⟨rfl, rfl, a, ha, rfl, v0, v1⟩ | ⟨rfl, rfl⟩ | ⟨rfl, rfl⟩
  · rw [if_pos (show (0 : Int32) ≤ 0 by decide), if_pos (zin_zI ha (by omega)), zI_nat (by omega), gb_si, ← v0]
    exact ⟨_, _, _, _, _, _, _, _, rfl, rfl, Or.inl ⟨rfl, by rw [gi_si]⟩, fr 0, j⟩
  · rw [if_neg (show ¬ (1 : Int32) ≤ 0 by decide)]
    exact ⟨_, _, _, _, _, _, _, _, rfl, rfl, Or.inr ⟨_, rfl, by rw [gi_si]; simp⟩, fr 1, j⟩
  · rw [if_neg (show ¬ (2 : Int32) ≤ 0 by decide)]
    exact ⟨_, _, _, _, _, _, _, _, rfl, rfl, Or.inr ⟨_, rfl, by rw [gi_si]; simp⟩, fr 2, j⟩
theorem zcall_valueBottom (hP : zPw n m q P) (hR : zRl n m q P O) (hJ : zJc n m q K P W sS D Q B Z E H) (x : Int32) : ∃ r v W2 s2 D2 Q2 R2 O2, fX11_valueBottom C P W sS D Q R x = some (r, W2, s2, D2, Q2, R2) ∧ fX12_valueBottom O x = some (v, O2) ∧ zAg [("java/lang/IndexOutOfBoundsException", 1), ("java/util/NoSuchElementException", 2)] r v (zgi O2 9) ∧ zFc O O2 ∧ zJc n m q K P W2 s2 D2 Q2 B Z E H := by
  obtain ⟨r, W2, s2, D2, Q2, R2, c, O2, e1, e2, e3, j, e4⟩ := zfindValue (C := C) (R := R) hP hR hJ x
  unfold fX11_valueBottom fX12_valueBottom fX12_valueBottom_26
  rw [e1, e2, zbq, zbq, zlq, gi_si]
  have fr : ∀ c : Int32, zFc O (zsi O2 9 c) := fun c => (zFc_k e3).trans zFc_9
  rcases e4 with ⟨rfl, rfl, a, ha, rfl, v0, v1⟩ | ⟨rfl, rfl⟩ | ⟨rfl, rfl⟩
  · rw [if_pos (show (0 : Int32) ≤ 0 by decide), if_pos (zin_zI ha (by omega)), zI_nat (by omega), gb_si, ← v1]
    exact ⟨_, _, _, _, _, _, _, _, rfl, rfl, Or.inl ⟨rfl, by rw [gi_si]⟩, fr 0, j⟩
  · rw [if_neg (show ¬ (1 : Int32) ≤ 0 by decide)]
    exact ⟨_, _, _, _, _, _, _, _, rfl, rfl, Or.inr ⟨_, rfl, by rw [gi_si]; simp⟩, fr 1, j⟩
  · rw [if_neg (show ¬ (2 : Int32) ≤ 0 by decide)]
    exact ⟨_, _, _, _, _, _, _, _, rfl, rfl, Or.inr ⟨_, rfl, by rw [gi_si]; simp⟩, fr 2, j⟩
end ZVALUES
