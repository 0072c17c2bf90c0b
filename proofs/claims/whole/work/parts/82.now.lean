/-! 82: the reference looks now; the class walks once. -/
/-- the walk (states W, sS, D, Q) is that of the program as it is, with the basis o, ins -/
def zWk (n m q : Nat) (P W sS D Q : zSt) (o ins : Nat → Nat) : Prop :=
  zLi sS (zGa P 0 (-1) n m) ∧
  (zFnd (zSo (zGa P 0 (-1) n m)) (zGo P q) (zGa P 0 (-1) n m).length n q (zlst 0 q ++ zlst 3 n) 0 (fun _ => True) W D Q o ins ∨ zFit (zSo (zGa P 0 (-1) n m)) (zGo P q) (zGa P 0 (-1) n m).length n 0 W D o ins)
/-- what both sides say of the state -/
def zAns (n q : Nat) (O W Q : zSt) (X : zV) (O2 : zSt) : Prop :=
  (zBd X ∧ zLk n q O W Q X O2) ∨ (zgi W 5 = 105 ∧ zgi O2 36 = 105 ∧ zgi O2 34 = zI 0 ∧ zgi O2 32 = zI 0)
theorem zDic_bd {S G : Nat → zV} {cnt : Nat} {o ins : Nat → Nat} {D : zSt} (h : zDic S G cnt o ins D) : zBd (zXb (zT S o)) := by
  have hb := zXb_b h.1 o
  have hp := zsc_pos h.2.1.1.1
  have h2 := zab_hi hb.2
  exact ⟨hb.1, hp, by omega⟩
theorem eX12_looksNow {n m q : Nat} {P O W sS D Q : zSt} {o ins : Nat → Nat} (hP : zPw n m q P) (h : zRl n m q P O) (hW : zWk n m q P W sS D Q o ins) : ∃ O2, fX12_looksNow O = some O2 ∧ zFLk O O2 ∧ zAns n q O W Q (zXb (zT (zSo (zGa P 0 (-1) n m)) o)) O2 := by
  have ha := eX12_allLeft (O := O) hP.2.1 h.2.1
  obtain ⟨hs, h6⟩ := zSm_all hP h (-1)
  unfold fX12_looksNow
  rw [ha, zbq]
  rcases hW.2 with hF | hF
  · obtain ⟨O2, e1, e2, e3⟩ := zlk_f hP h hs h6 hF
    rw [e1, zbq]
    exact ⟨O2, rfl, e2, Or.inl ⟨zDic_bd hF.1, e3⟩⟩
  · obtain ⟨O2, e1, e2, e3⟩ := zlk_i hP h hs h6 hF
    rw [e1, zbq]
    refine ⟨O2, rfl, e2, Or.inr ⟨?_, e3⟩⟩
    rcases hF.2.2.2 with ⟨h1, -⟩ | ⟨-, h1, -⟩
    · exact absurd h1 (by decide)
    · exact h1
/-- the walk is done once -/
theorem zfb_eq {P W sS D Q : zSt} (h : zgi W 9 ≠ 0) : fX9_findAll W P sS D Q = some (W, sS, D, Q) := by
  unfold fX9_findAll
  rw [if_neg h]
theorem eX9_seen {n m q : Nat} {P W sS D Q : zSt} (hP : zPw n m q P) (hw : zgi W 9 ≠ 0 → ∃ o ins, zWk n m q P W sS D Q o ins) : ∃ W2 s2 D2 Q2 o ins, fX9_findAll W P sS D Q = some (W2, s2, D2, Q2) ∧ zWk n m q P W2 s2 D2 Q2 o ins ∧ zgi W2 9 ≠ 0 ∧ (zgi W 9 ≠ 0 → W2 = W ∧ s2 = sS ∧ D2 = D ∧ Q2 = Q) := by
  by_cases c : zgi W 9 = 0
  · obtain ⟨W2, s2, D2, Q2, o, ins, f1, f9, f2, f3⟩ := eX9_findAll hP W sS D Q c
    refine ⟨W2, s2, D2, Q2, o, ins, f1, ⟨f2, ?_⟩, by rw [f9]; decide, fun h => absurd c h⟩
    rcases f3 with h | ⟨h, -⟩
    · exact Or.inl h
    · exact Or.inr h
  · obtain ⟨o, ins, h⟩ := hw c
    exact ⟨W, sS, D, Q, o, ins, zfb_eq c, h, c, fun _ => ⟨rfl, rfl, rfl, rfl⟩⟩
