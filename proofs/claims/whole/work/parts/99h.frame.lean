/-! 9h: reading a sum leaves direction, relation and number; after a fault nothing is read. -/
section ZFRM
variable {X X2 : zSt}
def zK7 (X X2 : zSt) : Prop := ∀ k, 7 ≤ k → zgi X2 k = zgi X k
theorem zK7.trans {A B C : zSt} (h : zK7 A B) (g : zK7 B C) : zK7 A C := fun k hk => (g k hk).trans (h k hk)
theorem zK7_4 {v : Int32} : zK7 X (zsi X 4 v) := fun k hk => gi_sin (by omega)
theorem zblame_fx {v : Int32} (h : fX8_blame X v = some X2) : zK7 X X2 := by
  unfold fX8_blame at h
  by_cases c : znar .char v = true
  · rw [if_pos c, zlq, zlq] at h
    rw [← Option.some.inj h]
    intro k hk
    rw [gi_sin (by omega), gi_sin (by omega)]
  · rw [if_neg c] at h; cases h
theorem zterm64_fx (h : fX8_readTerm_64 X = some X2) : zK7 X X2 := by
  unfold fX8_readTerm_64 fX8_readTerm_119 at h
  cases e : fX8_blame X (115 : Int32) with
  | none => rw [e] at h; cases h
  | some A => rw [e, zbq] at h; rw [← Option.some.inj h]; exact zblame_fx e
theorem zterm107_fx {a b c : Int32} (h : fX8_readTerm_107 X a b c = some X2) : zK7 X X2 := by
  unfold fX8_readTerm_107 fX8_readTerm_119 at h
  by_cases z : zin a 3 = true
  · rw [if_pos z, zlq, zlq] at h
    rw [← Option.some.inj h]
    intro k hk
    rw [gi_sin (by omega), gi_sa]
  · rw [if_neg z] at h; cases h
theorem zterm38_fx {s d : Int32} (h : fX8_readTerm_38 X s d = some X2) : zK7 X X2 := by
  unfold fX8_readTerm_38 at h
  cases e : fX8_here X with
  | none => rw [e] at h; cases h
  | some c =>
    rw [e, zbq, zlq] at h
    by_cases c1 : c - (97 : Int32) < 0
    · rw [if_pos c1] at h; exact zterm64_fx h
    · rw [if_neg c1] at h
      by_cases c2 : (3 : Int32) ≤ c - (97 : Int32)
      · rw [if_pos c2] at h; exact zterm64_fx h
      · rw [if_neg c2] at h
        by_cases c3 : c - (97 : Int32) < (3 : Int32)
        · rw [if_pos c3] at h
          by_cases c4 : c - (97 : Int32) < zgi X 3
          · rw [if_pos c4] at h
            by_cases c5 : zin (c - (97 : Int32)) 3 = true
            · rw [if_pos c5] at h
              by_cases c6 : s = 0
              · rw [if_pos c6] at h; exact zterm107_fx h
              · rw [if_neg c6] at h; exact zterm107_fx h
            · rw [if_neg c5] at h; cases h
          · rw [if_neg c4] at h
            unfold fX8_readTerm_119 at h
            cases e2 : fX8_blame X (118 : Int32) with
            | none => rw [e2] at h; cases h
            | some A => rw [e2, zbq] at h; rw [← Option.some.inj h]; exact zblame_fx e2
        · rw [if_neg c3] at h; exact zterm64_fx h
theorem zterm_fx {s : Int32} (h : fX8_readTerm X s = some X2) : zK7 X X2 := by
  unfold fX8_readTerm at h
  rw [zhasF, zbq] at h
  by_cases c : zgi X 5 = 45
  · rw [if_pos c, if_pos rfl] at h
    cases e : fX8_here X with
    | none => rw [e] at h; cases h
    | some t =>
      obtain ⟨b, d1, -⟩ := zdig_b t
      rw [e, zbq, zdig, d1, zbq] at h
      by_cases cb : b = 0
      · rw [if_pos cb] at h; exact zterm38_fx h
      · rw [if_neg cb, zbq, zlq, zlq] at h
        exact zK7_4.trans (zterm38_fx h)
  · rw [if_neg c, if_neg (show ¬ (1 : Int32) = 0 by decide)] at h
    rw [← Option.some.inj h]
    exact fun _ _ => rfl
theorem zsum12_fx : ∀ (f : Nat) (X X2 : zSt) (x1 : Int32), fX8_readSum_12 f X x1 = some X2 → zK7 X X2
  | 0, X, X2, x1, h => by rw [fX8_readSum_12] at h; cases h
  | f + 1, X, X2, x1, h => by
    have done : ∀ X2 : zSt, some X = some X2 → zK7 X X2 := fun X2 e => by rw [← Option.some.inj e]; exact fun _ _ => rfl
    rw [fX8_readSum_12] at h
    by_cases c : (30 : Int32) ≤ x1
    · rw [if_pos c] at h; exact done X2 h
    · rw [if_neg c, zhasF, zbq] at h
      have h58 : ∀ y : Int32, fX8_readSum_58 (fX8_readSum_12 f) X x1 y = some X2 → zK7 X X2 := by
        intro y h
        unfold fX8_readSum_58 at h
        rw [zlq] at h
        cases e : fX8_readTerm (zsi X 4 (zgi X 4 + (1 : Int32))) y with
        | none => rw [e] at h; cases h
        | some A =>
          rw [e, zbq, zlq] at h
          exact (zK7_4.trans (zterm_fx e)).trans (zsum12_fx f A X2 _ h)
      have h44 : fX8_readSum_44 (fX8_readSum_12 f) X x1 = some X2 → zK7 X X2 := by
        intro h
        unfold fX8_readSum_44 at h
        cases e : fX8_here X with
        | none => rw [e] at h; cases h
        | some t =>
          rw [e, zbq] at h
          by_cases ct : t = 45
          · rw [if_pos ct] at h; exact h58 1 h
          · rw [if_neg ct] at h; exact h58 0 h
      by_cases c5 : zgi X 5 = 45
      · rw [if_pos c5, if_pos rfl] at h
        cases e : fX8_here X with
        | none => rw [e] at h; cases h
        | some t =>
          rw [e, zbq] at h
          by_cases c43 : t = 43
          · rw [if_pos c43] at h; exact h44 h
          · rw [if_neg c43, zbq] at h
            by_cases c45 : t = 45
            · rw [if_pos c45] at h; exact h44 h
            · rw [if_neg c45] at h; exact done X2 h
      · rw [if_neg c5, if_neg (show ¬ (1 : Int32) = 0 by decide)] at h
        exact done X2 h
theorem ztakes_fx {v : Int32} {r : Int32 × zSt} (h : fX8_takes X v = some r) : zK7 X r.2 := by
  have h35 : ∀ (A : zSt) (y : Int32), zK7 X A → fX8_takes_35 A y = some r → zK7 X r.2 := by
    intro A y hA h
    unfold fX8_takes_35 at h
    by_cases c : znar .boolean y = true
    · rw [if_pos c] at h; rw [← Option.some.inj h]; exact hA
    · rw [if_neg c] at h; cases h
  have h20 : ∀ y : Int32, fX8_takes_20 X y = some r → zK7 X r.2 := by
    intro y h
    unfold fX8_takes_20 at h
    by_cases c : y = 0
    · rw [if_pos c] at h; exact h35 X y (fun _ _ => rfl) h
    · rw [if_neg c, zlq] at h; exact h35 _ y zK7_4 h
  unfold fX8_takes fX8_takes_19 at h
  rw [zhasF, zbq] at h
  by_cases c5 : zgi X 5 = 45
  · rw [if_pos c5, if_pos rfl] at h
    cases e : fX8_here X with
    | none => rw [e] at h; cases h
    | some t =>
      rw [e, zbq] at h
      by_cases ct : t = v
      · rw [if_pos ct] at h; exact h20 1 h
      · rw [if_neg ct] at h; exact h20 0 h
  · rw [if_neg c5, if_neg (show ¬ (1 : Int32) = 0 by decide)] at h
    exact h20 0 h
theorem zsum_fx (h : fX8_readSum X = some X2) : zK7 X X2 := by
  unfold fX8_readSum at h
  cases e : fX8_takes X (45 : Int32) with
  | none => rw [e] at h; cases h
  | some r =>
    rw [e, zbq] at h
    cases e2 : fX8_readTerm r.2 r.1 with
    | none => rw [e2] at h; cases h
    | some A =>
      rw [e2, zbq] at h
      exact ((ztakes_fx e).trans (zterm_fx e2)).trans (zsum12_fx _ A X2 _ h)
/-! after a fault -/
theorem zbad_has (h : zgi X 5 ≠ 45) : fX8_hasFault X = some 1 := by rw [zhasF, if_neg h]
theorem zbad_takes (h : zgi X 5 ≠ 45) (v : Int32) : fX8_takes X v = some (0, X) := by
  unfold fX8_takes fX8_takes_19 fX8_takes_20 fX8_takes_35
  rw [zbad_has h, zbq, if_neg (show ¬ (1 : Int32) = 0 by decide), if_pos rfl, if_pos znb0]
theorem zbad_pass (h : zgi X 5 ≠ 45) (v : Int32) : fX8_pass X v = some X := by
  unfold fX8_pass fX8_pass_21
  rw [zbad_has h, zbq, if_neg (show ¬ (1 : Int32) = 0 by decide)]
theorem zbad_sum (h : zgi X 5 ≠ 45) : fX8_readSum X = some X := by
  unfold fX8_readSum
  rw [zbad_takes h, zbq]
  unfold fX8_readTerm
  rw [zbad_has h, zbq, if_neg (show ¬ (1 : Int32) = 0 by decide), zbq]
  have z : ∀ f, fX8_readSum_12 (f + 1) X (1 : Int32) = some X := by
    intro f
    rw [fX8_readSum_12, if_neg (by decide), zbad_has h, zbq, if_neg (show ¬ (1 : Int32) = 0 by decide)]
    rfl
  exact z 5999
theorem zbad_rel (h : zgi X 5 ≠ 45) : fX8_readRelation X = some X := by
  unfold fX8_readRelation
  rw [zbad_has h, zbq, if_neg (show ¬ (1 : Int32) = 0 by decide)]
theorem zbad_num (h : zgi X 5 ≠ 45) : fX8_readNumber X = some X := by
  unfold fX8_readNumber
  rw [zbad_takes h, zbq, zbad_has h, zbq, if_neg (show ¬ (1 : Int32) = 0 by decide)]
end ZFRM
