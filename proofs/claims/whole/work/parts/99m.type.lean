/-! 9m: which characters can be typed, both ways. -/
theorem znch_all : ∀ k, k < 127 → znar .char (zI k) = true := by decide
theorem znch {c : Int32} (h1 : 33 ≤ c.toInt) (h2 : c.toInt ≤ 126) : zty c := by
  obtain ⟨k, hk, rfl⟩ : ∃ k, k < 127 ∧ c = zI k := ⟨c.toInt.toNat, by omega, by
    apply Int32.toInt_inj.mp
    rw [zI_toInt (by omega)]
    omega⟩
  exact ⟨znch_all k hk, h1, h2⟩
theorem zcanty (O : zSt) (c : Int32) : ∃ b : Int32, fX8_canBeTyped c = some b ∧ ((b = 0 ∧ fX12_type O c = fX12_type_45 O c 1) ∨ (b = 1 ∧ zty c ∧ fX12_type O c = fX12_type_31 O c)) := by
  have n97 : (97 : Int32).toInt = 97 := by decide
  have n122 : (122 : Int32).toInt = 122 := by decide
  have h12 : ∃ b : Int32, fX8_canBeTyped_12 c = some b ∧ ((b = 0 ∧ fX12_type_13 O c = fX12_type_45 O c 1) ∨ (b = 1 ∧ zty c ∧ fX12_type_13 O c = fX12_type_31 O c)) := by
    obtain ⟨b, d1, d2⟩ := zdig_b c
    unfold fX8_canBeTyped_12 fX8_canBeTyped_49 fX8_canBeTyped_54 fX12_type_13 fX12_isSign fX12_isSign_30 fX12_isSign_35
    rw [zdig, d1, zbq, zbq]
    simp only [if_pos znb0, if_pos znb1]
    by_cases cb : b = 0
    · rw [if_pos cb, if_pos cb]
      have sgn : ∀ v : Int32, 33 ≤ v.toInt → v.toInt ≤ 126 → c = v → zty c := fun v a1 a2 e => by rw [e]; exact znch a1 a2
      by_cases e1 : c = 43
      · rw [if_pos e1, zbq, if_neg (show ¬ (1 : Int32) = 0 by decide)]
        exact ⟨1, rfl, Or.inr ⟨rfl, sgn 43 (by decide) (by decide) e1, rfl⟩⟩
      · rw [if_neg e1]
        by_cases e2 : c = 45
        · rw [if_pos e2, zbq, if_neg (show ¬ (1 : Int32) = 0 by decide)]
          exact ⟨1, rfl, Or.inr ⟨rfl, sgn 45 (by decide) (by decide) e2, rfl⟩⟩
        · rw [if_neg e2]
          by_cases e3 : c = 60
          · rw [if_pos e3, zbq, if_neg (show ¬ (1 : Int32) = 0 by decide)]
            exact ⟨1, rfl, Or.inr ⟨rfl, sgn 60 (by decide) (by decide) e3, rfl⟩⟩
          · rw [if_neg e3]
            by_cases e4 : c = 62
            · rw [if_pos e4, zbq, if_neg (show ¬ (1 : Int32) = 0 by decide)]
              exact ⟨1, rfl, Or.inr ⟨rfl, sgn 62 (by decide) (by decide) e4, rfl⟩⟩
            · rw [if_neg e4]
              by_cases e5 : c = 61
              · rw [if_pos e5, zbq, if_neg (show ¬ (1 : Int32) = 0 by decide)]
                exact ⟨1, rfl, Or.inr ⟨rfl, sgn 61 (by decide) (by decide) e5, rfl⟩⟩
              · rw [if_neg e5, zbq, if_pos (show (0 : Int32) = 0 from rfl)]
                exact ⟨0, rfl, Or.inl ⟨rfl, rfl⟩⟩
    · have hd := zdig_1 d1 cb
      rw [if_neg cb, if_neg cb]
      exact ⟨1, rfl, Or.inr ⟨rfl, znch (by omega) (by omega), rfl⟩⟩
  unfold fX8_canBeTyped fX12_type
  by_cases c1 : c < (97 : Int32)
  · rw [if_pos c1, if_pos c1]
    exact h12
  · rw [if_neg c1, if_neg c1]
    by_cases c2 : c ≤ (122 : Int32)
    · rw [if_pos c2, if_pos c2]
      rw [z32lt, n97] at c1
      rw [z32le, n122] at c2
      unfold fX8_canBeTyped_49 fX8_canBeTyped_54
      rw [if_pos znb1]
      exact ⟨1, rfl, Or.inr ⟨rfl, znch (by omega) (by omega), rfl⟩⟩
    · rw [if_neg c2, if_neg c2]
      exact h12
