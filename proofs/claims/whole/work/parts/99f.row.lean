/-! 9f: relation and number are read, both ways. -/
section ZROW
variable {n len p : Nat} {X O : zSt}
theorem zdig_1 {c b : Int32} (h : fX12_isDigit c = some b) (hb : b ≠ 0) : 48 ≤ c.toInt ∧ c.toInt ≤ 57 := by
  unfold fX12_isDigit fX12_isDigit_16 fX12_isDigit_17 at h
  rw [if_pos znb0, if_pos znb1] at h
  have n48 : (48 : Int32).toInt = 48 := by decide
  have n57 : (57 : Int32).toInt = 57 := by decide
  by_cases c1 : c < (48 : Int32)
  · rw [if_pos c1] at h
    exact absurd (Option.some.inj h).symm hb
  · rw [if_neg c1] at h
    by_cases c2 : (57 : Int32) < c
    · rw [if_pos c2] at h
      exact absurd (Option.some.inj h).symm hb
    · rw [z32lt, n48] at c1
      rw [z32lt, n57] at c2
      omega
/-- a character that must come -/
theorem zpass (h : zOk n len X O p) {v : Int32} (v1 : 33 ≤ v.toInt) (v2 : v.toInt ≤ 126) : ∃ X2 b O2, fX8_pass X v = some X2 ∧ fX12_goes O v = some (b, O2) ∧ ((b = 1 ∧ zOk n len X2 O2 (p + 1)) ∨ (b = 0 ∧ zBad n len X2 O2)) ∧ zFtx O O2 ∧ (∀ k, 7 ≤ k → zgi X2 k = zgi X k) ∧ zgi O2 16 = zgi O 16 := by
  obtain ⟨c', e2, hsee⟩ := zsee h
  obtain ⟨m1, -, -, m4⟩ := hsee v v1 v2
  have h115 : znar .char (115 : Int32) = true := by decide
  have k15 : zgi O 15 + (1 : Int32) = zI (p + 1) := by rw [h.2.2.2.2.1, zI_succ]
  unfold fX8_pass fX8_pass_21 fX12_goes
  rw [zhasF, zbq, if_pos h.2.1, if_pos rfl, m4, e2, zbq, zbq]
  by_cases c : c' = v
  · rw [if_pos c, if_pos c, if_neg (show ¬ (1 : Int32) = 0 by decide), zlq, k15]
    exact ⟨_, 1, _, rfl, rfl, Or.inl ⟨rfl, zOk_step h (m1 c)⟩, zFtx_i (by omega), fun k hk => gi_sin (by omega), gi_sin (by omega)⟩
  · rw [if_neg c, if_neg c, if_pos (show (0 : Int32) = 0 from rfl)]
    obtain ⟨X2, O2, b1, b2, b3, b4, -⟩ := zblame h h115 (by decide)
    rw [b1, b2, zbq, zbq, if_pos znb0]
    refine ⟨X2, 0, O2, rfl, rfl, Or.inr ⟨rfl, b3⟩, b4, fun k hk => ?_, ?_⟩
    · unfold fX8_blame at b1
      rw [if_pos h115, zlq, zlq] at b1
      rw [← Option.some.inj b1, gi_sin (by omega), gi_sin (by omega)]
    · unfold fX12_fails at b2
      rw [if_pos h115, zlq] at b2
      have := congrArg Prod.snd (Option.some.inj b2)
      rw [← show _ = O2 from this, gi_sin (by omega)]
def zRel (X O : zSt) : Prop := (zgi X 8 = 60 ∧ zgi O 16 = zI 0) ∨ (zgi X 8 = 62 ∧ zgi O 16 = zI 1) ∨ (zgi X 8 = 61 ∧ zgi O 16 = zI 2)
theorem zrelation (h : zOk n len X O p) : ∃ X2 b O2, fX8_readRelation X = some X2 ∧ fX12_readsRelation O = some (b, O2) ∧ ((b = 1 ∧ (∃ p2, zOk n len X2 O2 p2) ∧ zRel X2 O2) ∨ (b = 0 ∧ zBad n len X2 O2)) ∧ zFtx O O2 := by
  obtain ⟨c, c', e1, e2, hc⟩ := zhere h
  have hok : ∀ v w : Int32, zOk n len (zsi X 8 v) (zsi O 16 w) p := by
    intro v w
    obtain ⟨⟨hn, hl, h2, h13, hch, h3, h10⟩, h5, h18, h4, h15, hp, hco⟩ := h
    refine ⟨⟨hn, hl, ?_, ?_, hch, ?_, ?_⟩, ?_, ?_, ?_, ?_, hp, hco⟩ <;> rw [gi_sin (by omega)] <;> assumption
  have hzc : znar .char c = true := by
    rcases hc with ⟨-, -, -, ty⟩ | ⟨-, ec, -⟩
    · exact ty.1
    · rw [ec]; decide
  have last : ∀ (X1 O1 : zSt) (p1 : Nat), zOk n len X1 O1 p1 → zFtx O O1 → ((zgi X1 8 = 60 ∧ zgi O1 16 = zI 0) ∨ (zgi X1 8 = 62 ∧ zgi O1 16 = zI 1) ∨ (zgi X1 8 = c ∧ zgi O1 16 = zI 2 ∧ X1 = zsi X 8 c ∧ O1 = zsi O 16 (zI 2))) → ∃ X2 b O2, fX8_readRelation_44 X1 = some X2 ∧ fX12_readsRelation_52 O1 = some (b, O2) ∧ ((b = 1 ∧ (∃ p2, zOk n len X2 O2 p2) ∧ zRel X2 O2) ∨ (b = 0 ∧ zBad n len X2 O2)) ∧ zFtx O O2 := by
    intro X1 O1 p1 hk hfr hrel
    obtain ⟨X2, b, O2, g1, g2, g3, g4, g5, g6⟩ := zpass hk (v := 61) (by decide) (by decide)
    have hb : b = 0 ∨ b = 1 := by
      rcases g3 with ⟨e, -⟩ | ⟨e, -⟩
      · exact Or.inr e
      · exact Or.inl e
    have hz : znar .boolean b = true := by
      rcases hb with e | e
      · rw [e]; exact znb0
      · rw [e]; exact znb1
    unfold fX8_readRelation_44 fX12_readsRelation_52
    rw [g1, g2, zbq, zbq, if_pos hz]
    refine ⟨X2, b, O2, rfl, rfl, ?_, hfr.trans g4⟩
    rcases g3 with ⟨b1, hk2⟩ | ⟨b0, hbad⟩
    · refine Or.inl ⟨b1, ⟨_, hk2⟩, ?_⟩
      unfold zRel
      rw [g5 8 (by omega), g6]
      rcases hrel with q | q | ⟨q1, q2, q3, q4⟩
      · exact Or.inl q
      · exact Or.inr (Or.inl q)
      · -- the character was '='
        refine Or.inr (Or.inr ⟨?_, q2⟩)
        obtain ⟨d', f2, fsee⟩ := zsee hk
        obtain ⟨fm1, fm2, fm3, fm4⟩ := fsee 61 (by decide) (by decide)
        have eh : fX8_here X1 = some c := by rw [q3]; exact e1
        have e61 : d' = 61 := by
          by_cases e : d' = 61
          · exact e
          · exfalso
            have go : fX12_goes O1 61 = some (0, zsi O1 18 115) := by
              unfold fX12_goes fX12_fails
              rw [f2, zbq, if_neg e, if_pos (show znar .char (115 : Int32) = true by decide), zlq, zbq, if_pos znb0]
            rw [go] at g2
            have := congrArg Prod.fst (Option.some.inj g2)
            have : (0 : Int32) = b := this
            rw [b1] at this
            exact absurd this (by decide)
        rw [q1]
        rw [eh, if_pos (fm1 e61)] at fm2
        rw [Option.some.inj fm2, e61]
    · exact Or.inr ⟨b0, hbad⟩
  unfold fX8_readRelation fX12_readsRelation
  rw [zhasF, zbq, if_pos h.2.1, if_pos rfl, e1, e2, zbq, zbq, if_pos hzc, zlq, gi_si]
  have two : ∀ (v w : Int32), p < len → ((v = 60 ∧ w = zI 0) ∨ (v = 62 ∧ w = zI 1)) → ∃ X2 b O2, fX8_readRelation_34 (zsi X 8 v) = some X2 ∧ fX12_readsRelation_42 (zsi O 16 w) = some (b, O2) ∧ ((b = 1 ∧ (∃ p2, zOk n len X2 O2 p2) ∧ zRel X2 O2) ∨ (b = 0 ∧ zBad n len X2 O2)) ∧ zFtx O O2 := by
    intro v w hp hvw
    have k4 : zgi (zsi X 8 v) 4 + (1 : Int32) = zI (p + 1) := by rw [gi_sin (by omega), h.2.2.2.1, zI_succ]
    have k15 : zgi (zsi O 16 w) 15 + (1 : Int32) = zI (p + 1) := by rw [gi_sin (by omega), h.2.2.2.2.1, zI_succ]
    unfold fX8_readRelation_34 fX12_readsRelation_42
    rw [zlq, zlq, k4, k15]
    refine last _ _ (p + 1) (zOk_step (hok v w) hp) ((zFtx_i (by omega)).trans (zFtx_i (by omega))) ?_
    rw [gi_sin (by omega), gi_si, gi_sin (by omega), gi_si]
    rcases hvw with ⟨a, b⟩ | ⟨a, b⟩
    · exact Or.inl ⟨a, b⟩
    · exact Or.inr (Or.inl ⟨a, b⟩)
  have three : c ≠ 60 → c ≠ 62 → ∃ X2 b O2, fX8_readRelation_44 (zsi X 8 c) = some X2 ∧ fX12_readsRelation_52 (zsi O 16 (2 : Int32)) = some (b, O2) ∧ ((b = 1 ∧ (∃ p2, zOk n len X2 O2 p2) ∧ zRel X2 O2) ∨ (b = 0 ∧ zBad n len X2 O2)) ∧ zFtx O O2 := fun _ _ => last _ _ p (hok c (zI 2)) (zFtx_i (by omega)) (Or.inr (Or.inr ⟨gi_si, gi_si, rfl, rfl⟩))
  rcases hc with ⟨hp, ec, -, -⟩ | ⟨-, ec, ec'⟩
  · subst ec
    unfold fX12_readsRelation_27
    by_cases c60 : c' = 60
    · rw [if_pos c60, if_pos c60, zlq, if_pos c60, c60]
      exact two 60 (zI 0) hp (Or.inl ⟨rfl, rfl⟩)
    · rw [if_neg c60, if_neg c60]
      by_cases c62 : c' = 62
      · rw [if_pos c62, if_pos c62, zlq, if_neg c60, if_pos c62, c62]
        exact two 62 (zI 1) hp (Or.inr ⟨rfl, rfl⟩)
      · rw [if_neg c62, if_neg c62, zlq, if_neg c60, if_neg c62]
        exact three c60 c62
  · unfold fX12_readsRelation_27
    have a1 : c ≠ 60 := by rw [ec]; decide
    have a2 : c ≠ 62 := by rw [ec]; decide
    have a3 : c' ≠ 60 := by rw [ec']; decide
    have a4 : c' ≠ 62 := by rw [ec']; decide
    rw [if_neg a1, if_neg a2, if_neg a3, if_neg a4, zlq, if_neg a3, if_neg a4]
    exact three a1 a2
end ZROW
