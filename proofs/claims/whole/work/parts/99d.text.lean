/-! 9d: the typed text is read, both ways: one term. -/
/-- a character that can stand in a text, as far as reading goes -/
def zty (c : Int32) : Prop := znar .char c = true ∧ 33 ≤ c.toInt ∧ c.toInt ≤ 126
def zTxt (n len : Nat) (X O : zSt) : Prop := n ≤ 3 ∧ len ≤ 30 ∧ zgi X 2 = zI len ∧ zgi O 13 = zI len ∧ (∀ k, k < len → zga X 0 k = zga O 8 k ∧ zty (zga X 0 k)) ∧ zgi X 3 = zI n ∧ zgi O 10 = zI n
/-- no fault yet, at the place p -/
def zOk (n len : Nat) (X O : zSt) (p : Nat) : Prop := zTxt n len X O ∧ zgi X 5 = 45 ∧ zgi O 18 = 45 ∧ zgi X 4 = zI p ∧ zgi O 15 = zI p ∧ p ≤ len ∧ ∀ i, i < 3 → zga X 1 i = zga O 14 i ∧ (n ≤ i → zga X 1 i = 0)
/-- a fault -/
def zBad (n len : Nat) (X O : zSt) : Prop := zTxt n len X O ∧ zgi X 5 ≠ 45 ∧ zgi X 5 = zgi O 18 ∧ zgi X 6 = zgi O 15 ∧ znar .char (zgi X 5) = true
/-- what reading keeps of the reference -/
def zFtx (A B : zSt) : Prop := (∀ k, (k < 15 ∨ 18 < k) → zgi B k = zgi A k) ∧ (∀ k, zgl B k = zgl A k) ∧ (∀ k, k ≠ 14 → zga B k = zga A k) ∧ ∀ k, zgb B k = zgb A k
theorem zFtx.refl (O : zSt) : zFtx O O := ⟨fun _ _ => rfl, fun _ => rfl, fun _ _ => rfl, fun _ => rfl⟩
theorem zFtx.trans {A B C : zSt} (h : zFtx A B) (g : zFtx B C) : zFtx A C := ⟨fun k a => (g.1 k a).trans (h.1 k a), fun k => (g.2.1 k).trans (h.2.1 k), fun k a => (g.2.2.1 k a).trans (h.2.2.1 k a), fun k => (g.2.2.2 k).trans (h.2.2.2 k)⟩
theorem zFtx_i {A : zSt} {k : Nat} {v : Int32} (h : 15 ≤ k ∧ k ≤ 18) : zFtx A (zsi A k v) := ⟨fun j a => gi_sin (by omega), fun _ => rfl, fun _ _ => rfl, fun _ => rfl⟩
section ZTEXT
variable {n len p : Nat} {X O : zSt}
theorem zhere (h : zOk n len X O p) : ∃ c c', fX8_here X = some c ∧ fX12_next O = some c' ∧ ((p < len ∧ c' = c ∧ c = zga X 0 p ∧ zty c) ∨ (p = len ∧ c = 0 ∧ c' = 32)) := by
  obtain ⟨⟨hn, hl, h2, h13, hch, h3, h10⟩, h5, h18, h4, h15, hp, hco⟩ := h
  unfold fX8_here fX8_here_42 fX8_here_43 fX12_next fX12_next_25
  rw [h2, h4, h13, h15, if_neg (show ¬ zI p < 0 by rw [zn0, zI_lt (by omega) (by omega)]; omega)]
  have c0 : znar .char (0 : Int32) = true := by decide
  have c32 : znar .char (32 : Int32) = true := by decide
  by_cases c : p = len
  · rw [if_pos (by rw [zI_le (by omega) (by omega)]; omega), if_pos c0, if_pos (by rw [zI_le (by omega) (by omega)]; omega), if_pos c32]
    exact ⟨0, 32, rfl, rfl, Or.inr ⟨c, rfl, rfl⟩⟩
  · obtain ⟨e, ty⟩ := hch p (by omega)
    rw [if_neg (by rw [zI_le (by omega) (by omega)]; omega), if_neg (by rw [zn30, zI_le (by omega) (by omega)]; omega), if_pos (zin_zI (by omega) (by omega)), zI_nat (by omega), if_pos ty.1, if_neg (by rw [zI_le (by omega) (by omega)]; omega), if_pos (zin_zI (by omega) (by omega)), ← e, if_pos ty.1]
    exact ⟨_, _, rfl, rfl, Or.inl ⟨by omega, rfl, rfl, ty⟩⟩
theorem zhasF (X : zSt) : fX8_hasFault X = some (if zgi X 5 = 45 then 0 else 1) := by
  unfold fX8_hasFault fX8_hasFault_14
  rw [if_pos znb0, if_pos znb1]
  split <;> rfl
theorem zdig (c : Int32) : fX8_isDigit c = fX12_isDigit c := rfl
theorem zdig_b (c : Int32) : ∃ b, fX12_isDigit c = some b ∧ (b = 0 ∨ b = 1) := by
  unfold fX12_isDigit fX12_isDigit_16 fX12_isDigit_17
  rw [if_pos znb0, if_pos znb1]
  split
  · exact ⟨0, rfl, Or.inl rfl⟩
  · split
    · exact ⟨0, rfl, Or.inl rfl⟩
    · exact ⟨1, rfl, Or.inr rfl⟩
/-- one step further -/
theorem zOk_step (h : zOk n len X O p) (hp : p < len) : zOk n len (zsi X 4 (zI (p + 1))) (zsi O 15 (zI (p + 1))) (p + 1) := by
  obtain ⟨⟨hn, hl, h2, h13, hch, h3, h10⟩, h5, h18, h4, h15, -, hco⟩ := h
  refine ⟨⟨hn, hl, ?_, ?_, hch, ?_, ?_⟩, ?_, ?_, gi_si, gi_si, by omega, hco⟩ <;> rw [gi_sin (by omega)] <;> assumption
/-- a fault of the kind v is told -/
theorem zblame (h : zOk n len X O p) {v : Int32} (hv : znar .char v = true) (hne : v ≠ 45) : ∃ X2 O2, fX8_blame X v = some X2 ∧ fX12_fails O v = some (0, O2) ∧ zBad n len X2 O2 ∧ zFtx O O2 ∧ zgi O2 15 = zI p := by
  obtain ⟨⟨hn, hl, h2, h13, hch, h3, h10⟩, h5, h18, h4, h15, hp, hco⟩ := h
  unfold fX8_blame fX12_fails
  rw [if_pos hv, if_pos hv, zlq, zlq, zlq]
  refine ⟨_, _, rfl, rfl, ⟨⟨hn, hl, ?_, ?_, hch, ?_, ?_⟩, ?_, ?_, ?_, ?_⟩, zFtx_i (by omega), ?_⟩
  · rw [gi_sin (by omega), gi_sin (by omega)]; exact h2
  · rw [gi_sin (by omega)]; exact h13
  · rw [gi_sin (by omega), gi_sin (by omega)]; exact h3
  · rw [gi_sin (by omega)]; exact h10
  · rw [gi_sin (by omega), gi_si]; exact hne
  · rw [gi_sin (by omega), gi_si, gi_si]
  · rw [gi_si, gi_sin (by omega), gi_sin (by omega), h4, h15]
  · rw [gi_sin (by omega), gi_si]; exact hv
  · rw [gi_sin (by omega)]; exact h15
/-- both sides after a read: no fault, further on; or a fault -/
def zRd (n len p : Nat) (b : Int32) (X2 O2 : zSt) : Prop := (b = 1 ∧ ∃ p2, p < p2 ∧ zOk n len X2 O2 p2) ∨ (b = 0 ∧ zBad n len X2 O2)
theorem zterm_38 (h : zOk n len X O p) (s s2 d : Int32) (hs : (s = 0 ∧ s2 = 1) ∨ (s = 1 ∧ s2 = -1)) : ∃ X2 b O2, fX8_readTerm_38 X s d = some X2 ∧ fX12_readsTerm_30 O s2 d = some (b, O2) ∧ zRd n len p b X2 O2 ∧ zFtx O O2 := by
  obtain ⟨c, c', e1, e2, hc⟩ := zhere h
  have h115 : znar .char (115 : Int32) = true := by decide
  have h118 : znar .char (118 : Int32) = true := by decide
  obtain ⟨X2, O2, b1, b2, b3, b4, -⟩ := zblame h h115 (by decide)
  obtain ⟨X3, O3, d1, d2, d3, d4, -⟩ := zblame h h118 (by decide)
  have fail : ∃ X2 b O2, fX8_readTerm_64 X = some X2 ∧ fX12_readsTerm_47 O = some (b, O2) ∧ zRd n len p b X2 O2 ∧ zFtx O O2 := by
    unfold fX8_readTerm_64 fX8_readTerm_119 fX12_readsTerm_47
    rw [b1, b2, zbq, zbq, if_pos znb0]
    exact ⟨X2, 0, O2, rfl, rfl, Or.inr ⟨rfl, b3⟩, b4⟩
  unfold fX8_readTerm_38 fX12_readsTerm_30
  rw [e1, e2, zbq, zbq, zlq]
  rcases hc with ⟨hp, ec, -, ty⟩ | ⟨-, ec, ec'⟩
  · subst ec
    by_cases hv : (97 : Int32) ≤ c' ∧ c' ≤ (99 : Int32)
    · obtain ⟨hv1, hv2⟩ := hv
      rw [z32le, show (97 : Int32).toInt = 97 by decide] at hv1
      rw [z32le, show (99 : Int32).toInt = 99 by decide] at hv2
      obtain ⟨v, hv3, rfl⟩ : ∃ v, v < 3 ∧ c' = zI (97 + v) := ⟨(c'.toInt - 97).toNat, by omega, by
        apply Int32.toInt_inj.mp
        rw [zI_toInt (by omega)]
        omega⟩
      have ev : zI (97 + v) - (97 : Int32) = zI v := by
        rw [show (97 : Int32) = zI 97 from rfl, zI_sub (by omega)]
        congr 1
        omega
      rw [ev, if_neg (show ¬ zI v < 0 by rw [zn0, zI_lt (by omega) (by omega)]; omega), if_neg (by rw [zn3, zI_le (by omega) (by omega)]; omega), if_pos (by rw [zn3, zI_lt (by omega) (by omega)]; omega), if_neg (show ¬ zI (97 + v) < (97 : Int32) by rw [show (97 : Int32) = zI 97 from rfl, zI_lt (by omega) (by omega)]; omega), if_pos (show zI (97 + v) ≤ (99 : Int32) by rw [show (99 : Int32) = zI 99 from rfl, zI_le (by omega) (by omega)]; omega)]
      have hn := h.1.1
      rw [h.1.2.2.2.2.2.1, h.1.2.2.2.2.2.2]
      by_cases cn : v < n
      · have hl := h.1.2.1
        have clt : zI v < zI n := by rw [zI_lt (by omega) (by omega)]; exact cn
        have cin : zin (zI v) 3 = true := zin_zI hv3 (by omega)
        rw [if_pos clt, if_pos clt, if_pos cin, zlq, if_pos cin, if_pos cin, zlq, zlq, zI_nat (by omega)]
        have go : ∀ w w2 : Int32, w = w2 → ∃ X2 b O2, fX8_readTerm_107 X (zI v) (zga X 1 v) w = some X2 ∧ some ((1 : Int32), zsi (zsa O 14 (upd (zga O 14) v (zga O 14 v + w2))) 15 (zgi (zsa O 14 (upd (zga O 14) v (zga O 14 v + w2))) 15 + (1 : Int32))) = some (b, O2) ∧ zRd n len p b X2 O2 ∧ zFtx O O2 := by
          intro w w2 ew
          subst ew
          unfold fX8_readTerm_107 fX8_readTerm_119
          rw [if_pos (zin_zI hv3 (by omega)), zlq, zlq, zI_nat (by omega)]
          obtain ⟨⟨hn, hl, h2, h13, hch, h3, h10⟩, h5, h18, h4, h15, hp2, hco⟩ := h
          have k4 : zgi (zsa X 1 (upd (zga X 1) v (zga X 1 v + w))) 4 + (1 : Int32) = zI (p + 1) := by
            rw [gi_sa, h4, zI_succ]
          have k15 : zgi (zsa O 14 (upd (zga O 14) v (zga O 14 v + w))) 15 + (1 : Int32) = zI (p + 1) := by
            rw [gi_sa, h15, zI_succ]
          rw [k4, k15]
          refine ⟨_, 1, _, rfl, rfl, Or.inl ⟨rfl, p + 1, by omega, ⟨hn, hl, ?_, ?_, ?_, ?_, ?_⟩, ?_, ?_, gi_si, gi_si, by omega, ?_⟩, ?_⟩
          · rw [gi_sin (by omega)]; exact h2
          · rw [gi_sin (by omega)]; exact h13
          · intro k hk
            rw [ga_si, ga_san (by omega), ga_si, ga_san (by omega)]
            exact hch k hk
          · rw [gi_sin (by omega)]; exact h3
          · rw [gi_sin (by omega)]; exact h10
          · rw [gi_sin (by omega)]; exact h5
          · rw [gi_sin (by omega)]; exact h18
          · intro i hi
            rw [ga_si, ga_sa, ga_si, ga_sa]
            by_cases e : i = v
            · rw [upd_s e, upd_s e, (hco v hv3).1]; exact ⟨rfl, fun h => by omega⟩
            · rw [upd_n e, upd_n e]; exact hco i hi
          · exact ⟨fun k a => gi_sin (by omega), fun _ => rfl, fun k a => ga_san a, fun _ => rfl⟩
        rcases hs with ⟨s0, s1⟩ | ⟨s0, s1⟩
        · rw [if_pos s0, s1]
          exact go d ((1 : Int32) * d) (Int32.one_mul d).symm
        · rw [if_neg (show ¬ s = 0 by rw [s0]; decide), s1]
          refine go (-d) ((-1 : Int32) * d) ?_
          rw [Int32.neg_mul, Int32.one_mul]
      · have clt : ¬ zI v < zI n := by rw [zI_lt (by omega) (by omega)]; exact cn
        rw [if_neg clt, if_neg clt, d1, d2, zbq, zbq, if_pos znb0]
        unfold fX8_readTerm_119
        exact ⟨X3, 0, O3, rfl, rfl, Or.inr ⟨rfl, d3⟩, d4⟩
    · have b1 := ty.2.1
      have b2 := ty.2.2
      have n97 : (97 : Int32).toInt = 97 := by decide
      have n99 : (99 : Int32).toInt = 99 := by decide
      have es : (c' - (97 : Int32)).toInt = c'.toInt - 97 := by
        have a1 : zab c'.toInt 200 := zab_of (by omega) (by omega)
        have a2 : zab (97 : Int32).toInt 200 := zab_of (by decide) (by decide)
        rw [z32sub a1 a2 (by omega), n97]
      rw [z32le, z32le, n97, n99] at hv
      by_cases c1 : c'.toInt < 97
      · rw [if_pos (show c' - (97 : Int32) < 0 by rw [z32lt, es, show (0 : Int32).toInt = 0 by decide]; omega), if_pos (show c' < (97 : Int32) by rw [z32lt, n97]; exact c1)]
        exact fail
      · rw [if_neg (show ¬ c' - (97 : Int32) < 0 by rw [z32lt, es, show (0 : Int32).toInt = 0 by decide]; omega), if_pos (show (3 : Int32) ≤ c' - (97 : Int32) by rw [z32le, es, show (3 : Int32).toInt = 3 by decide]; omega), if_neg (show ¬ c' < (97 : Int32) by rw [z32lt, n97]; exact c1), if_neg (show ¬ c' ≤ (99 : Int32) by rw [z32le, n99]; omega)]
        exact fail
  · rw [ec, ec', if_pos (by decide), if_pos (by decide)]
    exact fail
theorem zterm (h : zOk n len X O p) (s s2 : Int32) (hs : (s = 0 ∧ s2 = 1) ∨ (s = 1 ∧ s2 = -1)) : ∃ X2 b O2, fX8_readTerm X s = some X2 ∧ fX12_readsTerm O s2 = some (b, O2) ∧ zRd n len p b X2 O2 ∧ zFtx O O2 := by
  obtain ⟨c, c', e1, e2, hc⟩ := zhere h
  unfold fX8_readTerm fX12_readsTerm
  rw [zhasF, zbq, if_pos h.2.1, if_pos rfl, e1, e2, zbq, zbq, zbq]
  rcases hc with ⟨hp, ec, -, -⟩ | ⟨-, ec, ec'⟩
  · subst ec
    obtain ⟨b, d1, d2⟩ := zdig_b c'
    rw [zdig, d1, zbq, zbq]
    by_cases cb : b = 0
    · rw [if_pos cb, if_pos cb]
      exact zterm_38 h s s2 1 hs
    · have k4 : zgi X 4 + (1 : Int32) = zI (p + 1) := by rw [h.2.2.2.1, zI_succ]
      have k15 : zgi O 15 + (1 : Int32) = zI (p + 1) := by rw [h.2.2.2.2.1, zI_succ]
      rw [if_neg cb, if_neg cb, zbq, zlq, zlq, zlq, zlq, k4, k15]
      obtain ⟨X2, b2, O2, g1, g2, g3, g4⟩ := zterm_38 (zOk_step h hp) s s2 (c' - (48 : Int32)) hs
      refine ⟨X2, b2, O2, g1, g2, ?_, (zFtx_i (by omega)).trans g4⟩
      rcases g3 with ⟨q1, p2, q2, q3⟩ | g3
      · exact Or.inl ⟨q1, p2, by omega, q3⟩
      · exact Or.inr g3
  · have d0 : fX8_isDigit (0 : Int32) = some 0 := rfl
    have d32 : fX12_isDigit (32 : Int32) = some 0 := rfl
    rw [ec, ec', d0, d32, zbq, zbq, if_pos rfl, if_pos rfl]
    exact zterm_38 h s s2 1 hs
end ZTEXT
