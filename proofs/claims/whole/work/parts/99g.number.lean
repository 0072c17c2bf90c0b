/-! 9g: the number is read, both ways. -/
section ZNUM
variable {n len p : Nat} {X O : zSt}
theorem zOk_9 (h : zOk n len X O p) (v w : Int32) : zOk n len (zsi X 9 v) (zsi O 17 w) p := by
  obtain ⟨⟨hn, hl, h2, h13, hch, h3, h10⟩, h5, h18, h4, h15, hp, hco⟩ := h
  refine ⟨⟨hn, hl, ?_, ?_, hch, ?_, ?_⟩, ?_, ?_, ?_, ?_, hp, hco⟩ <;> rw [gi_sin (by omega)] <;> assumption
/-- the number's end: its sign -/
theorem znum_92 (h : zOk n len X O p) {s s2 : Int32} (hs : (s = 0 ∧ s2 = 1) ∨ (s = 1 ∧ s2 = -1)) (he : zgi X 9 = zgi O 17) (hb : zab (zgi X 9).toInt 99) : ∃ X2 O2, fX8_readNumber_92 X s = some X2 ∧ fX12_readsNumber_106 O s2 = some (1, O2) ∧ zOk n len X2 O2 p ∧ zgi X2 9 = zgi O2 17 ∧ zab (zgi X2 9).toInt 99 ∧ zFtx O O2 ∧ zgi X2 8 = zgi X 8 ∧ zgi O2 16 = zgi O 16 := by
  unfold fX8_readNumber_92 fX8_readNumber_105 fX12_readsNumber_106
  rw [zlq]
  rcases hs with ⟨s0, s1⟩ | ⟨s0, s1⟩
  · rw [if_pos s0, s1]
    have e1 : zgi O 17 * (1 : Int32) = zgi O 17 := Int32.mul_one _
    rw [e1]
    have hk : zOk n len X (zsi O 17 (zgi O 17)) p := by
      obtain ⟨⟨hn, hl, h2, h13, hch, h3, h10⟩, h5, h18, h4, h15, hp, hco⟩ := h
      refine ⟨⟨hn, hl, h2, ?_, hch, h3, ?_⟩, h5, ?_, h4, ?_, hp, hco⟩ <;> rw [gi_sin (by omega)] <;> assumption
    exact ⟨X, _, rfl, rfl, hk, by rw [gi_si]; exact he, hb, zFtx_i (by omega), rfl, gi_sin (by omega)⟩
  · rw [if_neg (show ¬ s = 0 by rw [s0]; decide), s1, zlq]
    have e1 : zgi O 17 * (-1 : Int32) = -zgi O 17 := by rw [Int32.mul_neg, Int32.mul_one]
    rw [e1]
    refine ⟨_, _, rfl, rfl, zOk_9 h _ _, by rw [gi_si, gi_si, he], ?_, zFtx_i (by omega), gi_sin (by omega), gi_sin (by omega)⟩
    rw [gi_si, z32neg hb (by omega)]
    exact zab_neg hb
/-- what a number's reading gives -/
def zNm (n len : Nat) (X O X2 : zSt) (b : Int32) (O2 : zSt) : Prop := ((b = 1 ∧ (∃ p2, zOk n len X2 O2 p2) ∧ zgi X2 9 = zgi O2 17 ∧ zab (zgi X2 9).toInt 99 ∧ zgi X2 8 = zgi X 8 ∧ zgi O2 16 = zgi O 16) ∨ (b = 0 ∧ zBad n len X2 O2)) ∧ zFtx O O2
theorem znumber_body (h : zOk n len X O p) {s s2 : Int32} (hs : (s = 0 ∧ s2 = 1) ∨ (s = 1 ∧ s2 = -1)) : ∃ X2 b O2, ((fX8_here X).bind (fun o16 =>
      ((fX8_isDigit o16).bind (fun o19 =>
      (if o19 = 0 then
      ((fX8_blame X (115 : Int32)).bind (fun o28 =>
        some (o28)))
    else
      ((fX8_here X).bind (fun o34 =>
        (zlet (zsi X 9 (o34 - (48 : Int32))) (fun sO40 =>
        (zlet (zsi sO40 4 ((zgi sO40 4) + (1 : Int32))) (fun sO50 =>
        ((fX8_here sO50).bind (fun o54 =>
        ((fX8_isDigit o54).bind (fun o57 =>
        (if o57 = 0 then
        (fX8_readNumber_92 sO50 s)
      else
        ((fX8_here sO50).bind (fun o72 =>
          (zlet (zsi sO50 9 ((((zgi sO50 9) * (10 : Int32)) + o72) - (48 : Int32))) (fun sO79 =>
          (zlet (zsi sO79 4 ((zgi sO79 4) + (1 : Int32))) (fun sO89 =>
          (fX8_readNumber_92 sO89 s))))))))))))))))))))))) = some X2 ∧ fX12_readsNumber_29 O s2 = some (b, O2) ∧ zNm n len X O X2 b O2 := by
  obtain ⟨c, c', e1, e2, hc⟩ := zhere h
  have h115 : znar .char (115 : Int32) = true := by decide
  obtain ⟨X9, O9, b1, b2, b3, b4, -⟩ := zblame h h115 (by decide)
  unfold fX12_readsNumber_29
  rw [e1, e2]
  simp only [zbq]
  have d0 : fX8_isDigit (0 : Int32) = some 0 := rfl
  have d32 : fX12_isDigit (32 : Int32) = some 0 := rfl
  have n48 : (48 : Int32).toInt = 48 := by decide
  rcases hc with ⟨hp, ec, -, -⟩ | ⟨-, ec, ec'⟩
  · subst ec
    obtain ⟨b, q1, q2⟩ := zdig_b c'
    rw [zdig, q1]
    simp only [zbq]
    by_cases cb : b = 0
    · rw [if_pos cb, if_pos cb, b1, b2, zbq, zbq, if_pos znb0]
      exact ⟨X9, 0, O9, rfl, rfl, Or.inr ⟨rfl, b3⟩, b4⟩
    · have hd := zdig_1 q1 cb
      have v1 : (c' - (48 : Int32)).toInt = c'.toInt - 48 := by
        rw [z32sub (A := 100) (B := 100) (zab_of (by omega) (by omega)) (zab_of (by decide) (by decide)) (by omega), n48]
      have k4 : zgi (zsi X 9 (c' - (48 : Int32))) 4 + (1 : Int32) = zI (p + 1) := by rw [gi_sin (by omega), h.2.2.2.1, zI_succ]
      have k15 : zgi (zsi O 17 (c' - (48 : Int32))) 15 + (1 : Int32) = zI (p + 1) := by rw [gi_sin (by omega), h.2.2.2.2.1, zI_succ]
      have h1 := zOk_step (zOk_9 h (c' - (48 : Int32)) (c' - (48 : Int32))) hp
      rw [if_neg cb, if_neg cb, zlq, zlq, zlq, zlq, k4, k15]
      have x9 : zgi (zsi (zsi X 9 (c' - (48 : Int32))) 4 (zI (p + 1))) 9 = c' - (48 : Int32) := by rw [gi_sin (by omega), gi_si]
      have o17 : zgi (zsi (zsi O 17 (c' - (48 : Int32))) 15 (zI (p + 1))) 17 = c' - (48 : Int32) := by rw [gi_sin (by omega), gi_si]
      have x8 : zgi (zsi (zsi X 9 (c' - (48 : Int32))) 4 (zI (p + 1))) 8 = zgi X 8 := by rw [gi_sin (by omega), gi_sin (by omega)]
      have o16 : zgi (zsi (zsi O 17 (c' - (48 : Int32))) 15 (zI (p + 1))) 16 = zgi O 16 := by rw [gi_sin (by omega), gi_sin (by omega)]
      have fr1 : zFtx O (zsi (zsi O 17 (c' - (48 : Int32))) 15 (zI (p + 1))) := (zFtx_i (by omega)).trans (zFtx_i (by omega))
      generalize zsi (zsi X 9 (c' - (48 : Int32))) 4 (zI (p + 1)) = X1 at *
      generalize zsi (zsi O 17 (c' - (48 : Int32))) 15 (zI (p + 1)) = O1 at *
      obtain ⟨t, t', w1, w2, ht⟩ := zhere h1
      rw [w1, w2]
      simp only [zbq]
      have one : ∃ X2 b O2, fX8_readNumber_92 X1 s = some X2 ∧ fX12_readsNumber_106 O1 s2 = some (b, O2) ∧ zNm n len X O X2 b O2 := by
        obtain ⟨X2, O2, r1, r2, r3, r4, r5, r6, r7, r8⟩ := znum_92 h1 hs (by rw [x9, o17]) (by rw [x9, v1]; exact zab_of (by omega) (by omega))
        exact ⟨X2, 1, O2, r1, r2, Or.inl ⟨rfl, ⟨_, r3⟩, r4, r5, r7.trans x8, r8.trans o16⟩, fr1.trans r6⟩
      rcases ht with ⟨hp1, et, -, -⟩ | ⟨-, et, et'⟩
      · subst et
        obtain ⟨u, u1, u2⟩ := zdig_b t'
        rw [zdig, u1]
        simp only [zbq]
        by_cases cu : u = 0
        · rw [if_pos cu, if_pos cu]
          exact one
        · have hd2 := zdig_1 u1 cu
          rw [if_neg cu, if_neg cu, zlq, zlq, zlq, zlq]
          rw [x9, o17, Int32.mul_comm (10 : Int32)]
          have n10 : (10 : Int32).toInt = 10 := by decide
          have m1 : ((c' - (48 : Int32)) * (10 : Int32)).toInt = (c'.toInt - 48) * 10 := by
            rw [z32mul (A := 9) (B := 10) (by rw [v1]; exact zab_of (by omega) (by omega)) (zab_of (by decide) (by decide)) (by omega), v1, n10]
          have m2 : ((c' - (48 : Int32)) * (10 : Int32) + t').toInt = (c'.toInt - 48) * 10 + t'.toInt := by
            rw [z32add (A := 90) (B := 100) (by rw [m1]; exact zab_of (by omega) (by omega)) (zab_of (by omega) (by omega)) (by omega), m1]
          have m3 : ((c' - (48 : Int32)) * (10 : Int32) + t' - (48 : Int32)).toInt = (c'.toInt - 48) * 10 + t'.toInt - 48 := by
            rw [z32sub (A := 190) (B := 100) (by rw [m2]; exact zab_of (by omega) (by omega)) (zab_of (by decide) (by decide)) (by omega), m2, n48]
          generalize (c' - (48 : Int32)) * (10 : Int32) + t' - (48 : Int32) = w at *
          have j4 : zgi (zsi X1 9 w) 4 + (1 : Int32) = zI (p + 1 + 1) := by rw [gi_sin (by omega), h1.2.2.2.1, zI_succ]
          have j15 : zgi (zsi O1 17 w) 15 + (1 : Int32) = zI (p + 1 + 1) := by rw [gi_sin (by omega), h1.2.2.2.2.1, zI_succ]
          rw [j4, j15]
          have h2 := zOk_step (zOk_9 h1 w w) hp1
          obtain ⟨X2, O2, r1, r2, r3, r4, r5, r6, r7, r8⟩ := znum_92 h2 hs (by rw [gi_sin (by omega), gi_si, gi_sin (by omega), gi_si]) (by rw [gi_sin (by omega), gi_si, m3]; exact zab_of (by omega) (by omega))
          refine ⟨X2, 1, O2, r1, r2, Or.inl ⟨rfl, ⟨_, r3⟩, r4, r5, ?_, ?_⟩, (fr1.trans ((zFtx_i (by omega)).trans (zFtx_i (by omega)))).trans r6⟩
          · rw [r7, gi_sin (by omega), gi_sin (by omega), x8]
          · rw [r8, gi_sin (by omega), gi_sin (by omega), o16]
      · rw [et, et', d0, d32, zbq, zbq, if_pos rfl, if_pos rfl]
        exact one
  · rw [ec, ec', d0, d32, zbq, zbq, if_pos rfl, if_pos rfl, b1, b2, zbq, zbq, if_pos znb0]
    exact ⟨X9, 0, O9, rfl, rfl, Or.inr ⟨rfl, b3⟩, b4⟩
theorem znumber (h : zOk n len X O p) : ∃ X2 b O2, fX8_readNumber X = some X2 ∧ fX12_readsNumber O = some (b, O2) ∧ zNm n len X O X2 b O2 := by
  obtain ⟨c', e2, hsee⟩ := zsee h
  obtain ⟨m1, -, -, m4⟩ := hsee 45 (by decide) (by decide)
  have k15 : zgi O 15 + (1 : Int32) = zI (p + 1) := by rw [h.2.2.2.2.1, zI_succ]
  unfold fX8_readNumber fX12_readsNumber fX12_readsNumber_14
  rw [m4, e2, zbq, zbq]
  by_cases c : c' = 45
  · have h1 := zOk_step h (m1 c)
    obtain ⟨X2, b, O2, g1, g2, g3, g4⟩ := znumber_body h1 (s := 1) (s2 := -1) (Or.inr ⟨rfl, rfl⟩)
    rw [if_pos c, if_pos c, if_neg (show ¬ (0 : Int32) ≤ -1 by decide), zlq, k15]
    refine ⟨X2, b, O2, ?_, g2, ?_, (zFtx_i (by omega)).trans g4⟩
    · rw [zhasF, zbq, if_pos h1.2.1, if_pos rfl]
      exact g1
    · rcases g3 with ⟨q1, q2, q3, q4, q5, q6⟩ | g3
      · refine Or.inl ⟨q1, q2, q3, q4, ?_, ?_⟩
        · rw [q5, gi_sin (by omega)]
        · rw [q6, gi_sin (by omega)]
      · exact Or.inr g3
  · obtain ⟨X2, b, O2, g1, g2, g3⟩ := znumber_body h (s := 0) (s2 := 1) (Or.inl ⟨rfl, rfl⟩)
    rw [if_neg c, if_neg c, if_pos (show (0 : Int32) ≤ 1 by decide)]
    refine ⟨X2, b, O2, ?_, g2, g3⟩
    rw [zhasF, zbq, if_pos h.2.1, if_pos rfl]
    exact g1
end ZNUM
