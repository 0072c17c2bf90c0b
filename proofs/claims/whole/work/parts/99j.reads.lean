/-! 9j: a row, an aim are read, both ways. -/
section ZREADS
variable {n len p : Nat} {X O : zSt}
/-- a text read without fault: coefficients in range -/
def zGood (n len : Nat) (X O : zSt) : Prop := zOk n len X O len ∧ ∀ j, j < 3 → zab (zga X 1 j).toInt 9
theorem zrow (h : zOk n len X O 0) : ∃ X2 O2, ((fX8_readRow X).bind (fun o65 => fX8_read_68 o65)) = some X2 ∧ ((fX12_readsSum O).bind (fun o46 => (if o46.1 = 0 then (fX12_reads_77 o46.2) else ((fX12_readsRelation o46.2).bind (fun o53 => (if o53.1 = 0 then (fX12_reads_77 o53.2) else ((fX12_readsNumber o53.2).bind (fun o60 => (if o60.1 = 0 then (fX12_reads_77 o60.2) else ((fX12_readsEnd o60.2).bind (fun o67 => (if o67.1 = 0 then (fX12_reads_77 o67.2) else (fX12_reads_78 o67.2 (1 : Int32)))))))))))))) = some O2 ∧ zFtx O O2 ∧ ((zGood n len X2 O2 ∧ zRel X2 O2 ∧ zgi X2 9 = zgi O2 17 ∧ zab (zgi X2 9).toInt 99 ∧ 0 < len) ∨ zBad n len X2 O2) := by
  have r77 : ∀ A : zSt, fX12_reads_77 A = some A := fun A => by
    unfold fX12_reads_77 fX12_reads_78 fX12_reads_90
    rw [if_pos rfl]
  obtain ⟨X1, b1, O1, s1, s2, s3, s4, slen⟩ := zsum h
  unfold fX8_readRow
  rw [s1, s2, zbq, zbq]
  rcases s3 with ⟨e, p1, k1⟩ | ⟨e, bad⟩
  · obtain ⟨X2, b2, O2, t1, t2, t3, t4⟩ := zrelation k1
    rw [if_neg (show ¬ b1 = 0 by rw [e]; decide), t1, t2, zbq, zbq]
    rcases t3 with ⟨e2, ⟨p2, k2⟩, hrel⟩ | ⟨e2, bad⟩
    · obtain ⟨X3, b3, O3, u1, u2, u3, u4⟩ := znumber k2
      rw [if_neg (show ¬ b2 = 0 by rw [e2]; decide), u1, u2, zbq, zbq, zbq]
      rcases u3 with ⟨e3, ⟨p3, k3⟩, q1, q2, q3, q4⟩ | ⟨e3, bad⟩
      · obtain ⟨X4, b4, O4, O5, w1, w2, w3, w4, w5, w6⟩ := ztail k3
        rw [if_neg (show ¬ b3 = 0 by rw [e3]; decide), w1, w2, zbq]
        refine ⟨X4, O5, rfl, ?_, ((s4.trans t4).trans u4).trans w5, ?_⟩
        · rcases w3 with e4 | e4
          · rw [if_pos e4, r77, ← w4, e4]
            exact (r77 O4).symm
          · rw [if_neg (show ¬ b4 = 0 by rw [e4]; decide), ← w4, e4]
        · rcases w6 with ⟨x1, x2, x3, x4⟩ | bad
          · subst x1 x2 x3
            refine Or.inl ⟨⟨k3, x4⟩, ?_, q1, q2, slen e⟩
            unfold zRel at hrel ⊢
            rw [q3, q4]
            exact hrel
          · exact Or.inr bad
      · rw [if_pos e3, r77, zbad_68 bad.2.1]
        exact ⟨X3, O3, rfl, rfl, (s4.trans t4).trans u4, Or.inr bad⟩
    · rw [if_pos e2, r77, zbad_num bad.2.1, zbq, zbq, zbad_68 bad.2.1]
      exact ⟨X2, O2, rfl, rfl, s4.trans t4, Or.inr bad⟩
  · rw [if_pos e, r77, zbad_rel bad.2.1, zbq, zbad_num bad.2.1, zbq, zbq, zbad_68 bad.2.1]
    exact ⟨X1, O1, rfl, rfl, s4, Or.inr bad⟩
/-- the aim behind its first three letters -/
theorem zaim_56 (h : zOk n len X O p) {v : Int32} (v1 : 33 ≤ v.toInt) (v2 : v.toInt ≤ 126) : ∃ X2 b O1 O2, ((fX8_readAim_56 X v).bind (fun o58 => fX8_read_68 o58)) = some X2 ∧ fX12_readsAim_53 O v = some (b, O1) ∧ fX12_reads_78 O1 b = some O2 ∧ zFtx O O2 ∧ ((zGood n len X2 O2 ∧ zgi X2 7 = zgi X 7) ∨ zBad n len X2 O2) := by
  have r0 : ∀ A : zSt, fX12_reads_78 A 0 = some A := fun A => by
    unfold fX12_reads_78 fX12_reads_90
    rw [if_pos rfl]
  obtain ⟨X1, b1, O1, s1, s2, s3, s4, s5, -⟩ := zpass h v1 v2
  unfold fX8_readAim_56 fX12_readsAim_53 fX12_readsAim_77 fX12_readsAim_78
  rw [s1, s2, zbq, zbq]
  rcases s3 with ⟨e, k1⟩ | ⟨e, bad⟩
  · obtain ⟨X2, b2, O2, t1, t2, t3, t4, -⟩ := zsum k1
    have fx := zsum_fx t1
    rw [if_neg (show ¬ b1 = 0 by rw [e]; decide), t1, t2, zbq, zbq, zbq]
    rcases t3 with ⟨e2, p2, k2⟩ | ⟨e2, bad⟩
    · obtain ⟨X4, b4, O4, O5, w1, w2, w3, w4, w5, w6⟩ := ztail k2
      rw [if_neg (show ¬ b2 = 0 by rw [e2]; decide), w1, w2, zbq]
      refine ⟨X4, b4, O4, O5, rfl, ?_, w4, (s4.trans t4).trans w5, ?_⟩
      · rcases w3 with e4 | e4
        · rw [if_pos e4, e4, if_pos znb0]
        · rw [if_neg (show ¬ b4 = 0 by rw [e4]; decide), if_pos znb1, e4]
      · rcases w6 with ⟨x1, x2, x3, x4⟩ | bad
        · subst x1 x2 x3
          exact Or.inl ⟨⟨k2, x4⟩, (fx 7 (by omega)).trans (s5 7 (by omega))⟩
        · exact Or.inr bad
    · rw [if_pos e2, if_pos znb0, zbad_68 bad.2.1]
      exact ⟨X2, 0, O2, O2, rfl, rfl, r0 O2, s4.trans t4, Or.inr bad⟩
  · rw [if_pos e, zbad_sum bad.2.1, zbq, zbq, if_pos znb0, zbad_68 bad.2.1]
    exact ⟨X1, 0, O1, O1, rfl, rfl, r0 O1, s4, Or.inr bad⟩
end ZREADS
